/-! the class's reading -/
def sp_la (N sn : Nat → Nat) : Nat → Nat → Nat
  | 0, _ => 0
  | c + 1, t => if sn c = t then N c else sp_la N sn c t
def rd_wi (f : Nat → Nat) (n s : Nat) : Nat := fb_ct (fun k => decide (sp_tN f n k = s)) (rd_W f n)
def rd_ct (f : Nat → Nat) (n t : Nat) : Nat := fb_ct (fun k => decide (rd_sn f n k = t)) (rd_W f n)
def rd_la (f : Nat → Nat) (n t : Nat) : Nat := sp_la (sp_tN f n) (rd_sn f n) (rd_W f n) t
/-- what the class's tables say of the first c words -/
def RC (f : Nat → Nat) (n c : Nat) (σ : tzS) : Prop :=
  σ.1 4 1 = nI c ∧ σ.1 4 2 = nI (sp_st f (sp_tA f n) (sp_tG f n) c).1 ∧
  (∀ s, s < 12 → σ.1 6 s = nI (fb_ct (fun k => decide (sp_tN f n k = s)) c)) ∧
  (∀ s w, s < 12 → w < fb_ct (fun k => decide (sp_tN f n k = s)) c → σ.1 (8 + s) w = nI (rd_sn f n (fb_ct (fun k => decide (sp_tN f n k < s)) c + w))) ∧
  (∀ s, s < 12 → 0 < fb_ct (fun k => decide (sp_tN f n k = s)) c → σ.1 5 s = nI (sp_tA f n (fb_ct (fun k => decide (sp_tN f n k < s)) c))) ∧
  (∀ s t, s < 12 → t < (sp_st f (sp_tA f n) (sp_tG f n) c).1 → σ.1 (21 + s) t = nI (fb_ct (fun k => decide (sp_tN f n k = s ∧ rd_sn f n k = t)) c)) ∧
  (∀ t, t < (sp_st f (sp_tA f n) (sp_tG f n) c).1 → σ.1 33 t = nI (sp_sl f (sp_tA f n ((sp_st f (sp_tA f n) (sp_tG f n) c).2 t)) (sp_tG f n ((sp_st f (sp_tA f n) (sp_tG f n) c).2 t))) ∧ σ.1 34 t = nI (fb_ct (fun k => decide (rd_sn f n k = t)) c) ∧ σ.1 35 t = nI (sp_tN f n ((sp_st f (sp_tA f n) (sp_tG f n) c).2 t)) ∧ σ.1 36 t = nI (sp_la (sp_tN f n) (rd_sn f n) c t) ∧ σ.2 37 t = lN (cd f (sp_tA f n ((sp_st f (sp_tA f n) (sp_tG f n) c).2 t)) (sp_sl f (sp_tA f n ((sp_st f (sp_tA f n) (sp_tG f n) c).2 t)) (sp_tG f n ((sp_st f (sp_tA f n) (sp_tG f n) c).2 t)))))
/-- what reading may change in the class: cells 4 to 36, and the longs of 37 -/
def ck1 (σ σ' : tzS) : Prop := (∀ a, (a < 4 ∨ 37 ≤ a) → σ'.1 a = σ.1 a) ∧ (∀ a, a ≠ 37 → σ'.2 a = σ.2 a)
theorem ck1.rf {σ : tzS} : ck1 σ σ := ⟨fun _ _ => rfl, fun _ _ => rfl⟩
theorem ck1.tr {σ σ' σ'' : tzS} (h : ck1 σ σ') (h2 : ck1 σ' σ'') : ck1 σ σ'' := ⟨fun a ha => (h2.1 a ha).trans (h.1 a ha), fun a ha => (h2.2 a ha).trans (h.2 a ha)⟩
theorem ck1.st {σ σ' : tzS} {k j : Nat} {v : Int32} (h : ck1 σ σ') (hk : 4 ≤ k ∧ k < 37) : ck1 σ (tz_st σ' k j v) := ⟨fun a ha => by rw [st_ne (by omega)]; exact h.1 a ha, h.2⟩
theorem ck1.sl {σ σ' : tzS} {j : Nat} {v : Int64} (h : ck1 σ σ') : ck1 σ (tz_sl σ' 37 j v) := ⟨h.1, fun a ha => by
  funext b
  rw [sl_g, if_neg ha]
  exact congrFun (h.2 a ha) b⟩
theorem sp_lk_cd {f : Nat → Nat} {a s a' s' : Nat} (h : ∀ i, i < s → sp_L (f (a + i)) = true) (h' : ∀ i, i < s' → sp_L (f (a' + i)) = true) : sp_lk f a s a' s' = true ↔ cd f a s = cd f a' s' := sp_lk_iff.trans (cd_inj h h').symm
/-- the number of the stem of word c -/
theorem s_numberOf {f : Nat → Nat} {n : Nat} (hn : n ≤ 200) {c : Nat} (hc : c < rd_W f n) {σ : tzS} (hR : RC f n c σ) (hs : σ.1 4 0 = nI (sp_tN f n c)) {Q : Int32 → tzS → Prop}
    (h : ∀ σ', (σ'.1 4 2 = nI (sp_st f (sp_tA f n) (sp_tG f n) (c + 1)).1 ∧
      (∀ s t, s < 12 → t < (sp_st f (sp_tA f n) (sp_tG f n) (c + 1)).1 → σ'.1 (21 + s) t = nI (fb_ct (fun k => decide (sp_tN f n k = s ∧ rd_sn f n k = t)) c)) ∧
      (∀ t, t < (sp_st f (sp_tA f n) (sp_tG f n) (c + 1)).1 → σ'.1 33 t = nI (sp_sl f (sp_tA f n ((sp_st f (sp_tA f n) (sp_tG f n) (c + 1)).2 t)) (sp_tG f n ((sp_st f (sp_tA f n) (sp_tG f n) (c + 1)).2 t))) ∧ σ'.1 34 t = nI (fb_ct (fun k => decide (rd_sn f n k = t)) c) ∧ σ'.1 35 t = nI (sp_tN f n ((sp_st f (sp_tA f n) (sp_tG f n) (c + 1)).2 t)) ∧ (t ≠ rd_sn f n c → σ'.1 36 t = nI (sp_la (sp_tN f n) (rd_sn f n) c t)) ∧ σ'.2 37 t = lN (cd f (sp_tA f n ((sp_st f (sp_tA f n) (sp_tG f n) (c + 1)).2 t)) (sp_sl f (sp_tA f n ((sp_st f (sp_tA f n) (sp_tG f n) (c + 1)).2 t)) (sp_tG f n ((sp_st f (sp_tA f n) (sp_tG f n) (c + 1)).2 t)))))) →
      (∀ a, a ≠ 4 → ¬ (21 ≤ a ∧ a < 36) → σ'.1 a = σ.1 a) → (∀ j, j ≠ 2 → σ'.1 4 j = σ.1 4 j) → ck1 σ σ' → Q (nI (rd_sn f n c)) σ') :
    vc_X6_numberOf (lN (cd f (sp_tA f n c) (sp_sl f (sp_tA f n c) (sp_tG f n c)))) (nI (sp_sl f (sp_tA f n c) (sp_tG f n c))) σ Q := by
  obtain ⟨r1, r2, r3, r4, r5, r6⟩ := rd_ok (f := f) hn
  obtain ⟨g1, g2, g3, g4, g5, g6, g7⟩ := hR
  have hK := sp_st_le f (sp_tA f n) (sp_tG f n) c
  obtain ⟨a1, a2, a3, a4, a5⟩ := r4 c hc
  have hsl := sp_sl_le f (sp_tA f n c) (sp_tG f n c)
  have hLc : ∀ i, i < sp_sl f (sp_tA f n c) (sp_tG f n c) → sp_L (f (sp_tA f n c + i)) = true := fun i hi => a4 i (by omega)
  unfold vc_X6_numberOf
  refine for1w 0 (sp_st f (sp_tA f n) (sp_tG f n) c).1 (fun t r => r = σ ∧ ∀ t', t' < t → sp_lk f (sp_tA f n c) (sp_sl f (sp_tA f n c) (sp_tG f n c)) (sp_tA f n ((sp_st f (sp_tA f n) (sp_tG f n) c).2 t')) (sp_sl f (sp_tA f n ((sp_st f (sp_tA f n) (sp_tG f n) c).2 t')) (sp_tG f n ((sp_st f (sp_tA f n) (sp_tG f n) c).2 t'))) = false) (Nat.zero_le _) ⟨rfl, fun t' h' => absurd h' (Nat.not_lt_zero t')⟩ ?_
  rintro t r ag _ ht ⟨rfl, hno⟩ hag
  rw [g2]
  refine ⟨fun c2 => ?_, fun c2 => ?_⟩
  · -- a new stem
    have c2 := (le_nI (by omega) (by omega)).mp c2
    have hsn : rd_sn f n c = (sp_st f (sp_tA f n) (sp_tG f n) c).1 := fa_first_is (Nat.le_refl _) (fun k hk => hno k (by omega)) (fun q => absurd q (Nat.lt_irrefl _))
    have hnew := sp_st_new (f := f) (A := sp_tA f n) (G := sp_tG f n) (c := c) (by
      show ¬ rd_sn f n c < _
      omega)
    rintro x4 rfl
    rw [cl_nI (by omega)]
    refine ⟨in_nI (by omega) (by omega), ?_⟩
    rintro σ6 rfl σ8 rfl σ9 rfl σ10 rfl
    refine for1 0 12 (fun j s => (∀ i, i < j → s.1 (21 + i) (sp_st f (sp_tA f n) (sp_tG f n) c).1 = 0) ∧ (∀ i t, i < 12 → t ≠ (sp_st f (sp_tA f n) (sp_tG f n) c).1 → s.1 (21 + i) t = r.1 (21 + i) t) ∧ (∀ a, ¬ (21 ≤ a ∧ a < 33) → s.1 a = (tz_st (tz_st (tz_st (tz_sl r 37 (sp_st f (sp_tA f n) (sp_tG f n) c).1 (lN (cd f (sp_tA f n c) (sp_sl f (sp_tA f n c) (sp_tG f n c))))) 33 (sp_st f (sp_tA f n) (sp_tG f n) c).1 (nI (sp_sl f (sp_tA f n c) (sp_tG f n c)))) 34 (sp_st f (sp_tA f n) (sp_tG f n) c).1 0) 35 (sp_st f (sp_tA f n) (sp_tG f n) c).1 (nI (sp_tN f n c))).1 a) ∧ s.2 = (tz_sl r 37 (sp_st f (sp_tA f n) (sp_tG f n) c).1 (lN (cd f (sp_tA f n c) (sp_sl f (sp_tA f n c) (sp_tG f n c))))).2 ∧ ck1 r s) (Nat.zero_le _) ?_ ?_ ?_
    · have e0 : (tz_st (tz_st (tz_sl r 37 (sp_st f (sp_tA f n) (sp_tG f n) c).1 (lN (cd f (sp_tA f n c) (sp_sl f (sp_tA f n c) (sp_tG f n c))))) 33 (sp_st f (sp_tA f n) (sp_tG f n) c).1 (nI (sp_sl f (sp_tA f n c) (sp_tG f n c)))) 34 (sp_st f (sp_tA f n) (sp_tG f n) c).1 0).1 4 0 = nI (sp_tN f n c) := by
        rw [st_ne (by decide), st_ne (by decide)]
        exact hs
      rw [e0]
      refine ⟨fun i hi => absurd hi (Nat.not_lt_zero i), fun i t hi _ => ?_, fun a _ => rfl, rfl, (((ck1.rf.sl).st (by omega)).st (by omega)).st (by omega)⟩
      rw [st_ne (by omega), st_ne (by omega), st_ne (by omega)]
      rfl
    · intro j s ag2 _ hj hI hag2
      obtain ⟨i1, i2, i3, i4, i5⟩ := hI
      refine ⟨fun q => absurd ((le_nI (a := 12) (by omega) (by omega)).mp q) (by omega), fun _ => ⟨in_nI hj (by omega), ?_⟩⟩
      rw [cl_nI (by omega)]
      rintro σ7 rfl x rfl
      rw [nI_1]
      refine hag2 _ ⟨fun i hi => ?_, fun i t hi ht => ?_, fun a ha => ?_, i4, i5.st (by omega)⟩
      · by_cases e : i = j
        · rw [e, st_eq]
        · rw [st_ne (by omega)]
          exact i1 i (by omega)
      · by_cases e : i = j
        · rw [e, st_nj ht, ← e]
          exact i2 i t hi ht
        · rw [st_ne (by omega)]
          exact i2 i t hi ht
      · rw [st_ne (by omega)]
        exact i3 a ha
    · intro s ag2 hI
      obtain ⟨i1, i2, i3, i4, i5⟩ := hI
      refine ⟨fun _ => ?_, fun q => absurd ((le_nI (a := 12) (by omega) (by omega)).mpr (Nat.le_refl _)) q⟩
      rintro σ7 rfl
      rw [← hsn]
      have e42 : s.1 4 2 = nI (sp_st f (sp_tA f n) (sp_tG f n) c).1 := by
        rw [i3 4 (by omega), st_ne (by decide), st_ne (by decide), st_ne (by decide)]
        exact g2
      have zero : ∀ s', fb_ct (fun k => decide (sp_tN f n k = s' ∧ rd_sn f n k = (sp_st f (sp_tA f n) (sp_tG f n) c).1)) c = 0 := fun s' => fb_ct_zero.mpr (fun k hk => by
        have := sp_sn_lt (f := f) (A := sp_tA f n) (G := sp_tG f n) hk
        have e : rd_sn f n k = sp_sn f (sp_tA f n) (sp_tG f n) k := rfl
        simp
        omega)
      have zero2 : fb_ct (fun k => decide (rd_sn f n k = (sp_st f (sp_tA f n) (sp_tG f n) c).1)) c = 0 := fb_ct_zero.mpr (fun k hk => by
        have := sp_sn_lt (f := f) (A := sp_tA f n) (G := sp_tG f n) hk
        have e : rd_sn f n k = sp_sn f (sp_tA f n) (sp_tG f n) k := rfl
        simp
        omega)
      refine h _ ?_ ?_ ?_ (i5.st (by omega))
      · rw [hnew]
        dsimp only
        refine ⟨by rw [st_eq, e42, nI_1], fun s' t' hs' ht' => ?_, fun t' ht' => ?_⟩
        · rw [st_ne (by omega)]
          by_cases e : t' = (sp_st f (sp_tA f n) (sp_tG f n) c).1
          · rw [e, i1 s' hs', zero]
            rfl
          · rw [i2 s' t' hs' e]
            exact g6 s' t' hs' (by omega)
        · by_cases e : t' = (sp_st f (sp_tA f n) (sp_tG f n) c).1
          · rw [e, if_pos rfl]
            refine ⟨?_, ?_, ?_, fun q => absurd hsn.symm q, ?_⟩
            · rw [st_ne (by decide), i3 33 (by omega), st_ne (by decide), st_ne (by decide), st_eq]
            · rw [st_ne (by decide), i3 34 (by omega), st_ne (by decide), st_eq, zero2]
              rfl
            · rw [st_ne (by decide), i3 35 (by omega), st_eq]
            · show s.2 37 _ = _
              rw [i4, sl_g, if_pos rfl, if_pos rfl]
          · rw [if_neg e]
            obtain ⟨o1, o2, o3, o4, o5⟩ := g7 t' (by omega)
            refine ⟨?_, ?_, ?_, fun _ => ?_, ?_⟩
            · rw [st_ne (by decide), i3 33 (by omega), st_ne (by decide), st_ne (by decide), st_nj e]
              exact o1
            · rw [st_ne (by decide), i3 34 (by omega), st_ne (by decide), st_nj e, st_ne (by decide)]
              exact o2
            · rw [st_ne (by decide), i3 35 (by omega), st_nj e, st_ne (by decide), st_ne (by decide)]
              exact o3
            · rw [st_ne (by decide), i3 36 (by omega), st_ne (by decide), st_ne (by decide), st_ne (by decide)]
              exact o4
            · show s.2 37 _ = _
              rw [i4, sl_g, if_pos rfl, if_neg e]
              exact o5
      · intro a h1 h2
        rw [st_ne h1, i3 a (by omega), st_ne (by omega), st_ne (by omega), st_ne (by omega)]
        rfl
      · intro j hj
        rw [st_nj hj, i3 4 (by omega), st_ne (by decide), st_ne (by decide), st_ne (by decide)]
        rfl
  · have c2 : ¬ (sp_st f (sp_tA f n) (sp_tG f n) c).1 ≤ t := fun q => c2 ((le_nI (by omega) (by omega)).mpr q)
    have hw := hK.2 t (by omega)
    obtain ⟨b1, b2, b3, b4, b5⟩ := r4 ((sp_st f (sp_tA f n) (sp_tG f n) c).2 t) (by omega)
    have hsl2 := sp_sl_le f (sp_tA f n ((sp_st f (sp_tA f n) (sp_tG f n) c).2 t)) (sp_tG f n ((sp_st f (sp_tA f n) (sp_tG f n) c).2 t))
    have hLt : ∀ i, i < sp_sl f (sp_tA f n ((sp_st f (sp_tA f n) (sp_tG f n) c).2 t)) (sp_tG f n ((sp_st f (sp_tA f n) (sp_tG f n) c).2 t)) → sp_L (f (sp_tA f n ((sp_st f (sp_tA f n) (sp_tG f n) c).2 t) + i)) = true := fun i hi => b4 i (by omega)
    have hlk := sp_lk_cd hLc hLt
    have k1 := cd_50 (f := f) (by omega) hLc
    have k2 := cd_50 (f := f) (by omega) hLt
    rw [cl_nI (by omega), (g7 t (by omega)).2.2.2.2, lg_cmp_0, lN_inj (by omega) (by omega)]
    refine ⟨in_nI (by omega) (by omega), fun q => ?_, fun q => ?_⟩
    · rintro x rfl
      rw [nI_1]
      refine hag (by omega) _ ⟨rfl, fun t' ht' => ?_⟩
      by_cases e : t' = t
      · rw [e]
        by_cases z : sp_lk f (sp_tA f n c) (sp_sl f (sp_tA f n c) (sp_tG f n c)) (sp_tA f n ((sp_st f (sp_tA f n) (sp_tG f n) c).2 t)) (sp_sl f (sp_tA f n ((sp_st f (sp_tA f n) (sp_tG f n) c).2 t)) (sp_tG f n ((sp_st f (sp_tA f n) (sp_tG f n) c).2 t))) = true
        · exact absurd (hlk.mp z).symm q
        · simpa using z
      · exact hno t' (by omega)
    · have hsn : rd_sn f n c = t := fa_first_is ht hno (fun _ => hlk.mpr q.symm)
      have hold := sp_st_old (f := f) (A := sp_tA f n) (G := sp_tG f n) (c := c) (by
        show rd_sn f n c < _
        omega)
      rw [← hsn]
      refine h _ ?_ (fun _ _ _ => rfl) (fun _ _ => rfl) ck1.rf
      rw [hold]
      exact ⟨g2, g6, fun t' ht' => ⟨(g7 t' ht').1, (g7 t' ht').2.1, (g7 t' ht').2.2.1, fun _ => (g7 t' ht').2.2.2.1, (g7 t' ht').2.2.2.2⟩⟩
