/-- the words of the sentences ahead, and of this one, when none of a later one is there -/
theorem ct_split {N : Nat → Nat} {s : Nat} : ∀ {c : Nat}, (∀ k, k < c → N k ≤ s) → fb_ct (fun k => decide (N k < s)) c + fb_ct (fun k => decide (N k = s)) c = c
  | 0, _ => rfl
  | c + 1, h => by
    have ih := ct_split (N := N) (s := s) (c := c) (fun k hk => h k (by omega))
    have h1 := h c (by omega)
    rw [fb_ct_succ, fb_ct_succ]
    by_cases e : N c = s
    · rw [if_neg (by simp; omega), if_pos (by simp [e])]
      omega
    · rw [if_pos (by simp; omega), if_neg (by simp [e])]
      omega
theorem s_addWord {f : Nat → Nat} {n : Nat} (hn : n ≤ 200) {c : Nat} (hc : c < rd_W f n) (h9 : fb_ct (fun k => decide (sp_tN f n k = sp_tN f n c)) c < 9) {σ : tzS} (hR : RC f n c σ) (hs : σ.1 4 0 = nI (sp_tN f n c)) {Q : tzS → Prop} (h : ∀ σ', RC f n (c + 1) σ' → σ'.1 4 0 = nI (sp_tN f n c) → ck1 σ σ' → Q σ') : vc_X6_addWord (lN (cd f (sp_tA f n c) (sp_tG f n c))) (nI (sp_tG f n c)) (nI (sp_tA f n c)) σ Q := by
  obtain ⟨r1, r2, r3, r4, r5, r6⟩ := rd_ok (f := f) hn
  obtain ⟨a1, a2, a3, a4, a5⟩ := r4 c hc
  obtain ⟨g1, g2, g3, g4, g5, g6, g7⟩ := id hR
  have hsl := sp_sl_le f (sp_tA f n c) (sp_tG f n c)
  have hK := sp_st_le f (sp_tA f n) (sp_tG f n) c
  have hsp := ct_split (N := sp_tN f n) (s := sp_tN f n c) (c := c) (fun k hk => r5 k c (by omega) hc)
  have hsn1 : rd_sn f n c < (sp_st f (sp_tA f n) (sp_tG f n) (c + 1)).1 := sp_sn_lt (Nat.lt_succ_self c)
  have hK1 := (sp_st_le f (sp_tA f n) (sp_tG f n) (c + 1)).1
  unfold vc_X6_addWord
  rintro x5 rfl
  rw [hs, cl_nI (by omega), g3 _ (by omega), g1]
  refine ⟨fun q => absurd ((le_nI (a := 12) (by omega) (by omega)).mp q) (by omega), fun _ => ⟨in_nI (by omega) (by omega), fun q => absurd ((le_nI (a := 9) (by omega) (by omega)).mp q) (by omega), fun _ => ⟨fun _ => ?_, fun q => absurd ((lt_nI (b := 108) (by omega) (by omega)).mpr (by omega)) q⟩⟩⟩
  refine s_endingOf a3 a4 ?_
  have e1 : lN (cd f (sp_tA f n c) (sp_tG f n c)) >>> ((5 * nI (sp_tG f n c - sp_sl f (sp_tA f n c) (sp_tG f n c))).toInt64 &&& 63) = lN (cd f (sp_tA f n c) (sp_sl f (sp_tA f n c) (sp_tG f n c))) := by
    rw [lN_shr (by have := cd_50 (f := f) a3 a4; omega) (by omega)]
    congr 1
    have := cd_shr (f := f) (a := sp_tA f n c) (e := sp_tG f n c - sp_sl f (sp_tA f n c) (sp_tG f n c)) (j := sp_sl f (sp_tA f n c) (sp_tG f n c)) (fun i hi => a4 i (by omega))
    rw [show sp_sl f (sp_tA f n c) (sp_tG f n c) + (sp_tG f n c - sp_sl f (sp_tA f n c) (sp_tG f n c)) = sp_tG f n c by omega] at this
    exact this
  have e2 : nI (sp_tG f n c) - nI (sp_tG f n c - sp_sl f (sp_tA f n c) (sp_tG f n c)) = nI (sp_sl f (sp_tA f n c) (sp_tG f n c)) := by
    rw [pk_sub (by omega)]
    congr 1
    omega
  rw [e1, e2]
  refine s_numberOf hn hc hR hs (fun s1 hs1 hb hb4 hk => ?_)
  obtain ⟨n2, n6, n7⟩ := hs1
  have e6 : s1.1 6 (sp_tN f n c) = nI (fb_ct (fun k => decide (sp_tN f n k = sp_tN f n c)) c) := by
    rw [hb 6 (by decide) (by omega)]
    exact g3 _ (by omega)
  refine ⟨fun s2 => (∀ a, a ≠ 5 → s2.1 a = s1.1 a) ∧ s2.2 = s1.2 ∧ (∀ s, s ≠ sp_tN f n c → s2.1 5 s = s1.1 5 s) ∧ s2.1 5 (sp_tN f n c) = nI (sp_tA f n (fb_ct (fun k => decide (sp_tN f n k < sp_tN f n c)) c)) ∧ ck1 s1 s2, ?_, ?_, ?_⟩
  · rintro s2 ⟨b1, b2, b3, b4, b5⟩
    rw [b1 6 (by decide), e6, cl_nI (by omega)]
    refine ⟨in_nI (by omega) (by omega), ?_⟩
    intro σ13 h13 σ15 h15 σ16 h16
    rw [cl_nI (by omega)]
    refine ⟨in_nI (by omega) (by omega), ?_⟩
    intro σ19 h19 σ20 h20 σ21 h21
    have k13 : ck1 s2 σ13 := h13 ▸ ck1.rf.st (by omega)
    have k15 : ck1 s2 σ15 := h15 ▸ k13.st (by omega)
    have k16 : ck1 s2 σ16 := h16 ▸ k15.st (by omega)
    have k19 : ck1 s2 σ19 := h19 ▸ k16.st (by omega)
    have k20 : ck1 s2 σ20 := h20 ▸ k19.st (by omega)
    have k21 : ck1 s2 σ21 := h21 ▸ k20.st (by omega)
    -- cells that are as they were
    have q : ∀ a, a ≠ 36 → a ≠ 34 → a ≠ 21 + sp_tN f n c → a ≠ 4 → a ≠ 6 → a ≠ 8 + sp_tN f n c → σ21.1 a = s2.1 a := by
      intro a z1 z2 z3 z4 z5 z6
      rw [h21, st_ne z1, h20, st_ne z2, h19, st_ne z3, h16, st_ne z4, h15, st_ne z5, h13, st_ne z6]
    have q4 : ∀ j, j ≠ 1 → σ21.1 4 j = s2.1 4 j := by
      intro j hj
      rw [h21, st_ne (by decide), h20, st_ne (by decide), h19, st_ne (by omega), h16, st_nj hj, h15, st_ne (by decide), h13, st_ne (by omega)]
    have q41 : σ21.1 4 1 = nI (c + 1) := by
      rw [h21, st_ne (by decide), h20, st_ne (by decide), h19, st_ne (by omega), h16, st_eq, h15, st_ne (by decide), h13, st_ne (by omega), b1 4 (by decide), hb4 1 (by decide), g1, nI_1]
    have q6 : σ21.1 6 = fun s => if s = sp_tN f n c then nI (fb_ct (fun k => decide (sp_tN f n k = sp_tN f n c)) c + 1) else σ.1 6 s := by
      funext s
      rw [h21, st_ne (by decide), h20, st_ne (by decide), h19, st_ne (by omega), h16, st_ne (by decide), h15]
      by_cases e : s = sp_tN f n c
      · rw [e, st_eq, if_pos rfl, h13, st_ne (by omega), b1 6 (by decide), e6, nI_1]
      · rw [st_nj e, if_neg e, h13, st_ne (by omega), b1 6 (by decide), hb 6 (by decide) (by omega)]
    have q8 : ∀ s w, s < 12 → σ21.1 (8 + s) w = if s = sp_tN f n c ∧ w = fb_ct (fun k => decide (sp_tN f n k = sp_tN f n c)) c then nI (rd_sn f n c) else σ.1 (8 + s) w := by
      intro s w hs12
      rw [h21, st_ne (by omega), h20, st_ne (by omega), h19, st_ne (by omega), h16, st_ne (by omega), h15, st_ne (by omega), h13]
      by_cases e : s = sp_tN f n c
      · by_cases e' : w = fb_ct (fun k => decide (sp_tN f n k = sp_tN f n c)) c
        · rw [if_pos ⟨e, e'⟩, e, e', st_eq]
        · rw [if_neg (fun z => e' z.2), e, st_nj e', b1 _ (by omega), hb _ (by omega) (by omega)]
      · rw [if_neg (fun z => e z.1), st_ne (by omega), b1 _ (by omega), hb _ (by omega) (by omega)]
    have q21 : ∀ s t, s < 12 → σ21.1 (21 + s) t = if s = sp_tN f n c ∧ t = rd_sn f n c then s1.1 (21 + s) t + 1 else s1.1 (21 + s) t := by
      intro s t hs12
      rw [h21, st_ne (by omega), h20, st_ne (by omega), h19]
      have o : σ16.1 (21 + s) = s1.1 (21 + s) := by rw [h16, st_ne (by omega), h15, st_ne (by omega), h13, st_ne (by omega), b1 _ (by omega)]
      by_cases e : s = sp_tN f n c
      · by_cases e' : t = rd_sn f n c
        · rw [if_pos ⟨e, e'⟩, ← e, e', st_eq, o]
        · rw [if_neg (fun z => e' z.2), ← e, st_nj e', o]
      · rw [if_neg (fun z => e z.1), st_ne (by omega), o]
    have q34 : ∀ t, σ21.1 34 t = if t = rd_sn f n c then s1.1 34 t + 1 else s1.1 34 t := by
      intro t
      rw [h21, st_ne (by decide), h20]
      have o : σ19.1 34 = s1.1 34 := by rw [h19, st_ne (by omega), h16, st_ne (by decide), h15, st_ne (by decide), h13, st_ne (by omega), b1 34 (by decide)]
      by_cases e' : t = rd_sn f n c
      · rw [if_pos e', e', st_eq, o]
      · rw [if_neg e', st_nj e', o]
    have q36 : ∀ t, σ21.1 36 t = if t = rd_sn f n c then nI (sp_tN f n c) else s1.1 36 t := by
      intro t
      rw [h21]
      by_cases e' : t = rd_sn f n c
      · rw [if_pos e', e', st_eq]
      · rw [if_neg e', st_nj e', h20, st_ne (by decide), h19, st_ne (by omega), h16, st_ne (by decide), h15, st_ne (by decide), h13, st_ne (by omega), b1 36 (by decide)]
    have q2 : σ21.2 = s1.2 := by
      rw [h21, st_2, h20, st_2, h19, st_2, h16, st_2, h15, st_2, h13, st_2, b2]
    refine h _ ⟨q41, ?_, fun s hs12 => ?_, fun s w hs12 hw => ?_, fun s hs12 hw => ?_, fun s t hs12 ht => ?_, fun t ht => ?_⟩ ?_ ((hk.tr b5).tr k21)
    · rw [q4 2 (by decide), b1 4 (by decide)]
      exact n2
    · rw [q6, fb_ct_succ]
      dsimp only
      by_cases e : s = sp_tN f n c
      · rw [if_pos e, e, if_pos (by simp)]
      · rw [if_neg e, if_neg (by simp; omega), Nat.add_zero]
        exact g3 s hs12
    · rw [q8 s w hs12, fb_ct_succ (fun k => decide (sp_tN f n k < s))]
      rw [fb_ct_succ] at hw
      by_cases e : s = sp_tN f n c
      · subst e
        rw [if_pos (by simp)] at hw
        rw [if_neg (show ¬ decide (sp_tN f n c < sp_tN f n c) = true by simp), Nat.add_zero]
        by_cases e' : w = fb_ct (fun k => decide (sp_tN f n k = sp_tN f n c)) c
        · rw [if_pos ⟨rfl, e'⟩, e', hsp]
        · rw [if_neg (fun z => e' z.2)]
          exact g4 _ w hs12 (by omega)
      · rw [if_neg (by simp; omega), Nat.add_zero] at hw
        rw [if_neg (fun z => e z.1)]
        have hlt : s < sp_tN f n c := by
          obtain ⟨k, hk1, hk2⟩ := fb_ct_pos.mp (Nat.lt_of_le_of_lt (Nat.zero_le w) hw)
          have := r5 k c (by omega) hc
          simp at hk2
          omega
        rw [if_neg (by simp; omega), Nat.add_zero]
        exact g4 s w hs12 hw
    · rw [q 5 (by decide) (by decide) (by omega) (by decide) (by decide) (by omega), fb_ct_succ]
      rw [fb_ct_succ] at hw
      by_cases e : s = sp_tN f n c
      · subst e
        rw [if_neg (by simp), Nat.add_zero]
        exact b4
      · rw [if_neg (by simp; omega), Nat.add_zero] at hw
        have hlt : s < sp_tN f n c := by
          obtain ⟨k, hk1, hk2⟩ := fb_ct_pos.mp hw
          have := r5 k c (by omega) hc
          simp at hk2
          omega
        rw [if_neg (by simp; omega), Nat.add_zero, b3 s e, hb 5 (by decide) (by omega)]
        exact g5 s hs12 hw
    · rw [q21 s t hs12, fb_ct_succ, n6 s t hs12 ht]
      by_cases e : s = sp_tN f n c ∧ t = rd_sn f n c
      · rw [if_pos e, if_pos (by simp [e.1, e.2]), nI_1]
      · rw [if_neg e, if_neg (by simp; intro z1 z2; exact e ⟨z1.symm, z2.symm⟩), Nat.add_zero]
    · obtain ⟨o1, o2, o3, o4, o5⟩ := n7 t ht
      refine ⟨?_, ?_, ?_, ?_, ?_⟩
      · rw [q 33 (by decide) (by decide) (by omega) (by decide) (by decide) (by omega), b1 33 (by decide)]
        exact o1
      · rw [q34, fb_ct_succ, o2]
        by_cases e : t = rd_sn f n c
        · rw [if_pos e, if_pos (by simp [e]), nI_1]
        · rw [if_neg e, if_neg (by simp; omega), Nat.add_zero]
      · rw [q 35 (by decide) (by decide) (by omega) (by decide) (by decide) (by omega), b1 35 (by decide)]
        exact o3
      · rw [q36]
        show _ = nI (if rd_sn f n c = t then sp_tN f n c else sp_la (sp_tN f n) (rd_sn f n) c t)
        by_cases e : t = rd_sn f n c
        · rw [if_pos e, if_pos e.symm]
        · rw [if_neg e, if_neg (fun z => e z.symm)]
          exact o4 e
      · rw [q2]
        exact o5
    · rw [q4 0 (by decide), b1 4 (by decide), hb4 0 (by decide)]
      exact hs
  · intro c2
    rw [e6] at c2
    have c2 : ¬ fb_ct (fun k => decide (sp_tN f n k = sp_tN f n c)) c = 0 := fun z => c2 (by rw [z]; rfl)
    refine ⟨fun _ _ => rfl, rfl, fun _ _ => rfl, ?_, ck1.rf⟩
    rw [hb 5 (by decide) (by omega)]
    exact g5 _ (by omega) (by omega)
  · intro c2
    rw [e6] at c2
    have c2 : fb_ct (fun k => decide (sp_tN f n k = sp_tN f n c)) c = 0 := (eq_nI (b := 0) (by omega) (by omega)).mp c2
    rintro σ23 rfl
    refine ⟨fun a ha => st_ne ha, rfl, fun s hs2 => st_nj hs2, ?_, ck1.rf.st (by omega)⟩
    rw [st_eq]
    congr 2
    omega
def ReadOK (f : Nat → Nat) (n : Nat) (σ : tzS) : Prop :=
  σ.1 4 0 = nI (rd_S f n) ∧ σ.1 4 1 = nI (rd_W f n) ∧ σ.1 4 2 = nI (rd_K f n) ∧
  (∀ s, s < rd_S f n → σ.1 6 s = nI (rd_wi f n s) ∧ σ.1 5 s = nI (sp_tA f n (rd_fw f n s)) ∧ ∀ w, w < rd_wi f n s → σ.1 (8 + s) w = nI (rd_sn f n (rd_fw f n s + w))) ∧
  (∀ s t, s < 12 → t < rd_K f n → σ.1 (21 + s) t = nI (rd_hv f n s t)) ∧
  (∀ t, t < rd_K f n → σ.1 33 t = nI (rd_sl f n t) ∧ σ.1 34 t = nI (rd_ct f n t) ∧ σ.1 35 t = nI (sp_tN f n (rd_sw f n t)) ∧ σ.1 36 t = nI (rd_la f n t) ∧ σ.2 37 t = lN (cd f (sp_tA f n (rd_sw f n t)) (rd_sl f n t)))
theorem CT.ck1 {f : Nat → Nat} {n : Nat} {σ σ' : tzS} (h : CT f n σ) (hk : ck1 σ σ') : CT f n σ' := ⟨h.1, by rw [hk.1 1 (by omega)]; exact h.2.1, fun i hi => ⟨(h.2.2 i hi).1, by rw [hk.1 2 (by omega)]; exact (h.2.2 i hi).2⟩⟩
theorem s_fill {f : Nat → Nat} {n : Nat} {σ : tzS} (hT : CT f n σ) {x : Int32} (hx : x = if sp_well f n = true then 1 else 0) {Q : tzS → Prop} (h : ∀ σ', ReadOK f n σ' → ck1 σ σ' → Q σ') : vc_X6_fill x σ Q := by
  have hn := hT.1
  obtain ⟨r1, r2, r3, r4, r5, r6⟩ := rd_ok (f := f) hn
  unfold vc_X6_fill
  intro σ1 h1 σ2 h2 σ3 h3
  have k1 : ck1 σ σ1 := h1 ▸ ck1.rf.st (by omega)
  have k2 : ck1 σ σ2 := h2 ▸ k1.st (by omega)
  have k3 : ck1 σ σ3 := h3 ▸ k2.st (by omega)
  have e40 : σ3.1 4 0 = 0 := by rw [h3, st_nj (by decide), h2, st_nj (by decide), h1, st_eq]
  have e41 : σ3.1 4 1 = 0 := by rw [h3, st_nj (by decide), h2, st_eq]
  have e42 : σ3.1 4 2 = 0 := by rw [h3, st_eq]
  refine ⟨fun c => ?_, fun c => ?_⟩
  · have hw : sp_well f n = true := by
      by_cases q : sp_well f n = true
      · exact q
      · rw [if_neg q] at hx
        exact absurd hx c
    obtain ⟨ho, hh⟩ := sp_well_ok hw
    have eW : rd_W f n = sp_wc f n := if_pos hw
    have eS : rd_S f n = (sp_at f n).2.2.1 := if_pos hw
    refine for1 0 12 (fun j s => (∀ i, i < j → s.1 6 i = 0) ∧ s.1 4 = σ3.1 4 ∧ ck1 σ s) (Nat.zero_le _) ⟨fun i hi => absurd hi (Nat.not_lt_zero i), rfl, k3⟩ ?_ ?_
    · intro j s ag _ hj hI hag
      obtain ⟨i1, i2, i3⟩ := hI
      refine ⟨fun q => absurd ((le_nI (a := 12) (by omega) (by omega)).mp q) (by omega), fun _ => ⟨in_nI hj (by omega), ?_⟩⟩
      rw [cl_nI (by omega)]
      rintro σ5 rfl y rfl
      rw [nI_1]
      refine hag _ ⟨fun i hi => ?_, by rw [st_ne (by decide)]; exact i2, i3.st (by omega)⟩
      by_cases e : i = j
      · rw [e, st_eq]
      · rw [st_nj e]
        exact i1 i (by omega)
    · intro s ag hI
      obtain ⟨i1, i2, i3⟩ := hI
      refine ⟨fun _ => ?_, fun q => absurd ((le_nI (a := 12) (by omega) (by omega)).mpr (Nat.le_refl _)) q⟩
      -- how many words are complete at p
      refine for3c 0 n (fun p x3 x5 r => x3 = lN (cd f (p - (sp_at f p).2.2.2) (sp_at f p).2.2.2) ∧ x5 = nI (sp_at f p).2.2.2 ∧ RC f n (if (sp_at f p).1 = 2 then sp_wc f p - 1 else sp_wc f p) r ∧ r.1 4 0 = nI (sp_at f p).2.2.1 ∧ ck1 σ r) (Nat.zero_le _) ?_ ?_ ?_
      · refine ⟨rfl, rfl, ?_, ?_, i3⟩
        · show RC f n 0 s
          refine ⟨by rw [i2]; exact e41, by rw [i2]; exact e42, fun t ht => i1 t ht, fun t w _ hw' => absurd hw' (Nat.not_lt_zero w), fun t _ hw' => absurd hw' (Nat.lt_irrefl 0), fun t u _ hu => absurd hu (Nat.not_lt_zero u), fun t ht => absurd ht (Nat.not_lt_zero t)⟩
        · rw [i2]
          exact e40
      · intro p x3 x5 r ag2 _ hp hI hag
        obtain ⟨rfl, rfl, hR, hs, hk⟩ := hI
        have hop : sp_ok f p := fun q hq => ho q (by omega)
        have hop1 : sp_ok f (p + 1) := fun q hq => ho q (by omega)
        have hJ := sp_ok_J hop
        have hWT := sp_WT_ok hop
        have hT' := hT.ck1 hk
        have hwy := ho p hp
        have hbp := (hT.2.2 p hp).1
        have hl10 : (sp_at f p).2.2.2 ≤ 10 := by
          unfold sp_J at hJ
          omega
        rw [hT'.2.1]
        refine ⟨fun q => absurd ((le_nI (by omega) (by omega)).mp q) (by omega), fun _ => ⟨in_nI (by omega) (by omega), ?_⟩⟩
        rw [cl_nI (by omega), (hT'.2.2 p hp).2]
        rintro x7 rfl
        refine s_isLetter hbp (fun hL => ?_) (fun hL => ?_)
        · -- a letter
          refine ⟨fun z => absurd z (by decide), fun _ => ?_⟩
          have hb2 := sp_L_iff.mp hL
          rintro y3 rfl y5 rfl y6 rfl
          rw [nI_1, nI_1, lN_push hb2.1 hb2.2]
          have el : (sp_at f (p + 1)).2.2.2 = (sp_at f p).2.2.2 + 1 ∧ (sp_at f (p + 1)).2.2.1 = (sp_at f p).2.2.1 ∧ (sp_at f (p + 1)).1 = 2 ∧ sp_wc f (p + 1) - 1 = (if (sp_at f p).1 = 2 then sp_wc f p - 1 else sp_wc f p) := by
            by_cases e2 : (sp_at f p).1 = 2
            · rw [sp_at_c hL e2, sp_wc_n (sp_start_c e2), if_pos e2]
              exact ⟨rfl, rfl, rfl, rfl⟩
            · rw [sp_at_t hL e2, sp_wc_t (sp_start_t hL e2), if_neg e2]
              refine ⟨?_, rfl, rfl, by omega⟩
              unfold sp_J at hJ
              dsimp only
              omega
          have hple : (sp_at f p).2.2.2 ≤ p := by
            by_cases e2 : (sp_at f p).1 = 2
            · have := (hWT.2.1 e2).2.1
              omega
            · unfold sp_J at hJ
              omega
          refine hag _ _ _ ⟨?_, ?_, ?_, ?_, hk⟩
          · rw [el.1, show p + 1 - ((sp_at f p).2.2.2 + 1) = p - (sp_at f p).2.2.2 by omega]
            show _ = lN (32 * cd f (p - (sp_at f p).2.2.2) (sp_at f p).2.2.2 + (f (p - (sp_at f p).2.2.2 + (sp_at f p).2.2.2) - 96))
            rw [show p - (sp_at f p).2.2.2 + (sp_at f p).2.2.2 = p by omega]
          · rw [el.1]
          · rw [if_pos el.2.2.1, el.2.2.2]
            exact hR
          · rw [el.2.1]
            exact hs
        · -- a blank or a dot
          refine ⟨fun _ => ?_, fun z => absurd rfl z⟩
          have hsn := sp_start_n hL
          by_cases e2 : (sp_at f p).1 = 2
          · -- behind a word
            obtain ⟨g1, g2, g3, g4⟩ := hWT.2.1 e2
            rw [if_pos e2] at hR
            have hh1 : (sp_at f (p + 1)).1 ≠ 2 := by
              by_cases hd : f p = 46
              · rw [sp_at_d hd]
                exact (by decide : (1 : Nat) ≠ 2)
              · rw [sp_at_b hL hd]
                dsimp only
                split <;> decide
            have kp := sp_keep (f := f) (p := p + 1) (d := n - (p + 1))
            rw [show p + 1 + (n - (p + 1)) = n by omega, sp_wc_n hsn] at kp
            have hcW : sp_wc f p - 1 < rd_W f n := by rw [eW]; omega
            have tA : sp_tA f n (sp_wc f p - 1) = p - (sp_at f p).2.2.2 := by
              rw [(kp.2.1 _ (by omega)).1, sp_tA_n hsn]
              omega
            have tN : sp_tN f n (sp_wc f p - 1) = (sp_at f p).2.2.1 := by
              rw [(kp.2.1 _ (by omega)).2, sp_tN_n hsn]
              exact g4
            have tG : sp_tG f n (sp_wc f p - 1) = (sp_at f p).2.2.2 := by
              rw [(kp.2.2 _ (by omega) (Or.inr hh1)).1, sp_tG_n hL]
              exact g3
            have h9 : fb_ct (fun k => decide (sp_tN f n k = sp_tN f n (sp_wc f p - 1))) (sp_wc f p - 1) < 9 := by
              have i9 : (sp_at f p).2.1 ≤ 9 := by
                unfold sp_J at hJ
                omega
              have w4 := hWT.2.2.2.1
              obtain ⟨w, hw2⟩ : ∃ w, sp_wc f p = w + 1 := ⟨sp_wc f p - 1, by omega⟩
              rw [hw2, fb_ct_succ] at w4
              have g4' : sp_tN f p w = (sp_at f p).2.2.1 := by
                rw [hw2] at g4
                exact g4
              rw [if_pos (by simp [g4'])] at w4
              rw [tN, hw2, Nat.add_sub_cancel]
              have : fb_ct (fun k => decide (sp_tN f n k = (sp_at f p).2.2.1)) w = fb_ct (fun k => decide (sp_tN f p k = (sp_at f p).2.2.1)) w := fb_ct_cong (fun k hk' => by rw [(kp.2.1 k (by omega)).2, sp_tN_n hsn])
              omega
            have hlp : 1 ≤ (sp_at f p).2.2.2 := by
              unfold sp_J at hJ
              omega
            refine ⟨fun q => absurd ((le_nI (b := 0) (by omega) (by omega)).mp q) (by omega), fun _ => ?_⟩
            rw [pk_sub (by omega), ← tA, ← tG]
            refine s_addWord hn hcW h9 hR (by rw [hs, tN]) (fun s' hR' hs' hk' => ?_)
            have c1 : sp_wc f p - 1 + 1 = sp_wc f p := by omega
            rw [c1] at hR'
            refine ⟨fun hd => ?_, fun hd => ?_⟩
            · have hd : f p ≠ 46 := fun q => hd (by rw [q]; rfl)
              rintro y6 rfl
              rw [nI_1]
              have ea := sp_at_b hL hd
              refine hag _ _ _ ⟨?_, ?_, ?_, ?_, hk.tr hk'⟩
              · rw [ea]
                rfl
              · rw [ea]
                rfl
              · rw [if_neg hh1, sp_wc_n hsn]
                exact hR'
              · rw [hs', tN, ea]
            · have hd : f p = 46 := (eq_nI (b := 46) (by omega) (by omega)).mp hd
              rintro σ28 rfl y6 rfl
              rw [nI_1]
              have ea := sp_at_d hd
              refine hag _ _ _ ⟨?_, ?_, ?_, ?_, (hk.tr hk').st (by omega)⟩
              · rw [ea]
                rfl
              · rw [ea]
                rfl
              · rw [if_neg hh1, sp_wc_n hsn]
                obtain ⟨u1, u2, u3, u4, u5, u6, u7⟩ := hR'
                refine ⟨by rw [st_nj (by decide)]; exact u1, by rw [st_nj (by decide)]; exact u2, fun a ha => by rw [st_ne (by decide)]; exact u3 a ha, fun a w ha hw' => by rw [st_ne (by omega)]; exact u4 a w ha hw', fun a ha hw' => by rw [st_ne (by decide)]; exact u5 a ha hw', fun a t ha ht => by rw [st_ne (by omega)]; exact u6 a t ha ht, fun t ht => by rw [st_ne (by decide), st_ne (by decide), st_ne (by decide), st_ne (by decide)]; exact u7 t ht⟩
              · rw [st_eq, hs', tN, nI_1, ea]
          · -- behind a dot: a blank
            rw [if_neg e2] at hR
            have hl0 : (sp_at f p).2.2.2 = 0 := by
              unfold sp_J at hJ
              omega
            have hd : f p ≠ 46 := by
              intro q
              unfold sp_why at hwy
              rw [q, if_neg sp_L46, if_neg (by decide), if_pos rfl, if_neg e2] at hwy
              exact absurd hwy (by decide)
            rw [hl0]
            refine ⟨fun _ => ⟨fun _ => ?_, fun q => absurd ((eq_nI (b := 46) (by omega) (by omega)).mp q) hd⟩, fun q => absurd ((le_nI (a := 0) (b := 0) (by omega) (by omega)).mpr (Nat.le_refl 0)) q⟩
            rintro y6 rfl
            rw [nI_1]
            have ea := sp_at_b hL hd
            have hh1 : (sp_at f (p + 1)).1 ≠ 2 := by
              rw [ea]
              dsimp only
              split <;> decide
            refine hag _ _ _ ⟨?_, ?_, ?_, ?_, hk⟩
            · rw [ea]
              rfl
            · rw [ea]
              rfl
            · rw [if_neg hh1, sp_wc_n hsn]
              exact hR
            · rw [ea]
              exact hs
      · intro x3 x5 r ag2 hI
        obtain ⟨rfl, rfl, hR, hs, hk⟩ := hI
        have hT' := hT.ck1 hk
        rw [hT'.2.1]
        refine ⟨fun _ => ?_, fun q => absurd ((le_nI (by omega) (by omega)).mpr (Nat.le_refl n)) q⟩
        rw [if_neg (by omega), ← eW] at hR
        obtain ⟨u1, u2, u3, u4, u5, u6, u7⟩ := hR
        refine h _ ⟨by rw [eS]; exact hs, u1, u2, fun a ha => ⟨u3 a (by omega), ?_, fun w hw' => u4 a w (by omega) hw'⟩, u6, u7⟩ hk
        refine u5 a (by omega) ?_
        obtain ⟨k, hk1, hk2⟩ := r6 a ha
        exact fb_ct_pos.mpr ⟨k, hk1, by simp [hk2]⟩
  · have hw : ¬ sp_well f n = true := by
      intro q
      rw [if_pos q] at hx
      rw [hx] at c
      exact absurd c (by decide)
    have eW : rd_W f n = 0 := if_neg hw
    have eS : rd_S f n = 0 := if_neg hw
    have eK : rd_K f n = 0 := by omega
    refine h _ ⟨by rw [eS]; exact e40, by rw [eW]; exact e41, by rw [eK]; exact e42, fun a ha => absurd ha (by omega), fun a t _ ht => absurd ht (by omega), fun t ht => absurd ht (by omega)⟩ k3
