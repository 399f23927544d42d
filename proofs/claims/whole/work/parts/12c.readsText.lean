/-! the reference's reading of a text: words -/
def MT (f : Nat → Nat) (n : Nat) (σ : tzS) : Prop := n ≤ 200 ∧ σ.1 133 0 = nI n ∧ ∀ i, i < n → f i < 256 ∧ σ.1 134 i = nI (f i)
/-- what the reference's reading may change -/
def mk1 (σ σ' : tzS) : Prop := (∀ a, (a < 133 ∨ 144 ≤ a ∨ a = 134 ∨ a = 135) → σ'.1 a = σ.1 a) ∧ (∀ j, (j < 4 ∨ (10 ≤ j ∧ j ≠ 18)) → σ'.1 133 j = σ.1 133 j) ∧ σ'.2 = σ.2
theorem mk1.rf {σ : tzS} : mk1 σ σ := ⟨fun _ _ => rfl, fun _ _ => rfl, rfl⟩
theorem mk1.tr {σ σ' σ'' : tzS} (h : mk1 σ σ') (h2 : mk1 σ' σ'') : mk1 σ σ'' := ⟨fun a ha => (h2.1 a ha).trans (h.1 a ha), fun j hj => (h2.2.1 j hj).trans (h.2.1 j hj), h2.2.2.trans h.2.2⟩
theorem mk1.st3 {σ σ' : tzS} {j : Nat} {v : Int32} (h : mk1 σ σ') (hj : (4 ≤ j ∧ j < 10) ∨ j = 18) : mk1 σ (tz_st σ' 133 j v) :=
  ⟨fun a ha => by rw [st_ne (by omega)]; exact h.1 a ha, fun i hi => by rw [st_nj (by omega)]; exact h.2.1 i hi, h.2.2⟩
theorem mk1.st {σ σ' : tzS} {k j : Nat} {v : Int32} (h : mk1 σ σ') (hk : 136 ≤ k ∧ k < 144) : mk1 σ (tz_st σ' k j v) :=
  ⟨fun a ha => by rw [st_ne (by omega)]; exact h.1 a ha, fun i hi => by rw [st_ne (by omega)]; exact h.2.1 i hi, h.2.2⟩
theorem MT.mk1 {f : Nat → Nat} {n : Nat} {σ σ' : tzS} (h : MT f n σ) (hk : mk1 σ σ') : MT f n σ' := ⟨h.1, by rw [hk.2.1 0 (by omega)]; exact h.2.1, fun i hi => ⟨(h.2.2 i hi).1, by rw [hk.1 134 (by omega)]; exact (h.2.2 i hi).2⟩⟩
/-- the tables of words, as the reference has them -/
def WM (f : Nat → Nat) (p : Nat) (σ : tzS) : Prop := σ.1 133 7 = nI (sp_at f p).2.2.1 ∧ σ.1 133 8 = nI (sp_wc f p) ∧ (∀ k, k < sp_wc f p → σ.1 136 k = nI (sp_tA f p k) ∧ σ.1 137 k = nI (sp_tG f p k) ∧ σ.1 138 k = nI (sp_tN f p k)) ∧ ∀ s, (s < (sp_at f p).2.2.1 ∨ (s = (sp_at f p).2.2.1 ∧ 0 < (sp_at f p).2.1)) → σ.1 142 s = nI (fb_ct (fun k => decide (sp_tN f p k < s)) (sp_wc f p))
theorem s_whyNot {q : spA} (hJ : sp_J q) {b : Nat} (hb : b < 256) {y : Int32} {σ : tzS} (hs : σ.1 133 7 = nI q.2.2.1) (hy : q.1 = 2 → y = nI q.2.2.2) {Q : Int32 → tzS → Prop} (h : Q (if sp_why b q = 0 then -1 else nI (sp_why b q)) σ) : vc_X10_whyNot (nI b) (nI q.1) (nI q.2.1) y σ Q := by
  obtain ⟨h0, i0, s0, l0⟩ := q
  unfold sp_J at hJ
  unfold sp_why at h
  dsimp only at hJ h hs hy ⊢
  have hl : l0 ≤ 10 := by omega
  have hs' : s0 ≤ 12 := by omega
  have hi : i0 ≤ 9 := by omega
  have h3 : h0 ≤ 3 := by omega
  unfold vc_X10_whyNot
  refine s_inN (lo := 97) (hi := 122) (by omega) (by omega) (by omega) (fun a1 a2 => ?_) (fun a1 => ?_)
  · have hL : sp_L b = true := sp_L_iff.mpr ⟨a1, a2⟩
    rw [if_pos hL] at h
    refine ⟨_, fun _ h => h, fun _ => ?_, fun z => absurd z (by decide)⟩
    refine ⟨_, fun _ h => h, fun _ => ?_, fun z => absurd z (by decide)⟩
    refine ⟨fun z => absurd z (by decide), fun _ => ⟨fun c => ?_, fun c => ?_⟩⟩
    · have c : h0 = 2 := (eq_nI (b := 2) (by omega) (by omega)).mp c
      rw [if_pos c] at h
      rw [hy c]
      refine ⟨fun c2 => ?_, fun c2 => ?_⟩
      · have c2 : ¬ l0 = 10 := fun q => c2 (by rw [q]; rfl)
        rw [if_neg c2] at h
        exact h
      · have c2 : l0 = 10 := (eq_nI (b := 10) (by omega) (by omega)).mp c2
        rw [if_pos c2] at h
        exact h
    · have c : ¬ h0 = 2 := fun q => c (by rw [q]; rfl)
      rw [if_neg c] at h
      rw [hs]
      refine ⟨fun c2 => ?_, fun c2 => ⟨fun c3 => ?_, fun c3 => ?_⟩⟩
      · have c2 : s0 = 12 := (eq_nI (b := 12) (by omega) (by omega)).mp c2
        rw [if_pos (Or.inl c2)] at h
        exact h
      · have c2 : ¬ s0 = 12 := fun q => c2 (by rw [q]; rfl)
        have c3 : ¬ i0 = 9 := fun q => c3 (by rw [q]; rfl)
        rw [if_neg (show ¬ (s0 = 12 ∨ i0 = 9) by omega)] at h
        exact h
      · have c3 : i0 = 9 := (eq_nI (b := 9) (by omega) (by omega)).mp c3
        rw [if_pos (Or.inr c3)] at h
        exact h
  · have hL : ¬ sp_L b = true := fun q => a1 (sp_L_iff.mp q)
    rw [if_neg hL] at h
    have key : ∀ (hbd : b = 32 ∨ b = 46), tz_join0 (fun (σ_6 : tzS) => ((0 : Int32) = 0 → Q (-1) σ_6) ∧ (¬ (0 : Int32) = 0 → (nI h0 = 2 → (¬ y = 10 → Q (-1) σ_6) ∧ (y = 10 → Q 2 σ_6)) ∧ (¬ nI h0 = 2 → ((σ_6.1 133 7) = 12 → Q 4 σ_6) ∧ (¬ (σ_6.1 133 7) = 12 → (¬ nI i0 = 9 → Q (-1) σ_6) ∧ (nI i0 = 9 → Q 4 σ_6))))) (fun (K_5 : tzS → Prop) => (¬ (0 : Int32) = 0 → K_5 σ) ∧ ((0 : Int32) = 0 → (nI h0 = 2 → K_5 σ) ∧ (¬ nI h0 = 2 → (¬ nI h0 = 1 → Q 3 σ) ∧ (nI h0 = 1 → (nI b = 32 → K_5 σ) ∧ (¬ nI b = 32 → Q 3 σ))))) := by
      intro hbd
      refine ⟨fun s => Q (-1) s, fun s hK => ⟨fun _ => hK, fun z => absurd rfl z⟩, fun z => absurd rfl z, fun _ => ⟨fun c => ?_, fun c => ⟨fun c2 => ?_, fun c2 => ⟨fun c3 => ?_, fun c3 => ?_⟩⟩⟩⟩
      · have c : h0 = 2 := (eq_nI (b := 2) (by omega) (by omega)).mp c
        rcases hbd with e | e
        · rw [if_pos e, if_pos (Or.inl c)] at h
          exact h
        · rw [if_neg (show ¬ b = 32 by omega), if_pos e, if_pos c] at h
          exact h
      · have c : ¬ h0 = 2 := fun q => c (by rw [q]; rfl)
        have c2 : ¬ h0 = 1 := fun q => c2 (by rw [q]; rfl)
        rcases hbd with e | e
        · rw [if_pos e, if_neg (show ¬ (h0 = 2 ∨ h0 = 1) by omega)] at h
          exact h
        · rw [if_neg (show ¬ b = 32 by omega), if_pos e, if_neg c] at h
          exact h
      · have c2 : h0 = 1 := (eq_nI (b := 1) (by omega) (by omega)).mp c2
        have c3 : b = 32 := (eq_nI (b := 32) (by omega) (by omega)).mp c3
        rw [if_pos c3, if_pos (Or.inr c2)] at h
        exact h
      · have c : ¬ h0 = 2 := fun q => c (by rw [q]; rfl)
        have c3 : ¬ b = 32 := fun q => c3 (by rw [q]; rfl)
        rw [if_neg c3, if_pos (show b = 46 by omega), if_neg c] at h
        exact h
    refine ⟨_, fun _ h => h, fun z => absurd rfl z, fun _ => ⟨fun c => ?_, fun c => ⟨fun c2 => ?_, fun c2 => ?_⟩⟩⟩
    · exact key (Or.inl ((eq_nI (b := 32) (by omega) (by omega)).mp c))
    · exact key (Or.inr ((eq_nI (b := 46) (by omega) (by omega)).mp c2))
    · have c : ¬ b = 32 := fun q => c (by rw [q]; rfl)
      have c2 : ¬ b = 46 := fun q => c2 (by rw [q]; rfl)
      rw [if_neg c, if_neg c2] at h
      exact h
theorem s_fails {x y : Int32} {σ : tzS} {Q : tzS → Prop} (h : ∀ σ', σ'.1 133 4 = x → σ'.1 133 5 = y → σ'.1 133 6 = σ.1 133 7 → mk1 σ σ' → Q σ') : vc_X10_fails x y σ Q := by
  unfold vc_X10_fails
  rintro σ1 rfl σ2 rfl σ3 rfl
  refine h _ ?_ ?_ ?_ (((mk1.rf.st3 (by omega)).st3 (by omega)).st3 (by omega))
  · rw [st_nj (by decide), st_nj (by decide), st_eq]
  · rw [st_nj (by decide), st_eq]
  · rw [st_eq, st_nj (by decide), st_nj (by decide)]
theorem nI_sub1 {k : Nat} (h : 1 ≤ k) : nI k - 1 = nI (k - 1) := by
  obtain ⟨j, rfl⟩ : ∃ j, k = j + 1 := ⟨k - 1, by omega⟩
  rw [nI_pred]
  rfl
theorem s_readsText {f : Nat → Nat} {n : Nat} {σ : tzS} (hT : MT f n σ) {Q : tzS → Prop} (h : ∀ σ', σ'.1 133 4 = sp_pl f n → σ'.1 133 5 = sp_wy f n → σ'.1 133 6 = sp_se f n → (sp_well f n = true → WM f n σ') → mk1 σ σ' → Q σ') : vc_X10_readsText σ Q := by
  obtain ⟨hn, h11, hb⟩ := id hT
  unfold vc_X10_readsText
  rintro σ1 rfl σ2 rfl σ3 rfl σ4 rfl σ5 rfl
  refine for3c 0 n (fun p x1 x2 s => sp_ok f p ∧ x1 = nI (sp_at f p).1 ∧ x2 = nI (sp_at f p).2.1 ∧ WM f p s ∧ s.1 133 4 = -1 ∧ s.1 133 5 = -1 ∧ s.1 133 6 = -1 ∧ mk1 σ s) (Nat.zero_le _) ?_ ?_ ?_
  · refine ⟨fun q hq => absurd hq (Nat.not_lt_zero q), rfl, rfl, ⟨?_, ?_, fun k hk => absurd hk (Nat.not_lt_zero k), fun s hs => ?_⟩, ?_, ?_, ?_, ?_⟩
    · rw [st_nj (by decide), st_nj (by decide), st_nj (by decide), st_nj (by decide), st_eq]
      rfl
    · rw [st_nj (by decide), st_nj (by decide), st_nj (by decide), st_eq]
      rfl
    · have hs : s < 0 ∨ (s = 0 ∧ 0 < 0) := hs
      omega
    · rw [st_nj (by decide), st_nj (by decide), st_eq]
    · rw [st_nj (by decide), st_eq]
    · rw [st_eq]
    · exact ((((mk1.rf.st3 (by omega)).st3 (by omega)).st3 (by omega)).st3 (by omega)).st3 (by omega)
  · intro p x1 x2 s ag _ hp hI hag
    obtain ⟨ho, rfl, rfl, hW, e4, e5, e6, hk⟩ := hI
    have hJ := sp_ok_J ho
    have hWT := sp_WT_ok ho
    have hT' := hT.mk1 hk
    have hwc := (sp_wc_le f p).1
    rw [hT'.2.1]
    refine ⟨fun c => absurd ((le_nI (by omega) (by omega)).mp c) (by omega), fun _ => ⟨in_nI (by omega) (by omega), ?_⟩⟩
    rintro x4 rfl
    rw [cl_nI (by omega), (hT'.2.2 p hp).2]
    have hbp := (hb p hp).1
    refine ⟨fun y s' => s' = s ∧ ((sp_at f p).1 = 2 → y = nI (sp_at f p).2.2.2), ?_, ?_, ?_⟩
    · rintro y s' ⟨rfl, hy⟩
      refine s_whyNot hJ hbp hW.1 hy ?_
      by_cases hw : sp_why (f p) (sp_at f p) = 0
      · rw [if_pos hw]
        refine ⟨fun _ => ?_, fun z => absurd rfl z⟩
        have ho' : sp_ok f (p + 1) := fun q hq => by
          by_cases e : q = p
          · rw [e]; exact hw
          · exact ho q (by omega)
        have hJ' := sp_ok_J ho'
        refine s_inN (lo := 97) (hi := 122) (by omega) (by omega) (by omega) (fun a1 a2 => ?_) (fun a1 => ?_)
        · have hL : sp_L (f p) = true := sp_L_iff.mpr ⟨a1, a2⟩
          refine ⟨fun z => absurd z (by decide), fun _ => ⟨fun c => ?_, fun c => ?_⟩⟩
          · -- one letter more
            have e2 : (sp_at f p).1 = 2 := (eq_nI (b := 2) (by unfold sp_J at hJ; omega) (by omega)).mp c
            obtain ⟨g1, g2, g3, g4⟩ := hWT.2.1 e2
            have hs := sp_start_c e2
            have ea := sp_at_c hL e2
            have e8 : s'.1 133 8 - 1 = nI (sp_wc f p - 1) := by rw [hW.2.1, nI_sub1 g1]
            rw [e8, cl_nI (by omega)]
            refine ⟨in_nI (by omega) (by omega), ?_⟩
            rintro σ2 rfl x3 rfl
            rw [nI_1]
            refine hag _ _ _ ⟨ho', ?_, ?_, ⟨?_, ?_, fun k hk' => ?_, fun t ht => ?_⟩, ?_, ?_, ?_, hk.st (by omega)⟩
            · rw [ea]
              rfl
            · rw [ea]
            · rw [st_ne (by decide), hW.1, ea]
            · rw [st_ne (by decide), hW.2.1, sp_wc_n hs]
            · rw [sp_wc_n hs] at hk'
              obtain ⟨k1, k2, k3⟩ := hW.2.2.1 k hk'
              refine ⟨by rw [st_ne (by decide), sp_tA_n hs]; exact k1, ?_, by rw [st_ne (by decide), sp_tN_n hs]; exact k3⟩
              rw [sp_tG_t hL, sp_wc_n hs, ea]
              by_cases ek : k + 1 = sp_wc f p
              · rw [if_pos ek]
                have ek' : k = sp_wc f p - 1 := by omega
                subst ek'
                rw [st_eq, k2, g3, nI_1]
              · rw [if_neg ek, st_nj (by omega)]
                exact k2
            · rw [st_ne (by decide), hW.2.2.2 t (by rw [ea] at ht; exact ht), sp_wc_n hs]
              congr 1
              exact fb_ct_cong (fun k _ => by rw [sp_tN_n hs])
            · rw [st_ne (by decide)]; exact e4
            · rw [st_ne (by decide)]; exact e5
            · rw [st_ne (by decide)]; exact e6
          · -- a word begins
            have e2 : ¬ (sp_at f p).1 = 2 := fun q => c (by rw [q]; rfl)
            have hs := sp_start_t hL e2
            have ea := sp_at_t hL e2
            have hs11 : (sp_at f p).2.2.1 ≤ 11 := by
              unfold sp_why at hw
              rw [if_pos hL, if_neg e2] at hw
              by_cases q : (sp_at f p).2.2.1 = 12 ∨ (sp_at f p).2.1 = 9
              · rw [if_pos q] at hw
                exact absurd hw (by decide)
              · unfold sp_J at hJ
                omega
            have hi9 : (sp_at f p).2.1 ≤ 9 := by
              unfold sp_J at hJ
              omega
            unfold vc_X10_begins
            rw [hW.2.1, cl_nI (by omega)]
            refine ⟨in_nI (by omega) (by omega), ?_⟩
            rintro σ1 rfl
            rw [st_ne (by decide), hW.2.1, cl_nI (by omega)]
            refine ⟨in_nI (by omega) (by omega), ?_⟩
            rintro σ2 rfl
            rw [st_ne (by decide), st_ne (by decide), hW.2.1, hW.1, cl_nI (by omega)]
            refine ⟨in_nI (by omega) (by omega), ?_⟩
            rintro σ3 rfl
            have fin : ∀ s3 : tzS, (∀ a, a ≠ 142 → s3.1 a = (tz_st (tz_st (tz_st s' 136 (sp_wc f p) (nI p)) 137 (sp_wc f p) 0) 138 (sp_wc f p) (nI (sp_at f p).2.2.1)).1 a) → s3.2 = s'.2 → (∀ t, (t < (sp_at f p).2.2.1 ∨ t = (sp_at f p).2.2.1) → s3.1 142 t = nI (fb_ct (fun k => decide (sp_tN f p k < t)) (sp_wc f p))) → ∀ σ4 : tzS, σ4 = tz_st s3 133 8 (s3.1 133 8 + 1) → ∀ x2 : Int32, x2 = nI (sp_at f p).2.1 + 1 → vp_in (σ4.1 133 8 - 1) 110 ∧ (∀ σ5 : tzS, σ5 = tz_st σ4 137 (σ4.1 133 8 - 1).toNatClampNeg (σ4.1 137 (σ4.1 133 8 - 1).toNatClampNeg + 1) → ∀ x3 : Int32, x3 = nI p + 1 → ag 2 x2 x3 σ5) := by
              intro s3 ha h2 h142
              rintro σ4 rfl x2 rfl
              have e8 : s3.1 133 8 = nI (sp_wc f p) := by
                rw [ha 133 (by decide), st_ne (by decide), st_ne (by decide), st_ne (by decide)]
                exact hW.2.1
              rw [st_eq, e8, nI_1, nI_sub1 (by omega), Nat.add_sub_cancel, cl_nI (by omega)]
              refine ⟨in_nI (by omega) (by omega), ?_⟩
              rintro σ5 rfl x3 rfl
              rw [nI_1, nI_1]
              refine hag _ _ _ ⟨ho', ?_, ?_, ⟨?_, ?_, fun k hk' => ?_, fun t ht => ?_⟩, ?_, ?_, ?_, ?_⟩
              · rw [ea]
                rfl
              · rw [ea]
              · rw [st_ne (by decide), st_nj (by decide), ha 133 (by decide), st_ne (by decide), st_ne (by decide), st_ne (by decide), hW.1, ea]
              · rw [st_ne (by decide), st_eq, sp_wc_t hs]
              · rw [sp_wc_t hs] at hk'
                by_cases ek : k = sp_wc f p
                · subst ek
                  refine ⟨?_, ?_, ?_⟩
                  · rw [st_ne (by decide), st_ne (by decide), ha 136 (by decide), st_ne (by decide), st_ne (by decide), st_eq, sp_tA_t hs, if_pos rfl]
                  · rw [st_eq, st_ne (by decide), ha 137 (by decide), st_ne (by decide), st_eq, sp_tG_t hL, sp_wc_t hs, if_pos rfl, ea]
                    rfl
                  · rw [st_ne (by decide), st_ne (by decide), ha 138 (by decide), st_eq, sp_tN_t hs, if_pos rfl]
                · obtain ⟨k1, k2, k3⟩ := hW.2.2.1 k (by omega)
                  refine ⟨?_, ?_, ?_⟩
                  · rw [st_ne (by decide), st_ne (by decide), ha 136 (by decide), st_ne (by decide), st_ne (by decide), st_nj ek, sp_tA_t hs, if_neg ek]
                    exact k1
                  · rw [st_nj ek, st_ne (by decide), ha 137 (by decide), st_ne (by decide), st_nj ek, st_ne (by decide), sp_tG_t hL, sp_wc_t hs, if_neg (by omega)]
                    exact k2
                  · rw [st_ne (by decide), st_ne (by decide), ha 138 (by decide), st_nj ek, st_ne (by decide), st_ne (by decide), sp_tN_t hs, if_neg ek]
                    exact k3
              · rw [ea] at ht
                have ht : t < (sp_at f p).2.2.1 ∨ (t = (sp_at f p).2.2.1 ∧ 0 < (sp_at f p).2.1 + 1) := ht
                rw [st_ne (by decide), st_ne (by decide), h142 t (by omega), sp_wc_t hs, fb_ct_succ, sp_tN_t hs, if_pos rfl, if_neg (by simp; omega)]
                congr 1
                exact fb_ct_cong (fun k hk => by rw [sp_tN_t hs, if_neg (by omega)])
              · rw [st_ne (by decide), st_nj (by decide), ha 133 (by decide), st_ne (by decide), st_ne (by decide), st_ne (by decide)]; exact e4
              · rw [st_ne (by decide), st_nj (by decide), ha 133 (by decide), st_ne (by decide), st_ne (by decide), st_ne (by decide)]; exact e5
              · rw [st_ne (by decide), st_nj (by decide), ha 133 (by decide), st_ne (by decide), st_ne (by decide), st_ne (by decide)]; exact e6
              · have hk3 : mk1 s' s3 := ⟨fun a h => by rw [ha a (by omega), st_ne (by omega), st_ne (by omega), st_ne (by omega)], fun j hj => by rw [ha 133 (by decide), st_ne (by decide), st_ne (by decide), st_ne (by decide)], h2⟩
                exact ((hk.tr hk3).st3 (by omega)).st (by omega)
            rw [st_ne (by decide), st_ne (by decide), st_ne (by decide), hW.1, hW.2.1]
            refine ⟨fun c => ?_, fun c => ?_⟩
            · have c : ¬ (sp_at f p).2.1 = 0 := fun q => c (by rw [q]; rfl)
              rintro σ4 rfl
              refine fin _ (fun _ _ => rfl) rfl (fun t ht => ?_) _ (by rw [st_ne (by decide), st_ne (by decide), st_ne (by decide), hW.2.1])
              rw [st_ne (by decide), st_ne (by decide), st_ne (by decide)]
              exact hW.2.2.2 t (by omega)
            · have c : (sp_at f p).2.1 = 0 := (eq_nI (b := 0) (by omega) (by omega)).mp c
              rw [cl_nI (by omega)]
              refine ⟨in_nI (by omega) (by omega), ?_⟩
              rintro σ4 rfl σ5 rfl
              refine fin _ (fun a ha => st_ne ha) rfl (fun t ht => ?_) _ rfl
              by_cases et : t = (sp_at f p).2.2.1
              · rw [et, st_eq]
                congr 1
                refine (fb_ct_all.mpr (fun k hk => ?_)).symm
                have k1 := (hWT.1 k hk).2.2.2.2.1
                have k2 := hWT.2.2.2.1
                rw [c] at k2
                have k3 := fb_ct_zero.mp k2.symm k hk
                simp at k3
                simp
                omega
              · rw [st_nj et, st_ne (by decide), st_ne (by decide), st_ne (by decide)]
                exact hW.2.2.2 t (by omega)
        · have hL : ¬ sp_L (f p) = true := fun q => a1 (sp_L_iff.mp q)
          have hs := sp_start_n hL
          refine ⟨fun _ => ⟨fun c => ?_, fun c => ?_⟩, fun z => absurd rfl z⟩
          · have hd : f p ≠ 46 := fun q => c (by rw [q]; rfl)
            have ea := sp_at_b hL hd
            have fin : ∀ x : Int32, x = nI (sp_at f (p + 1)).1 → ag x (nI (sp_at f p).2.1) (nI (p + 1)) s' := by
              intro x hx
              refine hag _ _ _ ⟨ho', hx, by rw [ea], ⟨?_, ?_, fun k hk' => ?_, fun t ht => ?_⟩, e4, e5, e6, hk⟩
              · rw [ea]; exact hW.1
              · rw [sp_wc_n hs]; exact hW.2.1
              · rw [sp_wc_n hs] at hk'
                rw [sp_tA_n hs, sp_tN_n hs, sp_tG_n hL]
                exact hW.2.2.1 k hk'
              · rw [hW.2.2.2 t (by rw [ea] at ht; exact ht), sp_wc_n hs]
                congr 1
                exact fb_ct_cong (fun k _ => by rw [sp_tN_n hs])
            refine ⟨fun c2 => ?_, fun c2 => ?_⟩
            · have c2 : ¬ (sp_at f p).1 = 1 := fun q => c2 (by rw [q]; rfl)
              rintro x3 rfl
              rw [nI_1]
              exact fin _ (by rw [ea, if_neg c2]; rfl)
            · have c2 : (sp_at f p).1 = 1 := (eq_nI (b := 1) (by unfold sp_J at hJ; omega) (by omega)).mp c2
              rintro x3 rfl
              rw [nI_1]
              exact fin _ (by rw [ea, if_pos c2]; rfl)
          · have hd : f p = 46 := (eq_nI (b := 46) (by omega) (by omega)).mp c
            have ea := sp_at_d hd
            rintro σ2 rfl x3 rfl
            rw [nI_1]
            refine hag _ _ _ ⟨ho', by rw [ea]; rfl, by rw [ea]; rfl, ⟨?_, ?_, fun k hk' => ?_, fun t ht => ?_⟩, ?_, ?_, ?_, hk.st3 (by omega)⟩
            · rw [st_eq, hW.1, nI_1, ea]
            · rw [st_nj (by decide), sp_wc_n hs]; exact hW.2.1
            · rw [sp_wc_n hs] at hk'
              rw [st_ne (by decide), st_ne (by decide), st_ne (by decide), sp_tA_n hs, sp_tN_n hs, sp_tG_n hL]
              exact hW.2.2.1 k hk'
            · rw [ea] at ht
              have ht : t < (sp_at f p).2.2.1 + 1 ∨ (t = (sp_at f p).2.2.1 + 1 ∧ 0 < 0) := ht
              have e2 : (sp_at f p).1 = 2 := by
                unfold sp_why at hw
                rw [hd, if_neg sp_L46, if_neg (by decide), if_pos rfl] at hw
                by_cases q : (sp_at f p).1 = 2
                · exact q
                · rw [if_neg q] at hw
                  exact absurd hw (by decide)
              rw [st_ne (by decide), hW.2.2.2 t (by unfold sp_J at hJ; omega), sp_wc_n hs]
              congr 1
              exact fb_ct_cong (fun k _ => by rw [sp_tN_n hs])
            · rw [st_nj (by decide)]; exact e4
            · rw [st_nj (by decide)]; exact e5
            · rw [st_nj (by decide)]; exact e6
      · rw [if_neg hw]
        have hw5 : sp_why (f p) (sp_at f p) < 100 := by
          unfold sp_why
          repeat' split
          all_goals decide
        refine ⟨fun z => absurd z (ne_m1 (by omega)), fun _ => ?_⟩
        have hfa := sp_f_at hp ho hw
        refine s_fails (fun σ' k1 k2 k3 hB' => h σ' ?_ ?_ ?_ (fun hwl => ?_) (hk.tr hB'))
        · rw [k1]
          unfold sp_pl
          rw [hfa, if_pos hp]
        · rw [k2]
          unfold sp_wy
          rw [hfa, if_pos hp]
        · rw [k3, hW.1]
          unfold sp_se
          rw [hfa, if_pos hp]
        · exact absurd ((sp_well_ok hwl).1 p hp) hw
    · intro c
      have e2 : ¬ (sp_at f p).1 = 2 := fun q => c (by rw [q]; rfl)
      exact ⟨rfl, fun q => absurd q e2⟩
    · intro c
      have e2 : (sp_at f p).1 = 2 := (eq_nI (b := 2) (by unfold sp_J at hJ; omega) (by omega)).mp c
      obtain ⟨g1, g2, g3, g4⟩ := hWT.2.1 e2
      rw [hW.2.1, nI_sub1 g1, cl_nI (by omega)]
      exact ⟨in_nI (by omega) (by omega), rfl, fun _ => by rw [(hW.2.2.1 _ (by omega)).2.1, g3]⟩
  · intro x1 x2 s ag hI
    obtain ⟨ho, rfl, rfl, hW, e4, e5, e6, hk⟩ := hI
    have hJ := sp_ok_J ho
    have hT' := hT.mk1 hk
    have hfe := sp_f_end ho
    have h3 : (sp_at f n).1 ≤ 3 := by
      unfold sp_J at hJ
      omega
    rw [hT'.2.1]
    refine ⟨fun _ => ⟨fun c => ?_, fun c => ?_⟩, fun c => absurd ((le_nI (by omega) (by omega)).mpr (Nat.le_refl n)) c⟩
    · have c : (sp_at f n).1 ≤ 1 := (le_nI (b := 1) (by omega) (by omega)).mp c
      refine h s ?_ ?_ ?_ (fun _ => hW) hk
      · rw [e4]
        unfold sp_pl
        rw [hfe, if_neg (Nat.lt_irrefl n), if_neg (by omega)]
      · rw [e5]
        unfold sp_wy
        rw [hfe, if_neg (Nat.lt_irrefl n), if_neg (by omega)]
      · rw [e6]
        unfold sp_se
        rw [hfe, if_neg (Nat.lt_irrefl n), if_neg (by omega)]
    · have c : ¬ (sp_at f n).1 ≤ 1 := fun q => c ((le_nI (b := 1) (by omega) (by omega)).mpr q)
      refine s_fails (fun σ' k1 k2 k3 hB' => h σ' ?_ ?_ ?_ (fun hwl => absurd (sp_well_ok hwl).2 c) (hk.tr hB'))
      · rw [k1]
        unfold sp_pl
        rw [hfe, if_neg (Nat.lt_irrefl n), if_pos (by omega)]
      · rw [k2]
        unfold sp_wy
        rw [hfe, if_neg (Nat.lt_irrefl n), if_pos (by omega)]
      · rw [k3, hW.1]
        unfold sp_se
        rw [hfe, if_neg (Nat.lt_irrefl n), if_pos (by omega)]
