/-! what the tables of words become with one byte more -/
theorem sp_start_t {f : Nat → Nat} {p : Nat} (hL : sp_L (f p) = true) (h2 : (sp_at f p).1 ≠ 2) : sp_start f p = true := by simp [sp_start, hL, h2]
theorem sp_start_c {f : Nat → Nat} {p : Nat} (h2 : (sp_at f p).1 = 2) : sp_start f p = false := by simp [sp_start, h2]
theorem sp_start_n {f : Nat → Nat} {p : Nat} (hL : ¬ sp_L (f p) = true) : sp_start f p = false := by simp [sp_start, hL]
theorem sp_at_t {f : Nat → Nat} {p : Nat} (hL : sp_L (f p) = true) (h2 : (sp_at f p).1 ≠ 2) : sp_at f (p + 1) = (2, (sp_at f p).2.1 + 1, (sp_at f p).2.2.1, 1) := by
  show sp_step _ _ = _
  unfold sp_step
  rw [if_pos hL, if_neg h2, if_neg h2]
theorem sp_at_c {f : Nat → Nat} {p : Nat} (hL : sp_L (f p) = true) (h2 : (sp_at f p).1 = 2) : sp_at f (p + 1) = (2, (sp_at f p).2.1, (sp_at f p).2.2.1, (sp_at f p).2.2.2 + 1) := by
  show sp_step _ _ = _
  unfold sp_step
  rw [if_pos hL, if_pos h2, if_pos h2]
theorem sp_L46 : ¬ sp_L 46 = true := by decide
theorem sp_at_d {f : Nat → Nat} {p : Nat} (hd : f p = 46) : sp_at f (p + 1) = (1, 0, (sp_at f p).2.2.1 + 1, 0) := by
  show sp_step _ _ = _
  unfold sp_step
  rw [hd, if_neg sp_L46, if_pos rfl]
theorem sp_at_b {f : Nat → Nat} {p : Nat} (hL : ¬ sp_L (f p) = true) (hd : f p ≠ 46) : sp_at f (p + 1) = ((if (sp_at f p).1 = 1 then 0 else 3), (sp_at f p).2.1, (sp_at f p).2.2.1, 0) := by
  show sp_step _ _ = _
  unfold sp_step
  rw [if_neg hL, if_neg hd]
theorem sp_wc_t {f : Nat → Nat} {p : Nat} (h : sp_start f p = true) : sp_wc f (p + 1) = sp_wc f p + 1 := by simp [sp_wc, h]
theorem sp_wc_n {f : Nat → Nat} {p : Nat} (h : sp_start f p = false) : sp_wc f (p + 1) = sp_wc f p := by simp [sp_wc, h]
theorem sp_tA_t {f : Nat → Nat} {p : Nat} (h : sp_start f p = true) (k : Nat) : sp_tA f (p + 1) k = if k = sp_wc f p then p else sp_tA f p k := by simp [sp_tA, h]
theorem sp_tA_n {f : Nat → Nat} {p : Nat} (h : sp_start f p = false) (k : Nat) : sp_tA f (p + 1) k = sp_tA f p k := by simp [sp_tA, h]
theorem sp_tN_t {f : Nat → Nat} {p : Nat} (h : sp_start f p = true) (k : Nat) : sp_tN f (p + 1) k = if k = sp_wc f p then (sp_at f p).2.2.1 else sp_tN f p k := by simp [sp_tN, h]
theorem sp_tN_n {f : Nat → Nat} {p : Nat} (h : sp_start f p = false) (k : Nat) : sp_tN f (p + 1) k = sp_tN f p k := by simp [sp_tN, h]
theorem sp_tG_t {f : Nat → Nat} {p : Nat} (h : sp_L (f p) = true) (k : Nat) : sp_tG f (p + 1) k = if k + 1 = sp_wc f (p + 1) then (sp_at f (p + 1)).2.2.2 else sp_tG f p k := by simp [sp_tG, h]
theorem sp_tG_n {f : Nat → Nat} {p : Nat} (h : ¬ sp_L (f p) = true) (k : Nat) : sp_tG f (p + 1) k = sp_tG f p k := by simp [sp_tG, h]
/-- the words so far: where they lie, that they are letters, of which sentences -/
def sp_WT (f : Nat → Nat) (p : Nat) : Prop :=
  (∀ k, k < sp_wc f p → sp_tA f p k + sp_tG f p k ≤ p ∧ 1 ≤ sp_tG f p k ∧ sp_tG f p k ≤ 10 ∧ (∀ j, j < sp_tG f p k → sp_L (f (sp_tA f p k + j)) = true) ∧ sp_tN f p k ≤ (sp_at f p).2.2.1 ∧ sp_tN f p k ≤ 11) ∧
  ((sp_at f p).1 = 2 → 1 ≤ sp_wc f p ∧ sp_tA f p (sp_wc f p - 1) + (sp_at f p).2.2.2 = p ∧ sp_tG f p (sp_wc f p - 1) = (sp_at f p).2.2.2 ∧ sp_tN f p (sp_wc f p - 1) = (sp_at f p).2.2.1) ∧
  (∀ k k', k ≤ k' → k' < sp_wc f p → sp_tN f p k ≤ sp_tN f p k') ∧
  (sp_at f p).2.1 = fb_ct (fun k => decide (sp_tN f p k = (sp_at f p).2.2.1)) (sp_wc f p) ∧
  (∀ s, s < (sp_at f p).2.2.1 → ∃ k, k < sp_wc f p ∧ sp_tN f p k = s)
theorem sp_WT_0 (f : Nat → Nat) : sp_WT f 0 := by
  refine ⟨fun k hk => ?_, fun h => ?_, fun k k' _ hk => ?_, rfl, fun s hs => ?_⟩
  · exact absurd hk (Nat.not_lt_zero k)
  · exact absurd (show (0 : Nat) = 2 from h) (by decide)
  · exact absurd hk (Nat.not_lt_zero k')
  · exact absurd hs (Nat.not_lt_zero s)
theorem sp_WT_s {f : Nat → Nat} {p : Nat} (ho : sp_ok f (p + 1)) (h : sp_WT f p) : sp_WT f (p + 1) := by
  obtain ⟨h1, h2, h3, h4, h5⟩ := h
  have hJ := sp_ok_J (fun q hq => ho q (by omega) : sp_ok f p)
  have hw := ho p (by omega)
  by_cases hL : sp_L (f p) = true
  · by_cases e2 : (sp_at f p).1 = 2
    · -- one letter more
      have hs := sp_start_c e2
      have ea := sp_at_c hL e2
      obtain ⟨g1, g2, g3, g4⟩ := h2 e2
      have hl10 : (sp_at f p).2.2.2 ≠ 10 := by
        intro q
        unfold sp_why at hw
        rw [if_pos hL, if_pos e2, if_pos q] at hw
        exact absurd hw (by decide)
      have hl : (sp_at f p).2.2.2 ≤ 10 := by
        unfold sp_J at hJ
        omega
      unfold sp_WT
      rw [sp_wc_n hs, ea]
      dsimp only
      refine ⟨fun k hk => ?_, fun _ => ⟨g1, ?_, ?_, ?_⟩, fun k k' hkk hk' => ?_, ?_, fun s hs' => ?_⟩
      · obtain ⟨a1, a2, a3, a4, a5, a6⟩ := h1 k hk
        rw [sp_tA_n hs, sp_tN_n hs, sp_tG_t hL, sp_wc_n hs, ea]
        by_cases hk1 : k + 1 = sp_wc f p
        · rw [if_pos hk1]
          have ek : k = sp_wc f p - 1 := by omega
          subst ek
          dsimp only
          refine ⟨by omega, by omega, by omega, fun j hj => ?_, a5, a6⟩
          by_cases hj2 : j < (sp_at f p).2.2.2
          · exact a4 j (by omega)
          · have : sp_tA f p (sp_wc f p - 1) + j = p := by omega
            rw [this]
            exact hL
        · rw [if_neg hk1]
          exact ⟨by omega, a2, a3, a4, a5, a6⟩
      · rw [sp_tA_n hs]
        omega
      · rw [sp_tG_t hL, sp_wc_n hs, if_pos (by omega), ea]
      · rw [sp_tN_n hs]
        exact g4
      · rw [sp_tN_n hs, sp_tN_n hs]
        exact h3 k k' hkk hk'
      · rw [h4]
        exact fb_ct_cong (fun k _ => by rw [sp_tN_n hs])
      · obtain ⟨k, hk, e⟩ := h5 s hs'
        exact ⟨k, hk, by rw [sp_tN_n hs]; exact e⟩
    · -- a word begins
      have hs := sp_start_t hL e2
      have ea := sp_at_t hL e2
      have hs11 : (sp_at f p).2.2.1 ≤ 11 := by
        unfold sp_why at hw
        rw [if_pos hL, if_neg e2] at hw
        by_cases q : (sp_at f p).2.2.1 = 12 ∨ (sp_at f p).2.1 = 9
        · rw [if_pos q] at hw
          exact absurd hw (by decide)
        · unfold sp_J at hJ
          omega
      unfold sp_WT
      rw [sp_wc_t hs, ea]
      dsimp only
      refine ⟨fun k hk => ?_, fun _ => ⟨by omega, ?_, ?_, ?_⟩, fun k k' hkk hk' => ?_, ?_, fun s hs' => ?_⟩
      · rw [sp_tA_t hs, sp_tN_t hs, sp_tG_t hL, sp_wc_t hs, ea]
        by_cases ek : k = sp_wc f p
        · subst ek
          simp only [if_true]
          refine ⟨by omega, by omega, by omega, fun j hj => ?_, by omega, hs11⟩
          have : j = 0 := by omega
          subst this
          exact hL
        · rw [if_neg ek, if_neg ek, if_neg (by omega)]
          obtain ⟨a1, a2, a3, a4, a5, a6⟩ := h1 k (by omega)
          exact ⟨by omega, a2, a3, a4, a5, a6⟩
      · rw [sp_tA_t hs, if_pos (by omega)]
      · rw [sp_tG_t hL, sp_wc_t hs, if_pos (by omega), ea]
      · rw [sp_tN_t hs, if_pos (by omega)]
      · rw [sp_tN_t hs, sp_tN_t hs]
        by_cases e1 : k' = sp_wc f p
        · rw [if_pos e1]
          by_cases e3 : k = sp_wc f p
          · rw [if_pos e3]
            exact Nat.le_refl _
          · rw [if_neg e3]
            exact (h1 k (by omega)).2.2.2.2.1
        · rw [if_neg e1, if_neg (by omega)]
          exact h3 k k' hkk (by omega)
      · rw [fb_ct_succ, sp_tN_t hs, if_pos rfl, if_pos (by simp), h4]
        congr 1
        exact fb_ct_cong (fun k hk => by rw [sp_tN_t hs, if_neg (by omega)])
      · obtain ⟨k, hk, e⟩ := h5 s hs'
        exact ⟨k, by omega, by rw [sp_tN_t hs, if_neg (by omega)]; exact e⟩
  · have hs := sp_start_n hL
    by_cases hd : f p = 46
    · -- a dot
      have ea := sp_at_d hd
      have e2 : (sp_at f p).1 = 2 := by
        unfold sp_why at hw
        rw [hd, if_neg sp_L46, if_neg (by decide), if_pos rfl] at hw
        by_cases q : (sp_at f p).1 = 2
        · exact q
        · rw [if_neg q] at hw
          exact absurd hw (by decide)
      obtain ⟨g1, g2, g3, g4⟩ := h2 e2
      unfold sp_WT
      rw [sp_wc_n hs, ea]
      dsimp only
      refine ⟨fun k hk => ?_, fun q => absurd q (by decide), fun k k' hkk hk' => ?_, ?_, fun s hs' => ?_⟩
      · obtain ⟨a1, a2, a3, a4, a5, a6⟩ := h1 k hk
        rw [sp_tA_n hs, sp_tN_n hs, sp_tG_n hL]
        exact ⟨by omega, a2, a3, a4, by omega, a6⟩
      · rw [sp_tN_n hs, sp_tN_n hs]
        exact h3 k k' hkk hk'
      · refine (fb_ct_zero.mpr (fun k hk => ?_)).symm
        have := (h1 k hk).2.2.2.2.1
        rw [sp_tN_n hs]
        simp
        omega
      · by_cases q : s < (sp_at f p).2.2.1
        · obtain ⟨k, hk, e⟩ := h5 s q
          exact ⟨k, hk, by rw [sp_tN_n hs]; exact e⟩
        · exact ⟨sp_wc f p - 1, by omega, by rw [sp_tN_n hs]; omega⟩
    · -- a blank
      have ea := sp_at_b hL hd
      unfold sp_WT
      rw [sp_wc_n hs, ea]
      dsimp only
      refine ⟨fun k hk => ?_, fun q => ?_, fun k k' hkk hk' => ?_, ?_, fun s hs' => ?_⟩
      · obtain ⟨a1, a2, a3, a4, a5, a6⟩ := h1 k hk
        rw [sp_tA_n hs, sp_tN_n hs, sp_tG_n hL]
        exact ⟨by omega, a2, a3, a4, a5, a6⟩
      · split at q <;> exact absurd q (by decide)
      · rw [sp_tN_n hs, sp_tN_n hs]
        exact h3 k k' hkk hk'
      · rw [h4]
        exact fb_ct_cong (fun k _ => by rw [sp_tN_n hs])
      · obtain ⟨k, hk, e⟩ := h5 s hs'
        exact ⟨k, hk, by rw [sp_tN_n hs]; exact e⟩
theorem sp_WT_ok {f : Nat → Nat} : ∀ {p : Nat}, sp_ok f p → sp_WT f p
  | 0, _ => sp_WT_0 f
  | p + 1, h => sp_WT_s h (sp_WT_ok (fun q hq => h q (by omega)))
/-- later bytes leave the words that are complete, and their beginnings, as they are -/
theorem sp_keep {f : Nat → Nat} {p : Nat} : ∀ {d : Nat}, sp_wc f p ≤ sp_wc f (p + d) ∧ (∀ k, k < sp_wc f p → sp_tA f (p + d) k = sp_tA f p k ∧ sp_tN f (p + d) k = sp_tN f p k) ∧ (∀ k, k < sp_wc f p → (k + 1 < sp_wc f p ∨ (sp_at f p).1 ≠ 2) → sp_tG f (p + d) k = sp_tG f p k ∧ (d = 0 ∨ k + 1 < sp_wc f (p + d) ∨ (sp_at f (p + d)).1 ≠ 2))
  | 0 => ⟨Nat.le_refl _, fun _ _ => ⟨rfl, rfl⟩, fun _ _ _ => ⟨rfl, Or.inl rfl⟩⟩
  | d + 1 => by
    obtain ⟨h1, h2, h3⟩ := sp_keep (f := f) (p := p) (d := d)
    have hdd : p + (d + 1) = (p + d) + 1 := rfl
    rw [hdd]
    by_cases hs : sp_start f (p + d) = true
    · refine ⟨by rw [sp_wc_t hs]; omega, fun k hk => ?_, fun k hk hc => ?_⟩
      · rw [sp_tA_t hs, sp_tN_t hs, if_neg (by omega), if_neg (by omega)]
        exact h2 k hk
      · have hL : sp_L (f (p + d)) = true := by
          simp [sp_start] at hs
          exact hs.1
        rw [sp_tG_t hL, sp_wc_t hs, if_neg (by omega)]
        exact ⟨(h3 k hk hc).1, Or.inr (Or.inl (by omega))⟩
    · have hs' : sp_start f (p + d) = false := by simpa using hs
      refine ⟨by rw [sp_wc_n hs']; exact h1, fun k hk => ?_, fun k hk hc => ?_⟩
      · rw [sp_tA_n hs', sp_tN_n hs']
        exact h2 k hk
      · obtain ⟨g1, g2⟩ := h3 k hk hc
        by_cases hL : sp_L (f (p + d)) = true
        · have e2 : (sp_at f (p + d)).1 = 2 := by
            simp [sp_start, hL] at hs'
            exact hs'
          have hk1 : k + 1 < sp_wc f (p + d) := by
            rcases g2 with g2 | g2 | g2
            · subst g2
              rcases hc with hc | hc
              · exact hc
              · exact absurd e2 hc
            · exact g2
            · exact absurd e2 g2
          rw [sp_tG_t hL, sp_wc_n hs', if_neg (by omega)]
          exact ⟨g1, Or.inr (Or.inl hk1)⟩
        · rw [sp_tG_n hL]
          refine ⟨g1, Or.inr (Or.inr ?_)⟩
          by_cases hd : f (p + d) = 46
          · rw [sp_at_d hd]
            exact (by decide : (1 : Nat) ≠ 2)
          · rw [sp_at_b hL hd]
            dsimp only
            split <;> decide
