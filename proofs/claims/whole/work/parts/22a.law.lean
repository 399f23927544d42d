/-! ===== THE LAW ===== -/
theorem s_law {Ln : Nat} (hL : Ln < 2 ^ 31) {xs : Nat → Int32} {σ : tzS} (hI : INV σ) {Q : Int32 → tzS → Prop} (h : ∀ σ', Q 1 σ') : vc_law Ln xs σ Q := by
  have cmp : ∀ i, i ≤ Ln → ((Int32.ofNat Ln) - 6 < nI i ↔ Ln < i + 6) := by
    intro i hi
    have e : (Int32.ofNat Ln - 6).toInt = (Ln : Int) - 6 := by
      rw [Int32.toInt_sub, show (Int32.ofNat Ln).toInt = (Ln : Int) from nI_toInt hL, show (6 : Int32).toInt = 6 from rfl, Int.bmod_eq_of_le (by omega) (by omega)]
    rw [Int32.lt_iff_toInt_lt, e, nI_toInt (by omega)]
    omega
  unfold vc_law
  refine ⟨fun m x s => ∃ i, x = nI i ∧ i ≤ Ln ∧ m = Ln - i ∧ INV s, ⟨Ln, 0, rfl, Nat.zero_le _, rfl, hI⟩, ?_⟩
  rintro m x s ⟨i, rfl, hi, rfl, hI⟩
  refine ⟨fun _ => h s, fun z => ?_⟩
  replace z := (not_congr (cmp i hi)).mp z
  have v : ∀ j, j < 6 → vp_in (nI (i + j)) Ln := fun j hj => vp_in_nI (by omega) hL
  have v0 : vp_in (nI i) Ln := vp_in_nI (by omega) hL
  have v1 : vp_in (nI i + 1) Ln := by rw [show nI i + 1 = nI (i + 1) from nI_add i 1]; exact v 1 (by omega)
  have v2 : vp_in (nI i + 2) Ln := by rw [show nI i + 2 = nI (i + 2) from nI_add i 2]; exact v 2 (by omega)
  have v3 : vp_in (nI i + 3) Ln := by rw [show nI i + 3 = nI (i + 3) from nI_add i 3]; exact v 3 (by omega)
  have v4 : vp_in (nI i + 4) Ln := by rw [show nI i + 4 = nI (i + 4) from nI_add i 4]; exact v 4 (by omega)
  have v5 : vp_in (nI i + 5) Ln := by rw [show nI i + 5 = nI (i + 5) from nI_add i 5]; exact v 5 (by omega)
  have go : ∀ s' : tzS, INV s' → ∀ x3 : Int32, x3 = nI i + 6 → ∃ n', n' < Ln - i ∧ ∃ j, x3 = nI j ∧ j ≤ Ln ∧ n' = Ln - j ∧ INV s' := by
    intro s' hs' x3 hx3
    exact ⟨Ln - (i + 6), by omega, i + 6, by rw [hx3]; exact nI_add i 6, by omega, rfl, hs'⟩
  refine ⟨v0, ?_, ?_, ?_, ?_, ?_, ?_, ?_, ?_, ?_, ?_, ?_, ?_, ?_, ?_, ?_, ?_, ?_, ?_, ?_, ?_, ?_, ?_, ?_, ?_, ?_, ?_, ?_, ?_, ?_, ?_, ?_⟩
  · exact fun _ => ⟨v1, p_type hI (fun A s' hs' => ⟨fun _ => go s' hs', fun w => absurd rfl w⟩)⟩
  · exact fun _ => p_wipe hI (fun A s' hs' => ⟨fun _ => go s' hs', fun w => absurd rfl w⟩)
  · exact fun _ => p_undo hI (fun A s' hs' => ⟨fun _ => go s' hs', fun w => absurd rfl w⟩)
  · exact fun _ => ⟨v1, p_fault hI (fun A s' hs' => ⟨fun _ => go s' hs', fun w => absurd rfl w⟩)⟩
  · exact fun _ => ⟨v1, v2, p_set hI (fun A s' hs' => ⟨fun _ => go s' hs', fun w => absurd rfl w⟩)⟩
  · exact fun _ => ⟨v1, p_tell hI (fun A s' hs' => ⟨fun _ => go s' hs', fun w => absurd rfl w⟩)⟩
  · exact fun _ => ⟨v1, p_read hI (fun A s' hs' => ⟨fun _ => go s' hs', fun w => absurd rfl w⟩)⟩
  · exact fun _ => ⟨v1, v2, p_sentence hI (fun A s' hs' => ⟨fun _ => go s' hs', fun w => absurd rfl w⟩)⟩
  · exact fun _ => ⟨v1, v2, p_word hI (fun A s' hs' => ⟨fun _ => go s' hs', fun w => absurd rfl w⟩)⟩
  · exact fun _ => ⟨v1, v2, p_stem hI (fun A s' hs' => ⟨fun _ => go s' hs', fun w => absurd rfl w⟩)⟩
  · exact fun _ => ⟨v1, v2, p_letter hI (fun A s' hs' => ⟨fun _ => go s' hs', fun w => absurd rfl w⟩)⟩
  · exact fun _ => p_chains hI (fun A s' hs' => ⟨fun _ => go s' hs', fun w => absurd rfl w⟩)
  · exact fun _ => ⟨v1, v2, p_chain hI (fun A s' hs' => ⟨fun _ => go s' hs', fun w => absurd rfl w⟩)⟩
  · exact fun _ => ⟨v1, v2, p_over hI (fun A s' hs' => ⟨fun _ => go s' hs', fun w => absurd rfl w⟩)⟩
  · exact fun _ => ⟨v1, v2, p_cost hI (fun A s' hs' => ⟨fun _ => go s' hs', fun w => absurd rfl w⟩)⟩
  · exact fun _ => ⟨v1, p_best hI (fun A s' hs' => ⟨fun _ => go s' hs', fun w => absurd rfl w⟩)⟩
  · exact fun _ => ⟨v1, v2, p_seam hI (fun A s' hs' => ⟨fun _ => go s' hs', fun w => absurd rfl w⟩)⟩
  · exact fun _ => p_bent hI (fun A s' hs' => ⟨fun _ => go s' hs', fun w => absurd rfl w⟩)
  · exact fun _ => ⟨v1, v2, p_drop hI (fun A s' hs' => ⟨fun _ => go s' hs', fun w => absurd rfl w⟩)⟩
  · exact fun _ => ⟨v1, v2, p_gap hI (fun A s' hs' => ⟨fun _ => go s' hs', fun w => absurd rfl w⟩)⟩
  · exact fun _ => ⟨v1, p_deep hI (fun A s' hs' => ⟨fun _ => go s' hs', fun w => absurd rfl w⟩)⟩
  · exact fun _ => ⟨v1, v2, p_apart hI (fun A s' hs' => ⟨fun _ => go s' hs', fun w => absurd rfl w⟩)⟩
  · exact fun _ => ⟨v1, v2, v3, p_sheet hI (fun A s' hs' => ⟨fun _ => go s' hs', fun w => absurd rfl w⟩)⟩
  · exact fun _ => ⟨v1, p_lose hI (fun A s' hs' => ⟨fun _ => go s' hs', fun w => absurd rfl w⟩)⟩
  · exact fun _ => ⟨v1, v2, v3, v4, p_put hI (fun A s' hs' => ⟨fun _ => go s' hs', fun w => absurd rfl w⟩)⟩
  · exact fun _ => ⟨v1, v2, v3, p_get hI (fun A s' hs' => ⟨fun _ => go s' hs', fun w => absurd rfl w⟩)⟩
  · exact fun _ => ⟨v1, v2, v3, v4, v5, p_copy hI (fun A s' hs' => ⟨fun _ => go s' hs', fun w => absurd rfl w⟩)⟩
  · exact fun _ => ⟨v1, v2, p_write hI (fun A s' hs' => ⟨fun _ => go s' hs', fun w => absurd rfl w⟩)⟩
  · exact fun _ => ⟨v1, p_count hI (fun A s' hs' => ⟨fun _ => go s' hs', fun w => absurd rfl w⟩)⟩
  · exact fun _ => p_digest hI (fun A s' hs' => ⟨fun _ => go s' hs', fun w => absurd (lg_cmp_0.mpr rfl) w⟩)
  · intros
    exact go s hI _ (by assumption)
