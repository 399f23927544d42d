/-! ===== QUESTIONS: bent, drop, gap, deep, apart ===== -/
theorem c_bent {f : Nat → Nat} {n ru fe li wi td : Nat} {σ : tzS} (hC : CI f n ru fe li wi td σ) {Q : Int32 → tzS → Prop} (h : ∀ σ', CI f n ru fe li wi td σ' → qf σ σ' → Q (nI (bnt (cst f n ru fe) (rd_S f n) 8)) σ') : vc_X9_bent σ Q := by
  have hn := hC.1.1
  have r2 := (rd_ok (f := f) hn).2.1
  have hcb := cst_CB (f := f) (n := n) (ru := ru) (fe := fe) hn hC.2.1.2.1
  unfold vc_X9_bent
  refine c_read hC (fun σ1 hC1 hF hR _ hq => ?_)
  refine c_part hC1 hR (fun σ2 hC2 hR2 hP hq2 => ?_)
  replace h := h σ2 hC2 (hq.tr hq2)
  have b0 : bnt (cst f n ru fe) (rd_S f n) 2 = 0 := by
    rw [bnt_n (by omega), bnt_n (by omega)]
    rfl
  refine for2w 2 8 (fun i a r => a = nI (bnt (cst f n ru fe) (rd_S f n) i) ∧ r = σ2) (by omega) ⟨by rw [b0]; rfl, rfl⟩ ?_
  intro i a r ag i1 i2 hI hag
  obtain ⟨e1, e2⟩ := hI
  subst e2
  rw [hR2.1, nI_1]
  refine ⟨fun z => ?_, fun z => ⟨fun z2 => ?_, fun z2 => ?_⟩⟩
  · replace z := (le_nI (a := 8) (by omega) (by omega)).mp z
    have : i = 8 := by omega
    subst this
    rw [e1]; exact h
  · replace z2 := (le_nI (by omega) (by omega)).mp z2
    have := bnt_stop (c := cst f n ru fe) z2 (8 - i)
    rw [show i + (8 - i) = 8 by omega] at this
    rw [this] at h
    rw [e1]; exact h
  · replace z := (not_congr (le_nI (a := 8) (by omega) (by omega))).mp z
    replace z2 := (not_congr (le_nI (by omega) (by omega))).mp z2
    refine s_isBent hcb i1 (by omega) (by omega) hP.2 (fun w => ⟨fun _ x hx => ?_, fun y => absurd rfl y⟩) (fun w => ⟨fun y => absurd y nz1, fun _ x hx x2 hx2 => ?_⟩)
    · subst hx
      exact hag (by omega) _ _ ⟨by rw [e1, bnt_n (fun y => y.2.2 w)], rfl⟩
    · subst hx
      subst hx2
      refine hag (by omega) _ _ ⟨?_, rfl⟩
      rw [e1, or_bit (by omega), bnt_y ⟨i1, by omega, w⟩]
theorem m_bentOf {f : Nat → Nat} {n ru fe li wi td : Nat} {σ : tzS} (hM : MI f n ru fe li wi td σ) {Q : Int32 → tzS → Prop} (h : ∀ σ', MI f n ru fe li wi td σ' → mo σ σ' → Q (nI (bnt (cst f n ru fe) (rd_S f n) 8)) σ') : vc_X10_bentOf σ Q := by
  have hn := hM.1.1
  have r2 := (rd_ok (f := f) hn).2.1
  have hcb := cst_CB (f := f) (n := n) (ru := ru) (fe := fe) hn hM.2.2.2.1
  unfold vc_X10_bentOf
  refine m_partsTold hM (fun σ1 hM1 hP _ hk => ?_)
  replace h := h σ1 hM1 hk
  have b0 : bnt (cst f n ru fe) (rd_S f n) 2 = 0 := by
    rw [bnt_n (by omega), bnt_n (by omega)]
    rfl
  have or0 : ∀ u : Nat, nI u ||| 0 = nI u := fun u => by
    have : nI u ||| 0 = nI (u ||| 0) := fa_or u 0
    rw [this, Nat.or_zero]
  refine for2b 2 8 (fun i a r => a = nI (bnt (cst f n ru fe) (rd_S f n) i) ∧ r = σ1) (by omega) ⟨by rw [b0]; rfl, rfl⟩ ?_ ?_
  · intro i a r ag i1 i2 hI hag
    obtain ⟨e1, e2⟩ := hI
    subst e2
    refine ⟨fun z => absurd ((le_nI (a := 8) (by omega) (by omega)).mp z) (by omega), fun _ => ?_⟩
    refine s_totalNow r2 (by omega) hP ?_
    rw [nI_1, nI_sub1 (by omega)]
    refine ⟨fun v s3 => s3 = r ∧ ((v = 0 ∧ ¬ i < rd_S f n) ∨ (v = 1 ∧ i < rd_S f n)), ?_, ?_⟩
    · rintro v s3 ⟨v1, v2⟩ x3 hx3
      subst v1
      subst hx3
      rcases v2 with ⟨v2, v3⟩ | ⟨v2, v3⟩
      · refine ⟨fun _ x1 hx1 x2 hx2 => ?_, fun z => absurd v2 z⟩
        subst hx1
        subst hx2
        refine hag _ _ ⟨?_, rfl⟩
        rw [e1, or0, bnt_n (fun y => v3 y.2.1)]
      · refine ⟨fun z => absurd (v2.symm.trans z) nz1, fun _ => ?_⟩
        refine s_totalNow r2 (by omega) hP ?_
        refine s_totalNow r2 (by omega) hP ?_
        refine s_totalNow r2 (by omega) hP ?_
        rw [tmT_v (by omega) (by omega), tmT_v (by omega) (by omega), tmT_v (by omega) (by omega)]
        have b1 := pt_bd8 hcb (k := i - 1) (by omega) (by omega) (by omega)
        have b2 := pt_bd8 hcb (k := i + 1) (by omega) (by omega) (by omega)
        have b3 := pt_bd8 hcb (k := i) (by omega) (by omega) (by omega)
        have m1 : (2 : Int32) * nI (pt (cst f n ru fe) i (rd_S f n)).1 = nI (2 * (pt (cst f n ru fe) i (rd_S f n)).1) := pk_mul 2 _
        rw [m1, nI_add]
        have e := nI_ltI (a := (pt (cst f n ru fe) (i - 1) (rd_S f n)).1 + (pt (cst f n ru fe) (i + 1) (rd_S f n)).1) (b := 2 * (pt (cst f n ru fe) i (rd_S f n)).1) (by omega) (by omega)
        refine ⟨fun z x1 hx1 x2 hx2 => ?_, fun z x1 hx1 x2 hx2 => ?_⟩
        · subst hx1
          subst hx2
          refine hag _ _ ⟨?_, rfl⟩
          rw [e1, or0, bnt_n (fun y => y.2.2 (e.mp z))]
        · subst hx1
          subst hx2
          refine hag _ _ ⟨?_, rfl⟩
          rw [e1, or_bit (by omega), bnt_y ⟨i1, v3, (not_congr e).mp z⟩]
    · refine ⟨fun s3 => s3 = r ∧ ¬ i < rd_S f n, ?_, ?_, ?_⟩
      · rintro s3 ⟨v1, v2⟩
        exact ⟨v1, Or.inl ⟨rfl, v2⟩⟩
      · intro z
        refine ⟨rfl, fun w => ?_⟩
        rw [tmT_v (by omega) (by omega)] at z
        have b3 := pt_bd8 hcb (k := i) (by omega) (by omega) (by omega)
        exact absurd z (ne_m1 (by omega))
      · intro z
        refine s_totalNow r2 (by omega) hP ?_
        refine ⟨fun z2 => ⟨rfl, fun w => ?_⟩, fun z2 => ⟨rfl, Or.inr ⟨rfl, ?_⟩⟩⟩
        · rw [tmT_v (by omega) (by omega)] at z2
          have b3 := pt_bd8 hcb (k := i + 1) (by omega) (by omega) (by omega)
          exact absurd z2 (ne_m1 (by omega))
        · by_cases c : i < rd_S f n
          · exact c
          · rw [tmT_n (by omega) (by omega)] at z2
            exact absurd rfl z2
  · intro a r ag hI
    obtain ⟨e1, e2⟩ := hI
    subst e2
    rw [e1]
    exact ⟨fun _ => h, fun z => absurd ((le_nI (a := 8) (by omega) (by omega)).mpr (Nat.le_refl _)) z⟩
/-! drop -/
def a_drop (f : Nat → Nat) (n ru fe : Nat) (x y : Int32) : Int32 := if (1 ≤ un x ∧ un x ≤ 8) ∧ un y ≤ 1 then (if un y = 0 then (dr (rd_C f n ru fe) (rd_S f n) (un x) (rd_S f n)).1 else (dr (rd_C f n ru fe) (rd_S f n) (un x) (rd_S f n)).2) else -2
theorem c_drop {f : Nat → Nat} {n ru fe li wi td : Nat} {σ : tzS} {x y : Int32} (hC : CI f n ru fe li wi td σ) {Q : Int32 → tzS → Prop} (h : ∀ σ', CI f n ru fe li wi td σ' → qf σ σ' → Q (a_drop f n ru fe x y) σ') : vc_X9_drop x y σ Q := by
  unfold a_drop at h
  have bad : ¬ ((1 ≤ un x ∧ un x ≤ 8) ∧ un y ≤ 1) → Q (-2) σ := fun w => by
    have h := h σ hC qf.rf
    rw [if_neg w] at h
    exact h
  unfold vc_X9_drop vc_X9_noParts
  refine q_1le (S := 8) (Q := fun r_2 σ_1 => (¬ r_2 = 0 → Q (-2) σ_1) ∧ (r_2 = 0 → _)) (by omega) (fun h1 h8 => ⟨fun z => absurd rfl z, fun _ => ?_⟩) (fun hx => ⟨fun _ => bad (fun w => hx w.1), fun z => absurd z nz1⟩)
  refine ⟨fun zy => bad (by rw [un_neg zy]; omega), fun zy => ⟨fun zy2 => ?_, fun zy2 => bad (by have := (not_congr (un_le zy (b := 1) (by omega))).mp zy2; omega)⟩⟩
  replace zy2 := (un_le zy (b := 1) (by omega)).mp zy2
  rw [if_pos ⟨⟨h1, h8⟩, zy2⟩] at h
  have e0 : y = 0 ↔ un y = 0 := un_eq (b := 0) (by omega)
  refine c_read hC (fun σ1 hC1 hF hR _ hq => ?_)
  refine c_dropS hC1 hR (fun σ2 hC2 hR2 hD hq2 => ?_)
  replace h := h σ2 hC2 (hq.tr hq2)
  have ex := un_at (x := x) (b := 9) (by omega) (by omega)
  generalize un x = k at *
  subst ex
  rw [cl_nI (by omega), (hD k h8).1, (hD k h8).2]
  refine ⟨fun z => ⟨in_nI (by omega) (by omega), ?_⟩, fun z => ⟨in_nI (by omega) (by omega), ?_⟩⟩
  · rw [if_neg ((not_congr e0).mp z)] at h
    exact h
  · rw [if_pos (e0.mp z)] at h
    exact h
theorem m_dropOf {f : Nat → Nat} {n ru fe li wi td : Nat} {σ : tzS} {x y : Int32} (h1 : 1 ≤ un x) (h8 : un x ≤ 8) (hy : un y ≤ 1) (hM : MI f n ru fe li wi td σ) {Q : Int32 → tzS → Prop} (h : ∀ σ', MI f n ru fe li wi td σ' → mo σ σ' → Q (a_drop f n ru fe x y) σ') : vc_X10_dropOf x y σ Q := by
  unfold a_drop at h
  rw [if_pos ⟨⟨h1, h8⟩, hy⟩] at h
  have ex := un_at (x := x) (b := 9) (by omega) (by omega)
  have ey := un_at (x := y) (b := 9) (by omega) (by omega)
  generalize un x = k at *
  generalize un y = w at *
  subst ex
  subst ey
  exact s_dropOf hM.2.2.1 hM.2.2.2.1 h1 h8 hy hM.1 hM.2.1 (fun σ' hk => h σ' (hM.mo hk) hk)
theorem m_drop {f : Nat → Nat} {n ru fe li wi td : Nat} {σ : tzS} {x y : Int32} (hM : MI f n ru fe li wi td σ) {Q : Int32 → tzS → Prop} (h : ∀ σ', MI f n ru fe li wi td σ' → mo σ σ' → Q (a_drop f n ru fe x y) σ') : vc_X10_drop x y σ Q := by
  have bad : ¬ ((1 ≤ un x ∧ un x ≤ 8) ∧ un y ≤ 1) → Q (-2) σ := fun w => by
    have h := h σ hM mo.rf
    unfold a_drop at h
    rw [if_neg w] at h
    exact h
  unfold vc_X10_drop
  refine m_isParts (fun a b => ⟨fun z => absurd z nz1, fun _ => ?_⟩) (fun a => ⟨fun _ => bad (fun w => a w.1), fun z => absurd rfl z⟩)
  exact m_isTwo (fun c => ⟨fun z => absurd z nz1, fun _ => m_dropOf a b c hM h⟩) (fun c => ⟨fun _ => bad (fun w => c w.2), fun z => absurd rfl z⟩)
/-! gap -/
def a_gap (f : Nat → Nat) (n wi : Nat) (x y : Int32) : Int32 := if (1 ≤ un x ∧ un x < rd_S f n) ∧ un y ≤ 1 then (if un y = 0 then nI (rd_al f n wi (un x)) else nI (rd_dp f n wi (un x))) else -2
theorem c_gap {f : Nat → Nat} {n ru fe li wi td : Nat} {σ : tzS} {x y : Int32} (hC : CI f n ru fe li wi td σ) {Q : Int32 → tzS → Prop} (h : ∀ σ', CI f n ru fe li wi td σ' → qf σ σ' → Q (a_gap f n wi x y) σ') : vc_X9_gap x y σ Q := by
  have r2 := (rd_ok (f := f) hC.1.1).2.1
  unfold vc_X9_gap
  refine c_read hC (fun σ1 hC1 hF hR _ hq => ?_)
  unfold a_gap at h
  have bad : ¬ ((1 ≤ un x ∧ un x < rd_S f n) ∧ un y ≤ 1) → Q (-2) σ1 := fun w => by
    have h := h σ1 hC1 hq
    rw [if_neg w] at h
    exact h
  unfold vc_X9_noGap
  rw [hR.1]
  refine q_1lt (Q := fun r_3 σ_2 => (¬ r_3 = 0 → Q (-2) σ_2) ∧ (r_3 = 0 → _)) (by omega) (fun hx1 hx => ⟨fun z => absurd rfl z, fun _ => ?_⟩) (fun hx => ⟨fun _ => bad (fun w => hx w.1), fun z => absurd z nz1⟩)
  refine ⟨fun z => bad (by rw [un_neg z]; omega), fun z => ⟨fun z2 => ?_, fun z2 => bad (by have := (not_congr (un_le z (b := 1) (by omega))).mp z2; omega)⟩⟩
  replace z2 := (un_le z (b := 1) (by omega)).mp z2
  rw [if_pos ⟨⟨hx1, hx⟩, z2⟩] at h
  have e0 : y = 0 ↔ un y = 0 := un_eq (b := 0) (by omega)
  refine c_gaps hC1 hR (fun σ2 hC2 hR2 hG hq2 => ?_)
  replace h := h σ2 hC2 (hq.tr hq2)
  have ex := un_at hx (by omega)
  generalize un x = g at *
  subst ex
  rw [cl_nI (by omega), (hG.1 g hx1 hx).1, (hG.1 g hx1 hx).2]
  refine ⟨fun z => ⟨in_nI (by omega) (by omega), ?_⟩, fun z => ⟨in_nI (by omega) (by omega), ?_⟩⟩
  · rw [if_neg ((not_congr e0).mp z)] at h
    exact h
  · rw [if_pos (e0.mp z)] at h
    exact h
theorem m_gap {f : Nat → Nat} {n ru fe li wi td : Nat} {σ : tzS} {x y : Int32} (hM : MI f n ru fe li wi td σ) {Q : Int32 → tzS → Prop} (h : ∀ σ', MI f n ru fe li wi td σ' → mo σ σ' → Q (a_gap f n wi x y) σ') : vc_X10_gap x y σ Q := by
  have hn := hM.1.1
  have r2 := (rd_ok (f := f) hn).2.1
  unfold a_gap at h
  have bad : ∀ σ', MI f n ru fe li wi td σ' → mo σ σ' → ¬ ((1 ≤ un x ∧ un x < rd_S f n) ∧ un y ≤ 1) → Q (-2) σ' := fun σ' a b w => by
    have h := h σ' a b
    rw [if_neg w] at h
    exact h
  unfold vc_X10_gap
  refine m_isGap hM (fun σ1 hM1 hR hk hx1 hx => ⟨fun z => absurd z nz1, fun _ => ?_⟩) (fun σ1 hM1 hk hx => ⟨fun _ => bad σ1 hM1 hk (fun w => hx w.1), fun z => absurd rfl z⟩)
  refine m_isTwo (fun hy => ⟨fun z => absurd z nz1, fun _ => ?_⟩) (fun hy => ⟨fun _ => bad σ1 hM1 hk (fun w => hy w.2), fun z => absurd rfl z⟩)
  rw [if_pos ⟨⟨hx1, hx⟩, hy⟩] at h
  replace h := h σ1 hM1 hk
  have e0 : y = 0 ↔ un y = 0 := un_eq (b := 0) (by omega)
  have ex := un_at hx (by omega)
  generalize un x = g at *
  subst ex
  refine ⟨fun z => ?_, fun z => ?_⟩
  · rw [if_neg ((not_congr e0).mp z)] at h
    exact s_depth hn hM.2.2.2.2.2.1 hx1 hx hR hM1.2.1.2.2.2 h
  · rw [if_pos (e0.mp z)] at h
    exact s_alike hn hM.2.2.2.2.2.1 hx1 (by omega) hR hM1.2.1.2.2.2 h
/-! deep -/
theorem SO_un {D : Nat → Nat} {m : Nat} {A A' : Nat → Nat} (h : SO D m A) (h' : SO D m A') : ∀ p, p < m → A p = A' p := by
  intro p
  induction p using Nat.strongRecOn with
  | ind p ih =>
    intro hp
    have inj : ∀ {A : Nat → Nat}, SO D m A → ∀ a b, a < b → b < m → A a ≠ A b := fun hA a b h1 h2 e => by
      have := hA.2.1 a b h1 h2
      rw [e] at this
      unfold bf at this
      omega
    obtain ⟨r, r1, r2⟩ := h'.2.2 (A p) (h.1 p hp).1 (h.1 p hp).2
    obtain ⟨q, q1, q2⟩ := h.2.2 (A' p) (h'.1 p hp).1 (h'.1 p hp).2
    by_cases c : r = p
    · rw [← r2, c]
    · by_cases c2 : r < p
      · exfalso
        have e := ih r c2 r1
        exact inj h r p c2 hp (e.trans r2)
      · by_cases c3 : q = p
        · rw [← q2, c3]
        · by_cases c4 : q < p
          · exfalso
            have e := ih q c4 q1
            exact inj h' q p c4 hp (e.symm.trans q2)
          · exfalso
            have b1 := h'.2.1 p r (by omega) r1
            have b2 := h.2.1 p q (by omega) q1
            rw [r2] at b1
            rw [q2] at b2
            unfold bf at b1 b2
            omega
def a_deep (A : Nat → Nat) (m : Nat) (x : Int32) : Int32 := if un x < 11 then dpA A m (un x) else -2
theorem c_deep {f : Nat → Nat} {n ru fe li wi td : Nat} {A : Nat → Nat} (hA : SO (rd_dp f n wi) (rd_S f n - 1) A) {σ : tzS} {x : Int32} (hC : CI f n ru fe li wi td σ) {Q : Int32 → tzS → Prop} (h : ∀ σ', CI f n ru fe li wi td σ' → qf σ σ' → Q (a_deep A (rd_S f n - 1) x) σ') : vc_X9_deep x σ Q := by
  have r2 := (rd_ok (f := f) hC.1.1).2.1
  unfold a_deep at h
  have bad : ¬ un x < 11 → Q (-2) σ := fun w => by
    have h := h σ hC qf.rf
    rw [if_neg w] at h
    exact h
  unfold vc_X9_deep
  refine ⟨fun z => bad (by rw [un_neg z]; omega), fun z => ⟨fun z2 => ?_, fun z2 => bad (by have := (not_congr (un_lt z (b := 11) (by omega))).mp z2; omega)⟩⟩
  replace z2 := (un_lt z (b := 11) (by omega)).mp z2
  rw [if_pos z2] at h
  refine c_read hC (fun σ1 hC1 hF hR _ hq => ?_)
  rw [hR.1]
  have ex := un_at z2 (by omega)
  generalize un x = k at *
  subst ex
  have hz : nI k < nI (rd_S f n) - 1 ↔ k < rd_S f n - 1 := by
    by_cases s0 : rd_S f n = 0
    · rw [s0]
      have : (nI 0 - 1 : Int32).toInt = -1 := rfl
      rw [Int32.lt_iff_toInt_lt, nI_toInt (by omega)]
      omega
    · rw [nI_sub1 (by omega)]
      exact lt_nI (by omega) (by omega)
  unfold dpA at h
  refine ⟨fun z3 => ?_, fun z3 => ?_⟩
  · replace z3 := hz.mp z3
    rw [if_pos z3] at h
    refine c_gaps hC1 hR (fun σ2 hC2 hR2 hG hq2 => ?_)
    obtain ⟨A', hA', hs'⟩ := hG.2
    rw [cl_nI (by omega), hs' k z3, ← SO_un hA hA' k z3]
    exact ⟨in_nI (by omega) (by omega), h σ2 hC2 (hq.tr hq2)⟩
  · rw [if_neg ((not_congr hz).mp z3)] at h
    exact h σ1 hC1 hq
theorem m_deep {f : Nat → Nat} {n ru fe li wi td : Nat} {A : Nat → Nat} (hA : SO (rd_dp f n wi) (rd_S f n - 1) A) {σ : tzS} {x : Int32} (hM : MI f n ru fe li wi td σ) {Q : Int32 → tzS → Prop} (h : ∀ σ', MI f n ru fe li wi td σ' → mo σ σ' → Q (a_deep A (rd_S f n - 1) x) σ') : vc_X10_deep x σ Q := by
  unfold a_deep at h
  unfold vc_X10_deep
  refine s_inU (lo := 0) (hi := 10) (by omega) (by omega) (fun _ b => ⟨fun z => absurd z nz1, fun _ => ?_⟩) (fun a => ⟨fun _ => ?_, fun z => absurd rfl z⟩)
  · rw [if_pos (by omega)] at h
    have ex := un_at (x := x) (b := 11) (by omega) (by omega)
    generalize un x = k at *
    subst ex
    exact s_deepOf hM.2.2.2.2.2.1 b hA hM.1 hM.2.1 (fun σ' hk => h σ' (hM.mo hk) hk)
  · rw [if_neg (by omega)] at h
    exact h σ hM mo.rf
