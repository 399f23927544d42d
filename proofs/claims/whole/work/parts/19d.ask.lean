/-! ===== QUESTIONS: over, cost, best, seam, bent, drop, gap, deep ===== -/
def ov (C : chS) (g : Int32) (i : Nat) : Bool := decide (¬ g ≤ nI (C.2 i).2.1 ∧ ¬ nI (C.2 i).2.2.1 < g)
def ovw (C : chS) (g : Int32) : Nat → Int32
  | 0 => 0
  | i + 1 => if ov C g i = true then ovw C g i + wgt C i else ovw C g i
theorem ovw_y {C : chS} {g : Int32} {i : Nat} (h : ov C g i = true) : ovw C g (i + 1) = ovw C g i + wgt C i := if_pos h
theorem ovw_n {C : chS} {g : Int32} {i : Nat} (h : ¬ ov C g i = true) : ovw C g (i + 1) = ovw C g i := if_neg h
def a_over (f : Nat → Nat) (n li : Nat) (x y : Int32) : Int32 := if (1 ≤ un x ∧ un x < rd_S f n) ∧ un y ≤ 1 then (if un y = 0 then nI (fb_ct (ov (rd_ch f n li) x) (rd_ch f n li).1) else ovw (rd_ch f n li) x (rd_ch f n li).1) else -2
theorem s_goesOver {C : chS} {i : Nat} {g : Int32} (hi : i < C.1) (hC : C.1 ≤ 50) {σ : tzS} (hL : LK C σ) {Q : Int32 → tzS → Prop} (h1 : ov C g i = true → Q 1 σ) (h0 : ¬ ov C g i = true → Q 0 σ) : vc_X1_goesOver (nI i) g σ Q := by
  obtain ⟨k1, k2, k3, k4⟩ := hL.2 i hi
  unfold vc_X1_goesOver
  rw [cl_nI (by omega), k2, k3]
  unfold ov at h1 h0
  simp only [decide_eq_true_eq] at h1 h0
  exact ⟨in_nI (by omega) (by omega), fun z => h0 (fun w => w.1 z), fun z => ⟨fun z2 => h0 (fun w => w.2 z2), fun z2 => h1 ⟨z, z2⟩⟩⟩
theorem c_over {f : Nat → Nat} {n ru fe li wi td : Nat} {σ : tzS} {x y : Int32} (hC : CI f n ru fe li wi td σ) {Q : Int32 → tzS → Prop} (h : ∀ σ', CI f n ru fe li wi td σ' → qf σ σ' → Q (a_over f n li x y) σ') : vc_X9_over x y σ Q := by
  have hn := hC.1.1
  have r2 := (rd_ok (f := f) hn).2.1
  have hc50 := rd_ch_le (f := f) (li := li) hn
  unfold vc_X9_over
  refine c_read hC (fun σ1 hC1 hF hR _ hq => ?_)
  unfold a_over at h
  have bad : ¬ ((1 ≤ un x ∧ un x < rd_S f n) ∧ un y ≤ 1) → Q (-2) σ1 := fun w => by
    have h := h σ1 hC1 hq
    rw [if_neg w] at h
    exact h
  unfold vc_X9_noGap
  rw [hR.1]
  refine q_1lt (Q := fun r_3 σ_2 => (¬ r_3 = 0 → Q (-2) σ_2) ∧ (r_3 = 0 → _)) (by omega) (fun hx1 hx => ⟨fun z => absurd rfl z, fun _ => ?_⟩) (fun hx => ⟨fun _ => bad (fun w => hx w.1), fun z => absurd z nz1⟩)
  refine ⟨fun z => bad (by rw [un_neg z]; omega), fun z => ⟨fun z2 => ?_, fun z2 => bad (by have := (not_congr (un_le z (b := 1) (by omega))).mp z2; omega)⟩⟩
  replace z2 := (un_le z (b := 1) (by omega)).mp z2
  rw [if_pos ⟨⟨hx1, hx⟩, z2⟩] at h
  have e0 : y = 0 ↔ un y = 0 := un_eq (b := 0) (by omega)
  refine c_link hC1 hR (fun σ2 hC2 hR2 hL hq2 => ?_)
  replace h := h σ2 hC2 (hq.tr hq2)
  unfold LinkOK at hL
  refine ⟨fun y0 => ?_, fun y0 => ?_⟩
  · rw [if_neg ((not_congr e0).mp y0)] at h
    unfold vc_X1_weightOver
    refine for2b 0 (rd_ch f n li).1 (fun i a r => a = ovw (rd_ch f n li) x i ∧ r = σ2) (Nat.zero_le _) ⟨rfl, rfl⟩ ?_ ?_
    · intro i a r ag _ hi hI hag
      obtain ⟨e1, e2⟩ := hI
      subst e2
      rw [hL.1, nI_1]
      refine ⟨fun z => absurd ((le_nI (by omega) (by omega)).mp z) (by omega), fun _ => ?_⟩
      refine s_goesOver hi hc50 hL (fun ho => ⟨fun z => absurd z nz1, fun _ => ?_⟩) (fun ho => ⟨fun _ x3 hx3 => ?_, fun z => absurd rfl z⟩)
      · obtain ⟨k1, k2, k3, k4⟩ := hL.2 i hi
        unfold vc_X1_weightOf
        rw [cl_nI (by omega), k2, k3, k4]
        refine ⟨in_nI (by omega) (by omega), ?_⟩
        rintro x2 rfl x3 rfl
        refine hag _ _ ⟨?_, rfl⟩
        rw [ovw_y ho, e1]
        rfl
      · subst hx3
        refine hag _ _ ⟨?_, rfl⟩
        rw [ovw_n ho, e1]
    · intro a r ag hI
      obtain ⟨e1, e2⟩ := hI
      subst e2
      rw [hL.1, e1]
      exact ⟨fun _ => h, fun z => absurd ((le_nI (by omega) (by omega)).mpr (Nat.le_refl _)) z⟩
  · rw [if_pos (e0.mp y0)] at h
    unfold vc_X1_numberOver
    refine for2b 0 (rd_ch f n li).1 (fun i a r => a = nI (fb_ct (ov (rd_ch f n li) x) i) ∧ r = σ2) (Nat.zero_le _) ⟨rfl, rfl⟩ ?_ ?_
    · intro i a r ag _ hi hI hag
      obtain ⟨e1, e2⟩ := hI
      subst e2
      rw [hL.1, nI_1]
      refine ⟨fun z => absurd ((le_nI (by omega) (by omega)).mp z) (by omega), fun _ => ?_⟩
      refine s_goesOver hi hc50 hL (fun ho => ⟨fun z => absurd z nz1, fun _ x2 hx2 x3 hx3 => ?_⟩) (fun ho => ⟨fun _ x3 hx3 => ?_, fun z => absurd rfl z⟩)
      · subst hx2
        subst hx3
        refine hag _ _ ⟨?_, rfl⟩
        rw [fb_ct_succ, if_pos ho, e1, nI_1]
      · subst hx3
        refine hag _ _ ⟨?_, rfl⟩
        rw [fb_ct_succ, if_neg ho, e1, Nat.add_zero]
    · intro a r ag hI
      obtain ⟨e1, e2⟩ := hI
      subst e2
      rw [hL.1, e1]
      exact ⟨fun _ => h, fun z => absurd ((le_nI (by omega) (by omega)).mpr (Nat.le_refl _)) z⟩
theorem m_isGap {f : Nat → Nat} {n ru fe li wi td : Nat} {σ : tzS} {x : Int32} (hM : MI f n ru fe li wi td σ) {Q : Int32 → tzS → Prop} (h1 : ∀ σ', MI f n ru fe li wi td σ' → MR f n σ' → mo σ σ' → 1 ≤ un x → un x < rd_S f n → Q 1 σ') (h0 : ∀ σ', MI f n ru fe li wi td σ' → mo σ σ' → ¬ (1 ≤ un x ∧ un x < rd_S f n) → Q 0 σ') : vc_X10_isGap x σ Q := by
  have r2 := (rd_ok (f := f) hM.1.1).2.1
  unfold vc_X10_isGap
  refine s_reads hM.1 (fun σ1 hR hk => ?_)
  rw [hR.2.2.2.1]
  exact s_inM (lo := 1) (by omega) (by omega) (fun a b => ⟨Or.inr rfl, h1 σ1 (hM.mo hk.mo) hR hk.mo a b⟩) (fun a => ⟨Or.inl rfl, h0 σ1 (hM.mo hk.mo) hk.mo a⟩)
theorem m_isTwo {x : Int32} {σ : tzS} {Q : Int32 → tzS → Prop} (h1 : un x ≤ 1 → Q 1 σ) (h0 : ¬ un x ≤ 1 → Q 0 σ) : vc_X10_isTwo x σ Q := by
  unfold vc_X10_isTwo
  exact s_inU (lo := 0) (hi := 1) (by omega) (by omega) (fun a b => ⟨Or.inr rfl, h1 b⟩) (fun a => ⟨Or.inl rfl, h0 (by omega)⟩)
theorem m_isParts {x : Int32} {σ : tzS} {Q : Int32 → tzS → Prop} (h1 : 1 ≤ un x → un x ≤ 8 → Q 1 σ) (h0 : ¬ (1 ≤ un x ∧ un x ≤ 8) → Q 0 σ) : vc_X10_isParts x σ Q := by
  unfold vc_X10_isParts
  exact s_inU (lo := 1) (hi := 8) (by omega) (by omega) (fun a b => ⟨Or.inr rfl, h1 a b⟩) (fun a => ⟨Or.inl rfl, h0 a⟩)
theorem m_over {f : Nat → Nat} {n ru fe li wi td : Nat} {σ : tzS} {x y : Int32} (hM : MI f n ru fe li wi td σ) {Q : Int32 → tzS → Prop} (h : ∀ σ', MI f n ru fe li wi td σ' → mo σ σ' → Q (a_over f n li x y) σ') : vc_X10_over x y σ Q := by
  have hn := hM.1.1
  have hc50 := rd_ch_le (f := f) (li := li) hn
  unfold a_over at h
  have bad : ∀ σ', MI f n ru fe li wi td σ' → mo σ σ' → ¬ ((1 ≤ un x ∧ un x < rd_S f n) ∧ un y ≤ 1) → Q (-2) σ' := fun σ' a b w => by
    have h := h σ' a b
    rw [if_neg w] at h
    exact h
  unfold vc_X10_over
  refine m_isGap hM (fun σ1 hM1 _ hk hx1 hx => ⟨fun z => absurd z nz1, fun _ => ?_⟩) (fun σ1 hM1 hk hx => ⟨fun _ => bad σ1 hM1 hk (fun w => hx w.1), fun z => absurd rfl z⟩)
  refine m_isTwo (fun hy => ⟨fun z => absurd z nz1, fun _ => ?_⟩) (fun hy => ⟨fun _ => bad σ1 hM1 hk (fun w => hy w.2), fun z => absurd rfl z⟩)
  rw [if_pos ⟨⟨hx1, hx⟩, hy⟩] at h
  have e0 : y = 0 ↔ un y = 0 := un_eq (b := 0) (by omega)
  unfold vc_X10_overOf
  refine s_findsChains hM1.1 hM1.2.2.2.2.1 hM1.2.1.2.2.1 (fun σ2 σ3 hR2 hk2 hR3 hL hk3 => ?_)
  have hmo := hk.tr (hk2.mo.tr hk3.mo)
  replace h := h σ3 (hM.mo hmo) hmo
  refine for3c 0 (rd_ch f n li).1 (fun i a b r => a = nI (fb_ct (ov (rd_ch f n li) x) i) ∧ b = ovw (rd_ch f n li) x i ∧ r = σ3) (Nat.zero_le _) ⟨rfl, rfl, rfl⟩ ?_ ?_
  · intro i a b r ag _ hi hI hag
    obtain ⟨e1, e2, e3⟩ := hI
    subst e3
    obtain ⟨k1, k2, k3, k4⟩ := hL.2 i hi
    rw [hL.1, nI_1, cl_nI (by omega), k2, k3]
    refine ⟨fun z => absurd ((le_nI (by omega) (by omega)).mp z) (by omega), fun _ => ⟨in_nI (by omega) (by omega), ?_⟩⟩
    refine ⟨fun v s3 => s3 = r ∧ v = (if ov (rd_ch f n li) x i = true then 1 else 0), ?_, ?_⟩
    · rintro v s3 ⟨v1, v2⟩ x6 hx6
      subst v1
      subst hx6
      by_cases ho : ov (rd_ch f n li) x i = true
      · rw [if_pos ho] at v2
        refine ⟨fun z => absurd (v2.symm.trans z) nz1, fun _ x3 hx3 => ?_⟩
        subst hx3
        unfold vc_X10_weight
        rw [cl_nI (by omega), k2, k3, k4]
        refine ⟨in_nI (by omega) (by omega), ?_⟩
        rintro x4 rfl x5 rfl
        refine hag _ _ _ ⟨?_, ?_, rfl⟩
        · rw [fb_ct_succ, if_pos ho, e1, nI_1]
        · rw [ovw_y ho, e2]
          rfl
      · rw [if_neg ho] at v2
        refine ⟨fun _ x3 hx3 x4 hx4 x5 hx5 => ?_, fun z => absurd v2 z⟩
        subst hx3
        subst hx4
        subst hx5
        refine hag _ _ _ ⟨?_, ?_, rfl⟩
        · rw [fb_ct_succ, if_neg ho, e1]
          exact nI_add _ 0
        · rw [ovw_n ho, e2, Int32.add_zero]
    · have hov : ov (rd_ch f n li) x i = true ↔ (¬ x ≤ nI ((rd_ch f n li).2 i).2.1 ∧ ¬ nI ((rd_ch f n li).2 i).2.2.1 < x) := by
        unfold ov
        exact decide_eq_true_iff
      refine ⟨fun s3 => s3 = r ∧ ¬ (¬ x ≤ nI ((rd_ch f n li).2 i).2.1 ∧ ¬ nI ((rd_ch f n li).2 i).2.2.1 < x), ?_, ?_, ?_⟩
      · rintro s3 ⟨v1, v2⟩
        exact ⟨v1, by rw [if_neg ((not_congr hov).mpr v2)]⟩
      · exact fun z => ⟨rfl, fun w => w.1 z⟩
      · exact fun z => ⟨fun z2 => ⟨rfl, fun w => w.2 z2⟩, fun z2 => ⟨rfl, by rw [if_pos (hov.mpr ⟨z, z2⟩)]⟩⟩
  · intro a b r ag hI
    obtain ⟨e1, e2, e3⟩ := hI
    subst e3
    rw [hL.1, e1, e2]
    refine ⟨fun _ => ⟨fun y0 => ?_, fun y0 => ?_⟩, fun z => absurd ((le_nI (by omega) (by omega)).mpr (Nat.le_refl _)) z⟩
    · rw [if_neg ((not_congr e0).mp y0)] at h
      exact h
    · rw [if_pos (e0.mp y0)] at h
      exact h
/-! cost -/
def cst (f : Nat → Nat) (n ru fe : Nat) : Nat → Nat → Nat := rd_cost f n ru fe (rd_S f n)
theorem cst_CB {f : Nat → Nat} {n ru fe : Nat} (hn : n ≤ 200) (hfe : fe ≤ 40) : CB (cst f n ru fe) (rd_S f n) := by
  have h := rd_CB (f := f) (ru := ru) (d := rd_S f n) hn hfe
  rw [Sd_self] at h
  exact h
def a_cost (f : Nat → Nat) (n ru fe : Nat) (x y : Int32) : Int32 := if un x ≤ rd_S f n ∧ un y ≤ rd_S f n then (if un x < un y then nI (cst f n ru fe (un x) (un y)) else -3) else -2
theorem c_cost {f : Nat → Nat} {n ru fe li wi td : Nat} {σ : tzS} {x y : Int32} (hC : CI f n ru fe li wi td σ) {Q : Int32 → tzS → Prop} (h : ∀ σ', CI f n ru fe li wi td σ' → ReadOK f n σ' → qf σ σ' → Q (a_cost f n ru fe x y) σ') : vc_X9_cost x y σ Q := by
  have hn := hC.1.1
  have r2 := (rd_ok (f := f) hn).2.1
  unfold vc_X9_cost
  refine c_read hC (fun σ1 hC1 hF hR _ hq => ?_)
  unfold a_cost at h
  have bad : ¬ (un x ≤ rd_S f n ∧ un y ≤ rd_S f n) → Q (-2) σ1 := fun w => by
    have h := h σ1 hC1 hR hq
    rw [if_neg w] at h
    exact h
  rw [hR.1]
  rintro x3 rfl
  refine ⟨fun z => bad (by rw [un_neg z]; omega), fun z => ⟨fun z2 => bad (by have := (un_gt z (b := rd_S f n) (by omega)).mp z2; omega), fun z2 => ?_⟩⟩
  replace z2 := (not_congr (un_gt z (b := rd_S f n) (by omega))).mp z2
  refine ⟨fun zy => bad (by rw [un_neg zy]; omega), fun zy => ⟨fun zy2 => ?_, fun zy2 => bad (by have := (not_congr (un_le zy (b := rd_S f n) (by omega))).mp zy2; omega)⟩⟩
  replace zy2 := (un_le zy (b := rd_S f n) (by omega)).mp zy2
  rw [if_pos ⟨by omega, zy2⟩] at h
  have ex := un_at (x := x) (b := 13) (by omega) (by omega)
  have ey := un_at (x := y) (b := 13) (by omega) (by omega)
  generalize un x = i at *
  generalize un y = j at *
  subst ex
  subst ey
  refine ⟨fun z3 => ?_, fun z3 => ?_⟩
  · replace z3 := (lt_nI (by omega) (by omega)).mp z3
    rw [if_pos z3] at h
    refine c_part hC1 hR (fun σ2 hC2 hR2 hP hq2 => ?_)
    rw [cl_nI (by omega), cl_nI (by omega), show 45 + i = 43 + 2 + i by omega, hP.1 i j z3 (by rw [Sd_self]; exact zy2)]
    exact ⟨in_nI (by omega) (by omega), in_nI (by omega) (by omega), h σ2 hC2 hR2 (hq.tr hq2)⟩
  · replace z3 := (not_congr (lt_nI (by omega) (by omega))).mp z3
    rw [if_neg z3] at h
    exact h σ1 hC1 hR hq
theorem s_costNow2 {f : Nat → Nat} {n ru fe d i j : Nat} {x y : Int32} (ex : x = nI (pl d i)) (ey : y = nI (pl d j)) (hn : n ≤ 200) (hru : ru ≤ 3) (hfe : fe ≤ 40) (hij : i ≤ j) (hj : j ≤ Sd (rd_S f n) d) {σ : tzS} (h9 : σ.1 133 9 = nI (rd_K f n)) (h18 : DX (rd_S f n) d (σ.1 133 18)) (hH : ∀ s t, s < 12 → t < 110 → σ.1 143 (110 * s + t) = nI (rd_hv f n s t)) (hr : σ.1 135 0 = nI ru) (hf : σ.1 135 1 = nI fe) {Q : Int32 → tzS → Prop} (h : ∀ σ', mk3 σ σ' → Q (nI (rd_cost f n ru fe d i j)) σ') : vc_X10_costNow x y σ Q := by
  subst ex
  subst ey
  exact s_costNow hn hru hfe hij hj h9 h18 hH hr hf h
theorem m_costOf {f : Nat → Nat} {n ru fe li wi td : Nat} {σ : tzS} {x y : Int32} (hM : MI f n ru fe li wi td σ) {Q : Int32 → tzS → Prop} (h : ∀ σ', MI f n ru fe li wi td σ' → σ'.1 133 7 = nI (rd_S f n) → σ'.1 133 9 = nI (rd_K f n) → mo σ σ' → Q (a_cost f n ru fe x y) σ') : vc_X10_costOf x y σ Q := by
  have hn := hM.1.1
  have r2 := (rd_ok (f := f) hn).2.1
  unfold vc_X10_costOf
  refine s_reads hM.1 (fun σ1 hR hk => ?_)
  have hM1 := hM.mo hk.mo
  have h7 : σ1.1 133 7 = nI (rd_S f n) := hR.2.2.2.1
  have h9 : σ1.1 133 9 = nI (rd_K f n) := hR.2.2.2.2.2.1
  unfold a_cost at h
  have bad : ¬ (un x ≤ rd_S f n ∧ un y ≤ rd_S f n) → Q (-2) σ1 := fun w => by
    have h := h σ1 hM1 h7 h9 hk.mo
    rw [if_neg w] at h
    exact h
  rw [h7]
  refine s_inU (lo := 0) (by omega) (by omega) (fun _ hx => ⟨fun z => absurd z nz1, fun _ => ?_⟩) (fun a => ⟨fun _ => bad (by omega), fun z => absurd rfl z⟩)
  rw [h7]
  refine s_inU (lo := 0) (by omega) (by omega) (fun _ hy => ⟨fun _ => ?_, fun z => absurd z nz1⟩) (fun a => ⟨fun z => absurd rfl z, fun _ => bad (by omega)⟩)
  rw [if_pos ⟨hx, hy⟩] at h
  have ex := un_at (x := x) (b := 13) (by omega) (by omega)
  have ey := un_at (x := y) (b := 13) (by omega) (by omega)
  generalize un x = i at *
  generalize un y = j at *
  subst ex
  subst ey
  refine ⟨fun z3 => ?_, fun z3 => ?_⟩
  · replace z3 := (le_nI (by omega) (by omega)).mp z3
    rw [if_neg (by omega)] at h
    exact h σ1 hM1 h7 h9 hk.mo
  · replace z3 := (not_congr (le_nI (by omega) (by omega))).mp z3
    rw [if_pos (by omega)] at h
    have p1 : pl (rd_S f n) i = i := by unfold pl; rw [if_neg (by omega)]
    have p2 : pl (rd_S f n) j = j := by unfold pl; rw [if_neg (by omega)]
    refine s_costNow2 (d := rd_S f n) (i := i) (j := j) (by rw [p1]) (by rw [p2]) hn hM.2.2.1 hM.2.2.2.1 (by omega) (by rw [Sd_self]; exact hy) h9 (Or.inl ⟨hR.2.2.2.2.2.2.1, rfl⟩) hR.2.2.2.2.2.2.2.2.2.2 hM1.2.1.1 hM1.2.1.2.1 (fun σ2 hk2 => ?_)
    exact h σ2 (hM1.mo hk2.mo) (by rw [hk2.2.1 7 (by omega)]; exact h7) (by rw [hk2.2.1 9 (by omega)]; exact h9) (hk.mo.tr hk2.mo)
theorem m_partsTold {f : Nat → Nat} {n ru fe li wi td : Nat} {σ : tzS} (hM : MI f n ru fe li wi td σ) {Q : tzS → Prop} (h : ∀ σ', MI f n ru fe li wi td σ' → PM (cst f n ru fe) (rd_S f n) σ' → σ'.1 133 7 = nI (rd_S f n) → mo σ σ' → Q σ') : vc_X10_partsTold σ Q := by
  have hn := hM.1.1
  unfold vc_X10_partsTold
  refine s_reads hM.1 (fun σ1 hR hk => ?_)
  have hM1 := hM.mo hk.mo
  have hL := hR.ML hM1.2.1
  refine s_parts (d := rd_S f n) hn hM.2.2.1 hM.2.2.2.1 hL.1 hL.2.1 (Or.inl ⟨hR.2.2.2.2.2.2.1, rfl⟩) hL.2.2.1 hL.2.2.2.1 hL.2.2.2.2 (fun σ2 hP hk2 => ?_)
  rw [Sd_self] at hP
  exact h σ2 (hM1.mo hk2.mo) hP (by rw [hk2.2.1 7 (by omega)]; exact hL.1) (hk.mo.tr hk2.mo)
/-! best -/
def a_best (f : Nat → Nat) (n ru fe : Nat) (x : Int32) : Int32 := if 1 ≤ un x ∧ un x ≤ 8 then (if un x ≤ rd_S f n then nI (pt (cst f n ru fe) (un x) (rd_S f n)).1 else -1) else -2
theorem c_best {f : Nat → Nat} {n ru fe li wi td : Nat} {σ : tzS} {x : Int32} (hC : CI f n ru fe li wi td σ) {Q : Int32 → tzS → Prop} (h : ∀ σ', CI f n ru fe li wi td σ' → qf σ σ' → Q (a_best f n ru fe x) σ') : vc_X9_best x σ Q := by
  have hn := hC.1.1
  have r2 := (rd_ok (f := f) hn).2.1
  unfold a_best at h
  unfold vc_X9_best vc_X9_noParts
  refine q_1le (S := 8) (Q := fun r_2 σ_1 => (r_2 = 0 → _) ∧ (¬ r_2 = 0 → Q (-2) σ_1)) (by omega) (fun h1 h8 => ⟨fun _ => ?_, fun z => absurd rfl z⟩) (fun hx => ⟨fun z => absurd z nz1, fun _ => ?_⟩)
  · rw [if_pos ⟨h1, h8⟩] at h
    refine c_read hC (fun σ1 hC1 hF hR _ hq => ?_)
    rw [hR.1]
    have ex := un_at (x := x) (b := 9) (by omega) (by omega)
    generalize un x = k at *
    subst ex
    refine ⟨fun z => ?_, fun z => ?_⟩
    · replace z := (le_nI (by omega) (by omega)).mp z
      rw [if_pos z] at h
      refine c_part hC1 hR (fun σ2 hC2 hR2 hP hq2 => ?_)
      unfold vc_X5_totalOf
      rw [hR2.1, cl_nI (by omega), cl_nI (by omega), (hP.2 k (rd_S f n) h1 h8 z (Nat.le_refl _)).1]
      exact ⟨in_nI (by omega) (by omega), in_nI (by omega) (by omega), h σ2 hC2 (hq.tr hq2)⟩
    · replace z := (not_congr (le_nI (by omega) (by omega))).mp z
      rw [if_neg z] at h
      exact h σ1 hC1 hq
  · rw [if_neg hx] at h
    exact h σ hC qf.rf
theorem m_bestOf {f : Nat → Nat} {n ru fe li wi td : Nat} {σ : tzS} {x : Int32} (h1 : 1 ≤ un x) (h8 : un x ≤ 8) (hM : MI f n ru fe li wi td σ) {Q : Int32 → tzS → Prop} (h : ∀ σ', MI f n ru fe li wi td σ' → mo σ σ' → Q (a_best f n ru fe x) σ') : vc_X10_bestOf x σ Q := by
  have r2 := (rd_ok (f := f) hM.1.1).2.1
  unfold a_best at h
  rw [if_pos ⟨h1, h8⟩] at h
  have ex := un_at (x := x) (b := 9) (by omega) (by omega)
  generalize un x = k at *
  subst ex
  unfold vc_X10_bestOf
  refine m_partsTold hM (fun σ1 hM1 hP _ hk => ?_)
  refine s_totalNow r2 h8 hP ?_
  replace h := h σ1 hM1 hk
  by_cases z : k ≤ rd_S f n
  · rw [if_pos z] at h
    rw [tmT_v h1 z]; exact h
  · rw [if_neg z] at h
    rw [tmT_n h1 z]; exact h
theorem m_best {f : Nat → Nat} {n ru fe li wi td : Nat} {σ : tzS} {x : Int32} (hM : MI f n ru fe li wi td σ) {Q : Int32 → tzS → Prop} (h : ∀ σ', MI f n ru fe li wi td σ' → mo σ σ' → Q (a_best f n ru fe x) σ') : vc_X10_best x σ Q := by
  unfold vc_X10_best
  refine m_isParts (fun a b => ⟨fun z => absurd z nz1, fun _ => m_bestOf a b hM h⟩) (fun a => ⟨fun _ => ?_, fun z => absurd rfl z⟩)
  have := h σ hM mo.rf
  unfold a_best at this
  rw [if_neg a] at this
  exact this
/-! seam -/
def a_seam (f : Nat → Nat) (n ru fe : Nat) (x y : Int32) : Int32 := if (1 ≤ un x ∧ un x ≤ 8) ∧ un y < 8 then (if un x ≤ rd_S f n ∧ un y < un x then nI (bg (cst f n ru fe) (un y) (un x) (rd_S f n)) else -1) else -2
theorem c_seam {f : Nat → Nat} {n ru fe li wi td : Nat} {σ : tzS} {x y : Int32} (hC : CI f n ru fe li wi td σ) {Q : Int32 → tzS → Prop} (h : ∀ σ', CI f n ru fe li wi td σ' → qf σ σ' → Q (a_seam f n ru fe x y) σ') : vc_X9_seam x y σ Q := by
  have hn := hC.1.1
  have r2 := (rd_ok (f := f) hn).2.1
  unfold a_seam at h
  have bad : ¬ ((1 ≤ un x ∧ un x ≤ 8) ∧ un y < 8) → Q (-2) σ := fun w => by
    have h := h σ hC qf.rf
    rw [if_neg w] at h
    exact h
  unfold vc_X9_seam vc_X9_noParts
  refine q_1le (S := 8) (Q := fun r_2 σ_1 => (¬ r_2 = 0 → Q (-2) σ_1) ∧ (r_2 = 0 → _)) (by omega) (fun h1 h8 => ⟨fun z => absurd rfl z, fun _ => ?_⟩) (fun hx => ⟨fun _ => bad (fun w => hx w.1), fun z => absurd z nz1⟩)
  refine ⟨fun zy => bad (by rw [un_neg zy]; omega), fun zy => ⟨fun zy2 => ?_, fun zy2 => bad (by have := (not_congr (un_lt zy (b := 8) (by omega))).mp zy2; omega)⟩⟩
  replace zy2 := (un_lt zy (b := 8) (by omega)).mp zy2
  rw [if_pos ⟨⟨h1, h8⟩, zy2⟩] at h
  refine c_read hC (fun σ1 hC1 hF hR _ hq => ?_)
  rw [hR.1]
  have ex := un_at (x := x) (b := 9) (by omega) (by omega)
  have ey := un_at (x := y) (b := 9) (by omega) (by omega)
  generalize un x = k at *
  generalize un y = m at *
  subst ex
  subst ey
  refine ⟨fun z => ?_, fun z => ⟨fun z2 => ?_, fun z2 => ?_⟩⟩
  · replace z := (lt_nI (by omega) (by omega)).mp z
    rw [if_neg (by omega)] at h
    exact h σ1 hC1 hq
  · replace z := (not_congr (lt_nI (by omega) (by omega))).mp z
    replace z2 := (lt_nI (by omega) (by omega)).mp z2
    rw [if_pos ⟨by omega, z2⟩] at h
    refine c_part hC1 hR (fun σ2 hC2 hR2 hP hq2 => ?_)
    rw [hR2.1]
    exact s_beginOf (cst_CB hn hC.2.1.2.1) h8 (by omega) (by omega) (Nat.le_refl _) hP.2 (h σ2 hC2 (hq.tr hq2))
  · replace z2 := (not_congr (lt_nI (by omega) (by omega))).mp z2
    rw [if_neg (by omega)] at h
    exact h σ1 hC1 hq
theorem m_seamOf {f : Nat → Nat} {n ru fe li wi td : Nat} {σ : tzS} {x y : Int32} (h1 : 1 ≤ un x) (h8 : un x ≤ 8) (hy : un y < 8) (hM : MI f n ru fe li wi td σ) {Q : Int32 → tzS → Prop} (h : ∀ σ', MI f n ru fe li wi td σ' → mo σ σ' → Q (a_seam f n ru fe x y) σ') : vc_X10_seamOf x y σ Q := by
  have r2 := (rd_ok (f := f) hM.1.1).2.1
  have hcb := cst_CB (f := f) (n := n) (ru := ru) (fe := fe) hM.1.1 hM.2.2.2.1
  unfold a_seam at h
  rw [if_pos ⟨⟨h1, h8⟩, hy⟩] at h
  have ex := un_at (x := x) (b := 9) (by omega) (by omega)
  have ey := un_at (x := y) (b := 9) (by omega) (by omega)
  generalize un x = k at *
  generalize un y = m at *
  subst ex
  subst ey
  unfold vc_X10_seamOf
  refine m_partsTold hM (fun σ1 hM1 hP _ hk => ?_)
  refine s_totalNow r2 h8 hP ?_
  replace h := h σ1 hM1 hk
  by_cases z : k ≤ rd_S f n
  · rw [tmT_v h1 z]
    have bd := pt_bd8 hcb h1 h8 z
    refine ⟨fun w => absurd w (ne_m1 (by omega)), fun _ => ⟨fun z2 => ?_, fun z2 => ?_⟩⟩
    · replace z2 := (lt_nI (by omega) (by omega)).mp z2
      rw [if_pos ⟨z, z2⟩] at h
      exact s_seamNow hcb h8 (by omega) z hP h
    · replace z2 := (not_congr (lt_nI (by omega) (by omega))).mp z2
      rw [if_neg (by omega)] at h
      exact h
  · rw [tmT_n h1 z]
    rw [if_neg (by omega)] at h
    exact ⟨fun _ => h, fun w => absurd rfl w⟩
theorem m_seam {f : Nat → Nat} {n ru fe li wi td : Nat} {σ : tzS} {x y : Int32} (hM : MI f n ru fe li wi td σ) {Q : Int32 → tzS → Prop} (h : ∀ σ', MI f n ru fe li wi td σ' → mo σ σ' → Q (a_seam f n ru fe x y) σ') : vc_X10_seam x y σ Q := by
  have bad : ¬ ((1 ≤ un x ∧ un x ≤ 8) ∧ un y < 8) → Q (-2) σ := fun w => by
    have h := h σ hM mo.rf
    unfold a_seam at h
    rw [if_neg w] at h
    exact h
  unfold vc_X10_seam
  refine m_isParts (fun a b => ⟨fun z => absurd z nz1, fun _ => ?_⟩) (fun a => ⟨fun _ => bad (fun w => a w.1), fun z => absurd rfl z⟩)
  exact s_inU (lo := 0) (hi := 7) (by omega) (by omega) (fun _ b2 => ⟨fun z => absurd z nz1, fun _ => m_seamOf a b (by omega) hM h⟩) (fun a2 => ⟨fun _ => bad (by omega), fun z => absurd rfl z⟩)
