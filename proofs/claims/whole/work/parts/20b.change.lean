/-! ===== CHANGES: type, wipe, undo, tell, set ===== -/
/-- what holds of both when both have the new text -/
theorem ST.text {f f' : Nat → Nat} {n n' ru fe li wi td : Nat} {fm : Nat → Int32} {sz : Nat → Nat} {it : Nat → Nat → Int32} {fd : Int32} {σ σ' σ'' : tzS} (h : ST f n ru fe li wi td fm sz it fd σ) (hC : CI f' n' ru fe li wi td σ') (e1 : ∀ a, 3 ≤ a → σ'.1 a = σ.1 a) (e0 : ∀ j, j < 12 → σ'.1 0 j = σ.1 0 j) (hM : MI f' n' ru fe li wi td σ'') (et : tt σ' σ'') : INV σ'' := by
  obtain ⟨_, _, h3, h4, h5⟩ := h
  refine ⟨f', n', ru, fe, li, wi, td, fm, sz, it, fd, hC.lo (fun a ha => et.1 a (by omega) (by omega)) et.2.2, hM, h3.cg (fun a _ _ => ?_) ?_, h4.cg (fun a _ _ => ?_) ?_, h5⟩
  · rw [et.1 a (by omega) (by omega), e1 a (by omega)]
  · rw [et.1 0 (by omega) (by omega), e0 11 (by omega)]
  · rw [et.1 a (by omega) (by omega), e1 a (by omega)]
  · rw [et.2.1 36 (by omega), e1 133 (by omega)]
theorem CS.lo {ru fe li wi td : Nat} {σ σ' : tzS} (h : CS ru fe li wi td σ) (e1 : σ'.1 132 = σ.1 132) (e2 : σ'.1 0 10 = σ.1 0 10) : CS ru fe li wi td σ' := by
  unfold CS at *
  rw [e1, e2]
  exact h
theorem p_type {σ : tzS} {x : Int32} (hI : INV σ) {R : Int32 → Int32 → tzS → Prop} (h : ∀ A σ', INV σ' → R A A σ') : vc_X9_type x σ (fun r σ' => vc_X10_type x σ' (fun r' σ'' => R r r' σ'')) := by
  have hI' := hI
  obtain ⟨f, n, ru, fe, li, wi, td, fm, sz, it, fd, hS⟩ := hI
  have hT := hS.1.1
  have hn := hT.1
  unfold vc_X9_type vc_X9_noByte
  refine q_le (S := 255) (Q := fun r_2 σ_1 => (r_2 = 0 → _) ∧ (¬ r_2 = 0 → vc_X10_type x σ_1 (fun r' σ'' => R (-2) r' σ''))) (by omega) (fun hx => ⟨fun _ => ?_, fun z => absurd rfl z⟩) (fun hx => ⟨fun z => absurd z nz1, fun _ => ?_⟩)
  · rw [hT.2.1]
    have e200 : nI n < 200 ↔ n < 200 := lt_nI (b := 200) (by omega) (by omega)
    refine ⟨fun z => ?_, fun z => ?_⟩
    · replace z := e200.mp z
      have ex := un_at (x := x) (b := 256) (by omega) (by omega)
      have hb : un x < 256 := by omega
      have key : vc_X8_add (nI (un x)) σ (fun σ5 => vc_X9_forgetText σ5 (fun σ6 => vc_X10_type x σ6 (fun r' σ'' => R (σ6.1 1 1) r' σ''))) := by
        refine s_add hb z hT (fun σ5 hT5 hb5 => ?_)
        refine c_forget hT5 (hS.1.2.1.lo (hb5.1 132 (by omega)) (by rw [hb5.1 0 (by omega)])) (fun σ6 hC6 hf6 => ?_)
        have e1 : ∀ a, 3 ≤ a → σ6.1 a = σ.1 a := fun a ha => by rw [hf6.1 a (by omega), hb5.1 a (by omega)]
        have e0 : ∀ j, j < 12 → σ6.1 0 j = σ.1 0 j := fun j hj => by rw [hf6.2.1 j hj, hb5.1 0 (by omega)]
        rw [hC6.1.2.1]
        refine m_type (hS.2.1.hi (fun a _ _ => e1 a (by omega))) (fun _ _ σ' hM' ht' => h _ σ' (hS.text hC6 e1 e0 hM' ht')) (fun w => absurd hx w) (fun _ w => by omega)
      rw [← ex] at key
      exact key
    · replace z := (not_congr e200).mp z
      exact m_type hS.2.1 (fun _ w => by omega) (fun w => absurd hx w) (fun _ _ => h _ σ hI')
  · exact m_type hS.2.1 (fun w => absurd w hx) (fun _ => h _ σ hI') (fun w => absurd w hx)
theorem p_wipe {σ : tzS} (hI : INV σ) {R : Int32 → Int32 → tzS → Prop} (h : ∀ A σ', INV σ' → R A A σ') : vc_X9_wipe σ (fun r σ' => vc_X10_wipe σ' (fun r' σ'' => R r r' σ'')) := by
  obtain ⟨f, n, ru, fe, li, wi, td, fm, sz, it, fd, hS⟩ := hI
  have hT := hS.1.1
  unfold vc_X9_wipe
  intro x1 hx1 σ2 h2
  rw [hT.2.1] at hx1
  subst hx1
  have hT2 : CT f 0 σ2 := ⟨by omega, by rw [h2, st_eq]; rfl, fun i hi => absurd hi (by omega)⟩
  refine c_forget hT2 (hS.1.2.1.lo (by rw [h2, st_ne (by decide)]) (by rw [h2, st_ne (by decide)])) (fun σ3 hC3 hf3 => ?_)
  have e1 : ∀ a, 3 ≤ a → σ3.1 a = σ.1 a := fun a ha => by rw [hf3.1 a (by omega), h2, st_ne (by omega)]
  have e0 : ∀ j, j < 12 → σ3.1 0 j = σ.1 0 j := fun j hj => by rw [hf3.2.1 j hj, h2, st_ne (by decide)]
  have hM3 := hS.2.1.hi (fun a _ _ => e1 a (by omega))
  unfold vc_X10_wipe
  intro y hy σ4 h4
  rw [hM3.1.2.1] at hy
  subst hy
  have et : tt σ3 σ4 := ⟨fun a a1 a2 => by rw [h4, st_ne a1], fun j hj => by rw [h4, st_nj hj], by rw [h4]; rfl⟩
  exact h _ σ4 (hS.text hC3 e1 e0 (hM3.tt ⟨by omega, by rw [h4, st_eq]; rfl, fun i hi => absurd hi (by omega)⟩ et) et)
theorem p_undo {σ : tzS} (hI : INV σ) {R : Int32 → Int32 → tzS → Prop} (h : ∀ A σ', INV σ' → R A A σ') : vc_X9_undo σ (fun r σ' => vc_X10_undo σ' (fun r' σ'' => R r r' σ'')) := by
  have hI' := hI
  obtain ⟨f, n, ru, fe, li, wi, td, fm, sz, it, fd, hS⟩ := hI
  have hT := hS.1.1
  have hn := hT.1
  unfold vc_X9_undo
  rw [hT.2.1]
  have ez : (0 : Int32) < nI n ↔ 0 < n := lt_nI (a := 0) (by omega) (by omega)
  have en : nI n = 0 ↔ n = 0 := eq_nI (b := 0) (by omega) (by omega)
  refine ⟨fun z σ2 h2 => ?_, fun z => ?_⟩
  · replace z := ez.mp z
    rw [nI_sub1 (by omega)] at h2
    have hT2 : CT f (n - 1) σ2 := ⟨by omega, by rw [h2, st_eq], fun i hi => ⟨(hT.2.2 i (by omega)).1, by rw [h2, st_ne (by decide)]; exact (hT.2.2 i (by omega)).2⟩⟩
    refine c_forget hT2 (hS.1.2.1.lo (by rw [h2, st_ne (by decide)]) (by rw [h2, st_ne (by decide)])) (fun σ3 hC3 hf3 => ?_)
    have e1 : ∀ a, 3 ≤ a → σ3.1 a = σ.1 a := fun a ha => by rw [hf3.1 a (by omega), h2, st_ne (by omega)]
    have e0 : ∀ j, j < 12 → σ3.1 0 j = σ.1 0 j := fun j hj => by rw [hf3.2.1 j hj, h2, st_ne (by decide)]
    have hM3 := hS.2.1.hi (fun a _ _ => e1 a (by omega))
    rw [hC3.1.2.1]
    unfold vc_X10_undo
    dsimp only
    rw [hM3.1.2.1]
    refine ⟨fun _ σ4 h4 => ?_, fun w => absurd (en.mp w) (by omega)⟩
    rw [nI_sub1 (by omega)] at h4
    have et : tt σ3 σ4 := ⟨fun a a1 a2 => by rw [h4, st_ne a1], fun j hj => by rw [h4, st_nj hj], by rw [h4]; rfl⟩
    have e4 : σ4.1 133 0 = nI (n - 1) := by rw [h4, st_eq]
    rw [e4]
    exact h _ σ4 (hS.text hC3 e1 e0 (hM3.tt ⟨by omega, e4, fun i hi => ⟨(hT.2.2 i (by omega)).1, by rw [h4, st_ne (by decide)]; exact (hM3.1.2.2 i (by omega)).2⟩⟩ et) et)
  · replace z := (not_congr ez).mp z
    unfold vc_X10_undo
    dsimp only
    rw [hS.2.1.1.2.1]
    exact ⟨fun w => absurd (en.mpr (by omega)) w, fun _ => h _ σ hI'⟩
theorem tell_nI {x : Int32} (h : x &&& (-4095) = 0) : ∃ t, t < 4096 ∧ x = nI t := by
  obtain ⟨n, hn, e⟩ := wb_of32 x
  refine ⟨n, ?_, e⟩
  have e2 : (-4095 : Int32) = nI 4294963201 := by decide
  rw [e, e2, fa_and] at h
  have h3 : n &&& 4294963201 < 2 ^ 32 := and_lt hn
  have h0 : n &&& 4294963201 = 0 := by
    have a : (nI (n &&& 4294963201)).toBitVec.toNat = (0 : Int32).toBitVec.toNat := by rw [h]
    have b : (nI (n &&& 4294963201)).toBitVec.toNat = (n &&& 4294963201) % 2 ^ 32 := BitVec.toNat_ofNat _ _
    rw [b, Nat.mod_eq_of_lt h3] at a
    exact a
  have h4 : (n &&& 4294963201) >>> 12 = n / 4096 := by
    rw [Nat.shiftRight_and_distrib, show (4294963201 : Nat) >>> 12 = 2 ^ 20 - 1 by decide, Nat.and_two_pow_sub_one_eq_mod, Nat.shiftRight_eq_div_pow]
    exact Nat.mod_eq_of_lt (by omega)
  rw [h0] at h4
  have : (0 : Nat) >>> 12 = 0 := by decide
  omega
theorem p_tell {σ : tzS} {x : Int32} (hI : INV σ) {R : Int32 → Int32 → tzS → Prop} (h : ∀ A σ', INV σ' → R A A σ') : vc_X9_tell x σ (fun r σ' => vc_X10_tell x σ' (fun r' σ'' => R r r' σ'')) := by
  have hI' := hI
  obtain ⟨f, n, ru, fe, li, wi, td, fm, sz, it, fd, hS⟩ := hI
  unfold vc_X9_tell
  refine ⟨fun z x2 hx2 σ3 h3 => ?_, fun z => ?_⟩
  · obtain ⟨t, ht, ex⟩ := tell_nI z
    have e10 : σ.1 0 10 = nI td := hS.1.2.1.2.2.2.2.2.2.2.2.2
    have e3 : σ.1 133 3 = nI td := hS.2.1.2.2.2.2.2.2.2
    rw [e10] at hx2
    subst hx2
    unfold vc_X10_tell
    refine ⟨fun _ y hy σ4 h4 => ?_, fun w => absurd z w⟩
    have e33 : σ3.1 133 3 = nI td := by rw [h3, st_ne (by decide)]; exact e3
    rw [e33] at hy
    subst hy
    have f3 : ∀ a, a ≠ 0 → σ3.1 a = σ.1 a := fun a ha => by rw [h3, st_ne ha]
    have f0 : ∀ j, j ≠ 10 → σ3.1 0 j = σ.1 0 j := fun j hj => by rw [h3, st_nj hj]
    have s3 : σ3.2 = σ.2 := by rw [h3]; rfl
    obtain ⟨hC, hM, hc, hm, hb⟩ := hS
    obtain ⟨hT, hCS, c1, c2, c3, c4, c5⟩ := hC
    have hS12 := (rd_ok (f := f) hT.1).2.1
    have hC3 : CI f n ru fe li wi t σ3 := by
      refine ⟨⟨hT.1, by rw [f3 1 (by omega)]; exact hT.2.1, fun i hi => ⟨(hT.2.2 i hi).1, by rw [f3 2 (by omega)]; exact (hT.2.2 i hi).2⟩⟩, ?_, ?_, ?_, ?_, ?_, ?_⟩
      · obtain ⟨k1, k2, k3, k4, k5, k6, k7, k8, k9, k10⟩ := hCS
        refine ⟨k1, k2, k3, k4, ht, ?_, ?_, ?_, ?_, by rw [h3, st_eq, ex]⟩
        · rw [f3 132 (by omega)]; exact k6
        · rw [f3 132 (by omega)]; exact k7
        · rw [f3 132 (by omega)]; exact k8
        · rw [f3 132 (by omega)]; exact k9
      · rw [f0 12 (by omega)]
        exact fun z => ⟨(c1 z).1.cg (f3 3 (by omega)), (c1 z).2.cg hS12 (fun a _ _ => f3 a (by omega)) s3⟩
      · rw [f0 13 (by omega)]
        exact fun z => (c2 z).cg (fun a _ _ => f3 a (by omega))
      · rw [f0 14 (by omega)]
        exact fun z => (c3 z).cg hS12 (fun a _ _ => f3 a (by omega))
      · rw [f0 15 (by omega)]
        exact fun z => (c4 z).cg (f3 81 (by omega)) (f3 82 (by omega))
      · rw [f0 16 (by omega)]
        exact fun z => (c5 z).cg (fun a _ _ => f3 a (by omega))
    refine h _ σ4 ⟨f, n, ru, fe, li, wi, t, fm, sz, it, fd, hC3.lo (fun a ha => by rw [h4, st_ne (by omega)]) (by rw [h4]; rfl), ?_, hc.cg (fun a _ _ => by rw [h4, st_ne (by omega), f3 a (by omega)]) (by rw [h4, st_ne (by decide), f0 11 (by omega)]), hm.cg (fun a _ _ => by rw [h4, st_ne (by omega), f3 a (by omega)]) (by rw [h4, st_nj (by decide), f3 133 (by omega)]), hb⟩
    obtain ⟨m1, m2, m3, m4, m5, m6, m7, m8⟩ := hM
    refine ⟨⟨m1.1, by rw [h4, st_nj (by decide), f3 133 (by omega)]; exact m1.2.1, fun i hi => ⟨(m1.2.2 i hi).1, by rw [h4, st_ne (by decide), f3 134 (by omega)]; exact (m1.2.2 i hi).2⟩⟩, ?_, m3, m4, m5, m6, ht, by rw [h4, st_eq, ex]⟩
    unfold MS at *
    rw [h4, st_ne (by decide), f3 135 (by omega)]
    exact m2
  · unfold vc_X10_tell
    exact ⟨fun w => absurd w z, fun _ => h _ σ hI'⟩
/-! settings -/
theorem st_row (x : Nat) (y : Int32) (hx : x ≤ 3) : (¬ y < tz_least x ∧ y ≤ tz_most x) ↔ (if x = 0 then un y ≤ 3 else if x = 1 then un y ≤ 40 else 1 ≤ un y ∧ un y ≤ 4) := by
  have key : ∀ (b : Nat), b < 100000 → ((¬ y < 0 ∧ y ≤ nI b) ↔ un y ≤ b) := fun b hb => by
    refine ⟨fun w => (un_le w.1 hb).mp w.2, fun w => ?_⟩
    have c := un_npos (x := y) (b := b + 1) (by omega) (by omega)
    exact ⟨c, (un_le c hb).mpr w⟩
  have key1 : (¬ y < 1 ∧ y ≤ nI 4) ↔ (1 ≤ un y ∧ un y ≤ 4) := by
    refine ⟨fun w => ?_, fun w => ?_⟩
    · have c := not_lt1 w.1
      have a := (not_congr (un_lt c (b := 1) (by omega))).mp w.1
      exact ⟨by omega, (un_le c (by omega)).mp w.2⟩
    · have c := un_npos (x := y) (b := 5) (by omega) (by omega)
      exact ⟨(not_congr (un_lt c (b := 1) (by omega))).mpr (by omega), (un_le c (by omega)).mpr w.2⟩
  rcases (show x = 0 ∨ x = 1 ∨ x = 2 ∨ x = 3 by omega) with e | e | e | e
  · subst e
    exact key 3 (by omega)
  · subst e
    exact key 40 (by omega)
  · subst e
    exact key1
  · subst e
    exact key1
def okv (x y : Int32) : Prop := un x ≤ 3 ∧ (if un x = 0 then un y ≤ 3 else if un x = 1 then un y ≤ 40 else 1 ≤ un y ∧ un y ≤ 4)
theorem m_isSetting {x y : Int32} {σ : tzS} {Q : Int32 → tzS → Prop} (h1 : okv x y → Q 1 σ) (h0 : ¬ okv x y → Q 0 σ) : vc_X10_isSetting x y σ Q := by
  have e0 : x = 0 ↔ un x = 0 := un_eq (b := 0) (by omega)
  have e1 : x = 1 ↔ un x = 1 := un_eq (b := 1) (by omega)
  unfold okv at h1 h0
  unfold vc_X10_isSetting
  refine ⟨fun z0 => ⟨fun z1 => ?_, fun z1 => ?_⟩, fun z0 => ?_⟩
  · replace z0 := (not_congr e0).mp z0
    replace z1 := (not_congr e1).mp z1
    rw [if_neg z0, if_neg z1] at h1 h0
    refine s_inU (lo := 2) (hi := 3) (by omega) (by omega) (fun a b => ⟨fun z => absurd z nz1, fun _ => ?_⟩) (fun a => ⟨fun _ => h0 (by omega), fun z => absurd rfl z⟩)
    exact s_inU (lo := 1) (hi := 4) (by omega) (by omega) (fun a2 b2 => ⟨fun z => absurd z nz1, fun _ => h1 ⟨b, a2, b2⟩⟩) (fun a2 => ⟨fun _ => h0 (fun w => a2 w.2), fun z => absurd rfl z⟩)
  · replace z1 := e1.mp z1
    rw [if_neg (by omega), if_pos z1] at h1 h0
    exact s_inU (lo := 0) (hi := 40) (by omega) (by omega) (fun a2 b2 => ⟨Or.inr rfl, h1 ⟨by omega, b2⟩⟩) (fun a2 => ⟨Or.inl rfl, h0 (by omega)⟩)
  · replace z0 := e0.mp z0
    rw [if_pos z0] at h1 h0
    exact s_inU (lo := 0) (hi := 3) (by omega) (by omega) (fun a2 b2 => ⟨Or.inr rfl, h1 ⟨by omega, b2⟩⟩) (fun a2 => ⟨Or.inl rfl, h0 (by omega)⟩)
/-- the settings with the k-th anew -/
def sv (ru fe li wi k v : Nat) (j : Nat) : Nat := if j = k then v else if j = 0 then ru else if j = 1 then fe else if j = 2 then li else wi
theorem p_set {σ : tzS} {x y : Int32} (hI : INV σ) {R : Int32 → Int32 → tzS → Prop} (h : ∀ A σ', INV σ' → R A A σ') : vc_X9_set x y σ (fun r σ' => vc_X10_set x y σ' (fun r' σ'' => R r r' σ'')) := by
  have hI' := hI
  obtain ⟨f, n, ru, fe, li, wi, td, fm, sz, it, fd, hS⟩ := hI
  have bad : ¬ okv x y → vc_X10_set x y σ (fun r' σ'' => R (-2) r' σ'') := fun w => by
    unfold vc_X10_set
    exact m_isSetting (fun a => absurd a w) (fun _ => ⟨fun z => absurd rfl z, fun _ => h _ σ hI'⟩)
  unfold vc_X9_set
  refine ⟨fun z => bad (fun w => by unfold okv at w; rw [un_neg z] at w; omega), fun z => ⟨fun z2 => ?_, fun z2 => bad (fun w => (not_congr (un_le z (b := 3) (by omega))).mp z2 w.1)⟩⟩
  replace z2 := (un_le z (b := 3) (by omega)).mp z2
  have ex := un_at (x := x) (b := 4) (by omega) (by omega)
  have hrow := st_row (un x) y z2
  have hok : okv x y ↔ (¬ y < tz_least (un x) ∧ y ≤ tz_most (un x)) := ⟨fun w => hrow.mpr w.2, fun w => ⟨z2, hrow.mp w⟩⟩
  have ecl : x.toNatClampNeg = un x := (if_neg z).symm
  have hin : vp_in x 4 := by
    rw [ex]
    exact in_nI (by omega) (by omega)
  rw [ecl]
  refine ⟨hin, fun z3 => bad (fun w => (hok.mp w).1 z3), fun z3 => ⟨fun z4 => ?_, fun z4 => bad (fun w => z4 (hok.mp w).2)⟩⟩
  have hgood := hok.mpr ⟨z3, z4⟩
  obtain ⟨hC, hM, hc, hm, hb⟩ := hS
  obtain ⟨hT, hCS, c1, c2, c3, c4, c5⟩ := hC
  obtain ⟨k1, k2, k3, k4, k5, k6, k7, k8, k9, k10⟩ := hCS
  obtain ⟨m1, m2, m3, m4, m5, m6, m7, m8⟩ := hM
  have hS12 := (rd_ok (f := f) hT.1).2.1
  have hy5 : un y < 41 := by
    have w := hgood.2
    by_cases q0 : un x = 0
    · rw [if_pos q0] at w; omega
    · by_cases q1 : un x = 1
      · rw [if_neg q0, if_pos q1] at w; omega
      · rw [if_neg q0, if_neg q1] at w; omega
  have ey := un_at (x := y) (b := 41) hy5 (by omega)
  have hold : σ.1 132 (un x) = nI (sv ru fe li wi 9 0 (un x)) ∧ σ.1 135 (un x) = nI (sv ru fe li wi 9 0 (un x)) := by
    rcases (show un x = 0 ∨ un x = 1 ∨ un x = 2 ∨ un x = 3 by omega) with e | e | e | e
    · rw [e]; exact ⟨k6, m2.1⟩
    · rw [e]; exact ⟨k7, m2.2.1⟩
    · rw [e]; exact ⟨k8, m2.2.2.1⟩
    · rw [e]; exact ⟨k9, m2.2.2.2⟩
  intro x3 hx3 σ7 h7
  rw [hold.1] at hx3
  subst hx3
  have good : ∀ σ' : tzS, (∀ a, a ≠ 0 → a ≠ 132 → σ'.1 a = σ.1 a) → (∀ j, j < 12 → σ'.1 0 j = σ.1 0 j) → σ'.1 132 = σ7.1 132 → σ'.2 = σ.2 → CF f n (sv ru fe li wi (un x) (un y) 0) (sv ru fe li wi (un x) (un y) 1) (sv ru fe li wi (un x) (un y) 2) (sv ru fe li wi (un x) (un y) 3) σ' → vc_X10_set x y σ' (fun r' σ'' => R (nI (sv ru fe li wi 9 0 (un x))) r' σ'') := by
    intro σ' f3 f0 f132 s3 hCF
    unfold vc_X10_set
    refine m_isSetting (fun _ => ⟨fun _ => ⟨hin, ?_⟩, fun w => absurd w nz1⟩) (fun a => absurd hgood a)
    rw [ecl, f3 135 (by omega) (by omega), hold.2]
    intro y3 hy3 σ6 h6
    subst hy3
    have bnd : sv ru fe li wi (un x) (un y) 0 ≤ 3 ∧ sv ru fe li wi (un x) (un y) 1 ≤ 40 ∧ sv ru fe li wi (un x) (un y) 2 ≤ 4 ∧ sv ru fe li wi (un x) (un y) 3 ≤ 4 := by
      have w := hgood.2
      unfold sv
      rcases (show un x = 0 ∨ un x = 1 ∨ un x = 2 ∨ un x = 3 by omega) with e | e | e | e
      · simp [e] at w ⊢
        omega
      · simp [e] at w ⊢
        omega
      · simp [e] at w ⊢
        omega
      · simp [e] at w ⊢
        omega
    have rows : ∀ (S0 : Nat → Int32) (g : Nat → Int32), (∀ j, g j = if j = un x then y else S0 j) → S0 0 = nI ru → S0 1 = nI fe → S0 2 = nI li → S0 3 = nI wi → ∀ j, j < 4 → g j = nI (sv ru fe li wi (un x) (un y) j) := by
      intro S0 g hg a0 a1 a2 a3 j hj
      rw [hg j]
      unfold sv
      by_cases e : j = un x
      · rw [if_pos e, if_pos e]; exact ey
      · rw [if_neg e, if_neg e]
        rcases (show j = 0 ∨ j = 1 ∨ j = 2 ∨ j = 3 by omega) with e | e | e | e
        · subst e; exact a0
        · subst e; exact a1
        · subst e; exact a2
        · subst e; exact a3
    have r132 := rows (σ.1 132) (σ'.1 132) (fun j => by rw [f132, h7, st_g, if_pos rfl]) k6 k7 k8 k9
    have r135 := rows (σ.1 135) (σ6.1 135) (fun j => by rw [h6, st_g, if_pos rfl, f3 135 (by omega) (by omega)]) m2.1 m2.2.1 m2.2.2.1 m2.2.2.2
    have hC' : CI f n (sv ru fe li wi (un x) (un y) 0) (sv ru fe li wi (un x) (un y) 1) (sv ru fe li wi (un x) (un y) 2) (sv ru fe li wi (un x) (un y) 3) td σ' := ⟨⟨hT.1, by rw [f3 1 (by omega) (by omega)]; exact hT.2.1, fun i hi => ⟨(hT.2.2 i hi).1, by rw [f3 2 (by omega) (by omega)]; exact (hT.2.2 i hi).2⟩⟩, ⟨bnd.1, bnd.2.1, bnd.2.2.1, bnd.2.2.2, k5, r132 0 (by omega), r132 1 (by omega), r132 2 (by omega), r132 3 (by omega), by rw [f0 10 (by omega)]; exact k10⟩, hCF⟩
    refine h _ σ6 ⟨f, n, _, _, _, _, td, fm, sz, it, fd, hC'.lo (fun a ha => by rw [h6, st_ne (by omega)]) (by rw [h6]; rfl), ⟨⟨m1.1, by rw [h6, st_ne (by decide), f3 133 (by omega) (by omega)]; exact m1.2.1, fun i hi => ⟨(m1.2.2 i hi).1, by rw [h6, st_ne (by decide), f3 134 (by omega) (by omega)]; exact (m1.2.2 i hi).2⟩⟩, ⟨r135 0 (by omega), r135 1 (by omega), r135 2 (by omega), r135 3 (by omega)⟩, bnd.1, bnd.2.1, bnd.2.2.1, bnd.2.2.2, m7, by rw [h6, st_ne (by decide), f3 133 (by omega) (by omega)]; exact m8⟩, hc.cg (fun a _ _ => by rw [h6, st_ne (by omega), f3 a (by omega) (by omega)]) (by rw [h6, st_ne (by decide), f0 11 (by omega)]), hm.cg (fun a _ _ => by rw [h6, st_ne (by omega), f3 a (by omega) (by omega)]) (by rw [h6, st_ne (by decide), f3 133 (by omega) (by omega)]), hb⟩
  -- what stays of what was worked out
  have f7 : ∀ a, a ≠ 132 → σ7.1 a = σ.1 a := fun a ha => by rw [h7, st_ne ha]
  have s7 : σ7.2 = σ.2 := by rw [h7]; rfl
  have e2 : x = 2 ↔ un x = 2 := un_eq (b := 2) (by omega)
  have e3 : x = 3 ↔ un x = 3 := un_eq (b := 3) (by omega)
  have keep : ∀ σ' : tzS, (∀ a, a ≠ 0 → a ≠ 132 → σ'.1 a = σ.1 a) → (∀ j, (j = 12 ∨ j = 13 ∨ j = 14 ∨ j = 15 ∨ j = 16) → σ'.1 0 j = σ.1 0 j ∨ σ'.1 0 j = 0) → σ'.2 = σ.2 → (¬ σ'.1 0 13 = 0 → sv ru fe li wi (un x) (un y) 2 = li) → (¬ σ'.1 0 14 = 0 ∨ ¬ σ'.1 0 15 = 0 → sv ru fe li wi (un x) (un y) 0 = ru ∧ sv ru fe li wi (un x) (un y) 1 = fe) → (¬ σ'.1 0 16 = 0 → sv ru fe li wi (un x) (un y) 3 = wi) → CF f n (sv ru fe li wi (un x) (un y) 0) (sv ru fe li wi (un x) (un y) 1) (sv ru fe li wi (un x) (un y) 2) (sv ru fe li wi (un x) (un y) 3) σ' := by
    intro σ' f3 f0 s3 q13 q14 q16
    have nz : ∀ j, (j = 12 ∨ j = 13 ∨ j = 14 ∨ j = 15 ∨ j = 16) → ¬ σ'.1 0 j = 0 → ¬ σ.1 0 j = 0 := fun j hj w => by
      rcases f0 j hj with e | e
      · rw [← e]; exact w
      · exact absurd e w
    refine ⟨fun w => ?_, fun w => ?_, fun w => ?_, fun w => ?_, fun w => ?_⟩
    · have w' := nz 12 (by omega) w
      exact ⟨(c1 w').1.cg (f3 3 (by omega) (by omega)), (c1 w').2.cg hS12 (fun a _ _ => f3 a (by omega) (by omega)) s3⟩
    · rw [q13 w]
      exact (c2 (nz 13 (by omega) w)).cg (fun a _ _ => f3 a (by omega) (by omega))
    · rw [(q14 (Or.inl w)).1, (q14 (Or.inl w)).2]
      exact (c3 (nz 14 (by omega) w)).cg hS12 (fun a _ _ => f3 a (by omega) (by omega))
    · rw [(q14 (Or.inr w)).1, (q14 (Or.inr w)).2]
      exact (c4 (nz 15 (by omega) w)).cg (f3 81 (by omega) (by omega)) (f3 82 (by omega) (by omega))
    · rw [q16 w]
      exact (c5 (nz 16 (by omega) w)).cg (fun a _ _ => f3 a (by omega) (by omega))
  refine ⟨fun w2 => ⟨fun w3 σ10 h10 σ11 h11 => ?_, fun w3 σ12 h12 => ?_⟩, fun w2 σ13 h13 => ?_⟩
  · replace w2 := (not_congr e2).mp w2
    replace w3 := (not_congr e3).mp w3
    have g0 : ∀ a, a ≠ 0 → σ11.1 a = σ7.1 a := fun a ha => by rw [h11, st_ne ha, h10, st_ne ha]
    have g1 : ∀ j, j ≠ 14 → j ≠ 15 → σ11.1 0 j = σ.1 0 j := fun j a b => by rw [h11, st_nj b, h10, st_nj a, f7 0 (by omega)]
    have g14 : σ11.1 0 14 = 0 := by rw [h11, st_nj (by decide), h10, st_eq]
    have g15 : σ11.1 0 15 = 0 := by rw [h11, st_eq]
    have g3 : ∀ a, a ≠ 0 → a ≠ 132 → σ11.1 a = σ.1 a := fun a a0 a1 => by rw [g0 a a0, f7 a a1]
    have gs : σ11.2 = σ.2 := by rw [h11, st_2, h10, st_2, s7]
    refine good σ11 g3 (fun j hj => g1 j (by omega) (by omega)) (g0 132 (by omega)) gs (keep σ11 g3 (fun j hj => ?_) gs (fun _ => ?_) (fun w => ?_) (fun _ => ?_))
    · by_cases a : j = 14
      · exact Or.inr (by rw [a]; exact g14)
      · by_cases b : j = 15
        · exact Or.inr (by rw [b]; exact g15)
        · exact Or.inl (g1 j a b)
    · unfold sv
      rw [if_neg (by omega)]
      rfl
    · rcases w with w | w
      · exact absurd g14 w
      · exact absurd g15 w
    · unfold sv
      rw [if_neg (by omega)]
      rfl
  · replace w3 := e3.mp w3
    have g0 : ∀ a, a ≠ 0 → σ12.1 a = σ7.1 a := fun a ha => by rw [h12, st_ne ha]
    have g1 : ∀ j, j ≠ 16 → σ12.1 0 j = σ.1 0 j := fun j a => by rw [h12, st_nj a, f7 0 (by omega)]
    have g16 : σ12.1 0 16 = 0 := by rw [h12, st_eq]
    have g3 : ∀ a, a ≠ 0 → a ≠ 132 → σ12.1 a = σ.1 a := fun a a0 a1 => by rw [g0 a a0, f7 a a1]
    have gs : σ12.2 = σ.2 := by rw [h12, st_2, s7]
    refine good σ12 g3 (fun j hj => g1 j (by omega)) (g0 132 (by omega)) gs (keep σ12 g3 (fun j hj => ?_) gs (fun _ => ?_) (fun w => ⟨?_, ?_⟩) (fun w => absurd g16 w))
    · by_cases a : j = 16
      · exact Or.inr (by rw [a]; exact g16)
      · exact Or.inl (g1 j a)
    · unfold sv
      rw [if_neg (by omega)]
      rfl
    · unfold sv
      rw [if_neg (by omega)]
      rfl
    · unfold sv
      rw [if_neg (by omega)]
      rfl
  · replace w2 := e2.mp w2
    have g0 : ∀ a, a ≠ 0 → σ13.1 a = σ7.1 a := fun a ha => by rw [h13, st_ne ha]
    have g1 : ∀ j, j ≠ 13 → σ13.1 0 j = σ.1 0 j := fun j a => by rw [h13, st_nj a, f7 0 (by omega)]
    have g13 : σ13.1 0 13 = 0 := by rw [h13, st_eq]
    have g3 : ∀ a, a ≠ 0 → a ≠ 132 → σ13.1 a = σ.1 a := fun a a0 a1 => by rw [g0 a a0, f7 a a1]
    have gs : σ13.2 = σ.2 := by rw [h13, st_2, s7]
    refine good σ13 g3 (fun j hj => g1 j (by omega)) (g0 132 (by omega)) gs (keep σ13 g3 (fun j hj => ?_) gs (fun w => absurd g13 w) (fun w => ⟨?_, ?_⟩) (fun _ => ?_))
    · by_cases a : j = 13
      · exact Or.inr (by rw [a]; exact g13)
      · exact Or.inl (g1 j a)
    · unfold sv
      rw [if_neg (by omega)]
      rfl
    · unfold sv
      rw [if_neg (by omega)]
      rfl
    · unfold sv
      rw [if_neg (by omega)]
      rfl
