/-! ===== QUESTIONS: stem, letter, chains, chain, over, count ===== -/
def a_stem (f : Nat → Nat) (n : Nat) (x y : Int32) : Int32 := if un x < rd_K f n ∧ un y ≤ 3 then (if un y = 0 then nI (rd_sl f n (un x)) else if un y = 1 then nI (rd_ct f n (un x)) else if un y = 2 then nI (sp_tN f n (rd_sw f n (un x))) else nI (rd_la f n (un x))) else -2
theorem c_stem {f : Nat → Nat} {n ru fe li wi td : Nat} {σ : tzS} {x y : Int32} (hC : CI f n ru fe li wi td σ) {Q : Int32 → tzS → Prop} (h : ∀ σ', CI f n ru fe li wi td σ' → qf σ σ' → Q (a_stem f n x y) σ') : vc_X9_stem x y σ Q := by
  have hn := hC.1.1
  obtain ⟨r1, r2, r3, r4, r5, r6⟩ := rd_ok (f := f) hn
  unfold vc_X9_stem
  refine c_read hC (fun σ1 hC1 hF hR _ hq => ?_)
  replace h := h σ1 hC1 hq
  unfold a_stem at h
  have bad : ¬ (un x < rd_K f n ∧ un y ≤ 3) → Q (-2) σ1 := fun w => by rw [if_neg w] at h; exact h
  unfold vc_X9_noStem
  have eK : σ1.1 4 2 = nI (rd_K f n) := hR.2.2.1
  rw [eK]
  refine q_lt (Q := fun r_3 σ_2 => (¬ r_3 = 0 → Q (-2) σ_2) ∧ (r_3 = 0 → _)) (by omega) (fun hx => ⟨fun z => absurd rfl z, fun _ => ?_⟩) (fun hx => ⟨fun _ => bad (by omega), fun z => absurd z nz1⟩)
  refine ⟨fun z => bad (by rw [un_neg z]; omega), fun z => ⟨fun z2 => ?_, fun z2 => bad (by have := (not_congr (un_le z (b := 3) (by omega))).mp z2; omega)⟩⟩
  replace z2 := (un_le z (b := 3) (by omega)).mp z2
  rw [if_pos ⟨hx, z2⟩] at h
  have ex := un_at hx (by omega)
  have e0 : y = 0 ↔ un y = 0 := un_eq (b := 0) (by omega)
  have e1 : y = 1 ↔ un y = 1 := un_eq (b := 1) (by omega)
  have e2 : y = 2 ↔ un y = 2 := un_eq (b := 2) (by omega)
  generalize un x = s at *
  subst ex
  obtain ⟨k1, k2, k3, k4, -⟩ := hR.2.2.2.2.2 s hx
  rw [cl_nI (by omega), k1, k2, k3, k4]
  have hin : vp_in (nI s) 108 := in_nI (by omega) (by omega)
  refine ⟨fun y0 => ⟨fun y1 => ⟨fun y2 => ⟨hin, ?_⟩, fun y2 => ⟨hin, ?_⟩⟩, fun y1 => ⟨hin, ?_⟩⟩, fun y0 => ⟨hin, ?_⟩⟩
  · rw [if_neg ((not_congr e0).mp y0), if_neg ((not_congr e1).mp y1), if_neg ((not_congr e2).mp y2)] at h
    exact h
  · rw [if_neg ((not_congr e0).mp y0), if_neg ((not_congr e1).mp y1), if_pos (e2.mp y2)] at h
    exact h
  · rw [if_neg ((not_congr e0).mp y0), if_pos (e1.mp y1)] at h
    exact h
  · rw [if_pos (e0.mp y0)] at h
    exact h
theorem m_stemOf {f : Nat → Nat} {n : Nat} {σ : tzS} {x y : Int32} (hn : n ≤ 200) (hR : MR f n σ) (hx : un x < rd_K f n) (hy : un y ≤ 3) {Q : Int32 → tzS → Prop} (h : Q (a_stem f n x y) σ) : vc_X10_stemOf x y σ Q := by
  obtain ⟨r1, r2, r3, r4, r5, r6⟩ := rd_ok (f := f) hn
  unfold a_stem at h
  rw [if_pos ⟨hx, hy⟩] at h
  have ex := un_at hx (by omega)
  have e0 : y = 0 ↔ un y = 0 := un_eq (b := 0) (by omega)
  have e1 : y = 1 ↔ un y = 1 := un_eq (b := 1) (by omega)
  have e2 : y = 2 ↔ un y = 2 := un_eq (b := 2) (by omega)
  have h7 : σ.1 133 7 = nI (rd_S f n) := hR.2.2.2.1
  have hH := hR.2.2.2.2.2.2.2.2.2.2
  generalize un x = t at *
  subst ex
  obtain ⟨g1, g2, g3, g4, g5⟩ := rd_first hn hx
  generalize hF : sp_tN f n (rd_sw f n t) = F at *
  generalize hL : rd_la f n t = L at *
  unfold vc_X10_stemOf
  refine for4d 0 (rd_S f n) (fun s a b c r => r = σ ∧ a = nI (fb_sm (fun s => rd_hv f n s t) s) ∧ ((s ≤ F ∧ b = -1 ∧ c = -1) ∨ (F < s ∧ b = nI F ∧ ∃ l, c = nI l ∧ l < s ∧ 0 < rd_hv f n l t ∧ ∀ s', s' < s → 0 < rd_hv f n s' t → s' ≤ l))) (Nat.zero_le _) ⟨rfl, rfl, Or.inl ⟨Nat.zero_le _, rfl, rfl⟩⟩ ?_ ?_
  · intro s a b c r ag _ hs hI hag
    obtain ⟨i1, i2, i3⟩ := hI
    subst i1
    have hb := rd_hv_le (f := f) (s := s) (t := t) hn
    have m1 : (110 : Int32) * nI s = nI (110 * s) := pk_mul 110 s
    rw [h7, m1, nI_add, cl_nI (show 110 * s + t < 100000 by omega), hH s t (by omega) (by omega), i2, nI_1]
    refine ⟨fun z => absurd ((le_nI (by omega) (by omega)).mp z) (by omega), fun _ => ⟨in_nI (by omega) (by omega), ?_⟩⟩
    rintro x7 rfl
    rw [nI_add, ← fb_sm_succ (fun s => rd_hv f n s t)]
    rintro x3 rfl
    refine ⟨fun z x hx6 => ?_, fun z => ⟨fun z2 x hx6 => ?_, fun z2 x hx6 => ?_⟩⟩
    · subst hx6
      replace z := (le_nI (b := 0) (by omega) (by omega)).mp z
      refine hag _ _ _ _ ⟨rfl, rfl, ?_⟩
      rcases i3 with ⟨j1, j2, j3⟩ | ⟨j1, j2, l, j3, j4, j5, j6⟩
      · have : s ≠ F := fun e => by rw [e] at z; omega
        exact Or.inl ⟨by omega, j2, j3⟩
      · refine Or.inr ⟨by omega, j2, l, j3, by omega, j5, fun s' q1 q2 => ?_⟩
        by_cases e : s' = s
        · rw [e] at q2; omega
        · exact j6 s' (by omega) q2
    · subst hx6
      replace z := (not_congr (le_nI (b := 0) (by omega) (by omega))).mp z
      refine hag _ _ _ _ ⟨rfl, rfl, ?_⟩
      rcases i3 with ⟨j1, j2, j3⟩ | ⟨j1, j2, l, j3, j4, j5, j6⟩
      · exact absurd j2 z2
      · exact Or.inr ⟨by omega, j2, s, rfl, by omega, by omega, fun s' q1 q2 => by omega⟩
    · subst hx6
      replace z := (not_congr (le_nI (b := 0) (by omega) (by omega))).mp z
      refine hag _ _ _ _ ⟨rfl, rfl, ?_⟩
      rcases i3 with ⟨j1, j2, j3⟩ | ⟨j1, j2, l, j3, j4, j5, j6⟩
      · have := (g5 s (by omega)).1
        have e : s = F := by omega
        exact Or.inr ⟨by omega, by rw [e], s, rfl, by omega, by omega, fun s' q1 q2 => by omega⟩
      · rw [j2] at z2
        exact absurd z2 (ne_m1 (by omega))
  · intro a b c r ag hI
    obtain ⟨i1, i2, i3⟩ := hI
    subst i1
    rw [h7]
    refine ⟨fun _ => ?_, fun z => absurd ((le_nI (by omega) (by omega)).mpr (Nat.le_refl _)) z⟩
    rw [rd_ct_sum hn] at i2
    rcases i3 with ⟨j1, j2, j3⟩ | ⟨j1, j2, l, j3, j4, j5, j6⟩
    · omega
    · have el : l = L := by
        have q1 := j6 L g4 g2
        have q2 := (g5 l j5).2
        omega
      refine ⟨fun y0 => ⟨fun y1 => ⟨fun y2 => ?_, fun y2 => ?_⟩, fun y1 => ?_⟩, fun y0 => ⟨in_nI (by omega) (by omega), ?_⟩⟩
      · rw [if_neg ((not_congr e0).mp y0), if_neg ((not_congr e1).mp y1), if_neg ((not_congr e2).mp y2)] at h
        rw [j3, el]; exact h
      · rw [if_neg ((not_congr e0).mp y0), if_neg ((not_congr e1).mp y1), if_pos (e2.mp y2)] at h
        rw [j2]; exact h
      · rw [if_neg ((not_congr e0).mp y0), if_pos (e1.mp y1)] at h
        rw [i2]; exact h
      · rw [if_pos (e0.mp y0)] at h
        rw [cl_nI (by omega), (hR.2.2.2.2.2.2.2.2.1 t hx).2]
        exact h
theorem m_isStem {f : Nat → Nat} {n ru fe li wi td : Nat} {σ : tzS} {x : Int32} (hM : MI f n ru fe li wi td σ) {Q : Int32 → tzS → Prop} (h1 : ∀ σ', MI f n ru fe li wi td σ' → MR f n σ' → mo σ σ' → un x < rd_K f n → Q 1 σ') (h0 : ∀ σ', MI f n ru fe li wi td σ' → mo σ σ' → ¬ un x < rd_K f n → Q 0 σ') : vc_X10_isStem x σ Q := by
  obtain ⟨r1, r2, r3, -⟩ := rd_ok (f := f) hM.1.1
  unfold vc_X10_isStem
  refine s_reads hM.1 (fun σ1 hR hk => ?_)
  have e9 : σ1.1 133 9 = nI (rd_K f n) := hR.2.2.2.2.2.1
  rw [e9]
  exact s_inM (lo := 0) (by omega) (by omega) (fun a b => ⟨Or.inr rfl, h1 σ1 (hM.mo hk.mo) hR hk.mo b⟩) (fun a => ⟨Or.inl rfl, h0 σ1 (hM.mo hk.mo) hk.mo (by omega)⟩)
theorem m_stem {f : Nat → Nat} {n ru fe li wi td : Nat} {σ : tzS} {x y : Int32} (hM : MI f n ru fe li wi td σ) {Q : Int32 → tzS → Prop} (h : ∀ σ', MI f n ru fe li wi td σ' → mo σ σ' → Q (a_stem f n x y) σ') : vc_X10_stem x y σ Q := by
  unfold vc_X10_stem
  refine m_isStem hM (fun σ1 hM1 hR hk hx => ⟨fun z => absurd z nz1, fun _ => ?_⟩) (fun σ1 hM1 hk hx => ⟨fun _ => ?_, fun z => absurd rfl z⟩)
  · refine s_inU (lo := 0) (hi := 3) (by omega) (by omega) (fun a b => ⟨fun z => absurd z nz1, fun _ => ?_⟩) (fun a => ⟨fun _ => ?_, fun z => absurd rfl z⟩)
    · exact m_stemOf hM.1.1 hR hx b (h σ1 hM1 hk)
    · replace h := h σ1 hM1 hk
      unfold a_stem at h
      rw [if_neg (by omega)] at h
      exact h
  · replace h := h σ1 hM1 hk
    unfold a_stem at h
    rw [if_neg (by omega)] at h
    exact h
/-! letter -/
def a_letter (f : Nat → Nat) (n : Nat) (x y : Int32) : Int32 := if un x < rd_K f n ∧ un y < rd_sl f n (un x) then nI (f (sp_tA f n (rd_sw f n (un x)) + un y)) else -2
theorem rd_slk {f : Nat → Nat} {n t : Nat} (hn : n ≤ 200) (ht : t < rd_K f n) : rd_sl f n t ≤ 10 ∧ sp_tA f n (rd_sw f n t) + rd_sl f n t ≤ n ∧ ∀ i, i < rd_sl f n t → sp_L (f (sp_tA f n (rd_sw f n t) + i)) = true := by
  obtain ⟨r1, r2, r3, r4, r5, r6⟩ := rd_ok (f := f) hn
  have hlt := (sp_st_le f (sp_tA f n) (sp_tG f n) (rd_W f n)).2 t ht
  obtain ⟨k1, k2, k3, k4, -⟩ := r4 (rd_sw f n t) hlt
  have hle := sp_sl_le f (sp_tA f n (rd_sw f n t)) (sp_tG f n (rd_sw f n t))
  unfold rd_sl
  exact ⟨by omega, by omega, fun i hi => k4 i (by omega)⟩
theorem c_letter {f : Nat → Nat} {n ru fe li wi td : Nat} {σ : tzS} {x y : Int32} (hC : CI f n ru fe li wi td σ) {Q : Int32 → tzS → Prop} (h : ∀ σ', CI f n ru fe li wi td σ' → qf σ σ' → Q (a_letter f n x y) σ') : vc_X9_letter x y σ Q := by
  have hn := hC.1.1
  obtain ⟨r1, r2, r3, r4, r5, r6⟩ := rd_ok (f := f) hn
  unfold vc_X9_letter
  refine c_read hC (fun σ1 hC1 hF hR _ hq => ?_)
  replace h := h σ1 hC1 hq
  unfold a_letter at h
  have bad : ¬ (un x < rd_K f n ∧ un y < rd_sl f n (un x)) → Q (-2) σ1 := fun w => by rw [if_neg w] at h; exact h
  unfold vc_X9_noStem
  have eK : σ1.1 4 2 = nI (rd_K f n) := hR.2.2.1
  rw [eK]
  refine q_lt (Q := fun r_3 σ_2 => (r_3 = 0 → _) ∧ (¬ r_3 = 0 → Q (-2) σ_2)) (by omega) (fun hx => ⟨fun _ => ?_, fun z => absurd rfl z⟩) (fun hx => ⟨fun z => absurd z nz1, fun _ => bad (by omega)⟩)
  have ex := un_at hx (by omega)
  generalize un x = t at *
  subst ex
  obtain ⟨l1, l2, l3⟩ := rd_slk hn hx
  obtain ⟨k1, k2, k3, k4, k5⟩ := hR.2.2.2.2.2 t hx
  refine ⟨fun z => bad (by rw [un_neg z]; omega), fun z => ⟨in_nI (by omega) (by omega), ?_⟩⟩
  rw [cl_nI (by omega), k1]
  refine ⟨fun z2 => ?_, fun z2 => bad (by have := (not_congr (un_lt z (b := rd_sl f n t) (by omega))).mp z2; omega)⟩
  replace z2 := (un_lt z (b := rd_sl f n t) (by omega)).mp z2
  rw [if_pos ⟨hx, z2⟩] at h
  have ey := un_at z2 (by omega)
  generalize un y = w at *
  subst ey
  unfold vc_X6_letterOf
  rw [cl_nI (by omega), k1, k5, nI_sub1 (by omega), pk_sub (by omega)]
  refine ⟨in_nI (by omega) (by omega), ?_⟩
  rintro x3 rfl
  have c50 := cd_50 l1 l3
  generalize hA : sp_tA f n (rd_sw f n t) = A at *
  have e1 := cd_shr (f := f) (a := A) (e := rd_sl f n t - 1 - w) (j := w + 1) (fun i hi => l3 i (by omega))
  rw [show w + 1 + (rd_sl f n t - 1 - w) = rd_sl f n t by omega] at e1
  have e2 := cd_mod (f := f) (a := A) (j := w) (l3 w z2)
  have hb := sp_L_iff.mp (l3 w z2)
  have e3 : lN (cd f A (w + 1)) &&& 31 = lN (cd f A (w + 1) % 2 ^ 5) := lN_m (k := 5)
  rw [lN_shr (by omega) (by omega), e1, e3, show (2 : Nat) ^ 5 = 32 from rfl, e2, lN_i]
  have e4 : (96 : Int32) + nI (f (A + w) - 96) = nI (96 + (f (A + w) - 96)) := nI_add 96 _
  rw [e4, show 96 + (f (A + w) - 96) = f (A + w) by omega]
  exact h
theorem m_letterOf {f : Nat → Nat} {n : Nat} {σ : tzS} {x y : Int32} (hT : MT f n σ) (hR : MR f n σ) (hx : un x < rd_K f n) {Q : Int32 → tzS → Prop} (h : Q (a_letter f n x y) σ) : vc_X10_letterOf x y σ Q := by
  have hn := hT.1
  obtain ⟨r1, r2, r3, r4, r5, r6⟩ := rd_ok (f := f) hn
  unfold a_letter at h
  have ex := un_at hx (by omega)
  generalize un x = t at *
  subst ex
  obtain ⟨l1, l2, l3⟩ := rd_slk hn hx
  obtain ⟨k1, k2⟩ := hR.2.2.2.2.2.2.2.2.1 t hx
  unfold vc_X10_letterOf
  rw [cl_nI (by omega), k2]
  refine ⟨in_nI (by omega) (by omega), ?_⟩
  refine s_inM (lo := 0) (by omega) (by omega) (fun a b => ⟨fun z => absurd z nz1, fun _ => ?_⟩) (fun a => ⟨fun _ => ?_, fun z => absurd rfl z⟩)
  · rw [if_pos ⟨hx, b⟩] at h
    have ey := un_at b (by omega)
    generalize un y = w at *
    subst ey
    rw [k1, nI_add, cl_nI (by omega), (hT.2.2 _ (by omega)).2]
    exact ⟨in_nI (by omega) (by omega), h⟩
  · rw [if_neg (by omega)] at h
    exact h
theorem m_letter {f : Nat → Nat} {n ru fe li wi td : Nat} {σ : tzS} {x y : Int32} (hM : MI f n ru fe li wi td σ) {Q : Int32 → tzS → Prop} (h : ∀ σ', MI f n ru fe li wi td σ' → mo σ σ' → Q (a_letter f n x y) σ') : vc_X10_letter x y σ Q := by
  unfold vc_X10_letter
  refine m_isStem hM (fun σ1 hM1 hR hk hx => ⟨fun z => absurd z nz1, fun _ => m_letterOf hM1.1 hR hx (h σ1 hM1 hk)⟩) (fun σ1 hM1 hk hx => ⟨fun _ => ?_, fun z => absurd rfl z⟩)
  replace h := h σ1 hM1 hk
  unfold a_letter at h
  rw [if_neg (by omega)] at h
  exact h
/-! chains -/
theorem rd_ch_le {f : Nat → Nat} {n li : Nat} (hn : n ≤ 200) : (rd_ch f n li).1 ≤ 50 := by
  have a := ch_all_le (rd_hv f n) li (rd_S f n) (rd_K f n)
  have b : fb_sm (fun t => fb_sm (fun s => rd_hv f n s t) (rd_S f n)) (rd_K f n) = rd_W f n := by
    rw [← rd_ct_all]
    exact fb_sm_cong (fun t _ => rd_ct_sum hn)
  have := (rd_ok (f := f) hn).1
  unfold rd_ch
  omega
def wgt (C : chS) (i : Nat) : Int32 := nI (C.2 i).2.2.2 * ((nI (C.2 i).2.2.1 - nI (C.2 i).2.1) + 1)
def a_chain (f : Nat → Nat) (n li : Nat) (x y : Int32) : Int32 := if un x < 100 ∧ un y ≤ 4 then (if un x < (rd_ch f n li).1 then (if un y = 0 then nI ((rd_ch f n li).2 (un x)).1 else if un y = 1 then nI ((rd_ch f n li).2 (un x)).2.1 else if un y = 2 then nI ((rd_ch f n li).2 (un x)).2.2.1 else if un y = 3 then nI ((rd_ch f n li).2 (un x)).2.2.2 else wgt (rd_ch f n li) (un x)) else -1) else -2
theorem c_chains {f : Nat → Nat} {n ru fe li wi td : Nat} {σ : tzS} (hC : CI f n ru fe li wi td σ) {Q : Int32 → tzS → Prop} (h : ∀ σ', CI f n ru fe li wi td σ' → qf σ σ' → Q (nI (rd_ch f n li).1) σ') : vc_X9_chains σ Q := by
  unfold vc_X9_chains
  refine c_read hC (fun σ1 hC1 hF hR _ hq => ?_)
  refine c_link hC1 hR (fun σ2 hC2 hR2 hL hq2 => ?_)
  rw [hL.1]
  exact h σ2 hC2 (hq.tr hq2)
theorem m_chainsOf {f : Nat → Nat} {n ru fe li wi td : Nat} {σ : tzS} (hM : MI f n ru fe li wi td σ) {Q : Int32 → tzS → Prop} (h : ∀ σ', MI f n ru fe li wi td σ' → mo σ σ' → Q (nI (rd_ch f n li).1) σ') : vc_X10_chainsOf σ Q := by
  unfold vc_X10_chainsOf
  refine s_findsChains hM.1 hM.2.2.2.2.1 hM.2.1.2.2.1 (fun σ1 σ2 hR1 hk1 hR2 hK hk2 => ?_)
  have hmo := hk1.mo.tr hk2.mo
  rw [hK.1]
  exact h σ2 (hM.mo hmo) hmo
theorem c_chain {f : Nat → Nat} {n ru fe li wi td : Nat} {σ : tzS} {x y : Int32} (hC : CI f n ru fe li wi td σ) {Q : Int32 → tzS → Prop} (h : ∀ σ', CI f n ru fe li wi td σ' → qf σ σ' → Q (a_chain f n li x y) σ') : vc_X9_chain x y σ Q := by
  have hc50 := rd_ch_le (f := f) (li := li) hC.1.1
  have bad : ¬ (un x < 100 ∧ un y ≤ 4) → Q (-2) σ := fun w => by
    have := h σ hC qf.rf
    unfold a_chain at this
    rw [if_neg w] at this
    exact this
  unfold vc_X9_chain
  refine ⟨fun z => bad (by rw [un_neg z]; omega), fun z => ⟨fun z2 => bad (by have := (un_ge z (b := 100) (by omega)).mp z2; omega), fun z2 => ?_⟩⟩
  replace z2 := (not_congr (un_ge z (b := 100) (by omega))).mp z2
  refine ⟨fun zy => bad (by rw [un_neg zy]; omega), fun zy => ⟨fun zy2 => ?_, fun zy2 => bad (by have := (not_congr (un_le zy (b := 4) (by omega))).mp zy2; omega)⟩⟩
  replace zy2 := (un_le zy (b := 4) (by omega)).mp zy2
  refine c_read hC (fun σ1 hC1 hF hR _ hq => ?_)
  refine c_link hC1 hR (fun σ2 hC2 hR2 hL hq2 => ?_)
  replace h := h σ2 hC2 (hq.tr hq2)
  unfold a_chain at h
  rw [if_pos ⟨by omega, zy2⟩] at h
  rw [hL.1]
  refine ⟨fun z3 => ?_, fun z3 => ?_⟩
  · replace z3 := (un_lt z (b := (rd_ch f n li).1) (by omega)).mp z3
    rw [if_pos z3] at h
    have ex := un_at z3 (by omega)
    have e0 : y = 0 ↔ un y = 0 := un_eq (b := 0) (by omega)
    have e1 : y = 1 ↔ un y = 1 := un_eq (b := 1) (by omega)
    have e2 : y = 2 ↔ un y = 2 := un_eq (b := 2) (by omega)
    have e3 : y = 3 ↔ un y = 3 := un_eq (b := 3) (by omega)
    generalize un x = i at *
    subst ex
    obtain ⟨k1, k2, k3, k4⟩ := hL.2 i z3
    have hin : vp_in (nI i) 100 := in_nI (by omega) (by omega)
    unfold vc_X1_weightOf
    rw [cl_nI (by omega), k1, k2, k3, k4]
    refine ⟨fun y0 => ⟨fun y1 => ⟨fun y2 => ⟨fun y3 => ⟨hin, ?_⟩, fun y3 => ⟨hin, ?_⟩⟩, fun y2 => ⟨hin, ?_⟩⟩, fun y1 => ⟨hin, ?_⟩⟩, fun y0 => ⟨hin, ?_⟩⟩
    · rw [if_neg ((not_congr e0).mp y0), if_neg ((not_congr e1).mp y1), if_neg ((not_congr e2).mp y2), if_neg ((not_congr e3).mp y3)] at h
      exact h
    · rw [if_neg ((not_congr e0).mp y0), if_neg ((not_congr e1).mp y1), if_neg ((not_congr e2).mp y2), if_pos (e3.mp y3)] at h
      exact h
    · rw [if_neg ((not_congr e0).mp y0), if_neg ((not_congr e1).mp y1), if_pos (e2.mp y2)] at h
      exact h
    · rw [if_neg ((not_congr e0).mp y0), if_pos (e1.mp y1)] at h
      exact h
    · rw [if_pos (e0.mp y0)] at h
      exact h
  · replace z3 := (not_congr (un_lt z (b := (rd_ch f n li).1) (by omega))).mp z3
    rw [if_neg z3] at h
    exact h
theorem m_chainOf {f : Nat → Nat} {n ru fe li wi td : Nat} {σ : tzS} {x y : Int32} (hx : un x < 100) (hy : un y ≤ 4) (hM : MI f n ru fe li wi td σ) {Q : Int32 → tzS → Prop} (h : ∀ σ', MI f n ru fe li wi td σ' → mo σ σ' → Q (a_chain f n li x y) σ') : vc_X10_chainOf x y σ Q := by
  have hc50 := rd_ch_le (f := f) (li := li) hM.1.1
  unfold vc_X10_chainOf
  refine s_findsChains hM.1 hM.2.2.2.2.1 hM.2.1.2.2.1 (fun σ1 σ2 hR1 hk1 hR2 hL hk2 => ?_)
  have hmo := hk1.mo.tr hk2.mo
  replace h := h σ2 (hM.mo hmo) hmo
  unfold a_chain at h
  rw [if_pos ⟨hx, hy⟩] at h
  have z := un_npos hx (by omega)
  rw [hL.1]
  refine ⟨fun z3 => ?_, fun z3 => ?_⟩
  · replace z3 := (un_lt z (b := (rd_ch f n li).1) (by omega)).mp z3
    rw [if_pos z3] at h
    have ex := un_at z3 (by omega)
    have e0 : y = 0 ↔ un y = 0 := un_eq (b := 0) (by omega)
    have e1 : y = 1 ↔ un y = 1 := un_eq (b := 1) (by omega)
    have e2 : y = 2 ↔ un y = 2 := un_eq (b := 2) (by omega)
    have e3 : y = 3 ↔ un y = 3 := un_eq (b := 3) (by omega)
    generalize un x = i at *
    subst ex
    obtain ⟨k1, k2, k3, k4⟩ := hL.2 i z3
    have hin : vp_in (nI i) 110 := in_nI (by omega) (by omega)
    unfold vc_X10_weight
    rw [cl_nI (by omega), k1, k2, k3, k4]
    refine ⟨fun y0 => ⟨hin, ?_⟩, fun y1 => ⟨hin, ?_⟩, fun y2 => ⟨hin, ?_⟩, fun y3 => ⟨hin, ?_⟩, fun y0 y1 y2 y3 => ⟨hin, ?_⟩⟩
    · rw [if_pos (e0.mp y0)] at h
      exact h
    · rw [if_neg (by rw [e1.mp y1]; decide), if_pos (e1.mp y1)] at h
      exact h
    · rw [if_neg (by rw [e2.mp y2]; decide), if_neg (by rw [e2.mp y2]; decide), if_pos (e2.mp y2)] at h
      exact h
    · rw [if_neg (by rw [e3.mp y3]; decide), if_neg (by rw [e3.mp y3]; decide), if_neg (by rw [e3.mp y3]; decide), if_pos (e3.mp y3)] at h
      exact h
    · rw [if_neg ((not_congr e0).mp y0), if_neg ((not_congr e1).mp y1), if_neg ((not_congr e2).mp y2), if_neg ((not_congr e3).mp y3)] at h
      exact h
  · replace z3 := (not_congr (un_lt z (b := (rd_ch f n li).1) (by omega))).mp z3
    rw [if_neg z3] at h
    exact h
theorem m_chain {f : Nat → Nat} {n ru fe li wi td : Nat} {σ : tzS} {x y : Int32} (hM : MI f n ru fe li wi td σ) {Q : Int32 → tzS → Prop} (h : ∀ σ', MI f n ru fe li wi td σ' → mo σ σ' → Q (a_chain f n li x y) σ') : vc_X10_chain x y σ Q := by
  have bad : ¬ (un x < 100 ∧ un y ≤ 4) → Q (-2) σ := fun w => by
    have := h σ hM mo.rf
    unfold a_chain at this
    rw [if_neg w] at this
    exact this
  unfold vc_X10_chain
  refine s_inU (lo := 0) (hi := 99) (by omega) (by omega) (fun a b => ⟨fun z => absurd z nz1, fun _ => ?_⟩) (fun a => ⟨fun _ => bad (by omega), fun z => absurd rfl z⟩)
  exact s_inU (lo := 0) (hi := 4) (by omega) (by omega) (fun a2 b2 => ⟨fun z => absurd z nz1, fun _ => m_chainOf (by omega) b2 hM h⟩) (fun a => ⟨fun _ => bad (by omega), fun z => absurd rfl z⟩)
