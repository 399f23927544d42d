/-! ===== QUESTIONS: apart, count ===== -/
def a_apart (f : Nat → Nat) (n ru fe td : Nat) (x y : Int32) : Int32 := if (1 ≤ un x ∧ un x ≤ 8) ∧ (1 ≤ un y ∧ un y ≤ 11) then (if un x ≤ rd_S f n then nI (ap (sbt (cst f n ru fe) (un x) (rd_S f n) (un x - 1)) td (un y) (rd_S f n)) else -1) else -2
theorem and_lt {a b k : Nat} (h : a < 2 ^ k) : a &&& b < 2 ^ k := Nat.lt_of_le_of_lt Nat.and_le_left h
theorem mask_nI {d lo : Nat} (hd : 1 ≤ d) (h : lo + d ≤ 12) : (((1 : Int32) <<< (nI d &&& 31)) - 1) <<< (nI lo &&& 31) = nI ((2 ^ d - 1) * 2 ^ lo) := by
  have h2 : 2 ^ d ≤ 2 ^ 12 := Nat.pow_le_pow_right (by decide) (by omega)
  have h3 : 2 ^ lo ≤ 2 ^ 12 := Nat.pow_le_pow_right (by decide) (by omega)
  have e : (1 : Int32) <<< (nI d &&& 31) = nI (1 * 2 ^ d) := pk_shlN (n := 1) _ d (sh31 d (by omega)) (by omega)
  rw [e, Nat.one_mul, nI_sub1 (Nat.one_le_two_pow)]
  refine pk_shlN _ lo (sh31 lo (by omega)) ?_
  have : (2 ^ d - 1) * 2 ^ lo ≤ 2 ^ 12 * 2 ^ 12 := Nat.mul_le_mul (by omega) h3
  exact Nat.lt_of_le_of_lt this (by decide)
theorem c_apart {f : Nat → Nat} {n ru fe li wi td : Nat} {σ : tzS} {x y : Int32} (hC : CI f n ru fe li wi td σ) {Q : Int32 → tzS → Prop} (h : ∀ σ', CI f n ru fe li wi td σ' → qf σ σ' → Q (a_apart f n ru fe td x y) σ') : vc_X9_apart x y σ Q := by
  have hn := hC.1.1
  have r2 := (rd_ok (f := f) hn).2.1
  have hcb := cst_CB (f := f) (n := n) (ru := ru) (fe := fe) hn hC.2.1.2.1
  have htd : td < 4096 := hC.2.1.2.2.2.2.1
  unfold a_apart at h
  have bad : ¬ ((1 ≤ un x ∧ un x ≤ 8) ∧ (1 ≤ un y ∧ un y ≤ 11)) → Q (-2) σ := fun w => by
    have h := h σ hC qf.rf
    rw [if_neg w] at h
    exact h
  unfold vc_X9_apart vc_X9_noParts
  refine q_1le (S := 8) (Q := fun r_2 σ_1 => (¬ r_2 = 0 → Q (-2) σ_1) ∧ (r_2 = 0 → _)) (by omega) (fun h1 h8 => ⟨fun z => absurd rfl z, fun _ => ?_⟩) (fun hx => ⟨fun _ => bad (fun w => hx w.1), fun z => absurd z nz1⟩)
  refine ⟨fun zy => bad (by rcases un_lt1 zy with e | e <;> omega), fun zy => ?_⟩
  have zn := not_lt1 zy
  replace zy := (not_congr (un_lt zn (b := 1) (by omega))).mp zy
  refine ⟨fun zy2 => ?_, fun zy2 => bad (by have := (not_congr (un_le zn (b := 11) (by omega))).mp zy2; omega)⟩
  replace zy2 := (un_le zn (b := 11) (by omega)).mp zy2
  rw [if_pos ⟨⟨h1, h8⟩, by omega, zy2⟩] at h
  refine c_read hC (fun σ1 hC1 hF hR _ hq => ?_)
  rw [hR.1]
  rintro x3 rfl
  have ex := un_at (x := x) (b := 9) (by omega) (by omega)
  have ey := un_at (x := y) (b := 12) (by omega) (by omega)
  generalize un x = k at *
  generalize un y = d at *
  subst ex
  subst ey
  refine ⟨fun z => ?_, fun z => ?_⟩
  · replace z := (le_nI (by omega) (by omega)).mp z
    rw [if_pos z] at h
    refine c_part hC1 hR (fun σ2 hC2 hR2 hP hq2 => ?_)
    refine s_seamBits hcb h1 h8 z hP.2 ?_
    have hb := sbt_lt hcb z (k - 1) (by omega)
    generalize hB : sbt (cst f n ru fe) k (rd_S f n) (k - 1) = B at *
    replace h := h σ2 hC2 (hq.tr hq2)
    have e10 : σ2.1 0 10 = nI td := hC2.2.1.2.2.2.2.2.2.2.2.2
    refine for2b 0 (rd_S f n - d) (fun i a r => a = nI (fb_ct (fun x => decide (cnt B (x + 1) d ≠ cnt td (x + 1) d)) i) ∧ r = σ2) (Nat.zero_le _) ⟨rfl, rfl⟩ ?_ ?_
    · intro i a r ag _ hi hI hag
      obtain ⟨e1, e2⟩ := hI
      subst e2
      rw [nI_add, nI_1]
      refine ⟨fun z => absurd ((le_nI (by omega) (by omega)).mp z) (by omega), fun _ => ?_⟩
      rw [mask_nI (by omega) (by omega)]
      rintro x7 rfl
      rw [fa_and]
      refine s_bitCount (and_lt (k := 12) hb) ?_
      rw [e10, fa_and]
      refine s_bitCount (and_lt (k := 12) htd) ?_
      rw [mask_cnt (by omega), mask_cnt (by omega)]
      have c1 : cnt B (i + 1) d ≤ d := fb_ct_le _ _
      have c2 : cnt td (i + 1) d ≤ d := fb_ct_le _ _
      refine ⟨fun z x hx => ?_, fun z x hx y hy => ?_⟩
      · subst hx
        replace z := (eq_nI (by omega) (by omega)).mp z
        refine hag _ _ ⟨?_, rfl⟩
        rw [e1, fb_ct_succ, if_neg (by simp [z]), Nat.add_zero]
      · subst hx
        subst hy
        replace z := (not_congr (eq_nI (by omega) (by omega))).mp z
        refine hag _ _ ⟨?_, rfl⟩
        rw [e1, nI_1, fb_ct_succ, if_pos (by simp [z])]
    · intro a r ag hI
      obtain ⟨e1, e2⟩ := hI
      subst e2
      rw [e1, nI_add]
      exact ⟨fun _ => h, fun z => absurd ((le_nI (by omega) (by omega)).mpr (by omega)) z⟩
  · replace z := (not_congr (le_nI (by omega) (by omega))).mp z
    rw [if_neg z] at h
    exact h σ1 hC1 hq
theorem m_apartOf {f : Nat → Nat} {n ru fe li wi td : Nat} {σ : tzS} {x y : Int32} (h1 : 1 ≤ un x) (h8 : un x ≤ 8) (hy1 : 1 ≤ un y) (hy : un y ≤ 11) (hM : MI f n ru fe li wi td σ) {Q : Int32 → tzS → Prop} (h : ∀ σ', MI f n ru fe li wi td σ' → mo σ σ' → Q (a_apart f n ru fe td x y) σ') : vc_X10_apartOf x y σ Q := by
  have hn := hM.1.1
  have r2 := (rd_ok (f := f) hn).2.1
  have hcb := cst_CB (f := f) (n := n) (ru := ru) (fe := fe) hn hM.2.2.2.1
  have htd : td < 4096 := hM.2.2.2.2.2.2.1
  unfold a_apart at h
  rw [if_pos ⟨⟨h1, h8⟩, hy1, hy⟩] at h
  have ex := un_at (x := x) (b := 9) (by omega) (by omega)
  have ey := un_at (x := y) (b := 12) (by omega) (by omega)
  generalize un x = k at *
  generalize un y = d at *
  subst ex
  subst ey
  unfold vc_X10_apartOf
  refine m_partsTold hM (fun σ1 hM1 hP h7 hk => ?_)
  refine s_totalNow r2 h8 hP ?_
  replace h := h σ1 hM1 hk
  have e3 : σ1.1 133 3 = nI td := hM1.2.2.2.2.2.2.2
  by_cases z : k ≤ rd_S f n
  · rw [tmT_v h1 z]
    rw [if_pos z] at h
    have bd := pt_bd8 hcb h1 h8 z
    refine ⟨fun _ => ?_, fun w => absurd w (ne_m1 (by omega))⟩
    refine for2b 1 k (fun i a r => a = nI (sbt (cst f n ru fe) k (rd_S f n) (i - 1)) ∧ r = σ1) h1 ⟨rfl, rfl⟩ ?_ ?_
    · intro i a r ag i1 i2 hI hag
      obtain ⟨e1, e2⟩ := hI
      subst e2
      refine ⟨fun z => absurd ((le_nI (by omega) (by omega)).mp z) (by omega), fun _ => ?_⟩
      refine s_seamNow hcb h8 (by omega) z hP ?_
      have := (bg_le hcb (m := i) k (rd_S f n) z (Nat.le_refl _)).1
      rw [e1, or_bit (by omega), nI_1]
      rintro x3 rfl x4 rfl
      refine hag _ _ ⟨?_, rfl⟩
      rw [show i + 1 - 1 = (i - 1) + 1 by omega]
      show _ = nI (sbt (cst f n ru fe) k (rd_S f n) (i - 1) ||| 2 ^ bg (cst f n ru fe) (i - 1 + 1) k (rd_S f n))
      rw [show i - 1 + 1 = i by omega]
    · intro a r ag hI
      obtain ⟨e1, e2⟩ := hI
      subst e2
      have hb := sbt_lt hcb z (k - 1) (by omega)
      generalize hB : sbt (cst f n ru fe) k (rd_S f n) (k - 1) = B at *
      refine ⟨fun _ => ?_, fun z => absurd ((le_nI (by omega) (by omega)).mpr (Nat.le_refl _)) z⟩
      refine for2b 0 (rd_S f n - d) (fun i a q => a = nI (fb_ct (fun x => decide (cnt B (x + 1) d ≠ cnt td (x + 1) d)) i) ∧ q = r) (Nat.zero_le _) ⟨rfl, rfl⟩ ?_ ?_
      · intro i a' q ag2 _ hi hJ hag2
        obtain ⟨j1, j2⟩ := hJ
        subst j2
        rw [h7, nI_add, nI_1]
        refine ⟨fun z => absurd ((le_nI (by omega) (by omega)).mp z) (by omega), fun _ => ?_⟩
        rintro x8 rfl
        refine for3c (i + 1) (i + d + 1) (fun j p p' s => p = nI (cnt B (i + 1) (j - (i + 1))) ∧ p' = nI (cnt td (i + 1) (j - (i + 1))) ∧ s = q) (by omega) ⟨by rw [Nat.sub_self]; rfl, by rw [Nat.sub_self]; rfl, rfl⟩ ?_ ?_
        · intro j p p' s ag3 hj1 hj2 hK hag3
          obtain ⟨k1, k2, k3⟩ := hK
          subst k3
          refine ⟨fun z => absurd ((lt_nI (by omega) (by omega)).mp z) (by omega), fun _ => ?_⟩
          have ej : i + 1 + (j - (i + 1)) = j := by omega
          have en : j + 1 - (i + 1) = (j - (i + 1)) + 1 := by omega
          have sB : ∀ v : Nat, cnt v (i + 1) (j + 1 - (i + 1)) = cnt v (i + 1) (j - (i + 1)) + (if v.testBit j then 1 else 0) := by
            intro v
            unfold cnt
            rw [en, fb_ct_succ, ej]
          have a0 : ∀ u : Nat, nI u + 0 = nI (u + 0) := fun u => nI_add u 0
          rw [e1, nI_1]
          refine s_isIn (by omega) (by omega) (fun b1 => ⟨fun z => absurd z nz1, fun _ x6 hx6 => ?_⟩) (fun b1 => ⟨fun _ x6 hx6 => ?_, fun z => absurd rfl z⟩)
          · subst hx6
            rw [e3]
            refine s_isIn (by omega) (by omega) (fun b2 => ⟨fun z => absurd z nz1, fun _ x7 hx7 x8 hx8 => ?_⟩) (fun b2 => ⟨fun _ x7 hx7 x8 hx8 => ?_, fun z => absurd rfl z⟩)
            · subst hx7
              subst hx8
              refine hag3 _ _ _ ⟨?_, ?_, rfl⟩
              · rw [sB, if_pos b1, k1, nI_1]
              · rw [sB, if_pos b2, k2, nI_1]
            · subst hx7
              subst hx8
              refine hag3 _ _ _ ⟨?_, ?_, rfl⟩
              · rw [sB, if_pos b1, k1, nI_1]
              · rw [sB, if_neg (by rw [b2]; decide), k2, a0]
          · subst hx6
            rw [e3]
            refine s_isIn (by omega) (by omega) (fun b2 => ⟨fun z => absurd z nz1, fun _ x7 hx7 x8 hx8 => ?_⟩) (fun b2 => ⟨fun _ x7 hx7 x8 hx8 => ?_, fun z => absurd rfl z⟩)
            · subst hx7
              subst hx8
              refine hag3 _ _ _ ⟨?_, ?_, rfl⟩
              · rw [sB, if_neg (by rw [b1]; decide), k1, a0]
              · rw [sB, if_pos b2, k2, nI_1]
            · subst hx7
              subst hx8
              refine hag3 _ _ _ ⟨?_, ?_, rfl⟩
              · rw [sB, if_neg (by rw [b1]; decide), k1, a0]
              · rw [sB, if_neg (by rw [b2]; decide), k2, a0]
        · intro p p' s ag3 hK
          obtain ⟨k1, k2, k3⟩ := hK
          subst k3
          rw [show i + d + 1 - (i + 1) = d by omega] at k1 k2
          have c1 : cnt B (i + 1) d ≤ d := fb_ct_le _ _
          have c2 : cnt td (i + 1) d ≤ d := fb_ct_le _ _
          refine ⟨fun _ => ?_, fun z => absurd ((lt_nI (by omega) (by omega)).mpr (by omega)) z⟩
          rw [k1, k2]
          refine ⟨fun z x hx y hy => ?_, fun z x hx y hy => ?_⟩
          · subst hx
            subst hy
            replace z := (eq_nI (by omega) (by omega)).mp z
            refine hag2 _ _ ⟨?_, rfl⟩
            rw [j1, fb_ct_succ, if_neg (by simp [z])]
            exact nI_add _ 0
          · subst hx
            subst hy
            replace z := (not_congr (eq_nI (by omega) (by omega))).mp z
            refine hag2 _ _ ⟨?_, rfl⟩
            rw [j1, nI_1, fb_ct_succ, if_pos (by simp [z])]
      · intro a' q ag2 hJ
        obtain ⟨j1, j2⟩ := hJ
        subst j2
        rw [j1, h7, nI_add]
        exact ⟨fun _ => h, fun z => absurd ((le_nI (by omega) (by omega)).mpr (by omega)) z⟩
  · rw [tmT_n h1 z]
    rw [if_neg z] at h
    exact ⟨fun w => absurd rfl w, fun _ => h⟩
theorem m_apart {f : Nat → Nat} {n ru fe li wi td : Nat} {σ : tzS} {x y : Int32} (hM : MI f n ru fe li wi td σ) {Q : Int32 → tzS → Prop} (h : ∀ σ', MI f n ru fe li wi td σ' → mo σ σ' → Q (a_apart f n ru fe td x y) σ') : vc_X10_apart x y σ Q := by
  have bad : ¬ ((1 ≤ un x ∧ un x ≤ 8) ∧ (1 ≤ un y ∧ un y ≤ 11)) → Q (-2) σ := fun w => by
    have h := h σ hM mo.rf
    unfold a_apart at h
    rw [if_neg w] at h
    exact h
  unfold vc_X10_apart
  refine m_isParts (fun a b => ⟨fun z => absurd z nz1, fun _ => ?_⟩) (fun a => ⟨fun _ => bad (fun w => a w.1), fun z => absurd rfl z⟩)
  exact s_inU (lo := 1) (hi := 11) (by omega) (by omega) (fun a2 b2 => ⟨fun z => absurd z nz1, fun _ => m_apartOf a b a2 b2 hM h⟩) (fun a2 => ⟨fun _ => bad (fun w => a2 w.2), fun z => absurd rfl z⟩)
/-! count -/
def a_count (f : Nat → Nat) (n ru fe li td : Nat) (fd : Int32) (x : Int32) : Int32 := if un x = 0 then nI n else if un x = 1 then nI (rd_S f n) else if un x = 2 then nI (rd_W f n) else if un x = 3 then nI (rd_K f n) else if un x = 4 then nI (rd_ch f n li).1 else if un x = 5 then nI ru else if un x = 6 then nI fe else if un x = 7 then nI td else if un x = 8 then fd else -2
theorem c_count {f : Nat → Nat} {n ru fe li wi td : Nat} {fd : Int32} {σ : tzS} {x : Int32} (hC : CI f n ru fe li wi td σ) (hfd : un x = 8 → σ.1 0 11 = fd) {Q : Int32 → tzS → Prop} (h : ∀ σ', CI f n ru fe li wi td σ' → qf σ σ' → Q (a_count f n ru fe li td fd x) σ') : vc_X9_count x σ Q := by
  have e : ∀ b, b < 100000 → (x = nI b ↔ un x = b) := fun b hb => un_eq hb
  unfold a_count at h
  unfold vc_X9_count
  refine c_read hC (fun σ1 hC1 hF hR _ hq => ?_)
  have h' := h σ1 hC1 hq
  refine ⟨fun z => ?_, fun z => ?_, fun z => ?_, fun z => ?_, fun z => ?_, fun z => ?_, fun z => ?_, fun z => ?_, fun z => ?_, fun z0 z1 z2 z3 z4 z5 z6 z7 z8 => ?_⟩
  · have z := (e 0 (by omega)).mp z
    rw [if_pos z] at h'
    rw [hC1.1.2.1]; exact h'
  · have z := (e 1 (by omega)).mp z
    simp only [z, if_neg (show ¬ (1 : Nat) = 0 by decide), if_pos (show True by trivial)] at h'
    rw [hR.1]; exact h'
  · have z := (e 2 (by omega)).mp z
    simp [z] at h'
    rw [hR.2.1]; exact h'
  · have z := (e 3 (by omega)).mp z
    simp [z] at h'
    rw [hR.2.2.1]; exact h'
  · have z := (e 4 (by omega)).mp z
    simp [z] at h
    exact c_chains hC1 (fun σ2 hC2 hq2 => h σ2.1 σ2.2 hC2 (hq.tr hq2))
  · have z := (e 5 (by omega)).mp z
    simp [z] at h'
    rw [hC1.2.1.2.2.2.2.2.1]; exact h'
  · have z := (e 6 (by omega)).mp z
    simp [z] at h'
    rw [hC1.2.1.2.2.2.2.2.2.1]; exact h'
  · have z := (e 7 (by omega)).mp z
    simp [z] at h'
    rw [hC1.2.1.2.2.2.2.2.2.2.2.2]; exact h'
  · have z := (e 8 (by omega)).mp z
    simp [z] at h'
    rw [hq.2.1 11 (by omega), hfd z]; exact h'
  · have w0 := (not_congr (e 0 (by omega))).mp z0
    have w1 := (not_congr (e 1 (by omega))).mp z1
    have w2 := (not_congr (e 2 (by omega))).mp z2
    have w3 := (not_congr (e 3 (by omega))).mp z3
    have w4 := (not_congr (e 4 (by omega))).mp z4
    have w5 := (not_congr (e 5 (by omega))).mp z5
    have w6 := (not_congr (e 6 (by omega))).mp z6
    have w7 := (not_congr (e 7 (by omega))).mp z7
    have w8 := (not_congr (e 8 (by omega))).mp z8
    rw [if_neg w0, if_neg w1, if_neg w2, if_neg w3, if_neg w4, if_neg w5, if_neg w6, if_neg w7, if_neg w8] at h'
    exact h'
theorem m_count {f : Nat → Nat} {n ru fe li wi td : Nat} {fd : Int32} {σ : tzS} {x : Int32} (hM : MI f n ru fe li wi td σ) (hfd : un x = 8 → σ.1 133 36 = fd) {Q : Int32 → tzS → Prop} (h : ∀ σ', MI f n ru fe li wi td σ' → mo σ σ' → Q (a_count f n ru fe li td fd x) σ') : vc_X10_count x σ Q := by
  have e : ∀ b, b < 100000 → (x = nI b ↔ un x = b) := fun b hb => un_eq hb
  unfold a_count at h
  have h' := h σ hM mo.rf
  unfold vc_X10_count
  refine ⟨fun z => ?_, fun z => ?_, fun z => ?_, fun z => ?_, fun z => ?_, fun z => ?_, fun z => ?_, fun z => ?_, fun z => ?_, fun z0 z1 z2 z3 z4 z5 z6 z7 z8 => ?_⟩
  · have z := (e 0 (by omega)).mp z
    rw [if_pos z] at h'
    rw [hM.1.2.1]; exact h'
  · have w := (e 1 (by omega)).mp z
    unfold vc_X10_tellOf
    refine s_reads hM.1 (fun σ1 hR hk => ?_)
    replace h := h σ1 (hM.mo hk.mo) hk.mo
    simp [w] at h
    refine ⟨fun y => absurd z y, fun _ => ?_⟩
    rw [hR.2.2.2.1]; exact h
  · have w := (e 2 (by omega)).mp z
    unfold vc_X10_tellOf
    refine s_reads hM.1 (fun σ1 hR hk => ?_)
    replace h := h σ1 (hM.mo hk.mo) hk.mo
    simp [w] at h
    refine ⟨fun y => ⟨fun y2 => absurd z y2, fun _ => ?_⟩, fun y => ?_⟩
    · rw [hR.2.2.2.2.1]; exact h
    · have := (e 1 (by omega)).mp y
      omega
  · have w := (e 3 (by omega)).mp z
    unfold vc_X10_tellOf
    refine s_reads hM.1 (fun σ1 hR hk => ?_)
    replace h := h σ1 (hM.mo hk.mo) hk.mo
    simp [w] at h
    refine ⟨fun y => ⟨fun y2 => ?_, fun y2 => ?_⟩, fun y => ?_⟩
    · rw [hR.2.2.2.2.2.1]; exact h
    · have := (e 2 (by omega)).mp y2
      omega
    · have := (e 1 (by omega)).mp y
      omega
  · have w := (e 4 (by omega)).mp z
    simp [w] at h
    exact m_chainsOf hM (fun s a b => h s.1 s.2 a b)
  · have z := (e 5 (by omega)).mp z
    simp [z] at h'
    rw [hM.2.1.1]; exact h'
  · have z := (e 6 (by omega)).mp z
    simp [z] at h'
    rw [hM.2.1.2.1]; exact h'
  · have z := (e 7 (by omega)).mp z
    simp [z] at h'
    rw [hM.2.2.2.2.2.2.2]; exact h'
  · have z := (e 8 (by omega)).mp z
    simp [z] at h'
    rw [hfd z]; exact h'
  · have w0 := (not_congr (e 0 (by omega))).mp z0
    have w1 := (not_congr (e 1 (by omega))).mp z1
    have w2 := (not_congr (e 2 (by omega))).mp z2
    have w3 := (not_congr (e 3 (by omega))).mp z3
    have w4 := (not_congr (e 4 (by omega))).mp z4
    have w5 := (not_congr (e 5 (by omega))).mp z5
    have w6 := (not_congr (e 6 (by omega))).mp z6
    have w7 := (not_congr (e 7 (by omega))).mp z7
    have w8 := (not_congr (e 8 (by omega))).mp z8
    rw [if_neg w0, if_neg w1, if_neg w2, if_neg w3, if_neg w4, if_neg w5, if_neg w6, if_neg w7, if_neg w8] at h'
    exact h'
