/-! ===== COSTS ===== -/
theorem s_price {K a0 ru : Nat} {q : Nat → Nat} {σ : tzS} (hB : BS K a0 q σ) (hru : ru ≤ 3) (hw : fb_sm q K ≤ 100) (hu : fb_ct (fun t => decide (0 < q t)) K ≤ fb_sm q K) {Q : Int32 → tzS → Prop} (h : Q (nI (bk_p ru (fb_sm q K) (fb_ct (fun t => decide (0 < q t)) K) (fb_ct (fun t => decide (q t = 1)) K))) σ) : vc_X0_price a0 (nI ru) σ Q := by
  obtain ⟨b1, b2, b3, -⟩ := hB
  unfold vc_X0_price
  rw [b1, b2, b3]
  generalize fb_sm q K = w at *
  generalize fb_ct (fun t => decide (0 < q t)) K = u at *
  generalize fb_ct (fun t => decide (q t = 1)) K = o at *
  have e0 : (2 : Int32) * nI u = nI (2 * u) := pk_mul 2 u
  have e2 : (3 : Int32) * nI o = nI (3 * o) := pk_mul 3 o
  have e3 : (4 : Int32) * nI u = nI (4 * u) := pk_mul 4 u
  rw [e0, e2, e3, nI_add, pk_mul, pk_sub hu]
  have c0 : nI ru = 0 ↔ ru = 0 := eq_nI (b := 0) (by omega) (by omega)
  have c1 : nI ru = 1 ↔ ru = 1 := eq_nI (b := 1) (by omega) (by omega)
  have c2 : nI ru = 2 ↔ ru = 2 := eq_nI (b := 2) (by omega) (by omega)
  unfold bk_p at h
  refine ⟨fun z0 => ⟨fun z1 => ⟨fun z2 => ?_, fun z2 => ?_⟩, fun z1 => ?_⟩, fun z0 => ?_⟩
  · have z0 := (not_congr c0).mp z0
    have z1 := (not_congr c1).mp z1
    have z2 := (not_congr c2).mp z2
    rw [if_neg z0, if_neg z1, if_neg z2] at h
    intro x2 e
    subst e
    refine ⟨fun z => ?_, fun z => ?_⟩
    · have z := (le_nI (by omega) (by omega)).mp z
      rw [show 4 * u - (w - u) = 0 by omega] at h
      exact h
    · have z := (not_congr (le_nI (by omega) (by omega))).mp z
      rw [pk_sub (by omega)]
      exact h
  · have z0 := (not_congr c0).mp z0
    have z1 := (not_congr c1).mp z1
    rw [if_neg z0, if_neg z1, if_pos (c2.mp z2)] at h
    exact h
  · have z0 := (not_congr c0).mp z0
    rw [if_neg z0, if_pos (c1.mp z1)] at h
    exact h
  · rw [if_pos (c0.mp z0)] at h
    exact h
theorem bk_c_succ {hv : Nat → Nat → Nat} {d i j t : Nat} (h : i ≤ j) : bk_c hv d i (j + 1) t = bk_c hv d i j t + hv (dm d j) t := by
  unfold bk_c
  rw [show j + 1 - i = (j - i) + 1 by omega, fb_sm_succ, show i + (j - i) = j by omega]
def BlkOK (f : Nat → Nat) (n ru fe d a0 : Nat) (σ : tzS) : Prop := ∀ i j, i < j → j ≤ Sd (rd_S f n) d → σ.1 (a0 + 2 + i) j = nI (rd_cost f n ru fe d i j)
/-- which sentence is left out, as the program says it -/
def DX (S d : Nat) (x : Int32) : Prop := (x = -1 ∧ d = S) ∨ (x = nI d ∧ d < S)
theorem Sd_le {S d : Nat} : Sd S d ≤ S := by unfold Sd; split <;> omega
theorem s_blocksFill {f : Nat → Nat} {n ru fe d a0 : Nat} {x : Int32} (hn : n ≤ 200) (ha : 43 ≤ a0) (hru : ru ≤ 3) (hfe : fe ≤ 40) (hx : DX (rd_S f n) d x) {σ : tzS} (hR : ReadOK f n σ) {Q : tzS → Prop} (h : ∀ σ', BlkOK f n ru fe d a0 σ' → bt a0 (a0 + 15) σ σ' → Q σ') : vc_X0_fill a0 x (nI ru) (nI fe) σ Q := by
  obtain ⟨r1, r2, r3, r4, r5, r6⟩ := rd_ok (f := f) hn
  have hSd : Sd (rd_S f n) d ≤ rd_S f n := Sd_le
  have hS0 : σ.1 4 0 = nI (rd_S f n) := hR.1
  unfold vc_X0_fill
  refine ⟨fun y s => y = nI (Sd (rd_S f n) d) ∧ s = σ, ?_, ?_, ?_⟩
  · rintro y s ⟨e1, e2⟩ x5 rfl
    subst e1
    subst e2
    refine for1 0 (Sd (rd_S f n) d) (fun i r => (∀ i' j', i' < i → i' < j' → j' ≤ Sd (rd_S f n) d → r.1 (a0 + 2 + i') j' = nI (rd_cost f n ru fe d i' j')) ∧ bt a0 (a0 + 15) s r) (Nat.zero_le _) ⟨fun i' j' z => absurd z (Nat.not_lt_zero _), bt.rf⟩ ?_ ?_
    · intro i r ag _ hi hI hag
      obtain ⟨i1, i2⟩ := hI
      have hR' := hR.bt i2 (by omega) r2
      have hK0 : r.1 4 2 = nI (rd_K f n) := hR'.2.2.1
      refine ⟨fun z => absurd ((le_nI (by omega) (by omega)).mp z) (by omega), fun _ => ?_⟩
      rw [hK0]
      refine s_startBlock (by omega) (fun r2' hB hb hm => ?_)
      refine for1 i (Sd (rd_S f n) d) (fun j q => BS (rd_K f n) a0 (fun t => bk_c (rd_hv f n) d i j t) q ∧ (∀ i' j', (i' < i ∨ (i' = i ∧ j' ≤ j)) → i' < j' → j' ≤ Sd (rd_S f n) d → q.1 (a0 + 2 + i') j' = nI (rd_cost f n ru fe d i' j')) ∧ bt a0 (a0 + 15) s q) (by omega) ⟨hB.cong (fun t _ => by unfold bk_c; rw [Nat.sub_self]; rfl), ?_, i2.tr hb⟩ ?_ ?_
      · intro i' j' z1 z2 z3
        have hi' : i' < i := by omega
        rw [hm _ (by omega) (by omega)]
        exact i1 i' j' hi' z2 z3
      · intro j q ag2 hij hj hJ hag2
        obtain ⟨j1, j2, j3⟩ := hJ
        have hRq := hR.bt j3 (by omega) r2
        have hdm : dm d j < rd_S f n := by
          unfold Sd at hj
          unfold dm
          rcases hx with ⟨-, e⟩ | ⟨-, e⟩
          · rw [if_neg (by omega)] at hj
            rw [if_pos (by omega)]
            exact hj
          · rw [if_pos e] at hj
            split <;> omega
        obtain ⟨q1, q2, q3, q4⟩ := bk_bd (f := f) (d := d) (i := i) (j := j + 1) hn (by omega) (by omega)
        -- one sentence more
        have core : vc_X0_addSentence a0 (nI (dm d j)) q (fun σ16 => vp_in (nI i) 13 ∧ (vc_X0_price a0 (nI ru) σ16 (fun r19 σ18 => vp_in (nI j + 1) 13 ∧ (∀ σ20 : tzS, σ20 = tz_st σ18 ((a0 + 2) + (nI i).toNatClampNeg) (nI j + 1).toNatClampNeg (r19 + nI fe) → ∀ x7 : Int32, x7 = nI j + 1 → ag2 x7 σ20)))) := by
          refine s_addSentence hn ha hdm (q := fun t => bk_c (rd_hv f n) d i j t) (fun t _ => ?_) hRq j1 (fun σ16 hB16 hb16 hm16 => ⟨in_nI (by omega) (by omega), ?_⟩)
          · have := bk_c_le (f := f) (t := t) (d := d) (i := i) (j := j) hn hij (by omega)
            have := rd_ct_le (f := f) (t := t) hn
            have := rd_hv_le (f := f) (s := dm d j) (t := t) hn
            omega
          have hB2 : BS (rd_K f n) a0 (fun t => bk_c (rd_hv f n) d i (j + 1) t) σ16 := hB16.cong (fun t _ => bk_c_succ hij)
          refine s_price hB2 hru q1 q2 ?_
          rw [nI_1, nI_add, cl_nI (by omega), cl_nI (by omega)]
          refine ⟨in_nI (by omega) (by omega), ?_⟩
          intro σ20 h20 x7 h7
          subst h7
          refine hag2 _ ⟨?_, ?_, h20 ▸ (j3.tr hb16).st (by omega)⟩
          · obtain ⟨g1, g2, g3, g4⟩ := hB2
            refine ⟨?_, ?_, ?_, fun t ht => ?_⟩
            · rw [h20, st_ne (by omega), g1]
            · rw [h20, st_ne (by omega), g2]
            · rw [h20, st_ne (by omega), g3]
            · rw [h20, st_ne (by omega), g4 t ht]
          · intro i' j' z1 z2 z3
            by_cases c : i' = i
            · by_cases c2 : j' = j + 1
              · rw [h20, c, c2, st_eq]
                rfl
              · rw [h20, c, st_nj c2, hm16 _ (by omega) (by omega), ← c]
                exact j2 i' j' (by omega) z2 z3
            · rw [h20, st_ne (by omega), hm16 _ (by omega) (by omega)]
              exact j2 i' j' (by omega) z2 z3
        refine ⟨fun z => absurd ((le_nI (by omega) (by omega)).mp z) (by omega), fun _ => ⟨fun z => ?_, fun z => ⟨fun z2 => ?_, fun z2 => ?_⟩⟩⟩
        · rcases hx with ⟨-, e⟩ | ⟨e, e2⟩
          · have : dm d j = j := by unfold dm; rw [if_pos (by omega)]
            rw [this] at core
            exact core
          · exact absurd (e.symm.trans z) (ne_m1 (by omega))
        · rcases hx with ⟨e, -⟩ | ⟨e, e2⟩
          · exact absurd e z
          · rw [e] at z2
            have z2 := (le_nI (by omega) (by omega)).mp z2
            have : dm d j = j + 1 := by unfold dm; rw [if_neg (by omega)]
            rw [this, ← nI_1] at core
            exact core
        · rcases hx with ⟨e, -⟩ | ⟨e, e2⟩
          · exact absurd e z
          · rw [e] at z2
            have z2 := (not_congr (le_nI (by omega) (by omega))).mp z2
            have : dm d j = j := by unfold dm; rw [if_pos (by omega)]
            rw [this] at core
            exact core
      · intro q ag2 hJ
        obtain ⟨j1, j2, j3⟩ := hJ
        refine ⟨fun _ x6 hx6 => ?_, fun z => absurd ((le_nI (by omega) (by omega)).mpr (Nat.le_refl _)) z⟩
        subst hx6
        rw [nI_1]
        exact hag q ⟨fun i' j' z1 z2 z3 => j2 i' j' (by omega) z2 z3, j3⟩
    · intro r ag hI
      exact ⟨fun _ => h r (fun i j z1 z2 => hI.1 i j (by omega) z1 z2) hI.2, fun z => absurd ((le_nI (by omega) (by omega)).mpr (Nat.le_refl _)) z⟩
  · intro z
    rcases hx with ⟨e, -⟩ | ⟨e, e2⟩
    · exact absurd e z
    · refine ⟨?_, rfl⟩
      rw [hS0, nI_sub1 (by omega)]
      unfold Sd
      rw [if_pos e2]
  · intro z
    rcases hx with ⟨-, e⟩ | ⟨e, e2⟩
    · refine ⟨?_, rfl⟩
      rw [hS0]
      unfold Sd
      rw [if_neg (by omega)]
    · exact absurd (e.symm.trans z) (ne_m1 (by omega))
/-! the reference -/
/-- the reference keeps its reading while it looks over a block -/
def mk3 (σ σ' : tzS) : Prop := (∀ a, a ≠ 133 → σ'.1 a = σ.1 a) ∧ (∀ j, (j < 19 ∨ 21 < j) → σ'.1 133 j = σ.1 133 j) ∧ σ'.2 = σ.2
theorem mk3.rf {σ : tzS} : mk3 σ σ := ⟨fun _ _ => rfl, fun _ _ => rfl, rfl⟩
theorem mk3.st {σ σ' : tzS} {j : Nat} {v : Int32} (h : mk3 σ σ') (hj : 19 ≤ j ∧ j ≤ 21) : mk3 σ (tz_st σ' 133 j v) := ⟨fun a ha => by rw [st_ne ha]; exact h.1 a ha, fun i hi => by rw [st_nj (by omega)]; exact h.2.1 i hi, h.2.2⟩
theorem s_looksOver {f : Nat → Nat} {n d i j : Nat} (hn : n ≤ 200) (hij : i ≤ j) (hj : j ≤ Sd (rd_S f n) d) {σ : tzS} (h9 : σ.1 133 9 = nI (rd_K f n)) (h18 : DX (rd_S f n) d (σ.1 133 18)) (hH : ∀ s t, s < 12 → t < 110 → σ.1 143 (110 * s + t) = nI (rd_hv f n s t)) {Q : tzS → Prop} (h : ∀ σ', σ'.1 133 19 = nI (bk_w (rd_hv f n) (rd_K f n) d i j) → σ'.1 133 20 = nI (bk_u (rd_hv f n) (rd_K f n) d i j) → σ'.1 133 21 = nI (bk_o (rd_hv f n) (rd_K f n) d i j) → mk3 σ σ' → Q σ') : vc_X10_looksOver (nI (pl d i)) (nI (pl d j)) σ Q := by
  obtain ⟨r1, r2, r3, r4, r5, r6⟩ := rd_ok (f := f) hn
  have hp : pl d j ≤ rd_S f n ∧ pl d i ≤ pl d j := by
    unfold Sd at hj
    unfold pl
    repeat' split
    all_goals (first | omega | (split at hj <;> omega))
  unfold vc_X10_looksOver
  intro σ1 h1 σ2 h2 σ3 h3
  have k3 : mk3 σ σ3 := h3 ▸ (h2 ▸ (h1 ▸ mk3.rf.st (by omega) : mk3 σ σ1).st (by omega) : mk3 σ σ2).st (by omega)
  refine for1 0 (rd_K f n) (fun t r => r.1 133 19 = nI (fb_sm (fun t => bk_c (rd_hv f n) d i j t) t) ∧ r.1 133 20 = nI (fb_ct (fun t => decide (0 < bk_c (rd_hv f n) d i j t)) t) ∧ r.1 133 21 = nI (fb_ct (fun t => decide (bk_c (rd_hv f n) d i j t = 1)) t) ∧ mk3 σ r) (Nat.zero_le _) ⟨?_, ?_, ?_, k3⟩ ?_ ?_
  · rw [h3, st_nj (by decide), h2, st_nj (by decide), h1, st_eq]
    rfl
  · rw [h3, st_nj (by decide), h2, st_eq]
    rfl
  · rw [h3, st_eq]
    rfl
  · intro t r ag _ ht hI hag
    obtain ⟨i1, i2, i3, i4⟩ := hI
    rw [i4.2.1 9 (by omega), h9]
    refine ⟨fun z => absurd ((le_nI (by omega) (by omega)).mp z) (by omega), fun _ => ?_⟩
    refine for2b (pl d i) (pl d j) (fun p a r' => a = nI (fb_sm (fun y => if pl d i + y = d then 0 else rd_hv f n (pl d i + y) t) (p - pl d i)) ∧ r' = r) hp.2 ⟨by rw [Nat.sub_self]; rfl, rfl⟩ ?_ ?_
    · intro p a r' ag2 hp1 hp2 hJ hag2
      obtain ⟨e1, e2⟩ := hJ
      subst e1
      subst e2
      refine ⟨fun z => absurd ((le_nI (by omega) (by omega)).mp z) (by omega), fun _ => ?_⟩
      rw [i4.2.1 18 (by omega)]
      have en : p + 1 - pl d i = (p - pl d i) + 1 := by omega
      have ep : pl d i + (p - pl d i) = p := by omega
      have m1 : (110 : Int32) * nI p = nI (110 * p) := pk_mul 110 p
      rw [m1, nI_add, cl_nI (by omega), nI_1]
      refine ⟨fun z => ⟨in_nI (by omega) (by omega), ?_⟩, fun z => ?_⟩
      · rintro x4 rfl x5 rfl
        have hd : ¬ p = d := by
          intro c
          rcases h18 with ⟨-, e⟩ | ⟨e, -⟩
          · omega
          · exact z (by rw [e, c])
        refine hag2 _ _ ⟨?_, rfl⟩
        rw [i4.1 143 (by omega), hH p t (by omega) (by omega), nI_add, en, fb_sm_succ, ep, if_neg hd]
      · rintro x4 rfl x5 rfl
        have hd : p = d := by
          rcases h18 with ⟨e, -⟩ | ⟨e, e2⟩
          · rw [e] at z
            exact absurd z (ne_m1 (by omega))
          · rw [e] at z
            exact (eq_nI (by omega) (by omega)).mp z
        refine hag2 _ _ ⟨?_, rfl⟩
        have z0 : ∀ a : Nat, nI a + 0 = nI (a + 0) := fun a => nI_add a 0
        rw [z0, en, fb_sm_succ, ep, if_pos hd]
    · intro a r' ag2 hJ
      obtain ⟨e1, e2⟩ := hJ
      subst e2
      have eq := bk_c_eq (rd_hv f n) d i t (j - i)
      rw [show i + (j - i) = j by omega] at eq
      rw [eq] at e1
      subst e1
      have hc := bk_c_le (f := f) (t := t) hn hij hj
      have hc2 := rd_ct_le (f := f) (t := t) hn
      refine ⟨fun _ => ?_, fun z => absurd ((le_nI (by omega) (by omega)).mpr (Nat.le_refl _)) z⟩
      intro σ13 h13
      have k13 : mk3 σ σ13 := h13 ▸ i4.st (by omega)
      have z0 : ∀ a : Nat, nI a + 0 = nI (a + 0) := fun a => nI_add a 0
      have c0 : nI (bk_c (rd_hv f n) d i j t) ≤ 0 ↔ bk_c (rd_hv f n) d i j t = 0 := (le_nI (b := 0) (by omega) (by omega)).trans (by omega)
      have c1 : nI (bk_c (rd_hv f n) d i j t) = 1 ↔ bk_c (rd_hv f n) d i j t = 1 := eq_nI (b := 1) (by omega) (by omega)
      have fin : ∀ r2 : tzS, ∀ a b : Nat, r2 = tz_st (tz_st σ13 133 20 (σ13.1 133 20 + nI a)) 133 21 (σ13.1 133 21 + nI b) → a = (if 0 < bk_c (rd_hv f n) d i j t then 1 else 0) → b = (if bk_c (rd_hv f n) d i j t = 1 then 1 else 0) → ag (nI t + 1) r2 := by
        intro r2 a b er ea eb
        rw [nI_1]
        refine hag r2 ⟨?_, ?_, ?_, er ▸ (k13.st (by omega) : mk3 σ (tz_st σ13 133 20 (σ13.1 133 20 + nI a))).st (by omega)⟩
        · rw [er, st_nj (by decide), st_nj (by decide), h13, st_eq, i1, nI_add, fb_sm_succ]
        · rw [er, st_nj (by decide), st_eq, h13, st_nj (by decide), i2, nI_add, fb_ct_succ, ea]
          simp only [decide_eq_true_eq]
        · rw [er, st_eq, h13, st_nj (by decide), i3, nI_add, fb_ct_succ, eb]
          simp only [decide_eq_true_eq]
      refine ⟨fun z => ?_, fun z => ?_⟩
      · have z := c0.mp z
        intro σ15 h15
        refine ⟨fun z2 => ?_, fun z2 => absurd (c1.mp z2) (by omega)⟩
        intro σ17 h17 x hx
        subst hx
        refine fin σ17 0 0 ?_ (by rw [if_neg (by omega)]) (by rw [if_neg (by omega)])
        rw [h17, h15, st_nj (by decide)]
        rfl
      · have z := (not_congr c0).mp z
        intro σ15 h15
        refine ⟨fun z2 => ?_, fun z2 => ?_⟩
        · have z2 := (not_congr c1).mp z2
          intro σ17 h17 x hx
          subst hx
          refine fin σ17 1 0 ?_ (by rw [if_pos (by omega)]) (by rw [if_neg z2])
          rw [h17, h15, st_nj (by decide)]
          rfl
        · have z2 := c1.mp z2
          intro σ17 h17 x hx
          subst hx
          refine fin σ17 1 1 ?_ (by rw [if_pos (by omega)]) (by rw [if_pos z2])
          rw [h17, h15, st_nj (by decide)]
          rfl
  · intro r ag hI
    obtain ⟨i1, i2, i3, i4⟩ := hI
    rw [i4.2.1 9 (by omega), h9]
    exact ⟨fun _ => h r i1 i2 i3 i4, fun z => absurd ((le_nI (by omega) (by omega)).mpr (Nat.le_refl _)) z⟩
theorem s_costNow {f : Nat → Nat} {n ru fe d i j : Nat} (hn : n ≤ 200) (hru : ru ≤ 3) (hfe : fe ≤ 40) (hij : i ≤ j) (hj : j ≤ Sd (rd_S f n) d) {σ : tzS} (h9 : σ.1 133 9 = nI (rd_K f n)) (h18 : DX (rd_S f n) d (σ.1 133 18)) (hH : ∀ s t, s < 12 → t < 110 → σ.1 143 (110 * s + t) = nI (rd_hv f n s t)) (hr : σ.1 135 0 = nI ru) (hf : σ.1 135 1 = nI fe) {Q : Int32 → tzS → Prop} (h : ∀ σ', mk3 σ σ' → Q (nI (rd_cost f n ru fe d i j)) σ') : vc_X10_costNow (nI (pl d i)) (nI (pl d j)) σ Q := by
  unfold vc_X10_costNow
  refine s_looksOver hn hij hj h9 h18 hH (fun σ' w1 w2 w3 hk => ?_)
  have h := h σ' hk
  unfold rd_cost at h
  obtain ⟨b1, b2, b3, b4⟩ := bk_bd (f := f) (d := d) hn hij hj
  have hp := bk_p_le (ru := ru) b1 b3 b4
  rw [w1, w2, w3, hk.1 135 (by decide), hr, hf]
  generalize bk_w (rd_hv f n) (rd_K f n) d i j = w at *
  generalize bk_u (rd_hv f n) (rd_K f n) d i j = u at *
  generalize bk_o (rd_hv f n) (rd_K f n) d i j = o at *
  have e0 : (2 : Int32) * nI u = nI (2 * u) := pk_mul 2 u
  have e2 : (3 : Int32) * nI o = nI (3 * o) := pk_mul 3 o
  have e3 : (4 : Int32) * nI u = nI (4 * u) := pk_mul 4 u
  rw [e0, e2, e3, pk_mul, pk_sub b2, nI_add]
  have c0 : nI ru = 0 ↔ ru = 0 := eq_nI (b := 0) (by omega) (by omega)
  have c1 : nI ru = 1 ↔ ru = 1 := eq_nI (b := 1) (by omega) (by omega)
  have c2 : nI ru = 2 ↔ ru = 2 := eq_nI (b := 2) (by omega) (by omega)
  unfold bk_p at h
  rintro x3 rfl x4 rfl
  refine ⟨fun z x e => ?_, fun z x e => ?_, fun z x e => ?_, fun z0 z1 z2 => ?_⟩
  · subst e
    rw [nI_add]
    rw [if_pos (c0.mp z)] at h
    exact h
  · subst e
    rw [nI_add]
    have z := c1.mp z
    rw [if_neg (by omega), if_pos z] at h
    exact h
  · subst e
    rw [nI_add]
    have z := c2.mp z
    rw [if_neg (by omega), if_neg (by omega), if_pos z, Nat.add_comm w] at h
    exact h
  · have z0 := (not_congr c0).mp z0
    have z1 := (not_congr c1).mp z1
    have z2 := (not_congr c2).mp z2
    rw [if_neg z0, if_neg z1, if_neg z2] at h
    have hs := pk_sub_toInt (a := 4 * u) (b := w - u) (by omega) (by omega)
    have hz : (0 : Int32) ≤ nI (4 * u) - nI (w - u) ↔ w - u ≤ 4 * u := by
      rw [Int32.le_iff_toInt_le, hs]
      have : (0 : Int32).toInt = 0 := rfl
      omega
    refine ⟨fun z => ?_, fun z => ?_⟩
    · have z := hz.mp z
      rw [pk_sub z, nI_add]
      exact h
    · have z := (not_congr hz).mp z
      rw [show 4 * u - (w - u) = 0 by omega, Nat.zero_add] at h
      have : (0 : Int32) + nI fe = nI (0 + fe) := nI_add 0 fe
      rw [this, Nat.zero_add]
      exact h
theorem s_placeOf {S d x : Nat} (hS : S ≤ 12) (hx : x ≤ Sd S d) {σ : tzS} (h18 : DX S d (σ.1 133 18)) {Q : Int32 → tzS → Prop} (h : Q (nI (pl d x)) σ) : vc_X10_placeOf (nI x) σ Q := by
  have := Sd_le (S := S) (d := d)
  unfold vc_X10_placeOf
  refine ⟨fun z => ?_, fun z => ?_⟩
  · rcases h18 with ⟨-, e⟩ | ⟨e, e2⟩
    · unfold pl at h
      rw [if_neg (by omega)] at h
      exact h
    · rw [e] at z
      exact absurd z (ne_m1 (by omega))
  · rcases h18 with ⟨e, -⟩ | ⟨e, e2⟩
    · exact absurd e z
    · rw [e]
      refine ⟨fun z => ?_, fun z => ?_⟩
      · have z := (le_nI (by omega) (by omega)).mp z
        unfold pl at h
        rw [if_neg (by omega)] at h
        exact h
      · have z := (not_congr (le_nI (by omega) (by omega))).mp z
        unfold pl at h
        rw [if_pos (by omega)] at h
        rw [nI_1]
        exact h
