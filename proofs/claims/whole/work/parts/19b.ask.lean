/-! ===== QUESTIONS: fault, sentence, word, stem, letter ===== -/
theorem q_lt {x : Int32} {S : Nat} (hS : S < 100000) {σ : tzS} {Q : Int32 → tzS → Prop} (h0 : un x < S → Q 0 σ) (h1 : ¬ un x < S → Q 1 σ) : (x < 0 → Q 1 σ) ∧ (¬ x < 0 → (x < nI S → Q 0 σ) ∧ (¬ x < nI S → Q 1 σ)) :=
  ⟨fun z => h1 (by rw [un_neg z]; omega), fun z => ⟨fun z2 => h0 ((un_lt z hS).mp z2), fun z2 => h1 ((not_congr (un_lt z hS)).mp z2)⟩⟩
theorem q_le {x : Int32} {S : Nat} (hS : S < 100000) {σ : tzS} {Q : Int32 → tzS → Prop} (h0 : un x ≤ S → Q 0 σ) (h1 : ¬ un x ≤ S → Q 1 σ) : (x < 0 → Q 1 σ) ∧ (¬ x < 0 → (x ≤ nI S → Q 0 σ) ∧ (¬ x ≤ nI S → Q 1 σ)) :=
  ⟨fun z => h1 (by rw [un_neg z]; omega), fun z => ⟨fun z2 => h0 ((un_le z hS).mp z2), fun z2 => h1 ((not_congr (un_le z hS)).mp z2)⟩⟩
theorem not_lt1 {x : Int32} (h : ¬ x < 1) : ¬ x < 0 := fun z => h (by
  rw [Int32.lt_iff_toInt_lt] at *
  have e0 : (0 : Int32).toInt = 0 := rfl
  have e1 : (1 : Int32).toInt = 1 := rfl
  omega)
theorem q_1lt {x : Int32} {S : Nat} (hS : S < 100000) {σ : tzS} {Q : Int32 → tzS → Prop} (h0 : 1 ≤ un x → un x < S → Q 0 σ) (h1 : ¬ (1 ≤ un x ∧ un x < S) → Q 1 σ) : (x < 1 → Q 1 σ) ∧ (¬ x < 1 → (x < nI S → Q 0 σ) ∧ (¬ x < nI S → Q 1 σ)) := by
  refine ⟨fun z => h1 (by rcases un_lt1 z with e | e <;> omega), fun z => ?_⟩
  have n := not_lt1 z
  replace z := (not_congr (un_lt n (b := 1) (by omega))).mp z
  exact ⟨fun z2 => h0 (by omega) ((un_lt n hS).mp z2), fun z2 => h1 (fun w => (not_congr (un_lt n hS)).mp z2 w.2)⟩
theorem q_1le {x : Int32} {S : Nat} (hS : S < 100000) {σ : tzS} {Q : Int32 → tzS → Prop} (h0 : 1 ≤ un x → un x ≤ S → Q 0 σ) (h1 : ¬ (1 ≤ un x ∧ un x ≤ S) → Q 1 σ) : (x < 1 → Q 1 σ) ∧ (¬ x < 1 → (x ≤ nI S → Q 0 σ) ∧ (¬ x ≤ nI S → Q 1 σ)) := by
  refine ⟨fun z => h1 (by rcases un_lt1 z with e | e <;> omega), fun z => ?_⟩
  have n := not_lt1 z
  replace z := (not_congr (un_lt n (b := 1) (by omega))).mp z
  exact ⟨fun z2 => h0 (by omega) ((un_le n hS).mp z2), fun z2 => h1 (fun w => (not_congr (un_le n hS)).mp z2 w.2)⟩
theorem nz1 : ¬ (1 : Int32) = 0 := by decide
def a_fault (f : Nat → Nat) (n : Nat) (x : Int32) : Int32 := if un x = 0 then sp_pl f n else if un x = 1 then sp_wy f n else if un x = 2 then sp_se f n else -2
theorem c_fault {f : Nat → Nat} {n ru fe li wi td : Nat} {σ : tzS} {x : Int32} (hC : CI f n ru fe li wi td σ) {Q : Int32 → tzS → Prop} (h : ∀ σ', CI f n ru fe li wi td σ' → qf σ σ' → Q (a_fault f n x) σ') : vc_X9_fault x σ Q := by
  have e0 : x = 0 ↔ un x = 0 := un_eq (b := 0) (by omega)
  have e1 : x = 1 ↔ un x = 1 := un_eq (b := 1) (by omega)
  have bad : 2 < un x → Q (-2) σ := fun w => by
    have := h σ hC qf.rf
    unfold a_fault at this
    rw [if_neg (by omega), if_neg (by omega), if_neg (by omega)] at this
    exact this
  unfold vc_X9_fault
  refine ⟨fun z => bad (by rw [un_neg z]; omega), fun z => ⟨fun z2 => ?_, fun z2 => bad (by have := (not_congr (un_le z (b := 2) (by omega))).mp z2; omega)⟩⟩
  replace z2 := (un_le z (b := 2) (by omega)).mp z2
  refine c_read hC (fun σ3 hC3 hF _ _ hq => ?_)
  replace h := h σ3 hC3 hq
  unfold a_fault at h
  refine ⟨fun y0 => ⟨fun y1 => ?_, fun y1 => ?_⟩, fun y0 => ?_⟩
  · replace y0 := (not_congr e0).mp y0
    replace y1 := (not_congr e1).mp y1
    rw [if_neg y0, if_neg y1, if_pos (by omega)] at h
    rw [hF.2.2]; exact h
  · replace y0 := (not_congr e0).mp y0
    rw [if_neg y0, if_pos (e1.mp y1)] at h
    rw [hF.2.1]; exact h
  · rw [if_pos (e0.mp y0)] at h
    rw [hF.1]; exact h
theorem m_faultOf {f : Nat → Nat} {n ru fe li wi td : Nat} {σ : tzS} {x : Int32} (hx : un x ≤ 2) (hM : MI f n ru fe li wi td σ) {Q : Int32 → tzS → Prop} (h : ∀ σ', MI f n ru fe li wi td σ' → mo σ σ' → Q (a_fault f n x) σ') : vc_X10_faultOf x σ Q := by
  have e0 : x = 0 ↔ un x = 0 := un_eq (b := 0) (by omega)
  have e1 : x = 1 ↔ un x = 1 := un_eq (b := 1) (by omega)
  unfold vc_X10_faultOf
  refine s_reads hM.1 (fun σ1 hR hk => ?_)
  replace h := h σ1 (hM.mo hk.mo) hk.mo
  unfold a_fault at h
  refine ⟨fun y0 => ⟨fun y1 => ?_, fun y1 => ?_⟩, fun y0 => ?_⟩
  · replace y0 := (not_congr e0).mp y0
    replace y1 := (not_congr e1).mp y1
    rw [if_neg y0, if_neg y1, if_pos (by omega)] at h
    rw [hR.2.2.1]; exact h
  · replace y0 := (not_congr e0).mp y0
    rw [if_neg y0, if_pos (e1.mp y1)] at h
    rw [hR.2.1]; exact h
  · rw [if_pos (e0.mp y0)] at h
    rw [hR.1]; exact h
theorem m_fault {f : Nat → Nat} {n ru fe li wi td : Nat} {σ : tzS} {x : Int32} (hM : MI f n ru fe li wi td σ) {Q : Int32 → tzS → Prop} (h : ∀ σ', MI f n ru fe li wi td σ' → mo σ σ' → Q (a_fault f n x) σ') : vc_X10_fault x σ Q := by
  unfold vc_X10_fault
  refine s_inU (lo := 0) (hi := 2) (by omega) (by omega) (fun a b => ⟨fun z => absurd z nz1, fun _ => m_faultOf b hM h⟩) (fun a => ⟨fun _ => ?_, fun z => absurd rfl z⟩)
  have := h σ hM mo.rf
  unfold a_fault at this
  rw [if_neg (by omega), if_neg (by omega), if_neg (by omega)] at this
  exact this
/-! sentence -/
def r_un (f : Nat → Nat) (n s : Nat) : Nat := fb_ct (fun t => decide (0 < rd_hv f n s t)) (rd_K f n)
def r_on (f : Nat → Nat) (n s : Nat) : Nat := fb_ct (fun t => decide (rd_hv f n s t = 1)) (rd_K f n)
def a_sentence (f : Nat → Nat) (n : Nat) (x y : Int32) : Int32 := if un x < rd_S f n ∧ un y ≤ 3 then (if un y = 0 then nI (rd_wi f n (un x)) else if un y = 1 then nI (r_un f n (un x)) else if un y = 2 then nI (r_on f n (un x)) else nI (sp_tA f n (rd_fw f n (un x)))) else -2
theorem s_unlikeIn {f : Nat → Nat} {n s : Nat} (hn : n ≤ 200) (hs : s < rd_S f n) {σ : tzS} (hR : ReadOK f n σ) {Q : Int32 → tzS → Prop} (h : Q (nI (r_un f n s)) σ) : vc_X6_unlikeIn (nI s) σ Q := by
  obtain ⟨r1, r2, r3, r4, r5, r6⟩ := rd_ok (f := f) hn
  have hK0 : σ.1 4 2 = nI (rd_K f n) := hR.2.2.1
  unfold vc_X6_unlikeIn
  refine for2b 0 (rd_K f n) (fun t a r => a = nI (fb_ct (fun t => decide (0 < rd_hv f n s t)) t) ∧ r = σ) (Nat.zero_le _) ⟨rfl, rfl⟩ ?_ ?_
  · intro t a r ag _ ht hI hag
    obtain ⟨e1, e2⟩ := hI
    subst e2
    have hb := rd_hv_le (f := f) (s := s) (t := t) hn
    rw [hK0, cl_nI (by omega), cl_nI (by omega), hR.2.2.2.2.1 s t (by omega) ht, nI_1]
    refine ⟨fun z => absurd ((le_nI (by omega) (by omega)).mp z) (by omega), fun _ => ⟨in_nI (by omega) (by omega), in_nI (by omega) (by omega), fun z x hx => ?_, fun z x hx y hy => ?_⟩⟩
    · subst hx
      replace z := (le_nI (b := 0) (by omega) (by omega)).mp z
      refine hag _ _ ⟨?_, rfl⟩
      rw [e1, fb_ct_succ, if_neg (by simp; omega), Nat.add_zero]
    · subst hx
      subst hy
      replace z := (not_congr (le_nI (b := 0) (by omega) (by omega))).mp z
      refine hag _ _ ⟨?_, rfl⟩
      rw [e1, nI_1, fb_ct_succ, if_pos (by simp; omega)]
  · intro a r ag hI
    obtain ⟨e1, e2⟩ := hI
    subst e2
    rw [e1, hK0]
    exact ⟨fun _ => h, fun z => absurd ((le_nI (by omega) (by omega)).mpr (Nat.le_refl _)) z⟩
theorem s_onceIn {f : Nat → Nat} {n s : Nat} (hn : n ≤ 200) (hs : s < rd_S f n) {σ : tzS} (hR : ReadOK f n σ) {Q : Int32 → tzS → Prop} (h : Q (nI (r_on f n s)) σ) : vc_X6_onceIn (nI s) σ Q := by
  obtain ⟨r1, r2, r3, r4, r5, r6⟩ := rd_ok (f := f) hn
  have hK0 : σ.1 4 2 = nI (rd_K f n) := hR.2.2.1
  unfold vc_X6_onceIn
  refine for2b 0 (rd_K f n) (fun t a r => a = nI (fb_ct (fun t => decide (rd_hv f n s t = 1)) t) ∧ r = σ) (Nat.zero_le _) ⟨rfl, rfl⟩ ?_ ?_
  · intro t a r ag _ ht hI hag
    obtain ⟨e1, e2⟩ := hI
    subst e2
    have hb := rd_hv_le (f := f) (s := s) (t := t) hn
    rw [hK0, cl_nI (by omega), cl_nI (by omega), hR.2.2.2.2.1 s t (by omega) ht, nI_1]
    refine ⟨fun z => absurd ((le_nI (by omega) (by omega)).mp z) (by omega), fun _ => ⟨in_nI (by omega) (by omega), in_nI (by omega) (by omega), fun z x hx => ?_, fun z x hx y hy => ?_⟩⟩
    · subst hx
      replace z := (not_congr (eq_nI (b := 1) (by omega) (by omega))).mp z
      refine hag _ _ ⟨?_, rfl⟩
      rw [e1, fb_ct_succ, if_neg (by simp; omega), Nat.add_zero]
    · subst hx
      subst hy
      replace z := (eq_nI (b := 1) (by omega) (by omega)).mp z
      refine hag _ _ ⟨?_, rfl⟩
      rw [e1, nI_1, fb_ct_succ, if_pos (by simp; omega)]
  · intro a r ag hI
    obtain ⟨e1, e2⟩ := hI
    subst e2
    rw [e1, hK0]
    exact ⟨fun _ => h, fun z => absurd ((le_nI (by omega) (by omega)).mpr (Nat.le_refl _)) z⟩
theorem c_sentence {f : Nat → Nat} {n ru fe li wi td : Nat} {σ : tzS} {x y : Int32} (hC : CI f n ru fe li wi td σ) {Q : Int32 → tzS → Prop} (h : ∀ σ', CI f n ru fe li wi td σ' → qf σ σ' → Q (a_sentence f n x y) σ') : vc_X9_sentence x y σ Q := by
  have hn := hC.1.1
  obtain ⟨r1, r2, r3, r4, r5, r6⟩ := rd_ok (f := f) hn
  unfold vc_X9_sentence
  refine c_read hC (fun σ1 hC1 hF hR _ hq => ?_)
  replace h := h σ1 hC1 hq
  unfold a_sentence at h
  have bad : ¬ (un x < rd_S f n ∧ un y ≤ 3) → Q (-2) σ1 := fun w => by rw [if_neg w] at h; exact h
  unfold vc_X9_noSentence
  rw [hR.1]
  refine q_lt (Q := fun r_3 σ_2 => (¬ r_3 = 0 → Q (-2) σ_2) ∧ (r_3 = 0 → _)) (by omega) (fun hx => ⟨fun z => absurd rfl z, fun _ => ?_⟩) (fun hx => ⟨fun _ => bad (by omega), fun z => absurd z nz1⟩)
  refine ⟨fun z => bad (by rw [un_neg z]; omega), fun z => ⟨fun z2 => ?_, fun z2 => bad (by have := (not_congr (un_le z (b := 3) (by omega))).mp z2; omega)⟩⟩
  replace z2 := (un_le z (b := 3) (by omega)).mp z2
  rw [if_pos ⟨hx, z2⟩] at h
  have ex := un_at hx (by omega)
  have e0 : y = 0 ↔ un y = 0 := un_eq (b := 0) (by omega)
  have e1 : y = 1 ↔ un y = 1 := un_eq (b := 1) (by omega)
  have e2 : y = 2 ↔ un y = 2 := un_eq (b := 2) (by omega)
  generalize un x = s at *
  subst ex
  refine ⟨fun y0 => ⟨fun y1 => ⟨fun y2 => ?_, fun y2 => ?_⟩, fun y1 => ?_⟩, fun y0 => ?_⟩
  · rw [if_neg ((not_congr e0).mp y0), if_neg ((not_congr e1).mp y1), if_neg ((not_congr e2).mp y2)] at h
    rw [cl_nI (by omega), (hR.2.2.2.1 s hx).2.1]
    exact ⟨in_nI (by omega) (by omega), h⟩
  · rw [if_neg ((not_congr e0).mp y0), if_neg ((not_congr e1).mp y1), if_pos (e2.mp y2)] at h
    exact s_onceIn hn hx hR h
  · rw [if_neg ((not_congr e0).mp y0), if_pos (e1.mp y1)] at h
    exact s_unlikeIn hn hx hR h
  · rw [if_pos (e0.mp y0)] at h
    rw [cl_nI (by omega), (hR.2.2.2.1 s hx).1]
    exact ⟨in_nI (by omega) (by omega), h⟩
theorem bk_c1 {f : Nat → Nat} {n s t : Nat} (hs : s < rd_S f n) : bk_c (rd_hv f n) (rd_S f n) s (s + 1) t = rd_hv f n s t := by
  rw [bk_c_succ (Nat.le_refl _)]
  unfold bk_c dm
  rw [Nat.sub_self, if_pos hs]
  exact Nat.zero_add _
theorem rd_wi_sum {f : Nat → Nat} {n s : Nat} : fb_sm (fun t => rd_hv f n s t) (rd_K f n) = rd_wi f n s := by
  have e := sm_ct (P := rd_sn f n) (R := fun k => decide (sp_tN f n k = s)) (K := rd_K f n) (c := rd_W f n) (fun k hk => rd_sn_lt hk)
  unfold rd_wi
  rw [← e]
  refine fb_sm_cong (fun t _ => ?_)
  unfold rd_hv
  exact fb_ct_cong (fun k _ => by rw [← Bool.decide_and]; exact decide_eq_decide.mpr And.comm)
theorem s_looksOver2 {f : Nat → Nat} {n d i j : Nat} {x y : Int32} (ex : x = nI (pl d i)) (ey : y = nI (pl d j)) (hn : n ≤ 200) (hij : i ≤ j) (hj : j ≤ Sd (rd_S f n) d) {σ : tzS} (h9 : σ.1 133 9 = nI (rd_K f n)) (h18 : DX (rd_S f n) d (σ.1 133 18)) (hH : ∀ s t, s < 12 → t < 110 → σ.1 143 (110 * s + t) = nI (rd_hv f n s t)) {Q : tzS → Prop} (h : ∀ σ', σ'.1 133 19 = nI (bk_w (rd_hv f n) (rd_K f n) d i j) → σ'.1 133 20 = nI (bk_u (rd_hv f n) (rd_K f n) d i j) → σ'.1 133 21 = nI (bk_o (rd_hv f n) (rd_K f n) d i j) → mk3 σ σ' → Q σ') : vc_X10_looksOver x y σ Q := by
  subst ex
  subst ey
  exact s_looksOver hn hij hj h9 h18 hH h
theorem m_isSentence {f : Nat → Nat} {n ru fe li wi td : Nat} {σ : tzS} {x : Int32} (hM : MI f n ru fe li wi td σ) {Q : Int32 → tzS → Prop} (h1 : ∀ σ', MI f n ru fe li wi td σ' → MR f n σ' → mo σ σ' → un x < rd_S f n → Q 1 σ') (h0 : ∀ σ', MI f n ru fe li wi td σ' → mo σ σ' → ¬ un x < rd_S f n → Q 0 σ') : vc_X10_isSentence x σ Q := by
  have r2 := (rd_ok (f := f) hM.1.1).2.1
  unfold vc_X10_isSentence
  refine s_reads hM.1 (fun σ1 hR hk => ?_)
  rw [hR.2.2.2.1]
  exact s_inM (lo := 0) (by omega) (by omega) (fun a b => ⟨Or.inr rfl, h1 σ1 (hM.mo hk.mo) hR hk.mo b⟩) (fun a => ⟨Or.inl rfl, h0 σ1 (hM.mo hk.mo) hk.mo (by omega)⟩)
theorem m_sentence {f : Nat → Nat} {n ru fe li wi td : Nat} {σ : tzS} {x y : Int32} (hM : MI f n ru fe li wi td σ) {Q : Int32 → tzS → Prop} (h : ∀ σ', MI f n ru fe li wi td σ' → mo σ σ' → Q (a_sentence f n x y) σ') : vc_X10_sentence x y σ Q := by
  have hn := hM.1.1
  obtain ⟨r1, r2, r3, r4, r5, r6⟩ := rd_ok (f := f) hn
  unfold vc_X10_sentence
  refine m_isSentence hM (fun σ1 hM1 hR hk hx => ⟨fun z => absurd z nz1, fun _ => ?_⟩) (fun σ1 hM1 hk hx => ⟨fun _ => ?_, fun z => absurd rfl z⟩)
  · refine s_inU (lo := 0) (hi := 3) (by omega) (by omega) (fun a b => ⟨fun z => absurd z nz1, fun _ => ?_⟩) (fun a => ⟨fun _ => ?_, fun z => absurd rfl z⟩)
    · have ex := un_at hx (by omega)
      have e0 : y = 0 ↔ un y = 0 := un_eq (b := 0) (by omega)
      have e1 : y = 1 ↔ un y = 1 := un_eq (b := 1) (by omega)
      have e2 : y = 2 ↔ un y = 2 := un_eq (b := 2) (by omega)
      unfold a_sentence at h
      rw [if_pos ⟨hx, b⟩] at h
      generalize un x = s at *
      subst ex
      unfold vc_X10_sentenceOf
      have p1 : pl (rd_S f n) s = s := by unfold pl; rw [if_neg (by omega)]
      have p2 : pl (rd_S f n) (s + 1) = s + 1 := by unfold pl; rw [if_neg (by omega)]
      refine s_looksOver2 (f := f) (n := n) (d := rd_S f n) (i := s) (j := s + 1) (by rw [p1]) (by rw [p2, nI_1]) hn (by omega) (by rw [Sd_self]; exact hx) hR.2.2.2.2.2.1 (Or.inl ⟨hR.2.2.2.2.2.2.1, rfl⟩) hR.2.2.2.2.2.2.2.2.2.2 (fun σ' w1 w2 w3 hk3 => ?_)
      replace h := h σ' (hM1.mo hk3.mo) (hk.tr hk3.mo)
      have ew : bk_w (rd_hv f n) (rd_K f n) (rd_S f n) s (s + 1) = rd_wi f n s := by
        rw [← rd_wi_sum]
        exact fb_sm_cong (fun t _ => bk_c1 hx)
      have eu : bk_u (rd_hv f n) (rd_K f n) (rd_S f n) s (s + 1) = r_un f n s := fb_ct_cong (fun t _ => by rw [bk_c1 hx])
      have eo : bk_o (rd_hv f n) (rd_K f n) (rd_S f n) s (s + 1) = r_on f n s := fb_ct_cong (fun t _ => by rw [bk_c1 hx])
      refine ⟨fun y0 => ⟨fun y1 => ⟨fun y2 => ?_, fun y2 => ?_⟩, fun y1 => ?_⟩, fun y0 => ?_⟩
      · rw [if_neg ((not_congr e0).mp y0), if_neg ((not_congr e1).mp y1), if_neg ((not_congr e2).mp y2)] at h
        obtain ⟨k, hk1, hk2⟩ := r6 s hx
        have hfw : rd_fw f n s < rd_W f n := by
          have := (rd_in (f := f) (s := s) hn hk1).mp hk2
          omega
        rw [cl_nI (by omega), hk3.1 142 (by omega), hR.2.2.2.2.2.2.2.2.2.1 s (by omega), cl_nI (by omega), hk3.1 136 (by omega), (hR.2.2.2.2.2.2.2.1 _ hfw).1]
        exact ⟨in_nI (by omega) (by omega), in_nI (by omega) (by omega), h⟩
      · rw [if_neg ((not_congr e0).mp y0), if_neg ((not_congr e1).mp y1), if_pos (e2.mp y2)] at h
        rw [w3, eo]; exact h
      · rw [if_neg ((not_congr e0).mp y0), if_pos (e1.mp y1)] at h
        rw [w2, eu]; exact h
      · rw [if_pos (e0.mp y0)] at h
        rw [w1, ew]; exact h
    · replace h := h σ1 hM1 hk
      unfold a_sentence at h
      rw [if_neg (by omega)] at h
      exact h
  · replace h := h σ1 hM1 hk
    unfold a_sentence at h
    rw [if_neg (by omega)] at h
    exact h
/-! word -/
def a_word (f : Nat → Nat) (n : Nat) (x y : Int32) : Int32 := if un x < rd_S f n ∧ un y < rd_wi f n (un x) then nI (rd_sn f n (rd_fw f n (un x) + un y)) else -2
theorem c_word {f : Nat → Nat} {n ru fe li wi td : Nat} {σ : tzS} {x y : Int32} (hC : CI f n ru fe li wi td σ) {Q : Int32 → tzS → Prop} (h : ∀ σ', CI f n ru fe li wi td σ' → qf σ σ' → Q (a_word f n x y) σ') : vc_X9_word x y σ Q := by
  have hn := hC.1.1
  obtain ⟨r1, r2, r3, r4, r5, r6⟩ := rd_ok (f := f) hn
  unfold vc_X9_word
  refine c_read hC (fun σ1 hC1 hF hR _ hq => ?_)
  replace h := h σ1 hC1 hq
  unfold a_word at h
  have bad : ¬ (un x < rd_S f n ∧ un y < rd_wi f n (un x)) → Q (-2) σ1 := fun w => by rw [if_neg w] at h; exact h
  unfold vc_X9_noSentence
  rw [hR.1]
  refine q_lt (Q := fun r_3 σ_2 => (r_3 = 0 → _) ∧ (¬ r_3 = 0 → Q (-2) σ_2)) (by omega) (fun hx => ⟨fun _ => ?_, fun z => absurd rfl z⟩) (fun hx => ⟨fun z => absurd z nz1, fun _ => bad (by omega)⟩)
  have ex := un_at hx (by omega)
  generalize un x = s at *
  subst ex
  have h9 := rd_wi9 (f := f) (s := s) hn
  refine ⟨fun z => bad (by rw [un_neg z]; omega), fun z => ⟨in_nI (by omega) (by omega), ?_⟩⟩
  rw [cl_nI (by omega), (hR.2.2.2.1 s hx).1]
  refine ⟨fun z2 => ?_, fun z2 => bad (by have := (not_congr (un_lt z (b := rd_wi f n s) (by omega))).mp z2; omega)⟩
  replace z2 := (un_lt z (b := rd_wi f n s) (by omega)).mp z2
  rw [if_pos ⟨hx, z2⟩] at h
  have ey := un_at z2 (by omega)
  generalize un y = w at *
  subst ey
  rw [cl_nI (by omega), (hR.2.2.2.1 s hx).2.2 w z2]
  exact ⟨in_nI (by omega) (by omega), h⟩
theorem m_word {f : Nat → Nat} {n ru fe li wi td : Nat} {σ : tzS} {x y : Int32} (hM : MI f n ru fe li wi td σ) {Q : Int32 → tzS → Prop} (h : ∀ σ', MI f n ru fe li wi td σ' → mo σ σ' → Q (a_word f n x y) σ') : vc_X10_word x y σ Q := by
  have hn := hM.1.1
  obtain ⟨r1, r2, r3, r4, r5, r6⟩ := rd_ok (f := f) hn
  unfold vc_X10_word
  refine m_isSentence hM (fun σ1 hM1 hR hk hx => ⟨fun z => absurd z nz1, fun _ => ?_⟩) (fun σ1 hM1 hk hx => ⟨fun _ => ?_, fun z => absurd rfl z⟩)
  · replace h := h σ1 hM1 hk
    unfold a_word at h
    have ex := un_at hx (by omega)
    generalize un x = s at *
    subst ex
    have hle := rd_wi_le (f := f) (n := n) (s := s)
    have efw : rd_fw f n (s + 1) = rd_fw f n s + rd_wi f n s := by
      unfold rd_fw rd_wi
      rw [← fb_ct_or (fun k _ => by simp; omega)]
      exact fb_ct_cong (fun k _ => by
        by_cases q : sp_tN f n k < s + 1
        · by_cases q2 : sp_tN f n k < s
          · simp [q, q2]
          · have : sp_tN f n k = s := by omega
            simp [this]
        · have h1 : ¬ sp_tN f n k < s := by omega
          have h2 : ¬ sp_tN f n k = s := by omega
          simp [q, h1, h2])
    unfold vc_X10_wordOf
    have w0 : ∀ s', s' ≤ rd_S f n → σ1.1 142 s' = nI (rd_fw f n s') := hR.2.2.2.2.2.2.2.2.2.1
    rw [nI_1, cl_nI (by omega), cl_nI (by omega), w0 (s + 1) (by omega), w0 s (by omega), pk_sub (by omega), efw, show rd_fw f n s + rd_wi f n s - rd_fw f n s = rd_wi f n s by omega]
    refine ⟨in_nI (by omega) (by omega), in_nI (by omega) (by omega), ?_⟩
    refine s_inM (lo := 0) (by omega) (by omega) (fun a b => ⟨fun z => absurd z nz1, fun _ => ?_⟩) (fun a => ⟨fun _ => ?_, fun z => absurd rfl z⟩)
    · rw [if_pos ⟨hx, b⟩] at h
      have ey := un_at b (by omega)
      generalize un y = w at *
      subst ey
      rw [w0 s (by omega), nI_add, cl_nI (by omega), (hR.2.2.2.2.2.2.2.1 (rd_fw f n s + w) (by omega)).2.2.2]
      exact ⟨in_nI (by omega) (by omega), h⟩
    · rw [if_neg (by omega)] at h
      exact h
  · replace h := h σ1 hM1 hk
    unfold a_word at h
    rw [if_neg (by omega)] at h
    exact h
