/-! the class's search for a fault -/
def FS (q : spA) (σ : tzS) : Prop := σ.1 3 3 = nI q.2.2.2 ∧ σ.1 3 4 = nI q.2.1 ∧ σ.1 3 5 = nI q.2.2.1 ∧ σ.1 3 6 = (if q.1 = 1 then 1 else 0)
/-- all cells but k are as they were -/
def but (k : Nat) (σ σ' : tzS) : Prop := (∀ a, a ≠ k → σ'.1 a = σ.1 a) ∧ σ'.2 = σ.2
theorem but.rf {k : Nat} {σ : tzS} : but k σ σ := ⟨fun _ _ => rfl, rfl⟩
theorem but.st {k j : Nat} {σ σ' : tzS} {v : Int32} (h : but k σ σ') : but k σ (tz_st σ' k j v) := ⟨fun a ha => by rw [st_ne ha]; exact h.1 a ha, h.2⟩
theorem but.tr {k : Nat} {σ σ' σ'' : tzS} (h : but k σ σ') (h2 : but k σ' σ'') : but k σ σ'' := ⟨fun a ha => (h2.1 a ha).trans (h.1 a ha), h2.2.trans h.2⟩
theorem s_isLetter {b : Nat} (hb : b < 256) {σ : tzS} {Q : Int32 → tzS → Prop} (h1 : sp_L b = true → Q 1 σ) (h0 : ¬ sp_L b = true → Q 0 σ) : vc_X9_isLetter (nI b) σ Q := by
  unfold vc_X9_isLetter
  refine ⟨fun c => h0 (fun q => ?_), fun c => ⟨fun c2 => h0 (fun q => ?_), fun c2 => h1 ?_⟩⟩
  · have c := (lt_nI (b := 97) (by omega) (by omega)).mp c
    have := sp_L_iff.mp q
    omega
  · have c2 := (lt_nI (a := 122) (by omega) (by omega)).mp c2
    have := sp_L_iff.mp q
    omega
  · have c : ¬ b < 97 := fun q => c ((lt_nI (b := 97) (by omega) (by omega)).mpr q)
    have c2 : ¬ 122 < b := fun q => c2 ((lt_nI (a := 122) (by omega) (by omega)).mpr q)
    exact sp_L_iff.mpr (by omega)
theorem s_reason {q : spA} (hJ : sp_J q) {b : Nat} (hb : b < 256) {σ : tzS} (hF : FS q σ) {Q : Int32 → tzS → Prop} (h : Q (if sp_why b q = 0 then -1 else nI (sp_why b q)) σ) : vc_X3_reasonAgainst (nI b) σ Q := by
  obtain ⟨h0, i0, s0, l0⟩ := q
  obtain ⟨f1, f2, f3, f4⟩ := hF
  dsimp only at f1 f2 f3 f4
  unfold sp_J at hJ
  unfold sp_why at h
  dsimp only at hJ h
  have hl : l0 ≤ 10 := by omega
  have hs : s0 ≤ 12 := by omega
  have hi : i0 ≤ 9 := by omega
  unfold vc_X3_reasonAgainst
  refine s_isLetter hb (fun hL => ?_) (fun hL => ?_)
  · rw [if_pos hL] at h
    refine ⟨fun c => absurd c (by decide), fun _ => ?_⟩
    rw [f1]
    refine ⟨fun c => ?_, fun c => ?_⟩
    · have c : l0 ≠ 0 := fun q => c (by rw [q]; rfl)
      have e2 : h0 = 2 := by omega
      rw [if_pos e2] at h
      refine ⟨fun c2 => ?_, fun c2 => ?_⟩
      · have c2 := (le_nI (a := 10) (by omega) (by omega)).mp c2
        rw [if_pos (show l0 = 10 by omega)] at h
        exact h
      · have c2 : ¬ 10 ≤ l0 := fun q => c2 ((le_nI (a := 10) (by omega) (by omega)).mpr q)
        rw [if_neg (show ¬ l0 = 10 by omega)] at h
        exact h
    · have c : l0 = 0 := (eq_nI (b := 0) (by omega) (by omega)).mp c
      have e2 : ¬ h0 = 2 := by omega
      rw [if_neg e2] at h
      unfold vc_X3_mayBegin
      rw [f2, f3]
      refine ⟨fun c2 => ?_, fun c2 => ⟨fun c3 => ?_, fun c3 => ?_⟩⟩
      · have c2 := (le_nI (a := 12) (by omega) (by omega)).mp c2
        rw [if_pos (show s0 = 12 ∨ i0 = 9 by omega)] at h
        exact ⟨fun _ => h, fun z => absurd rfl z⟩
      · have c3 := (le_nI (a := 9) (by omega) (by omega)).mp c3
        rw [if_pos (show s0 = 12 ∨ i0 = 9 by omega)] at h
        exact ⟨fun _ => h, fun z => absurd rfl z⟩
      · have c2 : ¬ 12 ≤ s0 := fun q => c2 ((le_nI (a := 12) (by omega) (by omega)).mpr q)
        have c3 : ¬ 9 ≤ i0 := fun q => c3 ((le_nI (a := 9) (by omega) (by omega)).mpr q)
        rw [if_neg (show ¬ (s0 = 12 ∨ i0 = 9) by omega)] at h
        exact ⟨fun z => absurd z (by decide), fun _ => h⟩
  · rw [if_neg hL] at h
    refine ⟨fun _ => ?_, fun c => absurd rfl c⟩
    rw [f1]
    refine ⟨fun c => ?_, fun c => ⟨fun c2 => ?_, fun c2 => ?_⟩⟩
    · have c : b = 32 := (eq_nI (b := 32) (by omega) (by omega)).mp c
      rw [if_pos c] at h
      refine ⟨fun c2 => ?_, fun c2 => ?_⟩
      · have c2 := (le_nI (b := 0) (by omega) (by omega)).mp c2
        rw [f4]
        by_cases e1 : h0 = 1
        · rw [if_pos (Or.inr e1)] at h
          rw [if_pos e1]
          exact ⟨fun z => absurd z (by decide), fun _ => h⟩
        · rw [if_neg (show ¬ (h0 = 2 ∨ h0 = 1) by omega)] at h
          rw [if_neg e1]
          exact ⟨fun _ => h, fun z => absurd rfl z⟩
      · have c2 : ¬ l0 ≤ 0 := fun q => c2 ((le_nI (b := 0) (by omega) (by omega)).mpr q)
        rw [if_pos (show h0 = 2 ∨ h0 = 1 by omega)] at h
        exact h
    · have c : ¬ b = 32 := fun q => c (by rw [q]; rfl)
      have c2 : b = 46 := (eq_nI (b := 46) (by omega) (by omega)).mp c2
      rw [if_neg c, if_pos c2] at h
      refine ⟨fun c3 => ?_, fun c3 => ?_⟩
      · have c3 := (le_nI (b := 0) (by omega) (by omega)).mp c3
        rw [if_neg (show ¬ h0 = 2 by omega)] at h
        exact h
      · have c3 : ¬ l0 ≤ 0 := fun q => c3 ((le_nI (b := 0) (by omega) (by omega)).mpr q)
        rw [if_pos (show h0 = 2 by omega)] at h
        exact h
    · have c : ¬ b = 32 := fun q => c (by rw [q]; rfl)
      have c2 : ¬ b = 46 := fun q => c2 (by rw [q]; rfl)
      rw [if_neg c, if_neg c2] at h
      exact h
theorem s_take {q : spA} (hJ : sp_J q) {b : Nat} (hb : b < 256) {σ : tzS} (hF : FS q σ) {Q : tzS → Prop} (h : ∀ σ', FS (sp_step b q) σ' → but 3 σ σ' → Q σ') : vc_X3_take (nI b) σ Q := by
  obtain ⟨h0, i0, s0, l0⟩ := q
  obtain ⟨f1, f2, f3, f4⟩ := hF
  unfold sp_J at hJ
  unfold sp_step at h
  dsimp only at f1 f2 f3 f4 hJ h
  have hl : l0 ≤ 10 := by omega
  unfold vc_X3_take
  refine ⟨fun c => ?_, fun c => ?_⟩
  · have c' : ¬ b = 46 := fun q => c (by rw [q]; rfl)
    rintro σ1 rfl
    refine s_isLetter hb (fun hL => ?_) (fun hL => ?_)
    · rw [if_pos hL] at h
      refine ⟨fun z => absurd z (by decide), fun _ => ?_⟩
      rw [st_nj (by decide), f1]
      refine ⟨fun c2 => ?_, fun c2 => ?_⟩
      · have c2 : ¬ l0 = 0 := fun q => c2 (by rw [q]; rfl)
        have e2 : h0 = 2 := by omega
        rw [if_pos e2, if_pos e2] at h
        rintro σ2 rfl
        refine h _ ⟨?_, ?_, ?_, ?_⟩ (but.rf.st.st)
        · dsimp only
          rw [st_eq, nI_1]
        · rw [st_nj (by decide), st_nj (by decide)]
          exact f2
        · rw [st_nj (by decide), st_nj (by decide)]
          exact f3
        · rw [st_nj (by decide), st_eq]
          rfl
      · have c2 : l0 = 0 := (eq_nI (b := 0) (by omega) (by omega)).mp c2
        have e2 : ¬ h0 = 2 := by omega
        rw [if_neg e2, if_neg e2] at h
        rintro σ2 rfl σ3 rfl
        refine h _ ⟨?_, ?_, ?_, ?_⟩ (but.rf.st.st.st)
        · dsimp only
          rw [st_eq, st_nj (by decide), st_nj (by decide), f1, c2]
          rfl
        · rw [st_nj (by decide), st_eq, st_nj (by decide), f2, nI_1]
        · rw [st_nj (by decide), st_nj (by decide), st_nj (by decide)]
          exact f3
        · rw [st_nj (by decide), st_nj (by decide), st_eq]
          rfl
    · rw [if_neg hL, if_neg c'] at h
      refine ⟨fun _ => ?_, fun z => absurd rfl z⟩
      rintro σ2 rfl
      refine h _ ⟨?_, ?_, ?_, ?_⟩ (but.rf.st.st)
      · dsimp only
        rw [st_eq]
        rfl
      · rw [st_nj (by decide), st_nj (by decide)]
        exact f2
      · rw [st_nj (by decide), st_nj (by decide)]
        exact f3
      · rw [st_nj (by decide), st_eq]
        dsimp only
        by_cases e1 : h0 = 1
        · rw [if_pos e1]
          rfl
        · rw [if_neg e1]
          rfl
  · have c' : b = 46 := (eq_nI (b := 46) (by omega) (by omega)).mp c
    subst c'
    rw [if_neg sp_L46, if_pos rfl] at h
    rintro σ1 rfl
    refine s_isLetter hb (fun hL => absurd hL sp_L46) (fun _ => ?_)
    refine ⟨fun _ => ?_, fun z => absurd rfl z⟩
    rintro σ2 rfl σ3 rfl σ4 rfl
    refine h _ ⟨?_, ?_, ?_, ?_⟩ (but.rf.st.st.st.st)
    · rw [st_nj (by decide), st_nj (by decide), st_eq]
      rfl
    · rw [st_nj (by decide), st_eq]
      rfl
    · dsimp only
      rw [st_eq, st_nj (by decide), st_nj (by decide), st_nj (by decide), f3, nI_1]
    · rw [st_nj (by decide), st_nj (by decide), st_nj (by decide), st_eq]
      rfl
/-- the class's text -/
def CT (f : Nat → Nat) (n : Nat) (σ : tzS) : Prop := n ≤ 200 ∧ σ.1 1 1 = nI n ∧ ∀ i, i < n → f i < 256 ∧ σ.1 2 i = nI (f i)
def FlawOK (f : Nat → Nat) (n : Nat) (σ : tzS) : Prop := σ.1 3 0 = sp_pl f n ∧ σ.1 3 1 = sp_wy f n ∧ σ.1 3 2 = sp_se f n
theorem s_keep3 {x y z : Int32} {σ : tzS} {Q : tzS → Prop} (h : ∀ σ', σ'.1 3 0 = x → σ'.1 3 1 = y → σ'.1 3 2 = z → but 3 σ σ' → Q σ') : vc_X3_keep x y z σ Q := by
  unfold vc_X3_keep
  rintro σ1 rfl σ2 rfl σ3 rfl
  refine h _ ?_ ?_ ?_ (but.rf.st.st.st)
  · rw [st_nj (by decide), st_nj (by decide), st_eq]
  · rw [st_nj (by decide), st_eq]
  · rw [st_eq]
theorem s_seek {f : Nat → Nat} {n : Nat} {σ : tzS} (hT : CT f n σ) {Q : tzS → Prop} (h : ∀ σ', FlawOK f n σ' → but 3 σ σ' → Q σ') : vc_X3_seek σ Q := by
  obtain ⟨hn, h11, hb⟩ := hT
  unfold vc_X3_seek
  rintro σ1 rfl σ2 rfl σ3 rfl σ4 rfl
  refine for1 0 n (fun p s => sp_ok f p ∧ FS (sp_at f p) s ∧ but 3 σ s) (Nat.zero_le _) ?_ ?_ ?_
  · refine ⟨fun q hq => absurd hq (Nat.not_lt_zero q), ⟨?_, ?_, ?_, ?_⟩, but.rf.st.st.st.st⟩
    · rw [st_nj (by decide), st_nj (by decide), st_nj (by decide), st_eq]
      rfl
    · rw [st_nj (by decide), st_nj (by decide), st_eq]
      rfl
    · rw [st_nj (by decide), st_eq]
      rfl
    · rw [st_eq]
      rfl
  · intro p s ag _ hp hI hag
    obtain ⟨ho, hF, hB⟩ := hI
    have e1 : s.1 1 1 = nI n := by rw [hB.1 1 (by decide)]; exact h11
    have e2 : s.1 2 p = nI (f p) := by rw [hB.1 2 (by decide)]; exact (hb p hp).2
    have hJ := sp_ok_J ho
    rw [e1]
    refine ⟨fun c => absurd ((le_nI (by omega) (by omega)).mp c) (by omega), fun _ => ⟨in_nI (by omega) (by omega), ?_⟩⟩
    rw [cl_nI (by omega), e2]
    refine s_reason hJ (hb p hp).1 hF ?_
    by_cases hw : sp_why (f p) (sp_at f p) = 0
    · rw [if_pos hw]
      refine ⟨fun _ => ?_, fun z => absurd rfl z⟩
      rw [e2]
      refine s_take hJ (hb p hp).1 hF (fun σ' hF' hB' => ?_)
      rintro x rfl
      rw [nI_1]
      refine hag _ ⟨fun q hq => ?_, hF', hB.tr hB'⟩
      by_cases e : q = p
      · rw [e]; exact hw
      · exact ho q (by omega)
    · rw [if_neg hw]
      have hw5 : sp_why (f p) (sp_at f p) < 100 := by
        unfold sp_why
        repeat' split
        all_goals decide
      refine ⟨fun z => absurd z (ne_m1 (by omega)), fun _ => ?_⟩
      refine s_keep3 (fun σ' k1 k2 k3 hB' => h σ' ⟨?_, ?_, ?_⟩ (hB.tr hB'))
      · rw [k1]
        unfold sp_pl
        rw [sp_f_at hp ho hw, if_pos hp]
      · rw [k2]
        unfold sp_wy
        rw [sp_f_at hp ho hw, if_pos hp]
      · rw [k3, hF.2.2.1]
        unfold sp_se
        rw [sp_f_at hp ho hw, if_pos hp]
  · intro s ag hI
    obtain ⟨ho, hF, hB⟩ := hI
    have e1 : s.1 1 1 = nI n := by rw [hB.1 1 (by decide)]; exact h11
    have hJ := sp_ok_J ho
    rw [e1]
    refine ⟨fun _ => ?_, fun c => absurd ((le_nI (by omega) (by omega)).mpr (Nat.le_refl n)) c⟩
    obtain ⟨f1, f2, f3, f4⟩ := hF
    have hi9 : (sp_at f n).2.1 ≤ 9 := by
      unfold sp_J at hJ
      omega
    rw [f2, f3]
    refine ⟨fun c => ?_, fun c => ?_⟩
    · have c := (le_nI (b := 0) (by omega) (by omega)).mp c
      have e : ¬ 1 < (sp_at f n).1 := by
        unfold sp_J at hJ
        omega
      refine s_keep3 (fun σ' k1 k2 k3 hB' => h σ' ⟨?_, ?_, ?_⟩ (hB.tr hB'))
      · rw [k1]
        unfold sp_pl
        rw [sp_f_end ho, if_neg (Nat.lt_irrefl n), if_neg e]
      · rw [k2]
        unfold sp_wy
        rw [sp_f_end ho, if_neg (Nat.lt_irrefl n), if_neg e]
      · rw [k3]
        unfold sp_se
        rw [sp_f_end ho, if_neg (Nat.lt_irrefl n), if_neg e]
    · have c : ¬ (sp_at f n).2.1 ≤ 0 := fun q => c ((le_nI (b := 0) (by omega) (by omega)).mpr q)
      have e : 1 < (sp_at f n).1 := by
        unfold sp_J at hJ
        omega
      refine s_keep3 (fun σ' k1 k2 k3 hB' => h σ' ⟨?_, ?_, ?_⟩ (hB.tr hB'))
      · rw [k1]
        unfold sp_pl
        rw [sp_f_end ho, if_neg (Nat.lt_irrefl n), if_pos e]
      · rw [k2]
        unfold sp_wy
        rw [sp_f_end ho, if_neg (Nat.lt_irrefl n), if_pos e]
      · rw [k3]
        unfold sp_se
        rw [sp_f_end ho, if_neg (Nat.lt_irrefl n), if_pos e]
