/-! stems as numbers: letters as digits of five bits -/
def cd (f : Nat → Nat) (a : Nat) : Nat → Nat
  | 0 => 0
  | j + 1 => 32 * cd f a j + (f (a + j) - 96)
theorem cd_lt {f : Nat → Nat} {a : Nat} : ∀ {j : Nat}, (∀ i, i < j → sp_L (f (a + i)) = true) → cd f a j < 32 ^ j
  | 0, _ => Nat.zero_lt_one
  | j + 1, h => by
    have h1 := cd_lt (f := f) (a := a) (j := j) (fun i hi => h i (by omega))
    have h2 := sp_L_iff.mp (h j (by omega))
    have h3 : (32 : Nat) ^ (j + 1) = 32 * 32 ^ j := by rw [Nat.pow_succ, Nat.mul_comm]
    rw [h3]
    show 32 * cd f a j + (f (a + j) - 96) < _
    omega
theorem cd_div {f : Nat → Nat} {a j : Nat} (h : sp_L (f (a + j)) = true) : cd f a (j + 1) / 32 = cd f a j := by
  have h2 := sp_L_iff.mp h
  show (32 * cd f a j + (f (a + j) - 96)) / 32 = _
  omega
theorem cd_mod {f : Nat → Nat} {a j : Nat} (h : sp_L (f (a + j)) = true) : cd f a (j + 1) % 32 = f (a + j) - 96 := by
  have h2 := sp_L_iff.mp h
  show (32 * cd f a j + (f (a + j) - 96)) % 32 = _
  omega
theorem cd_shr {f : Nat → Nat} {a : Nat} : ∀ {e j : Nat}, (∀ i, i < j + e → sp_L (f (a + i)) = true) → cd f a (j + e) / 2 ^ (5 * e) = cd f a j
  | 0, j, _ => by simp
  | e + 1, j, h => by
    have h1 := cd_div (f := f) (a := a) (j := j + e) (h (j + e) (by omega))
    have h2 := cd_shr (f := f) (a := a) (e := e) (j := j) (fun i hi => h i (by omega))
    have h3 : (2 : Nat) ^ (5 * (e + 1)) = 32 * 2 ^ (5 * e) := by
      rw [show 5 * (e + 1) = 5 + 5 * e by omega, Nat.pow_add]
    rw [h3, ← Nat.div_div_eq_div_mul, show j + (e + 1) = (j + e) + 1 from rfl, h1, h2]
theorem cd_inj {f : Nat → Nat} {a a' : Nat} : ∀ {j j' : Nat}, (∀ i, i < j → sp_L (f (a + i)) = true) → (∀ i, i < j' → sp_L (f (a' + i)) = true) → (cd f a j = cd f a' j' ↔ (j = j' ∧ ∀ i, i < j → f (a + i) = f (a' + i)))
  | 0, 0, _, _ => by simp [cd]
  | 0, j' + 1, _, h' => by
    have h2 := sp_L_iff.mp (h' j' (by omega))
    refine ⟨fun q => ?_, fun q => absurd q.1 (by omega)⟩
    have q : 0 = 32 * cd f a' j' + (f (a' + j') - 96) := q
    omega
  | j + 1, 0, h, _ => by
    have h2 := sp_L_iff.mp (h j (by omega))
    refine ⟨fun q => ?_, fun q => absurd q.1 (by omega)⟩
    have q : 32 * cd f a j + (f (a + j) - 96) = 0 := q
    omega
  | j + 1, j' + 1, h, h' => by
    have h1 := sp_L_iff.mp (h j (by omega))
    have h2 := sp_L_iff.mp (h' j' (by omega))
    have ih := cd_inj (f := f) (a := a) (a' := a') (j := j) (j' := j') (fun i hi => h i (by omega)) (fun i hi => h' i (by omega))
    show 32 * cd f a j + (f (a + j) - 96) = 32 * cd f a' j' + (f (a' + j') - 96) ↔ _
    constructor
    · intro q
      have q1 : cd f a j = cd f a' j' := by omega
      have q2 : f (a + j) = f (a' + j') := by omega
      obtain ⟨e, r⟩ := ih.mp q1
      subst e
      refine ⟨rfl, fun i hi => ?_⟩
      by_cases ei : i = j
      · rw [ei]; exact q2
      · exact r i (by omega)
    · rintro ⟨e, r⟩
      have e : j = j' := by omega
      subst e
      rw [(ih.mpr ⟨rfl, fun i hi => r i (by omega)⟩), r j (by omega)]
theorem cd_50 {f : Nat → Nat} {a j : Nat} (hj : j ≤ 10) (h : ∀ i, i < j → sp_L (f (a + i)) = true) : cd f a j < 2 ^ 50 := by
  have h1 := cd_lt h
  have h2 : (32 : Nat) ^ j ≤ 32 ^ 10 := Nat.pow_le_pow_right (by decide) hj
  have h3 : (32 : Nat) ^ 10 = 2 ^ 50 := by decide
  omega
theorem lg_cmp_0 {x y : Int64} : lg_cmp x y = 0 ↔ x = y := by
  unfold lg_cmp
  by_cases h : x = y
  · subst h
    simp
  · by_cases h2 : x > y
    · simp [h, h2]
    · simp [h, h2]
theorem lN_inj {a b : Nat} (ha : a < 2 ^ 62) (hb : b < 2 ^ 62) : lN a = lN b ↔ a = b := fb_lN_inj (by omega) (by omega)
theorem lN_shr {c e : Nat} (hc : c < 2 ^ 62) (he : e ≤ 10) : lN c >>> ((5 * nI e).toInt64 &&& 63) = lN (c / 2 ^ (5 * e)) := by
  refine pf_shr ?_ hc
  have h1 : (5 : Int32) * nI e = nI (5 * e) := by
    show nI 5 * nI e = _
    rw [pk_mul]
  rw [h1, wb_c (5 * e) (by omega), wb_tb, wb_sm _ (by omega), BitVec.toNat_ofNat, Nat.mod_eq_of_lt (by omega)]
theorem lN_push {c b : Nat} (hb : 97 ≤ b) (hb2 : b ≤ 122) : (lN c <<< ((5 : Int32).toInt64 &&& 63)) ||| (nI b - 96).toInt64 = lN (32 * c + (b - 96)) := by
  have h1 : lN c <<< ((5 : Int32).toInt64 &&& 63) = lN (c * 2 ^ 5) := wb_shl c (k := 5) (by decide)
  have h2 : nI b - 96 = nI (b - 96) := pk_sub (b := 96) (by omega)
  rw [h1, h2, nI_l (by omega), Nat.mul_comm c, fb_or_sumL (k := 5) c (by omega)]
theorem lN_m {c k : Nat} : lN c &&& lN (2 ^ k - 1) = lN (c % 2 ^ k) := fb_maskL c k
/-- the ending that the class sees in a word's number is the one of its letters -/
theorem s_endingOf {f : Nat → Nat} {a g : Nat} (hg : g ≤ 10) (hL : ∀ i, i < g → sp_L (f (a + i)) = true) {σ : tzS} {Q : Int32 → tzS → Prop} (h : Q (nI (g - sp_sl f a g)) σ) : vc_X6_endingOf (lN (cd f a g)) (nI g) σ Q := by
  have hc := cd_50 hg hL
  have lt6 : nI g < 6 ↔ g < 6 := lt_nI (b := 6) (by omega) (by omega)
  have lt5 : nI g < 5 ↔ g < 5 := lt_nI (b := 5) (by omega) (by omega)
  have lt4 : nI g < 4 ↔ g < 4 := lt_nI (b := 4) (by omega) (by omega)
  have m5 : lN (cd f a g) &&& 31 = lN (cd f a g % 32) := lN_m (k := 5)
  have m10 : lN (cd f a g) &&& 1023 = lN (cd f a g % 1024) := lN_m (k := 10)
  have m15 : lN (cd f a g) &&& 32767 = lN (cd f a g % 32768) := lN_m (k := 15)
  -- the last digits
  have d1 : 1 ≤ g → cd f a g % 32 = f (a + g - 1) - 96 ∧ 97 ≤ f (a + g - 1) := by
    intro q
    obtain ⟨j, rfl⟩ : ∃ j, g = j + 1 := ⟨g - 1, by omega⟩
    exact ⟨cd_mod (hL j (by omega)), (sp_L_iff.mp (hL j (by omega))).1⟩
  have d2 : 2 ≤ g → cd f a g / 32 % 32 = f (a + g - 2) - 96 ∧ 97 ≤ f (a + g - 2) := by
    intro q
    obtain ⟨j, rfl⟩ : ∃ j, g = j + 2 := ⟨g - 2, by omega⟩
    rw [cd_div (j := j + 1) (hL (j + 1) (by omega))]
    exact ⟨cd_mod (hL j (by omega)), (sp_L_iff.mp (hL j (by omega))).1⟩
  have d3 : 3 ≤ g → cd f a g / 32 / 32 % 32 = f (a + g - 3) - 96 ∧ 97 ≤ f (a + g - 3) := by
    intro q
    obtain ⟨j, rfl⟩ : ∃ j, g = j + 3 := ⟨g - 3, by omega⟩
    rw [cd_div (j := j + 2) (hL (j + 2) (by omega)), cd_div (j := j + 1) (hL (j + 1) (by omega))]
    exact ⟨cd_mod (hL j (by omega)), (sp_L_iff.mp (hL j (by omega))).1⟩
  have c5 : lg_cmp (lN (cd f a g) &&& 31) 19 = 0 ↔ cd f a g % 32 = 19 := by
    rw [lg_cmp_0, m5]
    exact lN_inj (b := 19) (by omega) (by decide)
  have c10 : ∀ k, k < 1024 → (lg_cmp (lN (cd f a g) &&& 1023) (lN k) = 0 ↔ cd f a g % 1024 = k) := by
    intro k hk
    rw [lg_cmp_0, m10]
    exact lN_inj (by omega) (by omega)
  have c15 : lg_cmp (lN (cd f a g) &&& 32767) 9671 = 0 ↔ cd f a g % 32768 = 9671 := by
    rw [lg_cmp_0, m15]
    exact lN_inj (b := 9671) (by omega) (by decide)
  unfold sp_sl at h
  unfold vc_X6_endingOf
  refine ⟨fun s => s = σ ∧ ¬ (6 ≤ g ∧ f (a + g - 3) = 105 ∧ f (a + g - 2) = 110 ∧ f (a + g - 1) = 103), ?_, ?_, ?_⟩
  · rintro s ⟨rfl, n1⟩
    rw [if_neg n1] at h
    refine ⟨fun s' => s' = s ∧ ¬ (5 ≤ g ∧ f (a + g - 2) = 101 ∧ f (a + g - 1) = 100), ?_, ?_, ?_⟩
    · rintro s' ⟨rfl, n2⟩
      rw [if_neg n2] at h
      rw [lt4]
      refine ⟨fun c => ?_, fun c => ?_⟩
      · rw [if_neg (by omega), Nat.sub_self] at h
        exact h
      · have e1 := d1 (by omega)
        have e2 := d2 (by omega)
        rw [c5]
        refine ⟨fun c2 => ?_, fun c2 => ⟨fun c3 => ?_, fun c3 => ?_⟩⟩
        · rw [if_neg (by omega), Nat.sub_self] at h
          exact h
        · have c3 := (c10 627 (by decide)).mp c3
          rw [if_neg (by omega), Nat.sub_self] at h
          exact h
        · have c3 : ¬ cd f a g % 1024 = 627 := fun q => c3 ((c10 627 (by decide)).mpr q)
          rw [if_pos (by omega), show g - (g - 1) = 1 by omega] at h
          exact h
    · rw [lt5]
      exact fun c => ⟨rfl, by omega⟩
    · rw [lt5]
      intro c
      have e1 := d1 (by omega)
      have e2 := d2 (by omega)
      refine ⟨fun c2 => ⟨rfl, fun q => ?_⟩, fun c2 => ?_⟩
      · exact c2 ((c10 164 (by decide)).mpr (by omega))
      · have c2 := (c10 164 (by decide)).mp c2
        rw [if_pos (by omega), show g - (g - 2) = 2 by omega] at h
        exact h
  · rw [lt6]
    exact fun c => ⟨rfl, by omega⟩
  · rw [lt6]
    intro c
    have e1 := d1 (by omega)
    have e2 := d2 (by omega)
    have e3 := d3 (by omega)
    rw [c15]
    refine ⟨fun c2 => ⟨rfl, fun q => ?_⟩, fun c2 => ?_⟩
    · omega
    · rw [if_pos (by omega), show g - (g - 3) = 3 by omega] at h
      exact h
