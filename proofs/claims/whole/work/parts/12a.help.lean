/-! helpers: the store, loops, small ints -/
theorem st_g (σ : tzS) (k j : Nat) (v : Int32) (a b : Nat) : (tz_st σ k j v).1 a b = if a = k then (if b = j then v else σ.1 a b) else σ.1 a b := rfl
theorem st_2 (σ : tzS) (k j : Nat) (v : Int32) : (tz_st σ k j v).2 = σ.2 := rfl
theorem st_ne {σ : tzS} {k j a : Nat} {v : Int32} (h : a ≠ k) : (tz_st σ k j v).1 a = σ.1 a := tz_st_ne h
theorem st_nj {σ : tzS} {k j b : Nat} {v : Int32} (h : b ≠ j) : (tz_st σ k j v).1 k b = σ.1 k b := by rw [st_g, if_pos rfl, if_neg h]
theorem st_eq {σ : tzS} {k j : Nat} {v : Int32} : (tz_st σ k j v).1 k j = v := by rw [st_g, if_pos rfl, if_pos rfl]
theorem sl_1 (σ : tzS) (k j : Nat) (v : Int64) : (tz_sl σ k j v).1 = σ.1 := rfl
theorem sl_g (σ : tzS) (k j : Nat) (v : Int64) (a b : Nat) : (tz_sl σ k j v).2 a b = if a = k then (if b = j then v else σ.2 a b) else σ.2 a b := rfl
theorem in_nI {j n : Nat} (h : j < n) (hn : n ≤ 100000) : vp_in (nI j) n := vp_in_nI h (by omega)
theorem cl_nI {j : Nat} (h : j < 100000) : (nI j).toNatClampNeg = j := nI_clamp (by omega)
theorem lt_nI {a b : Nat} (ha : a < 100000) (hb : b < 100000) : nI a < nI b ↔ a < b := nI_ltI (by omega) (by omega)
theorem le_nI {a b : Nat} (ha : a < 100000) (hb : b < 100000) : nI a ≤ nI b ↔ a ≤ b := nI_leI (by omega) (by omega)
theorem eq_nI {a b : Nat} (ha : a < 100000) (hb : b < 100000) : nI a = nI b ↔ a = b := nI_eq (by omega) (by omega)
theorem pos_nI {a : Nat} (ha : a < 100000) : ¬ nI a < 0 := nI_pos (by omega)
theorem ne_m1 {a : Nat} (ha : a < 100000) : ¬ nI a = -1 := by
  intro h
  have h2 := congrArg Int32.toInt h
  rw [nI_toInt (by omega)] at h2
  have h3 : (-1 : Int32).toInt = -1 := by decide
  rw [h3] at h2
  omega
/-- a loop that counts up -/
theorem for1 {B : Int32 → tzS → (Int32 → tzS → Prop) → Prop} {σ : tzS} (lo hi : Nat) (I : Nat → tzS → Prop) (hle : lo ≤ hi) (h0 : I lo σ) (step : ∀ i σ ag, lo ≤ i → i < hi → I i σ → (∀ σ', I (i + 1) σ' → ag (nI (i + 1)) σ') → B (nI i) σ ag) (exit : ∀ σ ag, I hi σ → B (nI hi) σ ag) : tz_loop1 B (nI lo) σ := by
  refine ⟨fun n x s => ∃ i, x = nI i ∧ lo ≤ i ∧ i ≤ hi ∧ n = hi - i ∧ I i s, ⟨hi - lo, lo, rfl, Nat.le_refl _, hle, rfl, h0⟩, ?_⟩
  rintro n x s ⟨i, rfl, h1, h2, rfl, hI⟩
  by_cases hi' : i < hi
  · exact step i s _ h1 hi' hI (fun σ' h' => ⟨hi - (i + 1), by omega, i + 1, rfl, by omega, by omega, rfl, h'⟩)
  · have : i = hi := by omega
    subst this
    exact exit s _ hI
theorem for2a {A : Type} {B : Int32 → A → tzS → (Int32 → A → tzS → Prop) → Prop} {a : A} {σ : tzS} (lo hi : Nat) (I : Nat → A → tzS → Prop) (hle : lo ≤ hi) (h0 : I lo a σ) (step : ∀ i a σ ag, lo ≤ i → i < hi → I i a σ → (∀ a' σ', I (i + 1) a' σ' → ag (nI (i + 1)) a' σ') → B (nI i) a σ ag) (exit : ∀ a σ ag, I hi a σ → B (nI hi) a σ ag) : tz_loop2 B (nI lo) a σ := by
  refine ⟨fun n x a s => ∃ i, x = nI i ∧ lo ≤ i ∧ i ≤ hi ∧ n = hi - i ∧ I i a s, ⟨hi - lo, lo, rfl, Nat.le_refl _, hle, rfl, h0⟩, ?_⟩
  rintro n x a s ⟨i, rfl, h1, h2, rfl, hI⟩
  by_cases hi' : i < hi
  · exact step i a s _ h1 hi' hI (fun a' σ' h' => ⟨hi - (i + 1), by omega, i + 1, rfl, by omega, by omega, rfl, h'⟩)
  · have : i = hi := by omega
    subst this
    exact exit a s _ hI
theorem for2b {A : Type} {B : A → Int32 → tzS → (A → Int32 → tzS → Prop) → Prop} {a : A} {σ : tzS} (lo hi : Nat) (I : Nat → A → tzS → Prop) (hle : lo ≤ hi) (h0 : I lo a σ) (step : ∀ i a σ ag, lo ≤ i → i < hi → I i a σ → (∀ a' σ', I (i + 1) a' σ' → ag a' (nI (i + 1)) σ') → B a (nI i) σ ag) (exit : ∀ a σ ag, I hi a σ → B a (nI hi) σ ag) : tz_loop2 B a (nI lo) σ := by
  refine ⟨fun n a x s => ∃ i, x = nI i ∧ lo ≤ i ∧ i ≤ hi ∧ n = hi - i ∧ I i a s, ⟨hi - lo, lo, rfl, Nat.le_refl _, hle, rfl, h0⟩, ?_⟩
  rintro n a x s ⟨i, rfl, h1, h2, rfl, hI⟩
  by_cases hi' : i < hi
  · exact step i a s _ h1 hi' hI (fun a' σ' h' => ⟨hi - (i + 1), by omega, i + 1, rfl, by omega, by omega, rfl, h'⟩)
  · have : i = hi := by omega
    subst this
    exact exit a s _ hI
theorem for3c {A A' : Type} {B : A → A' → Int32 → tzS → (A → A' → Int32 → tzS → Prop) → Prop} {a : A} {b : A'} {σ : tzS} (lo hi : Nat) (I : Nat → A → A' → tzS → Prop) (hle : lo ≤ hi) (h0 : I lo a b σ) (step : ∀ i a b σ ag, lo ≤ i → i < hi → I i a b σ → (∀ a' b' σ', I (i + 1) a' b' σ' → ag a' b' (nI (i + 1)) σ') → B a b (nI i) σ ag) (exit : ∀ a b σ ag, I hi a b σ → B a b (nI hi) σ ag) : tz_loop3 B a b (nI lo) σ := by
  refine ⟨fun n a b x s => ∃ i, x = nI i ∧ lo ≤ i ∧ i ≤ hi ∧ n = hi - i ∧ I i a b s, ⟨hi - lo, lo, rfl, Nat.le_refl _, hle, rfl, h0⟩, ?_⟩
  rintro n a b x s ⟨i, rfl, h1, h2, rfl, hI⟩
  by_cases hi' : i < hi
  · exact step i a b s _ h1 hi' hI (fun a' b' σ' h' => ⟨hi - (i + 1), by omega, i + 1, rfl, by omega, by omega, rfl, h'⟩)
  · have : i = hi := by omega
    subst this
    exact exit a b s _ hI
theorem s_in {x lo hi : Int32} {σ : tzS} {Q : Int32 → tzS → Prop} (h1 : lo ≤ x → x ≤ hi → Q 1 σ) (h0 : ¬ (lo ≤ x ∧ x ≤ hi) → Q 0 σ) : vc_X10_in x lo hi σ Q := by
  unfold vc_X10_in
  refine ⟨fun c => h0 (fun q => ?_), fun c => ⟨fun c2 => h0 (fun q => ?_), fun c2 => h1 (fa_of_nlt c) (fa_of_nlt c2)⟩⟩
  · rw [fa_lt] at c
    have := q.1
    rw [fa_le] at this
    omega
  · rw [fa_lt] at c2
    have := q.2
    rw [fa_le] at this
    omega
theorem s_inN {x lo hi : Nat} (hx : x < 100000) (hl : lo < 100000) (hh : hi < 100000) {σ : tzS} {Q : Int32 → tzS → Prop} (h1 : lo ≤ x → x ≤ hi → Q 1 σ) (h0 : ¬ (lo ≤ x ∧ x ≤ hi) → Q 0 σ) : vc_X10_in (nI x) (nI lo) (nI hi) σ Q :=
  s_in (fun a b => h1 ((le_nI hl hx).mp a) ((le_nI hx hh).mp b)) (fun q => h0 (fun z => q ⟨(le_nI hl hx).mpr z.1, (le_nI hx hh).mpr z.2⟩))
theorem sp_L_iff {b : Nat} : sp_L b = true ↔ 97 ≤ b ∧ b ≤ 122 := by simp [sp_L]
