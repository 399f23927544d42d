/-! ===== PARTINGS ===== -/
theorem dn2b {A : Type} {B : A → Int32 → tzS → (A → Int32 → tzS → Prop) → Prop} {a : A} {σ : tzS} (lo hi : Nat) (I : Nat → A → tzS → Prop) (hle : lo ≤ hi) (h0 : I hi a σ) (step : ∀ i a σ ag, lo < i → i ≤ hi → I i a σ → (∀ a' σ', I (i - 1) a' σ' → ag a' (nI (i - 1)) σ') → B a (nI i) σ ag) (exit : ∀ a σ ag, I lo a σ → B a (nI lo) σ ag) : tz_loop2 B a (nI hi) σ := by
  refine ⟨fun n a x s => ∃ i, x = nI i ∧ lo ≤ i ∧ i ≤ hi ∧ n = i - lo ∧ I i a s, ⟨hi - lo, hi, rfl, hle, Nat.le_refl _, rfl, h0⟩, ?_⟩
  rintro n a x s ⟨i, rfl, h1, h2, rfl, hI⟩
  by_cases hi' : lo < i
  · exact step i a s _ hi' h2 hI (fun a' σ' h' => ⟨i - 1 - lo, by omega, i - 1, rfl, by omega, by omega, rfl, h'⟩)
  · have : i = lo := by omega
    subst this
    exact exit a s _ hI
theorem nI_m1 {k : Nat} (h : 1 ≤ k) : nI k + (-1) = nI (k - 1) := by
  have e := nI_sub1 h
  rw [← e]
  exact (Int32.sub_eq_add_neg _ _).symm
/-- the first of the least from lo to lo + e -/
def am (g : Nat → Nat) (lo : Nat) : Nat → Nat × Nat
  | 0 => (g lo, lo)
  | e + 1 => if g (lo + (e + 1)) < (am g lo e).1 then (g (lo + (e + 1)), lo + (e + 1)) else am g lo e
theorem am_lt {g : Nat → Nat} {lo e : Nat} (h : g (lo + (e + 1)) < (am g lo e).1) : am g lo (e + 1) = (g (lo + (e + 1)), lo + (e + 1)) := by
  show (if _ then _ else _) = _
  rw [if_pos h]
theorem am_ge {g : Nat → Nat} {lo e : Nat} (h : ¬ g (lo + (e + 1)) < (am g lo e).1) : am g lo (e + 1) = am g lo e := by
  show (if _ then _ else _) = _
  rw [if_neg h]
theorem am_ok (g : Nat → Nat) (lo : Nat) : ∀ e, (am g lo e).1 ≤ g lo ∧ lo ≤ (am g lo e).2 ∧ (am g lo e).2 ≤ lo + e
  | 0 => ⟨Nat.le_refl _, Nat.le_refl _, Nat.le_refl _⟩
  | e + 1 => by
    obtain ⟨h1, h2, h3⟩ := am_ok g lo e
    by_cases c : g (lo + (e + 1)) < (am g lo e).1
    · rw [am_lt c]
      exact ⟨by show g (lo + (e + 1)) ≤ _; omega, by show lo ≤ lo + (e + 1); omega, Nat.le_refl _⟩
    · rw [am_ge c]
      exact ⟨h1, h2, by omega⟩
/-- the least total of k blocks ahead of j, and where the last of them begins -/
def pt (c : Nat → Nat → Nat) : Nat → Nat → Nat × Nat
  | 0 => fun _ => (0, 0)
  | k + 1 => fun j => if k = 0 then (c 0 j, 0) else am (fun i => (pt c k i).1 + c i j) k (j - (k + 1))
theorem pt_1 (c : Nat → Nat → Nat) (j : Nat) : pt c 1 j = (c 0 j, 0) := rfl
theorem pt_s {c : Nat → Nat → Nat} {k j : Nat} (hk : 2 ≤ k) : pt c k j = am (fun i => (pt c (k - 1) i).1 + c i j) (k - 1) (j - k) := by
  obtain ⟨m, rfl⟩ : ∃ m, k = m + 2 := ⟨k - 2, by omega⟩
  exact if_neg (t := (c 0 j, 0)) (show ¬ (m + 1 = 0) by omega)
def CB (c : Nat → Nat → Nat) (N : Nat) : Prop := N ≤ 12 ∧ ∀ i j, i < j → j ≤ N → c i j ≤ 10040
theorem pt_ok {c : Nat → Nat → Nat} {N : Nat} (hc : CB c N) : ∀ k j, 1 ≤ k → k ≤ j → j ≤ N → (pt c k j).1 ≤ k * 10040 ∧ k - 1 ≤ (pt c k j).2 ∧ (pt c k j).2 < j
  | 0, j, h, _, _ => absurd h (by omega)
  | 1, j, _, hj, hN => by
    rw [pt_1]
    have := hc.2 0 j (by omega) hN
    exact ⟨by omega, Nat.le_refl _, by show 0 < j; omega⟩
  | k + 2, j, _, hj, hN => by
    rw [pt_s (by omega)]
    have a := am_ok (fun i => (pt c (k + 2 - 1) i).1 + c i j) (k + 2 - 1) (j - (k + 2))
    have b := pt_ok hc (k + 1) (k + 1) (by omega) (Nat.le_refl _) (by omega)
    have d := hc.2 (k + 1) j (by omega) hN
    rw [show k + 2 - 1 = k + 1 by omega] at a ⊢
    exact ⟨by omega, by omega, by omega⟩
/-- as the class has them -/
def PtOK (c : Nat → Nat → Nat) (N a0 : Nat) (σ : tzS) : Prop := ∀ k j, 1 ≤ k → k ≤ 8 → k ≤ j → j ≤ N → σ.1 (a0 + 2 + k) j = nI (pt c k j).1 ∧ σ.1 (a0 + 12 + k) j = nI (pt c k j).2
def CoOK (c : Nat → Nat → Nat) (N a1 : Nat) (σ : tzS) : Prop := ∀ i j, i < j → j ≤ N → σ.1 (a1 + 1 + i) j = nI (c i j)
theorem s_choose {c : Nat → Nat → Nat} {N k j a0 a1 : Nat} (hc : CB c N) (hk2 : 2 ≤ k) (hk8 : k ≤ 8) (hkj : k ≤ j) (hj : j ≤ N) {σ : tzS} (hC : CoOK c N a1 σ) (hT : ∀ i, k - 1 ≤ i → i < j → σ.1 (a0 + 2 + (k - 1)) i = nI (pt c (k - 1) i).1) {Q : tzS → Prop} (h : Q (tz_st (tz_st σ (a0 + 2 + k) j (nI (pt c k j).1)) (a0 + 12 + k) j (nI (pt c k j).2))) : vc_X5_chooseLastBlock a0 a1 (nI k) (nI j) σ Q := by
  have hN := hc.1
  have bd : ∀ i, k - 1 ≤ i → i < j → (pt c (k - 1) i).1 + c i j ≤ 80320 := by
    intro i h1 h2
    have a := (pt_ok hc (k - 1) i (by omega) h1 (by omega)).1
    have b := hc.2 i j h2 hj
    have : (k - 1) * 10040 ≤ 7 * 10040 := Nat.mul_le_mul_right _ (by omega)
    omega
  have hbest : ∀ e, k - 1 + e < j → (am (fun i => (pt c (k - 1) i).1 + c i j) (k - 1) e).1 ≤ 80320 := by
    intro e he
    have a := (am_ok (fun i => (pt c (k - 1) i).1 + c i j) (k - 1) e).1
    have b := bd (k - 1) (Nat.le_refl _) (by omega)
    omega
  unfold vc_X5_chooseLastBlock
  rw [nI_sub1 (by omega), cl_nI (by omega), cl_nI (by omega), cl_nI (by omega), hT (k - 1) (Nat.le_refl _) (by omega), hC (k - 1) j (by omega) hj, nI_add]
  refine ⟨in_nI (by omega) (by omega), in_nI (by omega) (by omega), in_nI (by omega) (by omega), ?_⟩
  rintro x4 rfl x5 rfl
  refine for3c k j (fun i a b r => a = nI (am (fun i => (pt c (k - 1) i).1 + c i j) (k - 1) (i - k)).1 ∧ b = nI (am (fun i => (pt c (k - 1) i).1 + c i j) (k - 1) (i - k)).2 ∧ r = σ) hkj ⟨by rw [Nat.sub_self]; rfl, by rw [Nat.sub_self]; rfl, rfl⟩ ?_ ?_
  · intro i a b r ag h1 h2 hI hag
    obtain ⟨e1, e2, e3⟩ := hI
    subst e1
    subst e2
    subst e3
    refine ⟨fun z => absurd ((le_nI (by omega) (by omega)).mp z) (by omega), fun _ => ⟨in_nI (by omega) (by omega), ?_⟩⟩
    rw [cl_nI (show i < 100000 by omega), hT i (by omega) h2, hC i j h2 hj, nI_add, nI_1]
    rintro x7 rfl
    have b1 := bd i (by omega) h2
    have b2 := hbest (i - k) (by omega)
    have ei : k - 1 + (i - k + 1) = i := by omega
    have en : i + 1 - k = i - k + 1 := by omega
    refine ⟨fun z x e => ?_, fun z x e => ?_⟩
    · subst e
      have z := (le_nI (by omega) (by omega)).mp z
      refine hag _ _ _ ?_
      rw [en, am_ge (by rw [ei]; omega)]
      exact ⟨rfl, rfl, rfl⟩
    · subst e
      have z := (not_congr (le_nI (by omega) (by omega))).mp z
      refine hag _ _ _ ?_
      rw [en, am_lt (by rw [ei]; omega), ei]
      exact ⟨rfl, rfl, rfl⟩
  · intro a b r ag hI
    obtain ⟨e1, e2, e3⟩ := hI
    subst e3
    rw [← pt_s hk2] at e1 e2
    refine ⟨fun _ => ⟨in_nI (by omega) (by omega), ?_⟩, fun z => absurd ((le_nI (by omega) (by omega)).mpr (Nat.le_refl _)) z⟩
    rintro σ14 rfl σ16 rfl
    rw [e1, e2]
    exact h
theorem s_partsFill {c : Nat → Nat → Nat} {N a0 a1 : Nat} (hc : CB c N) (ha : a1 + 14 < a0) {σ : tzS} (hC : CoOK c N a1 σ) {Q : tzS → Prop} (h : ∀ σ', PtOK c N a0 σ' → bt a0 (a0 + 20) σ σ' → Q σ') : vc_X5_fill a0 a1 (nI N) σ Q := by
  have hN := hc.1
  have keepC : ∀ r : tzS, bt a0 (a0 + 20) σ r → CoOK c N a1 r := fun r hb i j h1 h2 => by
    rw [hb.1 (a1 + 1 + i) (by omega)]
    exact hC i j h1 h2
  unfold vc_X5_fill
  refine for1 1 (N + 1) (fun m r => (∀ j, 1 ≤ j → j < m → r.1 (a0 + 3) j = nI (pt c 1 j).1 ∧ r.1 (a0 + 13) j = nI (pt c 1 j).2) ∧ bt a0 (a0 + 20) σ r) (by omega) ⟨fun j h1 h2 => absurd h2 (by omega), bt.rf⟩ ?_ ?_
  · intro m r ag h1 h2 hI hag
    obtain ⟨i1, i2⟩ := hI
    refine ⟨fun z => absurd ((lt_nI (by omega) (by omega)).mp z) (by omega), fun _ => ⟨in_nI (by omega) (by omega), ?_⟩⟩
    rw [cl_nI (by omega), keepC r i2 0 m (by omega) (by omega), nI_1]
    intro σ17 h17 σ18 h18 x hx
    subst hx
    have k17 : bt a0 (a0 + 20) σ σ17 := h17 ▸ i2.st (by omega)
    have k18 : bt a0 (a0 + 20) σ σ18 := h18 ▸ k17.st (by omega)
    refine hag _ ⟨fun j z1 z2 => ?_, k18⟩
    by_cases e : j = m
    · rw [h18, st_ne (by omega), h17, e, st_eq, st_eq]
      exact ⟨rfl, rfl⟩
    · rw [h18, st_ne (by omega), h17, st_nj e, st_nj e, st_ne (by omega)]
      exact i1 j z1 (by omega)
  · intro r ag hI
    obtain ⟨i1, i2⟩ := hI
    refine ⟨fun _ => ?_, fun z => absurd ((lt_nI (by omega) (by omega)).mpr (by omega)) z⟩
    refine for1 2 9 (fun m q => (∀ k j, 1 ≤ k → k < m → k ≤ j → j ≤ N → q.1 (a0 + 2 + k) j = nI (pt c k j).1 ∧ q.1 (a0 + 12 + k) j = nI (pt c k j).2) ∧ bt a0 (a0 + 20) σ q) (by omega) ⟨fun k j z1 z2 z3 z4 => ?_, i2⟩ ?_ ?_
    · have : k = 1 := by omega
      subst this
      exact i1 j z3 (by omega)
    · intro m q ag2 h1 h2 hJ hag2
      obtain ⟨j1, j2⟩ := hJ
      refine ⟨fun z => absurd ((lt_nI (a := 8) (by omega) (by omega)).mp z) (by omega), fun _ => ?_⟩
      refine for1 m (max m (N + 1)) (fun l s => (∀ k j, 1 ≤ k → (k < m ∨ (k = m ∧ j < l)) → k ≤ j → j ≤ N → s.1 (a0 + 2 + k) j = nI (pt c k j).1 ∧ s.1 (a0 + 12 + k) j = nI (pt c k j).2) ∧ bt a0 (a0 + 20) σ s) (by omega) ⟨fun k j z1 z2 z3 z4 => j1 k j z1 (by omega) z3 z4, j2⟩ ?_ ?_
      · intro l s ag3 l1 l2 hL hag3
        obtain ⟨q1, q2⟩ := hL
        have hlN : l ≤ N := by omega
        refine ⟨fun z => absurd ((lt_nI (by omega) (by omega)).mp z) (by omega), fun _ => ?_⟩
        refine s_choose hc h1 (by omega) l1 hlN (keepC s q2) (fun i z1 z2 => (q1 (m - 1) i (by omega) (by omega) z1 (by omega)).1) ?_
        intro x hx
        subst hx
        rw [nI_1]
        refine hag3 _ ⟨fun k j z1 z2 z3 z4 => ?_, (q2.st (by omega)).st (by omega)⟩
        by_cases e : k = m
        · subst e
          by_cases e2 : j = l
          · subst e2
            rw [st_ne (by omega), st_eq, st_eq]
            exact ⟨rfl, rfl⟩
          · rw [st_ne (by omega), st_nj e2, st_nj e2, st_ne (by omega)]
            exact q1 k j z1 (by omega) z3 z4
        · rw [st_ne (by omega), st_ne (by omega), st_ne (by omega), st_ne (by omega)]
          exact q1 k j z1 (by omega) z3 z4
      · intro s ag3 hL
        obtain ⟨q1, q2⟩ := hL
        refine ⟨fun _ x hx => ?_, fun z => absurd ((lt_nI (by omega) (by omega)).mpr (by omega)) z⟩
        subst hx
        rw [nI_1]
        exact hag2 s ⟨fun k j z1 z2 z3 z4 => q1 k j z1 (by omega) z3 z4, q2⟩
    · intro q ag2 hJ
      exact ⟨fun _ => h q (fun k j z1 z2 z3 z4 => hJ.1 k j z1 (by omega) z3 z4) hJ.2, fun z => absurd ((lt_nI (a := 8) (by omega) (by omega)).mpr (by omega)) z⟩
/-! the reference -/
def tmT (c : Nat → Nat → Nat) (k j : Nat) : Int32 := if k = 0 then (if j = 0 then 0 else -1) else if k ≤ j then nI (pt c k j).1 else -1
def tmB (c : Nat → Nat → Nat) (k j : Nat) : Int32 := if k = 0 then -1 else if k ≤ j then nI (pt c k j).2 else -1
def PM (c : Nat → Nat → Nat) (N : Nat) (σ : tzS) : Prop := σ.1 133 30 = nI N ∧ ∀ k j, k ≤ 8 → j ≤ N → σ.1 149 (13 * k + j) = tmT c k j ∧ σ.1 150 (13 * k + j) = tmB c k j
def mk4 (σ σ' : tzS) : Prop := (∀ a, a ≠ 133 → (a < 148 ∨ 150 < a) → σ'.1 a = σ.1 a) ∧ (∀ j, (j < 19 ∨ (21 < j ∧ j ≠ 30)) → σ'.1 133 j = σ.1 133 j) ∧ σ'.2 = σ.2
theorem mk4.rf {σ : tzS} : mk4 σ σ := ⟨fun _ _ _ => rfl, fun _ _ => rfl, rfl⟩
theorem mk4.tr {σ σ' σ'' : tzS} (h : mk4 σ σ') (h2 : mk4 σ' σ'') : mk4 σ σ'' := ⟨fun a ha hb => (h2.1 a ha hb).trans (h.1 a ha hb), fun j hj => (h2.2.1 j hj).trans (h.2.1 j hj), h2.2.2.trans h.2.2⟩
theorem mk3.to4 {σ σ' : tzS} (h : mk3 σ σ') : mk4 σ σ' := ⟨fun a ha _ => h.1 a ha, fun j hj => h.2.1 j (by omega), h.2.2⟩
theorem mk4.st {σ σ' : tzS} {k j : Nat} {v : Int32} (h : mk4 σ σ') (hk : 148 ≤ k ∧ k ≤ 150) : mk4 σ (tz_st σ' k j v) := ⟨fun a ha hb => by rw [st_ne (by omega)]; exact h.1 a ha hb, fun i hi => by rw [st_ne (by omega)]; exact h.2.1 i hi, h.2.2⟩
theorem mk4.st3 {σ σ' : tzS} {v : Int32} (h : mk4 σ σ') : mk4 σ (tz_st σ' 133 30 v) := ⟨fun a ha hb => by rw [st_ne ha]; exact h.1 a ha hb, fun i hi => by rw [st_nj (by omega)]; exact h.2.1 i hi, h.2.2⟩
/-- what the reference's search has behind place i -/
def ms (c : Nat → Nat → Nat) (k j i : Nat) : Int32 × Int32 := if i < k then (-1, -1) else if k = 1 then (0, nI (c 0 j)) else (nI (am (fun i => (pt c (k - 1) i).1 + c i j) (k - 1) (i - k)).2, nI (am (fun i => (pt c (k - 1) i).1 + c i j) (k - 1) (i - k)).1)
theorem ms_end {c : Nat → Nat → Nat} {k j : Nat} (hk : 1 ≤ k) : ms c k j j = (tmB c k j, tmT c k j) := by
  have k0 : ¬ k = 0 := by omega
  unfold ms tmB tmT
  rw [if_neg k0, if_neg k0]
  by_cases h1 : j < k
  · have h2 : ¬ k ≤ j := by omega
    rw [if_pos h1, if_neg h2, if_neg h2]
  · have h2 : k ≤ j := by omega
    rw [if_neg h1, if_pos h2, if_pos h2]
    by_cases h3 : k = 1
    · rw [if_pos h3, h3, pt_1]
      rfl
    · rw [if_neg h3, ← pt_s (by omega)]
