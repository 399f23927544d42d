def tz_bool (v : Int32) : Prop := v = 0 ∨ v = 1
theorem tz_narz {v : Int32} (h : tz_bool v) : narrow .boolean (.int v) = .int v := by
  rcases h with rfl | rfl <;> rfl
theorem tz_inl {i : Int32} {n : Nat} (h : decide (¬ (i < 0 ∨ n ≤ i.toNatClampNeg)) = true) : vp_in i n := by
  unfold vp_in
  exact of_decide_eq_true h
theorem tz_lt {i : Int32} {n : Nat} (h : vp_in i n) : i.toNatClampNeg < n := Nat.not_le.mp fun q => h (Or.inr q)
/-- rows of an array of arrays: b .. b + n - 1 -/
theorem tz_rowlt {i : Int32} {n b : Nat} (h : vp_in i n) (hb : b + n ≤ tz_N) : b + i.toNatClampNeg < tz_N := Nat.lt_of_lt_of_le (Nat.add_lt_add_left (tz_lt h) b) hb
theorem tz_rows {i : Int32} {n b k : Nat} (h : vp_in i n) (hb : ∀ j, j < n → tz_lay (b + j) = .inr (0, k, 0)) : tz_lay (b + i.toNatClampNeg) = .inr (0, k, 0) := hb _ (tz_lt h)
def tz_loop0 (B : tzS → (tzS → Prop) → Prop) (σ : tzS) : Prop := ∃ I : Nat → tzS → Prop, (∃ n, I n σ) ∧ ∀ n σ, I n σ → B σ (fun σ' => ∃ n', n' < n ∧ I n' σ')
theorem tz_loop0_w {B : tzS → (tzS → Prop) → Prop} {σ : tzS} {V : tzS → Prop} (h : tz_loop0 B σ) (step : ∀ ag : tzS → Prop, (∀ σ, ag σ → V σ) → ∀ σ, B σ ag → V σ) : V σ := by
  obtain ⟨I, ⟨n, hI⟩, hs⟩ := h
  revert σ
  induction n using Nat.strongRecOn with
  | ind n ih =>
    intro σ hI
    refine step _ ?_ _ (hs n _ hI)
    rintro σ' ⟨n', hn, h'⟩
    exact ih n' hn h'
def tz_loop1 {A1 : Type} (B : A1 → tzS → (A1 → tzS → Prop) → Prop) (a1 : A1) (σ : tzS) : Prop := ∃ I : Nat → A1 → tzS → Prop, (∃ n, I n a1 σ) ∧ ∀ n a1 σ, I n a1 σ → B a1 σ (fun a1' σ' => ∃ n', n' < n ∧ I n' a1' σ')
theorem tz_loop1_w {A1 : Type} {B : A1 → tzS → (A1 → tzS → Prop) → Prop} {a1 : A1} {σ : tzS} {V : A1 → tzS → Prop} (h : tz_loop1 B a1 σ) (step : ∀ ag : A1 → tzS → Prop, (∀ a1 σ, ag a1 σ → V a1 σ) → ∀ a1 σ, B a1 σ ag → V a1 σ) : V a1 σ := by
  obtain ⟨I, ⟨n, hI⟩, hs⟩ := h
  revert a1 σ
  induction n using Nat.strongRecOn with
  | ind n ih =>
    intro a1 σ hI
    refine step _ ?_ _ _ (hs n _ _ hI)
    rintro a1' σ' ⟨n', hn, h'⟩
    exact ih n' hn h'
def tz_loop2 {A1 A2 : Type} (B : A1 → A2 → tzS → (A1 → A2 → tzS → Prop) → Prop) (a1 : A1) (a2 : A2) (σ : tzS) : Prop := ∃ I : Nat → A1 → A2 → tzS → Prop, (∃ n, I n a1 a2 σ) ∧ ∀ n a1 a2 σ, I n a1 a2 σ → B a1 a2 σ (fun a1' a2' σ' => ∃ n', n' < n ∧ I n' a1' a2' σ')
theorem tz_loop2_w {A1 A2 : Type} {B : A1 → A2 → tzS → (A1 → A2 → tzS → Prop) → Prop} {a1 : A1} {a2 : A2} {σ : tzS} {V : A1 → A2 → tzS → Prop} (h : tz_loop2 B a1 a2 σ) (step : ∀ ag : A1 → A2 → tzS → Prop, (∀ a1 a2 σ, ag a1 a2 σ → V a1 a2 σ) → ∀ a1 a2 σ, B a1 a2 σ ag → V a1 a2 σ) : V a1 a2 σ := by
  obtain ⟨I, ⟨n, hI⟩, hs⟩ := h
  revert a1 a2 σ
  induction n using Nat.strongRecOn with
  | ind n ih =>
    intro a1 a2 σ hI
    refine step _ ?_ _ _ _ (hs n _ _ _ hI)
    rintro a1' a2' σ' ⟨n', hn, h'⟩
    exact ih n' hn h'
def tz_loop3 {A1 A2 A3 : Type} (B : A1 → A2 → A3 → tzS → (A1 → A2 → A3 → tzS → Prop) → Prop) (a1 : A1) (a2 : A2) (a3 : A3) (σ : tzS) : Prop := ∃ I : Nat → A1 → A2 → A3 → tzS → Prop, (∃ n, I n a1 a2 a3 σ) ∧ ∀ n a1 a2 a3 σ, I n a1 a2 a3 σ → B a1 a2 a3 σ (fun a1' a2' a3' σ' => ∃ n', n' < n ∧ I n' a1' a2' a3' σ')
theorem tz_loop3_w {A1 A2 A3 : Type} {B : A1 → A2 → A3 → tzS → (A1 → A2 → A3 → tzS → Prop) → Prop} {a1 : A1} {a2 : A2} {a3 : A3} {σ : tzS} {V : A1 → A2 → A3 → tzS → Prop} (h : tz_loop3 B a1 a2 a3 σ) (step : ∀ ag : A1 → A2 → A3 → tzS → Prop, (∀ a1 a2 a3 σ, ag a1 a2 a3 σ → V a1 a2 a3 σ) → ∀ a1 a2 a3 σ, B a1 a2 a3 σ ag → V a1 a2 a3 σ) : V a1 a2 a3 σ := by
  obtain ⟨I, ⟨n, hI⟩, hs⟩ := h
  revert a1 a2 a3 σ
  induction n using Nat.strongRecOn with
  | ind n ih =>
    intro a1 a2 a3 σ hI
    refine step _ ?_ _ _ _ _ (hs n _ _ _ _ hI)
    rintro a1' a2' a3' σ' ⟨n', hn, h'⟩
    exact ih n' hn h'
def tz_loop4 {A1 A2 A3 A4 : Type} (B : A1 → A2 → A3 → A4 → tzS → (A1 → A2 → A3 → A4 → tzS → Prop) → Prop) (a1 : A1) (a2 : A2) (a3 : A3) (a4 : A4) (σ : tzS) : Prop := ∃ I : Nat → A1 → A2 → A3 → A4 → tzS → Prop, (∃ n, I n a1 a2 a3 a4 σ) ∧ ∀ n a1 a2 a3 a4 σ, I n a1 a2 a3 a4 σ → B a1 a2 a3 a4 σ (fun a1' a2' a3' a4' σ' => ∃ n', n' < n ∧ I n' a1' a2' a3' a4' σ')
theorem tz_loop4_w {A1 A2 A3 A4 : Type} {B : A1 → A2 → A3 → A4 → tzS → (A1 → A2 → A3 → A4 → tzS → Prop) → Prop} {a1 : A1} {a2 : A2} {a3 : A3} {a4 : A4} {σ : tzS} {V : A1 → A2 → A3 → A4 → tzS → Prop} (h : tz_loop4 B a1 a2 a3 a4 σ) (step : ∀ ag : A1 → A2 → A3 → A4 → tzS → Prop, (∀ a1 a2 a3 a4 σ, ag a1 a2 a3 a4 σ → V a1 a2 a3 a4 σ) → ∀ a1 a2 a3 a4 σ, B a1 a2 a3 a4 σ ag → V a1 a2 a3 a4 σ) : V a1 a2 a3 a4 σ := by
  obtain ⟨I, ⟨n, hI⟩, hs⟩ := h
  revert a1 a2 a3 a4 σ
  induction n using Nat.strongRecOn with
  | ind n ih =>
    intro a1 a2 a3 a4 σ hI
    refine step _ ?_ _ _ _ _ _ (hs n _ _ _ _ _ hI)
    rintro a1' a2' a3' a4' σ' ⟨n', hn, h'⟩
    exact ih n' hn h'
def tz_loop5 {A1 A2 A3 A4 A5 : Type} (B : A1 → A2 → A3 → A4 → A5 → tzS → (A1 → A2 → A3 → A4 → A5 → tzS → Prop) → Prop) (a1 : A1) (a2 : A2) (a3 : A3) (a4 : A4) (a5 : A5) (σ : tzS) : Prop := ∃ I : Nat → A1 → A2 → A3 → A4 → A5 → tzS → Prop, (∃ n, I n a1 a2 a3 a4 a5 σ) ∧ ∀ n a1 a2 a3 a4 a5 σ, I n a1 a2 a3 a4 a5 σ → B a1 a2 a3 a4 a5 σ (fun a1' a2' a3' a4' a5' σ' => ∃ n', n' < n ∧ I n' a1' a2' a3' a4' a5' σ')
theorem tz_loop5_w {A1 A2 A3 A4 A5 : Type} {B : A1 → A2 → A3 → A4 → A5 → tzS → (A1 → A2 → A3 → A4 → A5 → tzS → Prop) → Prop} {a1 : A1} {a2 : A2} {a3 : A3} {a4 : A4} {a5 : A5} {σ : tzS} {V : A1 → A2 → A3 → A4 → A5 → tzS → Prop} (h : tz_loop5 B a1 a2 a3 a4 a5 σ) (step : ∀ ag : A1 → A2 → A3 → A4 → A5 → tzS → Prop, (∀ a1 a2 a3 a4 a5 σ, ag a1 a2 a3 a4 a5 σ → V a1 a2 a3 a4 a5 σ) → ∀ a1 a2 a3 a4 a5 σ, B a1 a2 a3 a4 a5 σ ag → V a1 a2 a3 a4 a5 σ) : V a1 a2 a3 a4 a5 σ := by
  obtain ⟨I, ⟨n, hI⟩, hs⟩ := h
  revert a1 a2 a3 a4 a5 σ
  induction n using Nat.strongRecOn with
  | ind n ih =>
    intro a1 a2 a3 a4 a5 σ hI
    refine step _ ?_ _ _ _ _ _ _ (hs n _ _ _ _ _ _ hI)
    rintro a1' a2' a3' a4' a5' σ' ⟨n', hn, h'⟩
    exact ih n' hn h'
/-- what comes behind a place where ways meet is said once: K suffices for it, and every way comes to K -/
def tz_join0  (R : tzS → Prop) (B : (tzS → Prop) → Prop) : Prop := ∃ K : tzS → Prop, (∀  (σ : tzS), K  σ → R  σ) ∧ B K
/-- what comes behind a place where ways meet is said once: K suffices for it, and every way comes to K -/
def tz_join1 {A1 : Type} (R : A1 → tzS → Prop) (B : (A1 → tzS → Prop) → Prop) : Prop := ∃ K : A1 → tzS → Prop, (∀ (a1 : A1) (σ : tzS), K a1 σ → R a1 σ) ∧ B K
/-- what comes behind a place where ways meet is said once: K suffices for it, and every way comes to K -/
def tz_join2 {A1 A2 : Type} (R : A1 → A2 → tzS → Prop) (B : (A1 → A2 → tzS → Prop) → Prop) : Prop := ∃ K : A1 → A2 → tzS → Prop, (∀ (a1 : A1) (a2 : A2) (σ : tzS), K a1 a2 σ → R a1 a2 σ) ∧ B K
/-- what comes behind a place where ways meet is said once: K suffices for it, and every way comes to K -/
def tz_join3 {A1 A2 A3 : Type} (R : A1 → A2 → A3 → tzS → Prop) (B : (A1 → A2 → A3 → tzS → Prop) → Prop) : Prop := ∃ K : A1 → A2 → A3 → tzS → Prop, (∀ (a1 : A1) (a2 : A2) (a3 : A3) (σ : tzS), K a1 a2 a3 σ → R a1 a2 a3 σ) ∧ B K
/-- what comes behind a place where ways meet is said once: K suffices for it, and every way comes to K -/
def tz_join4 {A1 A2 A3 A4 : Type} (R : A1 → A2 → A3 → A4 → tzS → Prop) (B : (A1 → A2 → A3 → A4 → tzS → Prop) → Prop) : Prop := ∃ K : A1 → A2 → A3 → A4 → tzS → Prop, (∀ (a1 : A1) (a2 : A2) (a3 : A3) (a4 : A4) (σ : tzS), K a1 a2 a3 a4 σ → R a1 a2 a3 a4 σ) ∧ B K
/-- what comes behind a place where ways meet is said once: K suffices for it, and every way comes to K -/
def tz_join5 {A1 A2 A3 A4 A5 : Type} (R : A1 → A2 → A3 → A4 → A5 → tzS → Prop) (B : (A1 → A2 → A3 → A4 → A5 → tzS → Prop) → Prop) : Prop := ∃ K : A1 → A2 → A3 → A4 → A5 → tzS → Prop, (∀ (a1 : A1) (a2 : A2) (a3 : A3) (a4 : A4) (a5 : A5) (σ : tzS), K a1 a2 a3 a4 a5 σ → R a1 a2 a3 a4 a5 σ) ∧ B K
section TZ3
variable {G : tzG} {E : tzE} {cc : ByteArray} {own : String} {nL fr lo pc : Nat} {L : List (Nat × Value)} {st : List Value} {σ : tzS}
theorem tz_istore_n_k {i : Fin 4} (j : Nat) {x : Int32} (L0 : List (Nat × Value)) (C : tz_C G E cc own nL fr lo) (d : decode cc pc = .ok (.istore_n i, 1)) (hi : (i : Nat) = j) (hn : j < nL) (hl : L.filter (fun q => !(q.1 == j) && !(q.1 + 1 == j && q.2.category == 2)) = L0) (kk : tz_V G E (pc + 1) ((j, .int x) :: L0) st σ) : tz_V G E pc L (.int x :: st) σ := tz_istore_n j L0 C d hi hn hl (P := fun y => y = x) (fun _ h => h) (fun _ h => h ▸ kk)
theorem tz_istore_k {j : Nat} {x : Int32} (L0 : List (Nat × Value)) (C : tz_C G E cc own nL fr lo) (d : decode cc pc = .ok (.istore j, 2))  (hn : j < nL) (hl : L.filter (fun q => !(q.1 == j) && !(q.1 + 1 == j && q.2.category == 2)) = L0) (kk : tz_V G E (pc + 2) ((j, .int x) :: L0) st σ) : tz_V G E pc L (.int x :: st) σ := tz_istore  L0 C d  hn hl (P := fun y => y = x) (fun _ h => h) (fun _ h => h ▸ kk)
theorem tz_lstore_n_k {i : Fin 4} (j : Nat) {x : Int64} (L0 : List (Nat × Value)) (C : tz_C G E cc own nL fr lo) (d : decode cc pc = .ok (.lstore_n i, 1)) (hi : (i : Nat) = j) (hn : j + 1 < nL) (hl : L.filter (fun q => !(q.1 == j) && (!(q.1 == j + 1) && !(q.1 + 1 == j && q.2.category == 2))) = L0) (kk : tz_V G E (pc + 1) ((j, .long x) :: L0) st σ) : tz_V G E pc L (.long x :: st) σ := tz_lstore_n j L0 C d hi hn hl (P := fun y => y = x) (fun _ h => h) (fun _ h => h ▸ kk)
theorem tz_lstore_k {j : Nat} {x : Int64} (L0 : List (Nat × Value)) (C : tz_C G E cc own nL fr lo) (d : decode cc pc = .ok (.lstore j, 2))  (hn : j + 1 < nL) (hl : L.filter (fun q => !(q.1 == j) && (!(q.1 == j + 1) && !(q.1 + 1 == j && q.2.category == 2))) = L0) (kk : tz_V G E (pc + 2) ((j, .long x) :: L0) st σ) : tz_V G E pc L (.long x :: st) σ := tz_lstore  L0 C d  hn hl (P := fun y => y = x) (fun _ h => h) (fun _ h => h ▸ kk)
theorem tz_iald_c {k n b : Nat} {i : Int32} (j : Nat) (C : tz_C G E cc own nL fr lo) (d : decode cc pc = .ok (.iaload, 1)) (hk : k < tz_N) (hl : tz_lay k = .inr (0, n, b)) (hin : vp_in i n) (hj : i.toNatClampNeg = j) (kk : tz_V G E (pc + 1) L (.int (σ.1 k j) :: st) σ) : tz_V G E pc L (.int i :: .ref k :: st) σ := tz_iald C d hk hl hin (hj.symm ▸ kk)
theorem tz_zald_c {k n b : Nat} {i : Int32} (j : Nat) (C : tz_C G E cc own nL fr lo) (d : decode cc pc = .ok (.baload, 1)) (hk : k < tz_N) (hl : tz_lay k = .inr (1, n, b)) (hin : vp_in i n) (hj : i.toNatClampNeg = j) (kk : tz_V G E (pc + 1) L (.int (σ.1 k j) :: st) σ) : tz_V G E pc L (.int i :: .ref k :: st) σ := tz_zald C d hk hl hin (hj.symm ▸ kk)
theorem tz_lald_c {k n b : Nat} {i : Int32} (j : Nat) (C : tz_C G E cc own nL fr lo) (d : decode cc pc = .ok (.laload, 1)) (hk : k < tz_N) (hl : tz_lay k = .inr (2, n, b)) (hin : vp_in i n) (hj : i.toNatClampNeg = j) (kk : tz_V G E (pc + 1) L (.long (σ.2 k j) :: st) σ) : tz_V G E pc L (.int i :: .ref k :: st) σ := tz_lald C d hk hl hin (hj.symm ▸ kk)
theorem tz_aald_c {k n b : Nat} {i : Int32} (j : Nat) (C : tz_C G E cc own nL fr lo) (d : decode cc pc = .ok (.aaload, 1)) (hk : k < tz_N) (hl : tz_lay k = .inr (3, n, b)) (hin : vp_in i n) (hj : i.toNatClampNeg = j) (kk : tz_V G E (pc + 1) L (.ref (b + j) :: st) σ) : tz_V G E pc L (.int i :: .ref k :: st) σ := tz_aald C d hk hl hin (hj.symm ▸ kk)
theorem tz_iast_c {k n b : Nat} {i : Int32} {v : Int32} {P : tzS → Prop} (j : Nat) (C : tz_C G E cc own nL fr lo) (d : decode cc pc = .ok (.iastore, 1)) (hk : k < tz_N) (hl : tz_lay k = .inr (0, n, b))  (hin : vp_in i n) (hj : i.toNatClampNeg = j) (hp : ∀ σ', σ' = tz_st σ k j v → P σ') (kk : ∀ σ, P σ → tz_V G E (pc + 1) L st σ) : tz_V G E pc L (.int v :: .int i :: .ref k :: st) σ := tz_iast C d hk hl  ⟨hin, fun σ' h => hp σ' (hj ▸ h)⟩ kk
theorem tz_zast_c {k n b : Nat} {i : Int32} {v : Int32} {P : tzS → Prop} (j : Nat) (C : tz_C G E cc own nL fr lo) (d : decode cc pc = .ok (.bastore, 1)) (hk : k < tz_N) (hl : tz_lay k = .inr (1, n, b)) (hv : vp_nar .boolean v = v) (hin : vp_in i n) (hj : i.toNatClampNeg = j) (hp : ∀ σ', σ' = tz_st σ k j v → P σ') (kk : ∀ σ, P σ → tz_V G E (pc + 1) L st σ) : tz_V G E pc L (.int v :: .int i :: .ref k :: st) σ := tz_zast C d hk hl hv ⟨hin, fun σ' h => hp σ' (hj ▸ h)⟩ kk
theorem tz_last_c {k n b : Nat} {i : Int32} {v : Int64} {P : tzS → Prop} (j : Nat) (C : tz_C G E cc own nL fr lo) (d : decode cc pc = .ok (.lastore, 1)) (hk : k < tz_N) (hl : tz_lay k = .inr (2, n, b))  (hin : vp_in i n) (hj : i.toNatClampNeg = j) (hp : ∀ σ', σ' = tz_sl σ k j v → P σ') (kk : ∀ σ, P σ → tz_V G E (pc + 1) L st σ) : tz_V G E pc L (.long v :: .int i :: .ref k :: st) σ := tz_last C d hk hl  ⟨hin, fun σ' h => hp σ' (hj ▸ h)⟩ kk
theorem tz_swc {dflt lw hw : Int} {offs : Array Int} {len : Nat} {x : Int32} (v : Int32) (off : Int) (tgt : Nat) {P N : Prop} (C : tz_C G E cc own nL fr lo) (d : decode cc pc = .ok (.tableswitch dflt lw hw offs, len)) (h1 : ¬ v.toInt < lw) (h2 : ¬ hw < v.toInt) (ho : offs[(v.toInt - lw).toNat]? = some off) (ht : (pc : Int) + off = (tgt : Int)) (hp : (x = v → P) ∧ N) (kt : P → tz_V G E tgt L st σ) (kf : ¬ x = v → N → tz_V G E pc L (.int x :: st) σ) : tz_V G E pc L (.int x :: st) σ := by
  by_cases e : x = v
  · have k := kt (hp.1 e)
    subst e
    exact tz_tabIn off tgt C d h1 h2 ho ht k
  · exact kf e hp.2
end TZ3
/-- the script: L ints xs, at the virtual address 1002, which nobody writes -/
def tz_X (G : tzG) (E : tzE) (Ln : Nat) (xs : Nat → Int32) : Prop := match E with
  | ((_, _, _, s, _, _, _, _, _), _) => va_X (G.2.1 1002) Ln xs s s.heap ∧ G.2.1 1002 < s.heap.size ∧ ¬ G.2.2.2.2 (G.2.1 1002)
section TZ4
variable {G : tzG} {E : tzE} {cc : ByteArray} {own : String} {nL fr lo pc : Nat} {L : List (Nat × Value)} {st : List Value} {σ : tzS}
theorem tz_sld {i : Int32} {Ln : Nat} {xs : Nat → Int32} (C : tz_C G E cc own nL fr lo) (hX : tz_X G E Ln xs) (d : decode cc pc = .ok (.iaload, 1)) (hin : vp_in i Ln) (kk : tz_V G E (pc + 1) L (.int (xs i.toNatClampNeg) :: st) σ) : tz_V G E pc L (.int i :: .ref 1002 :: st) σ := by
  obtain ⟨⟨p, e, R, s, m, args, below, meth, c⟩, ⟨nL0, cells, slots, Q⟩⟩ := E
  intro H locs ls hP hS h
  exact va_sld C.1.1 C.1.2.1 hX.1 hX.2.1 hX.2.2 hS hin d (kk H locs ls hP hS h)
theorem tz_slen {Ln : Nat} {xs : Nat → Int32} (C : tz_C G E cc own nL fr lo) (hX : tz_X G E Ln xs) (d : decode cc pc = .ok (.arraylength, 1)) (kk : tz_V G E (pc + 1) L (.int (Int32.ofNat Ln) :: st) σ) : tz_V G E pc L (.ref 1002 :: st) σ := by
  obtain ⟨⟨p, e, R, s, m, args, below, meth, c⟩, ⟨nL0, cells, slots, Q⟩⟩ := E
  intro H locs ls hP hS h
  exact va_slen C.1.1 C.1.2.1 hX.1 hX.2.1 hX.2.2 hS d (kk H locs ls hP hS h)
end TZ4
theorem tz_out2 {x : Int32} (e0 : ¬ x = 0) (e1 : ¬ x = 1) (e2 : ¬ x = 2) : x.toInt < 0 ∨ 2 < x.toInt := by
  have f0 : x.toInt ≠ 0 := fun q => e0 (Int32.toInt_inj.mp q)
  have f1 : x.toInt ≠ 1 := fun q => e1 (Int32.toInt_inj.mp q)
  have f2 : x.toInt ≠ 2 := fun q => e2 (Int32.toInt_inj.mp q)
  omega
theorem tz_out3 {x : Int32} (e0 : ¬ x = 0) (e1 : ¬ x = 1) (e2 : ¬ x = 2) (e3 : ¬ x = 3) : x.toInt < 0 ∨ 3 < x.toInt := by
  have f0 : x.toInt ≠ 0 := fun q => e0 (Int32.toInt_inj.mp q)
  have f1 : x.toInt ≠ 1 := fun q => e1 (Int32.toInt_inj.mp q)
  have f2 : x.toInt ≠ 2 := fun q => e2 (Int32.toInt_inj.mp q)
  have f3 : x.toInt ≠ 3 := fun q => e3 (Int32.toInt_inj.mp q)
  omega
theorem tz_out8 {x : Int32} (e0 : ¬ x = 0) (e1 : ¬ x = 1) (e2 : ¬ x = 2) (e3 : ¬ x = 3) (e4 : ¬ x = 4) (e5 : ¬ x = 5) (e6 : ¬ x = 6) (e7 : ¬ x = 7) (e8 : ¬ x = 8) : x.toInt < 0 ∨ 8 < x.toInt := by
  have f0 : x.toInt ≠ 0 := fun q => e0 (Int32.toInt_inj.mp q)
  have f1 : x.toInt ≠ 1 := fun q => e1 (Int32.toInt_inj.mp q)
  have f2 : x.toInt ≠ 2 := fun q => e2 (Int32.toInt_inj.mp q)
  have f3 : x.toInt ≠ 3 := fun q => e3 (Int32.toInt_inj.mp q)
  have f4 : x.toInt ≠ 4 := fun q => e4 (Int32.toInt_inj.mp q)
  have f5 : x.toInt ≠ 5 := fun q => e5 (Int32.toInt_inj.mp q)
  have f6 : x.toInt ≠ 6 := fun q => e6 (Int32.toInt_inj.mp q)
  have f7 : x.toInt ≠ 7 := fun q => e7 (Int32.toInt_inj.mp q)
  have f8 : x.toInt ≠ 8 := fun q => e8 (Int32.toInt_inj.mp q)
  omega
theorem tz_out29 {x : Int32} (e0 : ¬ x = 0) (e1 : ¬ x = 1) (e2 : ¬ x = 2) (e3 : ¬ x = 3) (e4 : ¬ x = 4) (e5 : ¬ x = 5) (e6 : ¬ x = 6) (e7 : ¬ x = 7) (e8 : ¬ x = 8) (e9 : ¬ x = 9) (e10 : ¬ x = 10) (e11 : ¬ x = 11) (e12 : ¬ x = 12) (e13 : ¬ x = 13) (e14 : ¬ x = 14) (e15 : ¬ x = 15) (e16 : ¬ x = 16) (e17 : ¬ x = 17) (e18 : ¬ x = 18) (e19 : ¬ x = 19) (e20 : ¬ x = 20) (e21 : ¬ x = 21) (e22 : ¬ x = 22) (e23 : ¬ x = 23) (e24 : ¬ x = 24) (e25 : ¬ x = 25) (e26 : ¬ x = 26) (e27 : ¬ x = 27) (e28 : ¬ x = 28) (e29 : ¬ x = 29) : x.toInt < 0 ∨ 29 < x.toInt := by
  have f0 : x.toInt ≠ 0 := fun q => e0 (Int32.toInt_inj.mp q)
  have f1 : x.toInt ≠ 1 := fun q => e1 (Int32.toInt_inj.mp q)
  have f2 : x.toInt ≠ 2 := fun q => e2 (Int32.toInt_inj.mp q)
  have f3 : x.toInt ≠ 3 := fun q => e3 (Int32.toInt_inj.mp q)
  have f4 : x.toInt ≠ 4 := fun q => e4 (Int32.toInt_inj.mp q)
  have f5 : x.toInt ≠ 5 := fun q => e5 (Int32.toInt_inj.mp q)
  have f6 : x.toInt ≠ 6 := fun q => e6 (Int32.toInt_inj.mp q)
  have f7 : x.toInt ≠ 7 := fun q => e7 (Int32.toInt_inj.mp q)
  have f8 : x.toInt ≠ 8 := fun q => e8 (Int32.toInt_inj.mp q)
  have f9 : x.toInt ≠ 9 := fun q => e9 (Int32.toInt_inj.mp q)
  have f10 : x.toInt ≠ 10 := fun q => e10 (Int32.toInt_inj.mp q)
  have f11 : x.toInt ≠ 11 := fun q => e11 (Int32.toInt_inj.mp q)
  have f12 : x.toInt ≠ 12 := fun q => e12 (Int32.toInt_inj.mp q)
  have f13 : x.toInt ≠ 13 := fun q => e13 (Int32.toInt_inj.mp q)
  have f14 : x.toInt ≠ 14 := fun q => e14 (Int32.toInt_inj.mp q)
  have f15 : x.toInt ≠ 15 := fun q => e15 (Int32.toInt_inj.mp q)
  have f16 : x.toInt ≠ 16 := fun q => e16 (Int32.toInt_inj.mp q)
  have f17 : x.toInt ≠ 17 := fun q => e17 (Int32.toInt_inj.mp q)
  have f18 : x.toInt ≠ 18 := fun q => e18 (Int32.toInt_inj.mp q)
  have f19 : x.toInt ≠ 19 := fun q => e19 (Int32.toInt_inj.mp q)
  have f20 : x.toInt ≠ 20 := fun q => e20 (Int32.toInt_inj.mp q)
  have f21 : x.toInt ≠ 21 := fun q => e21 (Int32.toInt_inj.mp q)
  have f22 : x.toInt ≠ 22 := fun q => e22 (Int32.toInt_inj.mp q)
  have f23 : x.toInt ≠ 23 := fun q => e23 (Int32.toInt_inj.mp q)
  have f24 : x.toInt ≠ 24 := fun q => e24 (Int32.toInt_inj.mp q)
  have f25 : x.toInt ≠ 25 := fun q => e25 (Int32.toInt_inj.mp q)
  have f26 : x.toInt ≠ 26 := fun q => e26 (Int32.toInt_inj.mp q)
  have f27 : x.toInt ≠ 27 := fun q => e27 (Int32.toInt_inj.mp q)
  have f28 : x.toInt ≠ 28 := fun q => e28 (Int32.toInt_inj.mp q)
  have f29 : x.toInt ≠ 29 := fun q => e29 (Int32.toInt_inj.mp q)
  omega
