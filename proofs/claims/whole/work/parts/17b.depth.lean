/-! ===== DEPTHS ===== -/
theorem dn1w {B : Int32 → tzS → (Int32 → tzS → Prop) → Prop} {σ : tzS} (lo hi : Nat) (I : Nat → tzS → Prop) (hle : lo ≤ hi) (h0 : I hi σ) (step : ∀ i σ ag, lo ≤ i → i ≤ hi → I i σ → (lo < i → ∀ σ', I (i - 1) σ' → ag (nI (i - 1)) σ') → B (nI i) σ ag) : tz_loop1 B (nI hi) σ := by
  refine ⟨fun n x s => ∃ i, x = nI i ∧ lo ≤ i ∧ i ≤ hi ∧ n = i - lo ∧ I i s, ⟨hi - lo, hi, rfl, hle, Nat.le_refl _, rfl, h0⟩, ?_⟩
  rintro n x s ⟨i, rfl, h1, h2, rfl, hI⟩
  exact step i s _ h1 h2 hI (fun hi' σ' h' => ⟨i - 1 - lo, by omega, i - 1, rfl, by omega, by omega, rfl, h'⟩)
theorem dn2w {A : Type} {B : A → Int32 → tzS → (A → Int32 → tzS → Prop) → Prop} {a : A} {σ : tzS} (lo hi : Nat) (I : Nat → A → tzS → Prop) (hle : lo ≤ hi) (h0 : I hi a σ) (step : ∀ i a σ ag, lo ≤ i → i ≤ hi → I i a σ → (lo < i → ∀ a' σ', I (i - 1) a' σ' → ag a' (nI (i - 1)) σ') → B a (nI i) σ ag) : tz_loop2 B a (nI hi) σ := by
  refine ⟨fun n a x s => ∃ i, x = nI i ∧ lo ≤ i ∧ i ≤ hi ∧ n = i - lo ∧ I i a s, ⟨hi - lo, hi, rfl, hle, Nat.le_refl _, rfl, h0⟩, ?_⟩
  rintro n a x s ⟨i, rfl, h1, h2, rfl, hI⟩
  exact step i a s _ h1 h2 hI (fun hi' a' σ' h' => ⟨i - 1 - lo, by omega, i - 1, rfl, by omega, by omega, rfl, h'⟩)
theorem for2w {A : Type} {B : A → Int32 → tzS → (A → Int32 → tzS → Prop) → Prop} {a : A} {σ : tzS} (lo hi : Nat) (I : Nat → A → tzS → Prop) (hle : lo ≤ hi) (h0 : I lo a σ) (step : ∀ i a σ ag, lo ≤ i → i ≤ hi → I i a σ → (i < hi → ∀ a' σ', I (i + 1) a' σ' → ag a' (nI (i + 1)) σ') → B a (nI i) σ ag) : tz_loop2 B a (nI lo) σ := by
  refine ⟨fun n a x s => ∃ i, x = nI i ∧ lo ≤ i ∧ i ≤ hi ∧ n = hi - i ∧ I i a s, ⟨hi - lo, lo, rfl, Nat.le_refl _, hle, rfl, h0⟩, ?_⟩
  rintro n a x s ⟨i, rfl, h1, h2, rfl, hI⟩
  exact step i a s _ h1 h2 hI (fun hi' a' σ' h' => ⟨hi - (i + 1), by omega, i + 1, rfl, by omega, by omega, rfl, h'⟩)
/-- where the hill on the left of g ends -/
def lf (a : Nat → Nat) : Nat → Nat
  | 0 => 0
  | g + 1 => if 1 ≤ g ∧ ¬ a g < a (g + 1) then lf a g else g + 1
theorem lf_on {a : Nat → Nat} {g : Nat} (hg : 2 ≤ g) (h : ¬ a (g - 1) < a g) : lf a g = lf a (g - 1) := by
  obtain ⟨m, rfl⟩ : ∃ m, g = m + 1 := ⟨g - 1, by omega⟩
  exact if_pos (t := lf a m) ⟨by omega, h⟩
theorem lf_off {a : Nat → Nat} {g : Nat} (hg : 1 ≤ g) (h : g ≤ 1 ∨ a (g - 1) < a g) : lf a g = g := by
  obtain ⟨m, rfl⟩ : ∃ m, g = m + 1 := ⟨g - 1, by omega⟩
  refine if_neg (t := lf a m) (fun w => ?_)
  rcases h with h | h
  · omega
  · exact w.2 h
theorem lf_ok (a : Nat → Nat) : ∀ g, 1 ≤ g → 1 ≤ lf a g ∧ lf a g ≤ g ∧ a g ≤ a (lf a g)
  | 0, h => absurd h (by omega)
  | g + 1, _ => by
    by_cases c : 1 ≤ g ∧ ¬ a g < a (g + 1)
    · have e : lf a (g + 1) = lf a g := if_pos c
      obtain ⟨h1, h2, h3⟩ := lf_ok a g c.1
      rw [e]
      exact ⟨h1, by omega, by omega⟩
    · have e : lf a (g + 1) = g + 1 := if_neg c
      rw [e]
      exact ⟨by omega, Nat.le_refl _, Nat.le_refl _⟩
def rg (a : Nat → Nat) (S : Nat) : Nat → Nat → Nat
  | 0, g => g
  | e + 1, g => if g + 1 < S ∧ ¬ a (g + 1) < a g then rg a S e (g + 1) else g
def rr (a : Nat → Nat) (S g : Nat) : Nat := rg a S (S - g) g
theorem rr_on {a : Nat → Nat} {S g : Nat} (h1 : g + 1 < S) (h2 : ¬ a (g + 1) < a g) : rr a S g = rr a S (g + 1) := by
  unfold rr
  rw [show S - g = (S - (g + 1)) + 1 by omega]
  exact if_pos (e := g) ⟨h1, h2⟩
theorem rr_off {a : Nat → Nat} {S g : Nat} (h : S ≤ g + 1 ∨ a (g + 1) < a g) : rr a S g = g := by
  unfold rr
  by_cases c : S - g = 0
  · rw [c]
    rfl
  · obtain ⟨e, he⟩ : ∃ e, S - g = e + 1 := ⟨S - g - 1, by omega⟩
    rw [he]
    refine if_neg (t := rg a S e (g + 1)) (fun w => ?_)
    rcases h with h | h
    · omega
    · exact w.2 h
theorem rr_ok {a : Nat → Nat} {S : Nat} : ∀ {d g : Nat}, S - g = d → g < S → g ≤ rr a S g ∧ rr a S g < S ∧ a g ≤ a (rr a S g)
  | 0, g, h, h2 => by omega
  | d + 1, g, h, h2 => by
    by_cases c : g + 1 < S ∧ ¬ a (g + 1) < a g
    · rw [rr_on c.1 c.2]
      obtain ⟨x1, x2, x3⟩ := rr_ok (a := a) (S := S) (d := d) (g := g + 1) (by omega) c.1
      exact ⟨by omega, x2, by have := c.2; omega⟩
    · rw [rr_off (by omega)]
      exact ⟨Nat.le_refl _, h2, Nat.le_refl _⟩
def dpt (a : Nat → Nat) (S g : Nat) : Nat := (a (lf a g) - a g) + (a (rr a S g) - a g)
theorem s_leftHill {a : Nat → Nat} {g : Nat} (hg : 1 ≤ g) (hg12 : g < 12) (ha : ∀ i, 1 ≤ i → i ≤ g → a i ≤ 100) {σ : tzS} (hs : ∀ i, 1 ≤ i → i ≤ g → σ.1 121 i = nI (a i)) {Q : Int32 → tzS → Prop} (h : Q (nI (a (lf a g))) σ) : vc_X4_leftHill (nI g) σ Q := by
  unfold vc_X4_leftHill
  rw [cl_nI (by omega), hs g hg (Nat.le_refl _), nI_sub1 hg]
  refine ⟨in_nI (by omega) (by omega), ?_⟩
  rintro x2 rfl x3 rfl
  refine dn2w 0 (g - 1) (fun i x r => x = nI (a (i + 1)) ∧ lf a (i + 1) = lf a g ∧ r = σ) (Nat.zero_le _) ⟨by rw [show g - 1 + 1 = g by omega], by rw [show g - 1 + 1 = g by omega], rfl⟩ ?_
  intro i x r ag _ hi hI hag
  obtain ⟨e1, e2, e3⟩ := hI
  subst e3
  refine ⟨fun z => ?_, fun z => ?_⟩
  · have z := (lt_nI (b := 1) (by omega) (by omega)).mp z
    have : i = 0 := by omega
    subst this
    rw [lf_off (by omega) (by omega)] at e2
    rw [e1, e2]
    exact h
  · have z := (not_congr (lt_nI (b := 1) (by omega) (by omega))).mp z
    have b1 := ha i (by omega) (by omega)
    have b2 := ha (i + 1) (by omega) (by omega)
    rw [cl_nI (by omega), hs i (by omega) (by omega), e1]
    refine ⟨in_nI (by omega) (by omega), fun z2 => ?_, fun z2 x' hx' y hy => ?_⟩
    · have z2 := (lt_nI (by omega) (by omega)).mp z2
      rw [lf_off (by omega) (by rw [show i + 1 - 1 = i by omega]; omega)] at e2
      rw [e2]
      exact h
    · subst hx'
      subst hy
      have z2 := (not_congr (lt_nI (by omega) (by omega))).mp z2
      rw [nI_m1 (by omega)]
      refine hag (by omega) _ _ ⟨by rw [show i - 1 + 1 = i by omega], ?_, rfl⟩
      rw [show i - 1 + 1 = i by omega, ← e2]
      have := lf_on (a := a) (g := i + 1) (by omega) (by rw [show i + 1 - 1 = i by omega]; exact z2)
      rw [show i + 1 - 1 = i by omega] at this
      exact this.symm
theorem s_rightHill {a : Nat → Nat} {S g : Nat} (hg : g < S) (hS : S ≤ 12) (ha : ∀ i, g ≤ i → i < S → a i ≤ 100) {σ : tzS} (hs : ∀ i, g ≤ i → i < S → σ.1 121 i = nI (a i)) {Q : Int32 → tzS → Prop} (h : Q (nI (a (rr a S g))) σ) : vc_X4_rightHill (nI g) (nI S) σ Q := by
  unfold vc_X4_rightHill
  rw [cl_nI (by omega), hs g (Nat.le_refl _) hg, nI_1]
  refine ⟨in_nI (by omega) (by omega), ?_⟩
  rintro x2 rfl x3 rfl
  refine for2w (g + 1) S (fun i x r => x = nI (a (i - 1)) ∧ rr a S (i - 1) = rr a S g ∧ r = σ) (by omega) ⟨by rw [show g + 1 - 1 = g by omega], by rw [show g + 1 - 1 = g by omega], rfl⟩ ?_
  intro i x r ag h1 hi hI hag
  obtain ⟨e1, e2, e3⟩ := hI
  subst e3
  refine ⟨fun z => ?_, fun z => ?_⟩
  · have z := (le_nI (by omega) (by omega)).mp z
    rw [rr_off (by omega)] at e2
    rw [e1, e2]
    exact h
  · have z := (not_congr (le_nI (by omega) (by omega))).mp z
    have b1 := ha i (by omega) (by omega)
    have b2 := ha (i - 1) (by omega) (by omega)
    have ei : i - 1 + 1 = i := by omega
    rw [cl_nI (by omega), hs i (by omega) (by omega), e1]
    refine ⟨in_nI (by omega) (by omega), fun z2 => ?_, fun z2 x' hx' y hy => ?_⟩
    · have z2 := (lt_nI (by omega) (by omega)).mp z2
      rw [rr_off (by rw [ei]; omega)] at e2
      rw [e2]
      exact h
    · subst hx'
      subst hy
      have z2 := (not_congr (lt_nI (by omega) (by omega))).mp z2
      rw [nI_1]
      refine hag (by omega) _ _ ⟨by rw [show i + 1 - 1 = i by omega], ?_, rfl⟩
      have := rr_on (a := a) (S := S) (g := i - 1) (by omega) (by rw [ei]; exact z2)
      rw [ei] at this
      rw [show i + 1 - 1 = i by omega, ← this, e2]
theorem s_depth {f : Nat → Nat} {n wi g : Nat} (hn : n ≤ 200) (hwi : wi ≤ 4) (hg1 : 1 ≤ g) (hg : g < rd_S f n) {σ : tzS} (hM : MR f n σ) (hw : σ.1 135 3 = nI wi) {Q : Int32 → tzS → Prop} (h : Q (nI (dpt (rd_al f n wi) (rd_S f n) g)) σ) : vc_X10_depth (nI g) σ Q := by
  obtain ⟨r1, r2, r3, r4, r5, r6⟩ := rd_ok (f := f) hn
  have h7 : σ.1 133 7 = nI (rd_S f n) := hM.2.2.2.1
  have ha : ∀ i, i ≤ rd_S f n → rd_al f n wi i ≤ 100 := fun i hi => al_le hn hi (Nat.le_refl _)
  obtain ⟨l1, l2, l3⟩ := lf_ok (rd_al f n wi) g hg1
  obtain ⟨k1, k2, k3⟩ := rr_ok (a := rd_al f n wi) (S := rd_S f n) rfl hg
  unfold vc_X10_depth
  refine s_alike hn hwi hg1 (by omega) hM hw ?_
  refine dn1w 1 g (fun i r => lf (rd_al f n wi) i = lf (rd_al f n wi) g ∧ r = σ) hg1 ⟨rfl, rfl⟩ ?_
  intro i r ag i1 i2 hI hag
  obtain ⟨e1, e2⟩ := hI
  subst e2
  refine ⟨fun s3 => s3 = r ∧ i = lf (rd_al f n wi) g, ?_, ?_, ?_⟩
  · rintro s3 ⟨e3, e4⟩
    subst e3
    refine for1w g (rd_S f n) (fun j r => j < rd_S f n ∧ rr (rd_al f n wi) (rd_S f n) j = rr (rd_al f n wi) (rd_S f n) g ∧ r = s3) (by omega) ⟨hg, rfl, rfl⟩ ?_
    intro j r ag2 j1 _ hJ hag2
    obtain ⟨j2, j3, j4⟩ := hJ
    subst j4
    have fin : j = rr (rd_al f n wi) (rd_S f n) g → vc_X10_alike (nI i) r (fun r13 σ12 => vc_X10_alike (nI j) σ12 (fun r15 σ14 => Q (((r13 - nI (rd_al f n wi g)) + r15) - nI (rd_al f n wi g)) σ14)) := by
      intro ej
      refine s_alike hn hwi (by omega) (by omega) hM hw ?_
      refine s_alike hn hwi (by omega) (by omega) hM hw ?_
      rw [e4, ej, pk_sub l3, nI_add, pk_sub (by omega)]
      unfold dpt at h
      rw [show rd_al f n wi (lf (rd_al f n wi) g) - rd_al f n wi g + rd_al f n wi (rr (rd_al f n wi) (rd_S f n) g) - rd_al f n wi g = rd_al f n wi (lf (rd_al f n wi) g) - rd_al f n wi g + (rd_al f n wi (rr (rd_al f n wi) (rd_S f n) g) - rd_al f n wi g) by omega]
      exact h
    rw [h7, nI_1]
    refine ⟨fun z => ?_, fun z => ?_⟩
    · have z := (le_nI (by omega) (by omega)).mp z
      rw [rr_off (Or.inl z)] at j3
      exact fin j3
    · have z := (not_congr (le_nI (by omega) (by omega))).mp z
      refine s_alike hn hwi (by omega) (by omega) hM hw ?_
      refine s_alike hn hwi (by omega) (by omega) hM hw ?_
      have b1 := ha (j + 1) (by omega)
      have b2 := ha j (by omega)
      refine ⟨fun z2 => ?_, fun z2 x hx => ?_⟩
      · have z2 := (lt_nI (by omega) (by omega)).mp z2
        rw [rr_off (Or.inr z2)] at j3
        exact fin j3
      · subst hx
        have z2 := (not_congr (lt_nI (by omega) (by omega))).mp z2
        exact hag2 (by omega) _ ⟨by omega, by rw [← j3]; exact (rr_on (by omega) z2).symm, rfl⟩
  · intro z
    have z := (le_nI (b := 1) (by omega) (by omega)).mp z
    rw [lf_off i1 (Or.inl z)] at e1
    exact ⟨rfl, e1⟩
  · intro z
    have z := (not_congr (le_nI (b := 1) (by omega) (by omega))).mp z
    rw [nI_sub1 i1]
    refine s_alike hn hwi (by omega) (by omega) hM hw ?_
    refine s_alike hn hwi (by omega) (by omega) hM hw ?_
    have b1 := ha (i - 1) (by omega)
    have b2 := ha i (by omega)
    refine ⟨fun z2 => ?_, fun z2 x hx => ?_⟩
    · have z2 := (lt_nI (by omega) (by omega)).mp z2
      rw [lf_off i1 (Or.inr z2)] at e1
      exact ⟨rfl, e1⟩
    · subst hx
      have z2 := (not_congr (lt_nI (by omega) (by omega))).mp z2
      rw [nI_m1 i1]
      exact hag (by omega) _ ⟨by rw [← e1]; exact (lf_on (by omega) z2).symm, rfl⟩
/-! the gaps in the order of their depth -/
def bf (D : Nat → Nat) (g h : Nat) : Prop := D h < D g ∨ (D g = D h ∧ g < h)
def SO (D : Nat → Nat) (m : Nat) (A : Nat → Nat) : Prop := (∀ p, p < m → 1 ≤ A p ∧ A p ≤ m) ∧ (∀ p q, p < q → q < m → bf D (A p) (A q)) ∧ ∀ g, 1 ≤ g → g ≤ m → ∃ p, p < m ∧ A p = g
def insA (A : Nat → Nat) (i x : Nat) (p : Nat) : Nat := if p < i then A p else if p = i then x else A (p - 1)
theorem SO_ins {D : Nat → Nat} {m i : Nat} {A : Nat → Nat} (h : SO D m A) (hi : i ≤ m) (h1 : ∀ q, q < i → D (m + 1) ≤ D (A q)) (h2 : ∀ q, i ≤ q → q < m → D (A q) < D (m + 1)) : SO D (m + 1) (insA A i (m + 1)) := by
  obtain ⟨s1, s2, s3⟩ := h
  have ilt : ∀ p, p < i → insA A i (m + 1) p = A p := fun p hp => by unfold insA; rw [if_pos hp]
  have ieq : insA A i (m + 1) i = m + 1 := by unfold insA; rw [if_neg (Nat.lt_irrefl _), if_pos rfl]
  have igt : ∀ p, i < p → insA A i (m + 1) p = A (p - 1) := fun p hp => by unfold insA; rw [if_neg (by omega), if_neg (by omega)]
  refine ⟨fun p hp => ?_, fun p q hpq hq => ?_, fun g g1 g2 => ?_⟩
  · by_cases c : p < i
    · rw [ilt p c]
      have := s1 p (by omega)
      omega
    · by_cases c2 : p = i
      · rw [c2, ieq]
        omega
      · rw [igt p (by omega)]
        have := s1 (p - 1) (by omega)
        omega
  · by_cases c : q < i
    · rw [ilt p (by omega), ilt q c]
      exact s2 p q hpq (by omega)
    · by_cases c2 : q = i
      · rw [c2, ieq, ilt p (by omega)]
        have a := h1 p (by omega)
        have b := s1 p (by omega)
        unfold bf
        omega
      · rw [igt q (by omega)]
        by_cases c3 : p < i
        · rw [ilt p c3]
          exact s2 p (q - 1) (by omega) (by omega)
        · by_cases c4 : p = i
          · rw [c4, ieq]
            exact Or.inl (h2 (q - 1) (by omega) (by omega))
          · rw [igt p (by omega)]
            exact s2 (p - 1) (q - 1) (by omega) (by omega)
  · by_cases c : g = m + 1
    · exact ⟨i, by omega, by rw [ieq, c]⟩
    · obtain ⟨p, hp, e⟩ := s3 g g1 (by omega)
      by_cases c2 : p < i
      · exact ⟨p, by omega, by rw [ilt p c2, e]⟩
      · exact ⟨p + 1, by omega, by rw [igt (p + 1) (by omega), show p + 1 - 1 = p by omega, e]⟩
theorem SO_0 {D A : Nat → Nat} : SO D 0 A := ⟨fun p hp => absurd hp (by omega), fun p q _ hq => absurd hq (by omega), fun g g1 g2 => absurd g1 (by omega)⟩
theorem SO_ex (D : Nat → Nat) : ∀ m, ∃ A, SO D m A
  | 0 => ⟨fun _ => 0, SO_0⟩
  | m + 1 => by
    obtain ⟨A, hA⟩ := SO_ex D m
    have hd : ∀ i, i ≤ m → (∀ q, i ≤ q → q < m → D (A q) < D (m + 1)) → ∃ A', SO D (m + 1) A' := by
      intro i
      induction i with
      | zero => exact fun hi h => ⟨_, SO_ins hA hi (fun q hq => absurd hq (by omega)) h⟩
      | succ i ih =>
        intro hi h
        by_cases c : D (A i) < D (m + 1)
        · exact ih (by omega) (fun q q1 q2 => by
            by_cases e : q = i
            · rw [e]; exact c
            · exact h q (by omega) q2)
        · refine ⟨_, SO_ins hA hi (fun q hq => ?_) h⟩
          by_cases e : q = i
          · rw [e]; omega
          · have := hA.2.1 q i (by omega) (by omega)
            unfold bf at this
            omega
    exact hd m (Nat.le_refl _) (fun q q1 q2 => absurd q1 (by omega))
theorem s_insert {D : Nat → Nat} {m : Nat} {A : Nat → Nat} (hm : m < 11) (hA : SO D m A) (hD : ∀ g, 1 ≤ g → g ≤ m + 1 → D g ≤ 1000) {σ : tzS} (hd : ∀ g, 1 ≤ g → g ≤ m + 1 → σ.1 122 g = nI (D g)) (hs : ∀ p, p < m → σ.1 123 p = nI (A p)) {Q : tzS → Prop} (h : ∀ σ' A', SO D (m + 1) A' → (∀ p, p < m + 1 → σ'.1 123 p = nI (A' p)) → bt 123 123 σ σ' → Q σ') : vc_X4_insert (nI (m + 1)) σ Q := by
  unfold vc_X4_insert
  rw [nI_sub1 (by omega), show m + 1 - 1 = m by omega]
  rintro x2 rfl
  refine dn1w 0 m (fun i r => (∀ p, p < i → r.1 123 p = nI (A p)) ∧ (∀ p, i < p → p ≤ m → r.1 123 p = nI (A (p - 1))) ∧ (∀ q, i ≤ q → q < m → D (A q) < D (m + 1)) ∧ bt 123 123 σ r) (Nat.zero_le _) ⟨hs, fun p p1 p2 => absurd p1 (by omega), fun q q1 q2 => absurd q1 (by omega), bt.rf⟩ ?_
  intro i r ag _ hi hI hag
  obtain ⟨i1, i2, i3, i4⟩ := hI
  have fin : (∀ q, q < i → D (m + 1) ≤ D (A q)) → ∀ σ6 : tzS, σ6 = tz_st r 123 i (nI (m + 1)) → Q σ6 := by
    intro hq σ6 h6
    refine h σ6 (insA A i (m + 1)) (SO_ins hA hi hq i3) (fun p hp => ?_) (h6 ▸ i4.st (by omega))
    unfold insA
    by_cases c : p < i
    · rw [if_pos c, h6, st_nj (by omega)]
      exact i1 p c
    · by_cases c2 : p = i
      · rw [if_neg c, if_pos c2, h6, c2, st_eq]
      · rw [if_neg c, if_neg c2, h6, st_nj c2]
        exact i2 p (by omega) (by omega)
  refine ⟨fun z => ?_, fun z => ?_⟩
  · have z := (le_nI (b := 0) (by omega) (by omega)).mp z
    rw [cl_nI (by omega)]
    exact ⟨in_nI (by omega) (by omega), fin (fun q hq => absurd hq (by omega))⟩
  · have z := (not_congr (le_nI (b := 0) (by omega) (by omega))).mp z
    have a1 := hA.1 (i - 1) (by omega)
    have b1 := hD (A (i - 1)) (by omega) (by omega)
    have b2 := hD (m + 1) (by omega) (by omega)
    rw [nI_sub1 (by omega), cl_nI (show i - 1 < 100000 by omega), i1 (i - 1) (by omega), cl_nI (show A (i - 1) < 100000 by omega), cl_nI (show m + 1 < 100000 by omega), cl_nI (show i < 100000 by omega), i4.1 122 (by omega), hd (m + 1) (by omega) (by omega), hd (A (i - 1)) (by omega) (by omega)]
    refine ⟨in_nI (by omega) (by omega), in_nI (by omega) (by omega), in_nI (by omega) (by omega), fun z2 => ⟨in_nI (by omega) (by omega), fin (fun q hq => ?_)⟩, fun z2 => ⟨in_nI (by omega) (by omega), ?_⟩⟩
    · have z2 := (le_nI (by omega) (by omega)).mp z2
      by_cases e : q = i - 1
      · rw [e]; exact z2
      · have := hA.2.1 q (i - 1) (by omega) (by omega)
        unfold bf at this
        omega
    · have z2 := (not_congr (le_nI (by omega) (by omega))).mp z2
      intro σ14 h14 x hx
      subst hx
      rw [nI_m1 (by omega)]
      refine hag (by omega) _ ⟨fun p hp => ?_, fun p p1 p2 => ?_, fun q q1 q2 => ?_, h14 ▸ i4.st (by omega)⟩
      · rw [h14, st_nj (by omega)]
        exact i1 p (by omega)
      · by_cases e : p = i
        · rw [h14, e, st_eq]
        · rw [h14, st_nj e]
          exact i2 p (by omega) p2
      · by_cases e : q = i - 1
        · rw [e]; omega
        · exact i3 q (by omega) q2
