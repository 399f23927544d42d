/-! ===== THE PURE SPEC: texts ===== -/
def sp_L (b : Nat) : Bool := decide (97 ≤ b) && decide (b ≤ 122)
/-- where a text stands: 0 ahead of a word of a sentence, 1 behind a dot, 2 in a word, 3 behind a blank; words of the sentence, sentences, letters of the word -/
abbrev spA : Type := Nat × Nat × Nat × Nat
def sp_step (b : Nat) (q : spA) : spA :=
  if sp_L b = true then (2, (if q.1 = 2 then q.2.1 else q.2.1 + 1), q.2.2.1, (if q.1 = 2 then q.2.2.2 + 1 else 1))
  else if b = 46 then (1, 0, q.2.2.1 + 1, 0)
  else ((if q.1 = 1 then 0 else 3), q.2.1, q.2.2.1, 0)
def sp_at (f : Nat → Nat) : Nat → spA
  | 0 => (0, 0, 0, 0)
  | p + 1 => sp_step (f p) (sp_at f p)
/-- why it cannot go on with a byte: 0 it can -/
def sp_why (b : Nat) (q : spA) : Nat :=
  if sp_L b = true then (if q.1 = 2 then (if q.2.2.2 = 10 then 2 else 0) else (if q.2.2.1 = 12 ∨ q.2.1 = 9 then 4 else 0))
  else if b = 32 then (if q.1 = 2 ∨ q.1 = 1 then 0 else 3)
  else if b = 46 then (if q.1 = 2 then 0 else 3)
  else 1
def sp_ok (f : Nat → Nat) (p : Nat) : Prop := ∀ q, q < p → sp_why (f q) (sp_at f q) = 0
/-- the place of the first fault, n if there is none ahead of the end -/
def sp_f (f : Nat → Nat) (n : Nat) : Nat := fa_first (fun p => decide (sp_why (f p) (sp_at f p) ≠ 0)) n
def sp_well (f : Nat → Nat) (n : Nat) : Bool := decide (sp_f f n = n ∧ (sp_at f n).1 ≤ 1)
def sp_pl (f : Nat → Nat) (n : Nat) : Int32 := if sp_f f n < n then nI (sp_f f n) else if 1 < (sp_at f n).1 then nI n else -1
def sp_wy (f : Nat → Nat) (n : Nat) : Int32 := if sp_f f n < n then nI (sp_why (f (sp_f f n)) (sp_at f (sp_f f n))) else if 1 < (sp_at f n).1 then 5 else -1
def sp_se (f : Nat → Nat) (n : Nat) : Int32 := if sp_f f n < n then nI (sp_at f (sp_f f n)).2.2.1 else if 1 < (sp_at f n).1 then nI (sp_at f n).2.2.1 else -1
/-- what holds of a text's stand as long as there is no fault -/
def sp_J (q : spA) : Prop := (q.1 = 0 ∧ q.2.1 = 0 ∧ q.2.2.1 ≤ 12 ∧ q.2.2.2 = 0) ∨ (q.1 = 1 ∧ q.2.1 = 0 ∧ q.2.2.1 ≤ 12 ∧ q.2.2.2 = 0) ∨ (q.1 = 2 ∧ 1 ≤ q.2.1 ∧ q.2.1 ≤ 9 ∧ q.2.2.1 ≤ 11 ∧ 1 ≤ q.2.2.2 ∧ q.2.2.2 ≤ 10) ∨ (q.1 = 3 ∧ 1 ≤ q.2.1 ∧ q.2.1 ≤ 9 ∧ q.2.2.1 ≤ 11 ∧ q.2.2.2 = 0)
theorem sp_J_step {b : Nat} {q : spA} (h : sp_J q) (hw : sp_why b q = 0) : sp_J (sp_step b q) := by
  obtain ⟨h0, i0, s0, l0⟩ := q
  unfold sp_J at h ⊢
  unfold sp_why at hw
  unfold sp_step
  dsimp only at h hw ⊢
  by_cases hL : sp_L b = true
  · rw [if_pos hL] at hw ⊢
    dsimp only
    by_cases h2 : h0 = 2
    · subst h2
      simp only [if_true] at hw ⊢
      by_cases h10 : l0 = 10
      · simp [h10] at hw
      · first | omega | (simp; done) | (simp; omega)
    · simp only [h2, if_false] at hw ⊢
      by_cases h9 : s0 = 12 ∨ i0 = 9
      · simp [h9] at hw
      · first | omega | (simp; done) | (simp; omega)
  · rw [if_neg hL] at hw ⊢
    by_cases h46 : b = 46
    · subst h46
      simp only [if_true, show ¬ (46 : Nat) = 32 by decide, if_false] at hw ⊢
      by_cases h2 : h0 = 2
      · first | omega | (simp; done) | (simp; omega)
      · simp [h2] at hw
    · simp only [h46, if_false] at hw ⊢
      by_cases h32 : b = 32
      · simp only [h32, if_true] at hw
        by_cases h1 : h0 = 1
        · simp only [h1, if_true]
          first | omega | (simp; done) | (simp; omega)
        · simp only [h1, if_false]
          by_cases h2 : h0 = 2
          · first | omega | (simp; done) | (simp; omega)
          · simp [h1, h2] at hw
      · simp [h32] at hw
theorem sp_ok_J {f : Nat → Nat} : ∀ {p : Nat}, sp_ok f p → sp_J (sp_at f p)
  | 0, _ => Or.inl ⟨rfl, rfl, Nat.zero_le _, rfl⟩
  | p + 1, h => sp_J_step (sp_ok_J (fun q hq => h q (by omega))) (h p (by omega))
theorem sp_ok_f {f : Nat → Nat} {n : Nat} : sp_ok f (sp_f f n) := by
  intro q hq
  have h := fa_first_no _ n q hq
  simpa using h
theorem sp_f_le {f : Nat → Nat} {n : Nat} : sp_f f n ≤ n := fa_first_le _ n
theorem sp_f_at {f : Nat → Nat} {n p : Nat} (hp : p < n) (ho : sp_ok f p) (hw : sp_why (f p) (sp_at f p) ≠ 0) : sp_f f n = p := by
  have h1 : ¬ sp_f f n < p := fun q => by
    have h2 : sp_why _ _ = 0 := ho _ q
    have h3 := fa_first_yes _ n (Nat.lt_trans q hp)
    have h4 : sp_why (f (sp_f f n)) (sp_at f (sp_f f n)) ≠ 0 := of_decide_eq_true h3
    exact h4 h2
  have h2 : ¬ p < sp_f f n := fun q => hw (sp_ok_f p q)
  omega
theorem sp_f_end {f : Nat → Nat} {n : Nat} (ho : sp_ok f n) : sp_f f n = n := by
  have h1 : ¬ sp_f f n < n := fun q => by
    have h3 := fa_first_yes _ n q
    have h4 : sp_why (f (sp_f f n)) (sp_at f (sp_f f n)) ≠ 0 := of_decide_eq_true h3
    exact h4 (ho _ q)
  have := sp_f_le (f := f) (n := n)
  omega
theorem sp_well_ok {f : Nat → Nat} {n : Nat} (h : sp_well f n = true) : sp_ok f n ∧ (sp_at f n).1 ≤ 1 := by
  have h1 : sp_f f n = n ∧ (sp_at f n).1 ≤ 1 := by simpa [sp_well] using h
  refine ⟨?_, h1.2⟩
  have := sp_ok_f (f := f) (n := n)
  rwa [h1.1] at this
/-! words -/
def sp_start (f : Nat → Nat) (p : Nat) : Bool := sp_L (f p) && decide ((sp_at f p).1 ≠ 2)
def sp_wc (f : Nat → Nat) : Nat → Nat
  | 0 => 0
  | p + 1 => if sp_start f p = true then sp_wc f p + 1 else sp_wc f p
def sp_tA (f : Nat → Nat) : Nat → Nat → Nat
  | 0 => fun _ => 0
  | p + 1 => if sp_start f p = true then (fun k => if k = sp_wc f p then p else sp_tA f p k) else sp_tA f p
def sp_tN (f : Nat → Nat) : Nat → Nat → Nat
  | 0 => fun _ => 0
  | p + 1 => if sp_start f p = true then (fun k => if k = sp_wc f p then (sp_at f p).2.2.1 else sp_tN f p k) else sp_tN f p
def sp_tG (f : Nat → Nat) : Nat → Nat → Nat
  | 0 => fun _ => 0
  | p + 1 => if sp_L (f p) = true then (fun k => if k + 1 = sp_wc f (p + 1) then (sp_at f (p + 1)).2.2.2 else sp_tG f p k) else sp_tG f p
theorem sp_wc_le (f : Nat → Nat) : ∀ p, 2 * sp_wc f p ≤ p + 1 ∧ ((sp_at f p).1 ≠ 2 → 2 * sp_wc f p ≤ p)
  | 0 => ⟨by simp [sp_wc], fun _ => by simp [sp_wc]⟩
  | p + 1 => by
    have ⟨h1, h2⟩ := sp_wc_le f p
    by_cases hL : sp_L (f p) = true
    · have e2 : (sp_at f (p + 1)).1 = 2 := by
        show (sp_step (f p) (sp_at f p)).1 = 2
        unfold sp_step
        rw [if_pos hL]
      by_cases h : (sp_at f p).1 = 2
      · have hs : sp_start f p = false := by simp [sp_start, h]
        simp only [sp_wc, hs, e2]
        simp
        omega
      · have hs : sp_start f p = true := by simp [sp_start, h, hL]
        have := h2 h
        simp only [sp_wc, hs, e2]
        simp
        omega
    · have hs : sp_start f p = false := by simp [sp_start, hL]
      simp only [sp_wc, hs]
      simp
      omega
/-- length of the stem of a word that begins at a and has g letters -/
def sp_sl (f : Nat → Nat) (a g : Nat) : Nat :=
  if 6 ≤ g ∧ f (a + g - 3) = 105 ∧ f (a + g - 2) = 110 ∧ f (a + g - 1) = 103 then g - 3
  else if 5 ≤ g ∧ f (a + g - 2) = 101 ∧ f (a + g - 1) = 100 then g - 2
  else if 4 ≤ g ∧ f (a + g - 1) = 115 ∧ f (a + g - 2) ≠ 115 then g - 1
  else g
def sp_lk (f : Nat → Nat) (a s a' s' : Nat) : Bool := decide (s = s' ∧ ∀ i, i < s → f (a + i) = f (a' + i))
/-- the number of the first of n stems that is like word c: stem t is that of word w t -/
def sp_fd (f : Nat → Nat) (A G : Nat → Nat) (n : Nat) (w : Nat → Nat) (c : Nat) : Nat := fa_first (fun t => sp_lk f (A c) (sp_sl f (A c) (G c)) (A (w t)) (sp_sl f (A (w t)) (G (w t)))) n
/-- how many stems the first c words have, and the first word of each -/
def sp_st (f : Nat → Nat) (A G : Nat → Nat) : Nat → Nat × (Nat → Nat)
  | 0 => (0, fun _ => 0)
  | c + 1 => if sp_fd f A G (sp_st f A G c).1 (sp_st f A G c).2 c < (sp_st f A G c).1 then sp_st f A G c else ((sp_st f A G c).1 + 1, fun j => if j = (sp_st f A G c).1 then c else (sp_st f A G c).2 j)
/-- the stem of word c -/
def sp_sn (f : Nat → Nat) (A G : Nat → Nat) (c : Nat) : Nat := sp_fd f A G (sp_st f A G c).1 (sp_st f A G c).2 c
/-! the reading of a text -/
def rd_W (f : Nat → Nat) (n : Nat) : Nat := if sp_well f n = true then sp_wc f n else 0
def rd_S (f : Nat → Nat) (n : Nat) : Nat := if sp_well f n = true then (sp_at f n).2.2.1 else 0
def rd_K (f : Nat → Nat) (n : Nat) : Nat := (sp_st f (sp_tA f n) (sp_tG f n) (rd_W f n)).1
def rd_sw (f : Nat → Nat) (n t : Nat) : Nat := (sp_st f (sp_tA f n) (sp_tG f n) (rd_W f n)).2 t
def rd_sn (f : Nat → Nat) (n k : Nat) : Nat := sp_sn f (sp_tA f n) (sp_tG f n) k
/-- how many words of stem t sentence s has -/
def rd_hv (f : Nat → Nat) (n s t : Nat) : Nat := fb_ct (fun k => decide (sp_tN f n k = s ∧ rd_sn f n k = t)) (rd_W f n)
/-- the first word of sentence s -/
def rd_fw (f : Nat → Nat) (n s : Nat) : Nat := fb_ct (fun k => decide (sp_tN f n k < s)) (rd_W f n)
/-- how many letters stem t has -/
def rd_sl (f : Nat → Nat) (n t : Nat) : Nat := sp_sl f (sp_tA f n (rd_sw f n t)) (sp_tG f n (rd_sw f n t))
