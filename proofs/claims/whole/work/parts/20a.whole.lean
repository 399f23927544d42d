/-! ===== BOTH SIDES ===== -/
def CH (fm : Nat → Int32) (sz : Nat → Nat) (it : Nat → Nat → Int32) (fd : Int32) (σ : tzS) : Prop := (∀ s, s < 4 → σ.1 125 s = fm s ∧ σ.1 126 s = nI (sz s) ∧ ∀ i, i < sz s → σ.1 (128 + s) i = it s i) ∧ σ.1 0 11 = fd
def MH (fm : Nat → Int32) (sz : Nat → Nat) (it : Nat → Nat → Int32) (fd : Int32) (σ : tzS) : Prop := (∀ s, s < 4 → (σ.1 151 s = 0 ↔ fm s = -1) ∧ (¬ fm s = -1 → σ.1 152 s = fm s) ∧ σ.1 153 s = nI (sz s) ∧ ∀ i, i < sz s → σ.1 154 (60 * s + i) = it s i) ∧ σ.1 133 36 = fd
def HB (fm : Nat → Int32) (sz : Nat → Nat) : Prop := ∀ s, s < 4 → sz s ≤ 60 ∧ (fm s = -1 ∨ ∃ k, k ≤ 2 ∧ fm s = nI k)
def ST (f : Nat → Nat) (n ru fe li wi td : Nat) (fm : Nat → Int32) (sz : Nat → Nat) (it : Nat → Nat → Int32) (fd : Int32) (σ : tzS) : Prop := CI f n ru fe li wi td σ ∧ MI f n ru fe li wi td σ ∧ CH fm sz it fd σ ∧ MH fm sz it fd σ ∧ HB fm sz
def INV (σ : tzS) : Prop := ∃ f n ru fe li wi td fm sz it fd, ST f n ru fe li wi td fm sz it fd σ
theorem CI.lo {f : Nat → Nat} {n ru fe li wi td : Nat} {σ σ' : tzS} (h : CI f n ru fe li wi td σ) (e : ∀ a, a < 133 → σ'.1 a = σ.1 a) (e2 : σ'.2 = σ.2) : CI f n ru fe li wi td σ' := by
  obtain ⟨hT, hS, c1, c2, c3, c4, c5⟩ := h
  have hS12 := (rd_ok (f := f) hT.1).2.1
  refine ⟨⟨hT.1, by rw [e 1 (by omega)]; exact hT.2.1, fun i hi => ⟨(hT.2.2 i hi).1, by rw [e 2 (by omega)]; exact (hT.2.2 i hi).2⟩⟩, ?_, ?_, ?_, ?_, ?_, ?_⟩
  · unfold CS at *
    rw [e 132 (by omega), e 0 (by omega)]
    exact hS
  · rw [e 0 (by omega)]
    exact fun z => ⟨(c1 z).1.cg (e 3 (by omega)), (c1 z).2.cg hS12 (fun a _ _ => e a (by omega)) e2⟩
  · rw [e 0 (by omega)]
    exact fun z => (c2 z).cg (fun a _ _ => e a (by omega))
  · rw [e 0 (by omega)]
    exact fun z => (c3 z).cg hS12 (fun a _ _ => e a (by omega))
  · rw [e 0 (by omega)]
    exact fun z => (c4 z).cg (e 81 (by omega)) (e 82 (by omega))
  · rw [e 0 (by omega)]
    exact fun z => (c5 z).cg (fun a _ _ => e a (by omega))
theorem MI.hi {f : Nat → Nat} {n ru fe li wi td : Nat} {σ σ' : tzS} (h : MI f n ru fe li wi td σ) (e : ∀ a, 133 ≤ a → a ≤ 135 → σ'.1 a = σ.1 a) : MI f n ru fe li wi td σ' := by
  unfold MI MT MS at *
  rw [e 133 (by omega) (by omega), e 134 (by omega) (by omega), e 135 (by omega) (by omega)]
  exact h
theorem CH.cg {fm : Nat → Int32} {sz : Nat → Nat} {it : Nat → Nat → Int32} {fd : Int32} {σ σ' : tzS} (h : CH fm sz it fd σ) (e : ∀ a, 125 ≤ a → a ≤ 131 → σ'.1 a = σ.1 a) (e2 : σ'.1 0 11 = σ.1 0 11) : CH fm sz it fd σ' := by
  refine ⟨fun s hs => ?_, by rw [e2]; exact h.2⟩
  rw [e 125 (by omega) (by omega), e 126 (by omega) (by omega), e (128 + s) (by omega) (by omega)]
  exact h.1 s hs
theorem MH.cg {fm : Nat → Int32} {sz : Nat → Nat} {it : Nat → Nat → Int32} {fd : Int32} {σ σ' : tzS} (h : MH fm sz it fd σ) (e : ∀ a, 151 ≤ a → a ≤ 154 → σ'.1 a = σ.1 a) (e2 : σ'.1 133 36 = σ.1 133 36) : MH fm sz it fd σ' := by
  unfold MH at *
  rw [e 151 (by omega) (by omega), e 152 (by omega) (by omega), e 153 (by omega) (by omega), e 154 (by omega) (by omega), e2]
  exact h
theorem ST.qf {f : Nat → Nat} {n ru fe li wi td : Nat} {fm : Nat → Int32} {sz : Nat → Nat} {it : Nat → Nat → Int32} {fd : Int32} {σ σ' : tzS} (h : ST f n ru fe li wi td fm sz it fd σ) (hC : CI f n ru fe li wi td σ') (hq : qf σ σ') : ST f n ru fe li wi td fm sz it fd σ' := by
  obtain ⟨_, h2, h3, h4, h5⟩ := h
  exact ⟨hC, h2.hi (fun a _ _ => hq.1 a (by omega)), h3.cg (fun a _ _ => hq.1 a (by omega)) (hq.2.1 11 (by omega)), h4.cg (fun a _ _ => hq.1 a (by omega)) (by rw [hq.1 133 (by omega)]), h5⟩
theorem ST.mo {f : Nat → Nat} {n ru fe li wi td : Nat} {fm : Nat → Int32} {sz : Nat → Nat} {it : Nat → Nat → Int32} {fd : Int32} {σ σ' : tzS} (h : ST f n ru fe li wi td fm sz it fd σ) (hq : mo σ σ') : ST f n ru fe li wi td fm sz it fd σ' := by
  obtain ⟨h1, h2, h3, h4, h5⟩ := h
  exact ⟨h1.lo (fun a ha => hq.1 a (by omega)) hq.2.2, h2.mo hq, h3.cg (fun a _ _ => hq.1 a (by omega)) (by rw [hq.1 0 (by omega)]), h4.cg (fun a _ _ => hq.1 a (by omega)) (hq.2.1 36 (by omega)), h5⟩
/-- a question asked of both -/
theorem pair {T : Type} {f : Nat → Nat} {n ru fe li wi td : Nat} {fm : Nat → Int32} {sz : Nat → Nat} {it : Nat → Nat → Int32} {fd : Int32} {σ : tzS} (hS : ST f n ru fe li wi td fm sz it fd σ) {V9 V10 : tzS → (T → tzS → Prop) → Prop} {A : T} (c : ∀ Q : T → tzS → Prop, (∀ σ', CI f n ru fe li wi td σ' → qf σ σ' → Q A σ') → V9 σ Q) (m : ∀ σ', ST f n ru fe li wi td fm sz it fd σ' → ∀ Q : T → tzS → Prop, (∀ σ'', MI f n ru fe li wi td σ'' → mo σ' σ'' → Q A σ'') → V10 σ' Q) {R : T → T → tzS → Prop} (h : ∀ σ', INV σ' → R A A σ') : V9 σ (fun r σ' => V10 σ' (fun r' σ'' => R r r' σ'')) :=
  c _ (fun σ' hC hq => m σ' (hS.qf hC hq) _ (fun σ'' _ hm => h σ'' ⟨f, n, ru, fe, li, wi, td, fm, sz, it, fd, (hS.qf hC hq).mo hm⟩))
theorem p_fault {σ : tzS} {x : Int32} (hI : INV σ) {R : Int32 → Int32 → tzS → Prop} (h : ∀ A σ', INV σ' → R A A σ') : vc_X9_fault x σ (fun r σ' => vc_X10_fault x σ' (fun r' σ'' => R r r' σ'')) := by
  obtain ⟨f, n, ru, fe, li, wi, td, fm, sz, it, fd, hS⟩ := hI
  exact pair hS (V9 := fun s Q => vc_X9_fault x s Q) (V10 := fun s Q => vc_X10_fault x s Q) (fun Q k => c_fault hS.1 k) (fun σ' hS' Q k => m_fault hS'.2.1 k) (fun σ' i => h _ σ' i)
theorem p_sentence {σ : tzS} {x y : Int32} (hI : INV σ) {R : Int32 → Int32 → tzS → Prop} (h : ∀ A σ', INV σ' → R A A σ') : vc_X9_sentence x y σ (fun r σ' => vc_X10_sentence x y σ' (fun r' σ'' => R r r' σ'')) := by
  obtain ⟨f, n, ru, fe, li, wi, td, fm, sz, it, fd, hS⟩ := hI
  exact pair hS (V9 := fun s Q => vc_X9_sentence x y s Q) (V10 := fun s Q => vc_X10_sentence x y s Q) (fun Q k => c_sentence hS.1 k) (fun σ' hS' Q k => m_sentence hS'.2.1 k) (fun σ' i => h _ σ' i)
theorem p_word {σ : tzS} {x y : Int32} (hI : INV σ) {R : Int32 → Int32 → tzS → Prop} (h : ∀ A σ', INV σ' → R A A σ') : vc_X9_word x y σ (fun r σ' => vc_X10_word x y σ' (fun r' σ'' => R r r' σ'')) := by
  obtain ⟨f, n, ru, fe, li, wi, td, fm, sz, it, fd, hS⟩ := hI
  exact pair hS (V9 := fun s Q => vc_X9_word x y s Q) (V10 := fun s Q => vc_X10_word x y s Q) (fun Q k => c_word hS.1 k) (fun σ' hS' Q k => m_word hS'.2.1 k) (fun σ' i => h _ σ' i)
theorem p_stem {σ : tzS} {x y : Int32} (hI : INV σ) {R : Int32 → Int32 → tzS → Prop} (h : ∀ A σ', INV σ' → R A A σ') : vc_X9_stem x y σ (fun r σ' => vc_X10_stem x y σ' (fun r' σ'' => R r r' σ'')) := by
  obtain ⟨f, n, ru, fe, li, wi, td, fm, sz, it, fd, hS⟩ := hI
  exact pair hS (V9 := fun s Q => vc_X9_stem x y s Q) (V10 := fun s Q => vc_X10_stem x y s Q) (fun Q k => c_stem hS.1 k) (fun σ' hS' Q k => m_stem hS'.2.1 k) (fun σ' i => h _ σ' i)
theorem p_letter {σ : tzS} {x y : Int32} (hI : INV σ) {R : Int32 → Int32 → tzS → Prop} (h : ∀ A σ', INV σ' → R A A σ') : vc_X9_letter x y σ (fun r σ' => vc_X10_letter x y σ' (fun r' σ'' => R r r' σ'')) := by
  obtain ⟨f, n, ru, fe, li, wi, td, fm, sz, it, fd, hS⟩ := hI
  exact pair hS (V9 := fun s Q => vc_X9_letter x y s Q) (V10 := fun s Q => vc_X10_letter x y s Q) (fun Q k => c_letter hS.1 k) (fun σ' hS' Q k => m_letter hS'.2.1 k) (fun σ' i => h _ σ' i)
theorem p_chains {σ : tzS} (hI : INV σ) {R : Int32 → Int32 → tzS → Prop} (h : ∀ A σ', INV σ' → R A A σ') : vc_X9_chains σ (fun r σ' => vc_X10_chains σ' (fun r' σ'' => R r r' σ'')) := by
  obtain ⟨f, n, ru, fe, li, wi, td, fm, sz, it, fd, hS⟩ := hI
  exact pair hS (V9 := fun s Q => vc_X9_chains s Q) (V10 := fun s Q => vc_X10_chains s Q) (fun Q k => c_chains hS.1 k) (fun σ' hS' Q k => m_chainsOf hS'.2.1 k) (fun σ' i => h _ σ' i)
theorem p_chain {σ : tzS} {x y : Int32} (hI : INV σ) {R : Int32 → Int32 → tzS → Prop} (h : ∀ A σ', INV σ' → R A A σ') : vc_X9_chain x y σ (fun r σ' => vc_X10_chain x y σ' (fun r' σ'' => R r r' σ'')) := by
  obtain ⟨f, n, ru, fe, li, wi, td, fm, sz, it, fd, hS⟩ := hI
  exact pair hS (V9 := fun s Q => vc_X9_chain x y s Q) (V10 := fun s Q => vc_X10_chain x y s Q) (fun Q k => c_chain hS.1 k) (fun σ' hS' Q k => m_chain hS'.2.1 k) (fun σ' i => h _ σ' i)
theorem p_over {σ : tzS} {x y : Int32} (hI : INV σ) {R : Int32 → Int32 → tzS → Prop} (h : ∀ A σ', INV σ' → R A A σ') : vc_X9_over x y σ (fun r σ' => vc_X10_over x y σ' (fun r' σ'' => R r r' σ'')) := by
  obtain ⟨f, n, ru, fe, li, wi, td, fm, sz, it, fd, hS⟩ := hI
  exact pair hS (V9 := fun s Q => vc_X9_over x y s Q) (V10 := fun s Q => vc_X10_over x y s Q) (fun Q k => c_over hS.1 k) (fun σ' hS' Q k => m_over hS'.2.1 k) (fun σ' i => h _ σ' i)
theorem p_cost {σ : tzS} {x y : Int32} (hI : INV σ) {R : Int32 → Int32 → tzS → Prop} (h : ∀ A σ', INV σ' → R A A σ') : vc_X9_cost x y σ (fun r σ' => vc_X10_cost x y σ' (fun r' σ'' => R r r' σ'')) := by
  obtain ⟨f, n, ru, fe, li, wi, td, fm, sz, it, fd, hS⟩ := hI
  exact pair hS (V9 := fun s Q => vc_X9_cost x y s Q) (V10 := fun s Q => vc_X10_cost x y s Q) (fun Q k => c_cost hS.1 (fun s a _ c => k s a c)) (fun σ' hS' Q k => m_costOf hS'.2.1 (fun s a _ _ c => k s a c)) (fun σ' i => h _ σ' i)
theorem p_best {σ : tzS} {x : Int32} (hI : INV σ) {R : Int32 → Int32 → tzS → Prop} (h : ∀ A σ', INV σ' → R A A σ') : vc_X9_best x σ (fun r σ' => vc_X10_best x σ' (fun r' σ'' => R r r' σ'')) := by
  obtain ⟨f, n, ru, fe, li, wi, td, fm, sz, it, fd, hS⟩ := hI
  exact pair hS (V9 := fun s Q => vc_X9_best x s Q) (V10 := fun s Q => vc_X10_best x s Q) (fun Q k => c_best hS.1 k) (fun σ' hS' Q k => m_best hS'.2.1 k) (fun σ' i => h _ σ' i)
theorem p_seam {σ : tzS} {x y : Int32} (hI : INV σ) {R : Int32 → Int32 → tzS → Prop} (h : ∀ A σ', INV σ' → R A A σ') : vc_X9_seam x y σ (fun r σ' => vc_X10_seam x y σ' (fun r' σ'' => R r r' σ'')) := by
  obtain ⟨f, n, ru, fe, li, wi, td, fm, sz, it, fd, hS⟩ := hI
  exact pair hS (V9 := fun s Q => vc_X9_seam x y s Q) (V10 := fun s Q => vc_X10_seam x y s Q) (fun Q k => c_seam hS.1 k) (fun σ' hS' Q k => m_seam hS'.2.1 k) (fun σ' i => h _ σ' i)
theorem p_bent {σ : tzS} (hI : INV σ) {R : Int32 → Int32 → tzS → Prop} (h : ∀ A σ', INV σ' → R A A σ') : vc_X9_bent σ (fun r σ' => vc_X10_bent σ' (fun r' σ'' => R r r' σ'')) := by
  obtain ⟨f, n, ru, fe, li, wi, td, fm, sz, it, fd, hS⟩ := hI
  exact pair hS (V9 := fun s Q => vc_X9_bent s Q) (V10 := fun s Q => vc_X10_bent s Q) (fun Q k => c_bent hS.1 k) (fun σ' hS' Q k => m_bentOf hS'.2.1 k) (fun σ' i => h _ σ' i)
theorem p_drop {σ : tzS} {x y : Int32} (hI : INV σ) {R : Int32 → Int32 → tzS → Prop} (h : ∀ A σ', INV σ' → R A A σ') : vc_X9_drop x y σ (fun r σ' => vc_X10_drop x y σ' (fun r' σ'' => R r r' σ'')) := by
  obtain ⟨f, n, ru, fe, li, wi, td, fm, sz, it, fd, hS⟩ := hI
  exact pair hS (V9 := fun s Q => vc_X9_drop x y s Q) (V10 := fun s Q => vc_X10_drop x y s Q) (fun Q k => c_drop hS.1 k) (fun σ' hS' Q k => m_drop hS'.2.1 k) (fun σ' i => h _ σ' i)
theorem p_gap {σ : tzS} {x y : Int32} (hI : INV σ) {R : Int32 → Int32 → tzS → Prop} (h : ∀ A σ', INV σ' → R A A σ') : vc_X9_gap x y σ (fun r σ' => vc_X10_gap x y σ' (fun r' σ'' => R r r' σ'')) := by
  obtain ⟨f, n, ru, fe, li, wi, td, fm, sz, it, fd, hS⟩ := hI
  exact pair hS (V9 := fun s Q => vc_X9_gap x y s Q) (V10 := fun s Q => vc_X10_gap x y s Q) (fun Q k => c_gap hS.1 k) (fun σ' hS' Q k => m_gap hS'.2.1 k) (fun σ' i => h _ σ' i)
theorem p_deep {σ : tzS} {x : Int32} (hI : INV σ) {R : Int32 → Int32 → tzS → Prop} (h : ∀ A σ', INV σ' → R A A σ') : vc_X9_deep x σ (fun r σ' => vc_X10_deep x σ' (fun r' σ'' => R r r' σ'')) := by
  obtain ⟨f, n, ru, fe, li, wi, td, fm, sz, it, fd, hS⟩ := hI
  obtain ⟨A, hA⟩ := SO_ex (rd_dp f n wi) (rd_S f n - 1)
  exact pair hS (V9 := fun s Q => vc_X9_deep x s Q) (V10 := fun s Q => vc_X10_deep x s Q) (fun Q k => c_deep hA hS.1 k) (fun σ' hS' Q k => m_deep hA hS'.2.1 k) (fun σ' i => h _ σ' i)
theorem p_apart {σ : tzS} {x y : Int32} (hI : INV σ) {R : Int32 → Int32 → tzS → Prop} (h : ∀ A σ', INV σ' → R A A σ') : vc_X9_apart x y σ (fun r σ' => vc_X10_apart x y σ' (fun r' σ'' => R r r' σ'')) := by
  obtain ⟨f, n, ru, fe, li, wi, td, fm, sz, it, fd, hS⟩ := hI
  exact pair hS (V9 := fun s Q => vc_X9_apart x y s Q) (V10 := fun s Q => vc_X10_apart x y s Q) (fun Q k => c_apart hS.1 k) (fun σ' hS' Q k => m_apart hS'.2.1 k) (fun σ' i => h _ σ' i)
theorem p_count {σ : tzS} {x : Int32} (hI : INV σ) {R : Int32 → Int32 → tzS → Prop} (h : ∀ A σ', INV σ' → R A A σ') : vc_X9_count x σ (fun r σ' => vc_X10_count x σ' (fun r' σ'' => R r r' σ'')) := by
  obtain ⟨f, n, ru, fe, li, wi, td, fm, sz, it, fd, hS⟩ := hI
  exact pair hS (V9 := fun s Q => vc_X9_count x s Q) (V10 := fun s Q => vc_X10_count x s Q) (fun Q k => c_count hS.1 (fun _ => hS.2.2.1.2) k) (fun σ' hS' Q k => m_count hS'.2.1 (fun _ => hS'.2.2.2.1.2) k) (fun σ' i => h _ σ' i)
/-! typing, wiping, undoing -/
def ff (σ σ' : tzS) : Prop := (∀ a, a ≠ 0 → σ'.1 a = σ.1 a) ∧ (∀ j, j < 12 → σ'.1 0 j = σ.1 0 j) ∧ σ'.2 = σ.2
theorem c_forget {f : Nat → Nat} {n ru fe li wi td : Nat} {σ : tzS} (hT : CT f n σ) (hS : CS ru fe li wi td σ) {Q : tzS → Prop} (h : ∀ σ', CI f n ru fe li wi td σ' → ff σ σ' → Q σ') : vc_X9_forgetText σ Q := by
  unfold vc_X9_forgetText
  intro σ1 h1 σ2 h2 σ3 h3 σ4 h4 σ5 h5
  have hf : ff σ σ5 := ⟨fun a ha => by rw [h5, st_ne ha, h4, st_ne ha, h3, st_ne ha, h2, st_ne ha, h1, st_ne ha], fun j hj => by rw [h5, st_nj (by omega), h4, st_nj (by omega), h3, st_nj (by omega), h2, st_nj (by omega), h1, st_nj (by omega)], by rw [h5, h4, h3, h2, h1]; rfl⟩
  refine h σ5 ⟨⟨hT.1, by rw [hf.1 1 (by omega)]; exact hT.2.1, fun i hi => ⟨(hT.2.2 i hi).1, by rw [hf.1 2 (by omega)]; exact (hT.2.2 i hi).2⟩⟩, ?_, ?_, ?_, ?_, ?_, ?_⟩ hf
  · unfold CS at *
    rw [hf.1 132 (by omega), hf.2.1 10 (by omega)]
    exact hS
  · exact fun z => absurd (by rw [h5, st_nj (by decide), h4, st_nj (by decide), h3, st_nj (by decide), h2, st_nj (by decide), h1, st_eq]) z
  · exact fun z => absurd (by rw [h5, st_nj (by decide), h4, st_nj (by decide), h3, st_nj (by decide), h2, st_eq]) z
  · exact fun z => absurd (by rw [h5, st_nj (by decide), h4, st_nj (by decide), h3, st_eq]) z
  · exact fun z => absurd (by rw [h5, st_nj (by decide), h4, st_eq]) z
  · exact fun z => absurd (by rw [h5, st_eq]) z
def fap (f : Nat → Nat) (n b : Nat) : Nat → Nat := fun i => if i = n then b else f i
theorem s_add {f : Nat → Nat} {n b : Nat} (hb : b < 256) (hn : n < 200) {σ : tzS} (hT : CT f n σ) {Q : tzS → Prop} (h : ∀ σ', CT (fap f n b) (n + 1) σ' → bt 1 2 σ σ' → Q σ') : vc_X8_add (nI b) σ Q := by
  unfold vc_X8_add
  rw [hT.2.1]
  refine ⟨fun z => absurd z (pos_nI (by omega)), fun _ => ⟨fun _ => ⟨in_nI (by omega) (by omega), ?_⟩, fun z => absurd ((lt_nI (b := 200) (by omega) (by omega)).mpr hn) z⟩⟩
  rw [cl_nI (by omega)]
  intro σ3 h3 σ5 h5
  refine h σ5 ⟨by omega, ?_, fun i hi => ?_⟩ (h5 ▸ (h3 ▸ bt.rf.st (by omega) : bt 1 2 σ σ3).st (by omega))
  · rw [h5, st_eq, h3, st_ne (by decide), hT.2.1, nI_1]
  · unfold fap
    by_cases e : i = n
    · rw [if_pos e, h5, st_ne (by decide), h3, e, st_eq]
      exact ⟨hb, rfl⟩
    · rw [if_neg e, h5, st_ne (by decide), h3, st_nj e]
      exact hT.2.2 i (by omega)
def tt (σ σ' : tzS) : Prop := (∀ a, a ≠ 133 → a ≠ 134 → σ'.1 a = σ.1 a) ∧ (∀ j, j ≠ 0 → σ'.1 133 j = σ.1 133 j) ∧ σ'.2 = σ.2
theorem MI.tt {f f' : Nat → Nat} {n n' ru fe li wi td : Nat} {σ σ' : tzS} (h : MI f n ru fe li wi td σ) (hT : MT f' n' σ') (e : tt σ σ') : MI f' n' ru fe li wi td σ' := by
  obtain ⟨_, h2, h3, h4, h5, h6, h7, h8⟩ := h
  refine ⟨hT, ?_, h3, h4, h5, h6, h7, by rw [e.2.1 3 (by omega)]; exact h8⟩
  unfold MS at *
  rw [e.1 135 (by omega) (by omega)]
  exact h2
theorem m_type {f : Nat → Nat} {n ru fe li wi td : Nat} {σ : tzS} {x : Int32} (hM : MI f n ru fe li wi td σ) {Q : Int32 → tzS → Prop} (h1 : un x ≤ 255 → n < 200 → ∀ σ', MI (fap f n (un x)) (n + 1) ru fe li wi td σ' → tt σ σ' → Q (nI (n + 1)) σ') (h2 : ¬ un x ≤ 255 → Q (-2) σ) (h3 : un x ≤ 255 → n = 200 → Q (-4) σ) : vc_X10_type x σ Q := by
  have hT := hM.1
  unfold vc_X10_type
  refine s_inU (lo := 0) (hi := 255) (by omega) (by omega) (fun _ b => ⟨fun _ => ?_, fun z => absurd z nz1⟩) (fun a => ⟨fun z => absurd rfl z, fun _ => h2 (by omega)⟩)
  have hn := hT.1
  have e200 : nI n = 200 ↔ n = 200 := eq_nI (b := 200) (by omega) (by omega)
  rw [hT.2.1]
  refine ⟨fun z => ?_, fun z => h3 b (e200.mp z)⟩
  replace z := (not_congr e200).mp z
  rw [cl_nI (by omega)]
  refine ⟨in_nI (by omega) (by omega), ?_⟩
  intro σ5 h5 σ7 h7
  have ex := un_at (x := x) (b := 256) (by omega) (by omega)
  have et : tt σ σ7 := ⟨fun a a1 a2 => by rw [h7, st_ne a1, h5, st_ne a2], fun j hj => by rw [h7, st_nj hj, h5, st_ne (by decide)], by rw [h7, h5]; rfl⟩
  have e0 : σ7.1 133 0 = nI (n + 1) := by rw [h7, st_eq, h5, st_ne (by decide), hT.2.1, nI_1]
  rw [e0]
  refine h1 b (by omega) σ7 (hM.tt ⟨by omega, e0, fun i hi => ?_⟩ et) et
  unfold fap
  by_cases e : i = n
  · rw [if_pos e, h7, st_ne (by decide), h5, e, st_eq]
    exact ⟨by omega, ex⟩
  · rw [if_neg e, h7, st_ne (by decide), h5, st_nj e]
    exact hT.2.2 i (by omega)
