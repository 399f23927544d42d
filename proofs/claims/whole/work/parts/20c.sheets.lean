/-! ===== SHEETS ===== -/
theorem CI.lo11 {f : Nat → Nat} {n ru fe li wi td : Nat} {σ σ' : tzS} (h : CI f n ru fe li wi td σ) (e : ∀ a, a ≠ 0 → (a < 124 ∨ a = 132) → σ'.1 a = σ.1 a) (e0 : ∀ j, j ≠ 11 → σ'.1 0 j = σ.1 0 j) (e2 : σ'.2 = σ.2) : CI f n ru fe li wi td σ' := by
  obtain ⟨hT, hS, c1, c2, c3, c4, c5⟩ := h
  have hS12 := (rd_ok (f := f) hT.1).2.1
  refine ⟨⟨hT.1, by rw [e 1 (by omega) (by omega)]; exact hT.2.1, fun i hi => ⟨(hT.2.2 i hi).1, by rw [e 2 (by omega) (by omega)]; exact (hT.2.2 i hi).2⟩⟩, ?_, ?_, ?_, ?_, ?_, ?_⟩
  · unfold CS at *
    rw [e 132 (by omega) (by omega), e0 10 (by omega)]
    exact hS
  · rw [e0 12 (by omega)]
    exact fun z => ⟨(c1 z).1.cg (e 3 (by omega) (by omega)), (c1 z).2.cg hS12 (fun a _ _ => e a (by omega) (by omega)) e2⟩
  · rw [e0 13 (by omega)]
    exact fun z => (c2 z).cg (fun a _ _ => e a (by omega) (by omega))
  · rw [e0 14 (by omega)]
    exact fun z => (c3 z).cg hS12 (fun a _ _ => e a (by omega) (by omega))
  · rw [e0 15 (by omega)]
    exact fun z => (c4 z).cg (e 81 (by omega) (by omega)) (e 82 (by omega) (by omega))
  · rw [e0 16 (by omega)]
    exact fun z => (c5 z).cg (fun a _ _ => e a (by omega) (by omega))
/-- sheets and finding changed, nothing else -/
def sf (σ σ' : tzS) : Prop := (∀ a, a ≠ 0 → a ≠ 133 → (a < 124 ∨ a = 132 ∨ (133 < a ∧ a < 151)) → σ'.1 a = σ.1 a) ∧ (∀ j, j ≠ 11 → σ'.1 0 j = σ.1 0 j) ∧ (∀ j, j ≠ 36 → σ'.1 133 j = σ.1 133 j) ∧ σ'.2 = σ.2
theorem sf.rf {σ : tzS} : sf σ σ := ⟨fun _ _ _ _ => rfl, fun _ _ => rfl, fun _ _ => rfl, rfl⟩
theorem sf.st {σ σ' : tzS} {k j : Nat} {v : Int32} (h : sf σ σ') (hk : (124 ≤ k ∧ k ≤ 131) ∨ 151 ≤ k) : sf σ (tz_st σ' k j v) := ⟨fun a a0 a1 a2 => by rw [st_ne (by omega)]; exact h.1 a a0 a1 a2, fun i hi => by rw [st_ne (by omega)]; exact h.2.1 i hi, fun i hi => by rw [st_ne (by omega)]; exact h.2.2.1 i hi, h.2.2.2⟩
theorem sf.s0 {σ σ' : tzS} {v : Int32} (h : sf σ σ') : sf σ (tz_st σ' 0 11 v) := ⟨fun a a0 a1 a2 => by rw [st_ne a0]; exact h.1 a a0 a1 a2, fun i hi => by rw [st_nj hi]; exact h.2.1 i hi, fun i hi => by rw [st_ne (by decide)]; exact h.2.2.1 i hi, h.2.2.2⟩
theorem sf.s3 {σ σ' : tzS} {v : Int32} (h : sf σ σ') : sf σ (tz_st σ' 133 36 v) := ⟨fun a a0 a1 a2 => by rw [st_ne a1]; exact h.1 a a0 a1 a2, fun i hi => by rw [st_ne (by decide)]; exact h.2.1 i hi, fun i hi => by rw [st_nj hi]; exact h.2.2.1 i hi, h.2.2.2⟩
theorem MI.sf {f : Nat → Nat} {n ru fe li wi td : Nat} {σ σ' : tzS} (h : MI f n ru fe li wi td σ) (e : sf σ σ') : MI f n ru fe li wi td σ' := by
  unfold MI MT MS at *
  rw [e.2.2.1 0 (by omega), e.2.2.1 3 (by omega), e.1 134 (by omega) (by omega) (by omega), e.1 135 (by omega) (by omega) (by omega)]
  exact h
theorem CI.sf {f : Nat → Nat} {n ru fe li wi td : Nat} {σ σ' : tzS} (h : CI f n ru fe li wi td σ) (e : sf σ σ') : CI f n ru fe li wi td σ' := h.lo11 (fun a a0 a1 => e.1 a a0 (by omega) (by omega)) e.2.1 e.2.2.2
theorem ST.sf {f : Nat → Nat} {n ru fe li wi td : Nat} {fm fm' : Nat → Int32} {sz sz' : Nat → Nat} {it it' : Nat → Nat → Int32} {fd fd' : Int32} {σ σ' : tzS} (h : ST f n ru fe li wi td fm sz it fd σ) (e : sf σ σ') (hc : CH fm' sz' it' fd' σ') (hm : MH fm' sz' it' fd' σ') (hb : HB fm' sz') : INV σ' := ⟨f, n, ru, fe, li, wi, td, fm', sz', it', fd', h.1.sf e, h.2.1.sf e, hc, hm, hb⟩
theorem ST.find {f : Nat → Nat} {n ru fe li wi td : Nat} {fm : Nat → Int32} {sz : Nat → Nat} {it : Nat → Nat → Int32} {fd : Int32} {σ : tzS} (h : ST f n ru fe li wi td fm sz it fd σ) (k : Int32) : INV (tz_st (tz_st σ 0 11 k) 133 36 k) := by
  refine h.sf (fm' := fm) (sz' := sz) (it' := it) (fd' := k) (sf.rf.s0.s3) ⟨fun s hs => ?_, ?_⟩ ⟨fun s hs => ?_, st_eq⟩ h.2.2.2.2
  · rw [st_ne (by omega), st_ne (by omega), st_ne (by omega), st_ne (by omega), st_ne (by omega), st_ne (by omega)]
    exact h.2.2.1.1 s hs
  · rw [st_ne (by decide), st_eq]
  · rw [st_ne (by omega), st_ne (by omega), st_ne (by omega), st_ne (by omega), st_ne (by omega), st_ne (by omega), st_ne (by omega), st_ne (by omega)]
    exact h.2.2.2.1.1 s hs
theorem m_isSheet {x : Int32} {σ : tzS} {Q : Int32 → tzS → Prop} (h1 : un x < 4 → Q 1 σ) (h0 : ¬ un x < 4 → Q 0 σ) : vc_X10_isSheet x σ Q := by
  unfold vc_X10_isSheet
  exact s_inU (lo := 0) (hi := 3) (by omega) (by omega) (fun a b => ⟨Or.inr rfl, h1 (by omega)⟩) (fun a => ⟨Or.inl rfl, h0 (by omega)⟩)
theorem c_noSheet {x : Int32} {σ : tzS} {Q : Int32 → tzS → Prop} (h0 : un x < 4 → Q 0 σ) (h1 : ¬ un x < 4 → Q 1 σ) : vc_X9_noSheet x σ Q := q_lt (S := 4) (by omega) h0 h1
theorem c_noForm {x : Int32} {σ : tzS} {Q : Int32 → tzS → Prop} (h0 : un x ≤ 2 → Q 0 σ) (h1 : ¬ un x ≤ 2 → Q 1 σ) : vc_X9_noForm x σ Q := q_le (S := 2) (by omega) h0 h1
theorem c_isLost {fm : Nat → Int32} {sz : Nat → Nat} {it : Nat → Nat → Int32} {fd : Int32} {s : Nat} (hs : s < 4) {σ : tzS} (hc : CH fm sz it fd σ) {Q : Int32 → tzS → Prop} (h0 : ¬ fm s = -1 → Q 0 σ) (h1 : fm s = -1 → Q 1 σ) : vc_X7_isLost (nI s) σ Q := by
  unfold vc_X7_isLost
  rw [cl_nI (by omega), (hc.1 s hs).1]
  exact ⟨in_nI (by omega) (by omega), h0, h1⟩
def fmu {T : Type} (fm : Nat → T) (s : Nat) (v : T) : Nat → T := fun t => if t = s then v else fm t
theorem fmu_e {T : Type} {fm : Nat → T} {s t : Nat} {v : T} (h : t = s) : fmu fm s v t = v := if_pos h
theorem fmu_n {T : Type} {fm : Nat → T} {s t : Nat} {v : T} (h : ¬ t = s) : fmu fm s v t = fm t := if_neg h
/-! lose -/
theorem p_lose {σ : tzS} {x : Int32} (hI : INV σ) {R : Int32 → Int32 → tzS → Prop} (h : ∀ A σ', INV σ' → R A A σ') : vc_X9_lose x σ (fun r σ' => vc_X10_lose x σ' (fun r' σ'' => R r r' σ'')) := by
  have hI' := hI
  obtain ⟨f, n, ru, fe, li, wi, td, fm, sz, it, fd, hS⟩ := hI
  unfold vc_X9_lose
  refine c_noSheet (fun hx => ⟨fun _ => ?_, fun z => absurd rfl z⟩) (fun hx => ⟨fun z => absurd z nz1, fun _ => ?_⟩)
  · have ex := un_at hx (by omega)
    generalize un x = s at *
    subst ex
    have hc := hS.2.2.1.1 s hx
    have hm := hS.2.2.2.1.1 s hx
    have hxs : un (nI s) < 4 := by rw [un_nI (by omega)]; exact hx
    refine c_isLost hx hS.2.2.1 (fun hl => ⟨fun _ => ⟨in_nI (by omega) (by omega), ?_⟩, fun z => absurd rfl z⟩) (fun hl => ⟨fun z => absurd z nz1, fun _ => ?_⟩)
    · rw [cl_nI (by omega)]
      intro σ7 h7
      have e126 : σ7.1 126 s = nI (sz s) := by rw [h7, st_ne (by decide)]; exact hc.2.1
      rw [e126]
      unfold vc_X10_lose
      refine m_isSheet (fun _ => ⟨fun _ => ⟨in_nI (by omega) (by omega), ?_⟩, fun z => absurd z nz1⟩) (fun a => absurd hxs a)
      rw [cl_nI (by omega)]
      have e151 : ¬ σ7.1 151 s = 0 := by rw [h7, st_ne (by decide)]; exact fun w => hl (hm.1.mp w)
      refine ⟨fun _ σ6 h6 => ?_, fun w => absurd w e151⟩
      have e153 : σ6.1 153 s = nI (sz s) := by rw [h6, st_ne (by decide), h7, st_ne (by decide)]; exact hm.2.2.1
      rw [e153]
      refine h _ σ6 (hS.sf (fm' := fmu fm s (-1)) (sz' := sz) (it' := it) (fd' := fd) (h6 ▸ (h7 ▸ sf.rf.st (by omega) : sf σ σ7).st (by omega)) ⟨fun t ht => ?_, ?_⟩ ⟨fun t ht => ?_, ?_⟩ (fun t ht => ?_))
      · rw [h6, st_ne (by decide), st_ne (by decide), st_ne (by omega), h7, st_ne (show 126 ≠ 125 by decide), st_ne (show 128 + t ≠ 125 by omega)]
        obtain ⟨q1, q2, q3⟩ := hS.2.2.1.1 t ht
        refine ⟨?_, q2, q3⟩
        by_cases e : t = s
        · rw [fmu_e e, e, st_eq]
        · rw [fmu_n e, st_nj e]; exact q1
      · rw [h6, st_ne (by decide), h7, st_ne (by decide)]; exact hS.2.2.1.2
      · obtain ⟨q1, q2, q3, q4⟩ := hS.2.2.2.1.1 t ht
        rw [h6, st_ne (show 152 ≠ 151 by decide), st_ne (show 153 ≠ 151 by decide), st_ne (show 154 ≠ 151 by decide), h7, st_ne (show 152 ≠ 125 by decide), st_ne (show 153 ≠ 125 by decide), st_ne (show 154 ≠ 125 by decide)]
        by_cases e : t = s
        · rw [fmu_e e, e, st_eq]
          refine ⟨⟨fun _ => rfl, fun _ => rfl⟩, fun w => absurd rfl w, ?_, ?_⟩
          · rw [← e]; exact q3
          · rw [← e]; exact q4
        · rw [fmu_n e, st_nj e, st_ne (by decide)]
          exact ⟨q1, q2, q3, q4⟩
      · rw [h6, st_ne (by decide), h7, st_ne (by decide)]; exact hS.2.2.2.1.2
      · refine ⟨(hS.2.2.2.2 t ht).1, ?_⟩
        by_cases e : t = s
        · exact Or.inl (fmu_e e)
        · rw [fmu_n e]; exact (hS.2.2.2.2 t ht).2
    · unfold vc_X9_finding
      intro σ1 h1
      unfold vc_X10_lose
      refine m_isSheet (fun _ => ⟨fun _ => ⟨in_nI (by omega) (by omega), ?_⟩, fun z => absurd z nz1⟩) (fun a => absurd hxs a)
      rw [cl_nI (by omega)]
      have e151 : σ1.1 151 s = 0 := by rw [h1, st_ne (by decide)]; exact hm.1.mpr hl
      refine ⟨fun w => absurd e151 w, fun _ => ?_⟩
      unfold vc_X10_meets
      intro σ2 h2
      refine h _ σ2 ?_
      rw [h2, h1]
      exact hS.find 1
  · unfold vc_X10_lose
    exact m_isSheet (fun a => absurd a hx) (fun _ => ⟨fun z => absurd rfl z, fun _ => h _ σ hI'⟩)
/-! put and get -/
def lk4 (fm : Nat → Int32) (sz : Nat → Nat) (s : Nat) (x2 x3 : Int32) : Int32 := if fm s = -1 then 1 else if fm s = x2 then (if un x3 < sz s then 0 else 2) else 3
theorem c_against {fm : Nat → Int32} {sz : Nat → Nat} {it : Nat → Nat → Int32} {fd : Int32} {s : Nat} {x2 x3 : Int32} (hs : s < 4) (hb : HB fm sz) {σ : tzS} (hc : CH fm sz it fd σ) {Q : Int32 → tzS → Prop} (h : Q (lk4 fm sz s x2 x3) σ) : vc_X7_againstItem (nI s) x2 x3 σ Q := by
  have h60 := (hb s hs).1
  unfold vc_X7_againstItem
  unfold lk4 at h
  refine c_isLost hs hc (fun hl => ⟨fun _ => ⟨in_nI (by omega) (by omega), ?_⟩, fun z => absurd rfl z⟩) (fun hl => ⟨fun z => absurd z nz1, fun _ => ?_⟩)
  · rw [if_neg hl] at h
    rw [cl_nI (by omega), (hc.1 s hs).1, (hc.1 s hs).2.1]
    refine ⟨fun z => ?_, fun z => ?_⟩
    · rw [if_pos z] at h
      refine ⟨fun w => ?_, fun w => ⟨fun w2 => ?_, fun w2 => ?_⟩⟩
      · rw [if_neg (by rw [un_neg w]; omega)] at h
        exact h
      · rw [if_pos ((un_lt w (by omega)).mp w2)] at h
        exact h
      · rw [if_neg ((not_congr (un_lt w (by omega))).mp w2)] at h
        exact h
    · rw [if_neg z] at h
      exact h
  · rw [if_pos hl] at h
    exact h
theorem m_lacks {fm : Nat → Int32} {sz : Nat → Nat} {it : Nat → Nat → Int32} {fd : Int32} {s : Nat} {x2 x3 : Int32} (hs : s < 4) (hb : HB fm sz) {σ : tzS} (hm : MH fm sz it fd σ) {Q : Int32 → tzS → Prop} (h : Q (lk4 fm sz s x2 x3) σ) : vc_X10_lacks (nI s) x2 x3 σ Q := by
  have h60 := (hb s hs).1
  obtain ⟨q1, q2, q3, q4⟩ := hm.1 s hs
  unfold vc_X10_lacks
  unfold lk4 at h
  rw [cl_nI (by omega)]
  refine ⟨in_nI (by omega) (by omega), fun z => ?_, fun z => ?_⟩
  · have hl := (not_congr q1).mp z
    rw [if_neg hl] at h
    rw [q2 hl, q3]
    refine ⟨fun w => ?_, fun w => ?_⟩
    · rw [if_pos w] at h
      refine s_inM (lo := 0) (by omega) (by omega) (fun a b => ⟨fun z => absurd z nz1, fun _ => ?_⟩) (fun a => ⟨fun _ => ?_, fun z => absurd rfl z⟩)
      · rw [if_pos b] at h
        exact h
      · rw [if_neg (by omega)] at h
        exact h
    · rw [if_neg w] at h
      exact h
  · rw [if_pos (q1.mp z)] at h
    exact h
def nar (t v : Int32) : Int32 := if t = 0 then v.toInt8.toInt32 else if t = 1 then v.toInt16.toInt32 else v
theorem c_keep {fm : Nat → Int32} {sz : Nat → Nat} {it : Nat → Nat → Int32} {fd : Int32} {s i : Nat} {v : Int32} (hs : s < 4) (hi : i < 60) {σ : tzS} (hc : CH fm sz it fd σ) {Q : tzS → Prop} (h : Q (tz_st σ (128 + s) i (nar (fm s) v))) : vc_X7_keep (nI s) (nI i) v σ Q := by
  unfold vc_X7_keep
  unfold nar at h
  rw [cl_nI (by omega), cl_nI (by omega), (hc.1 s hs).1]
  refine ⟨in_nI (by omega) (by omega), fun z => ⟨fun z2 => ⟨in_nI (by omega) (by omega), ?_⟩, fun z2 => ⟨in_nI (by omega) (by omega), ?_⟩⟩, fun z => ⟨in_nI (by omega) (by omega), ?_⟩⟩
  · rw [if_neg z, if_neg z2] at h
    rintro σ4 rfl
    exact h
  · rw [if_neg z, if_pos z2] at h
    rintro σ4 rfl
    exact h
  · rw [if_pos z] at h
    rintro σ4 rfl
    exact h
theorem m_keep {fm : Nat → Int32} {sz : Nat → Nat} {it : Nat → Nat → Int32} {fd : Int32} {s i : Nat} {v : Int32} (hs : s < 4) (hi : i < 60) {σ : tzS} (hm : MH fm sz it fd σ) (hl : ¬ fm s = -1) {Q : tzS → Prop} (h : Q (tz_st σ 154 (60 * s + i) (nar (fm s) v))) : vc_X10_keep (nI s) (nI i) v σ Q := by
  obtain ⟨q1, q2, q3, q4⟩ := hm.1 s hs
  have m1 : (60 : Int32) * nI s = nI (60 * s) := pk_mul 60 s
  unfold vc_X10_keep
  unfold nar at h
  rw [m1, nI_add, cl_nI (by omega), cl_nI (show 60 * s + i < 100000 by omega), q2 hl]
  refine ⟨in_nI (by omega) (by omega), fun z => ⟨fun z2 => ⟨in_nI (by omega) (by omega), ?_⟩, fun z2 => ⟨in_nI (by omega) (by omega), ?_⟩⟩, fun z => ⟨in_nI (by omega) (by omega), ?_⟩⟩
  · rw [if_neg z, if_neg z2] at h
    rintro σ4 rfl
    exact h
  · rw [if_neg z, if_pos z2] at h
    rintro σ4 rfl
    exact h
  · rw [if_pos z] at h
    rintro σ4 rfl
    exact h
def itu (it : Nat → Nat → Int32) (s i : Nat) (v : Int32) : Nat → Nat → Int32 := fun t j => if t = s then (if j = i then v else it t j) else it t j
theorem CH.put {fm : Nat → Int32} {sz : Nat → Nat} {it : Nat → Nat → Int32} {fd : Int32} {s i : Nat} {v : Int32} {σ : tzS} (hc : CH fm sz it fd σ) : CH fm sz (itu it s i v) fd (tz_st σ (128 + s) i v) := by
  refine ⟨fun t ht => ?_, by rw [st_ne (by omega)]; exact hc.2⟩
  obtain ⟨q1, q2, q3⟩ := hc.1 t ht
  rw [st_ne (show 125 ≠ 128 + s by omega), st_ne (show 126 ≠ 128 + s by omega)]
  refine ⟨q1, q2, fun j hj => ?_⟩
  unfold itu
  by_cases e : t = s
  · rw [if_pos e, e]
    by_cases e2 : j = i
    · rw [if_pos e2, e2, st_eq]
    · rw [if_neg e2, st_nj e2, ← e]; exact q3 j hj
  · rw [if_neg e, st_ne (by omega)]; exact q3 j hj
theorem MH.put {fm : Nat → Int32} {sz : Nat → Nat} {it : Nat → Nat → Int32} {fd : Int32} {s i : Nat} {v : Int32} (hb : HB fm sz) (hi : i < 60) {σ : tzS} (hm : MH fm sz it fd σ) : MH fm sz (itu it s i v) fd (tz_st σ 154 (60 * s + i) v) := by
  refine ⟨fun t ht => ?_, by rw [st_ne (by decide)]; exact hm.2⟩
  obtain ⟨q1, q2, q3, q4⟩ := hm.1 t ht
  have h60 := (hb t ht).1
  rw [st_ne (show 151 ≠ 154 by decide), st_ne (show 152 ≠ 154 by decide), st_ne (show 153 ≠ 154 by decide)]
  refine ⟨q1, q2, q3, fun j hj => ?_⟩
  unfold itu
  by_cases e : t = s
  · rw [if_pos e, e]
    by_cases e2 : j = i
    · rw [if_pos e2, e2, st_eq]
    · rw [if_neg e2, st_nj (by omega), ← e]; exact q4 j hj
  · rw [if_neg e, st_nj (by omega)]; exact q4 j hj
theorem p_put {σ : tzS} {x1 x2 x3 x4 : Int32} (hI : INV σ) {R : Int32 → Int32 → tzS → Prop} (h : ∀ A σ', INV σ' → R A A σ') : vc_X9_put x1 x2 x3 x4 σ (fun r σ' => vc_X10_put x1 x2 x3 x4 σ' (fun r' σ'' => R r r' σ'')) := by
  have hI' := hI
  obtain ⟨f, n, ru, fe, li, wi, td, fm, sz, it, fd, hS⟩ := hI
  have hb := hS.2.2.2.2
  have bad : ¬ (un x1 < 4 ∧ un x2 ≤ 2) → vc_X10_put x1 x2 x3 x4 σ (fun r' σ'' => R (-2) r' σ'') := fun w => by
    unfold vc_X10_put
    refine m_isSheet (fun a => ⟨fun z => absurd z nz1, fun _ => ?_⟩) (fun _ => ⟨fun _ => h _ σ hI', fun z => absurd rfl z⟩)
    exact s_inU (lo := 0) (hi := 2) (by omega) (by omega) (fun _ b => absurd ⟨a, b⟩ w) (fun _ => ⟨fun z => absurd rfl z, fun _ => h _ σ hI'⟩)
  unfold vc_X9_put
  refine c_noSheet (fun hx => ⟨fun z => absurd rfl z, fun _ => ?_⟩) (fun hx => ⟨fun _ => bad (fun w => hx w.1), fun z => absurd z nz1⟩)
  refine c_noForm (fun hy => ⟨fun _ => ?_, fun z => absurd rfl z⟩) (fun hy => ⟨fun z => absurd z nz1, fun _ => bad (fun w => hy w.2)⟩)
  have ex := un_at hx (by omega)
  have hxx := hx
  generalize un x1 = s at hx ex
  subst ex
  refine c_against hx hb hS.2.2.1 ?_
  have mstart : ∀ (σ' : tzS) (A : Int32), MH fm sz it fd σ' → ((lk4 fm sz s x2 x3 ≤ 0 → vc_X10_keep (nI s) x3 x4 σ' (fun σ_10 => R A 1 σ_10)) ∧ (¬ lk4 fm sz s x2 x3 ≤ 0 → vc_X10_meets (lk4 fm sz s x2 x3) σ' (fun r_12 σ_11 => R A r_12 σ_11))) → vc_X10_put (nI s) x2 x3 x4 σ' (fun r' σ'' => R A r' σ'') := by
    intro σ' A hm hk
    unfold vc_X10_put
    refine m_isSheet (fun a => ⟨fun z => absurd z nz1, fun _ => ?_⟩) (fun a => absurd hxx a)
    refine s_inU (lo := 0) (hi := 2) (by omega) (by omega) (fun _ b => ⟨fun _ => ?_, fun z => absurd z nz1⟩) (fun a => absurd ⟨Nat.zero_le _, hy⟩ a)
    exact m_lacks hx hb hm hk
  refine ⟨fun z => ?_, fun z => ?_⟩
  · have hl : ¬ fm s = -1 ∧ un x3 < sz s := by
      unfold lk4 at z
      by_cases a : fm s = -1
      · rw [if_pos a] at z; exact absurd z nz1
      · rw [if_neg a] at z
        by_cases b : fm s = x2
        · rw [if_pos b] at z
          by_cases c : un x3 < sz s
          · exact ⟨a, c⟩
          · rw [if_neg c] at z; exact absurd z (by decide)
        · rw [if_neg b] at z; exact absurd z (by decide)
    have h60 := (hb s hx).1
    have e3 := un_at (x := x3) (b := 61) (by omega) (by omega)
    have hi : un x3 < 60 := by omega
    have hl4 : lk4 fm sz s x2 x3 ≤ 0 := by rw [z]; decide
    generalize un x3 = i at *
    subst e3
    refine c_keep hx hi hS.2.2.1 ?_
    refine mstart _ 1 (hS.2.2.2.1.cg (fun a _ _ => by rw [st_ne (by omega)]) (by rw [st_ne (by omega)])) ⟨fun _ => ?_, fun w => absurd hl4 w⟩
    refine m_keep hx hi (hS.2.2.2.1.cg (fun a _ _ => by rw [st_ne (by omega)]) (by rw [st_ne (by omega)])) hl.1 ?_
    refine h _ _ (hS.sf (fm' := fm) (sz' := sz) (it' := itu it s i (nar (fm s) x4)) (fd' := fd) ((sf.rf.st (by omega)).st (by omega)) ?_ ?_ hb)
    · exact (hS.2.2.1.put).cg (fun a _ _ => by rw [st_ne (by omega)]) (by rw [st_ne (by decide)])
    · exact MH.put hb hi (hS.2.2.2.1.cg (fun a _ _ => by rw [st_ne (by omega)]) (by rw [st_ne (by omega)]))
  · unfold vc_X9_finding
    intro σ1 h1
    have hl4 : ¬ lk4 fm sz s x2 x3 ≤ 0 := by
      unfold lk4 at z ⊢
      by_cases a : fm s = -1
      · rw [if_pos a]; decide
      · rw [if_neg a] at z ⊢
        by_cases b : fm s = x2
        · rw [if_pos b] at z ⊢
          by_cases c : un x3 < sz s
          · rw [if_pos c] at z; exact absurd rfl z
          · rw [if_neg c]; decide
        · rw [if_neg b]; decide
    refine mstart σ1 _ (hS.2.2.2.1.cg (fun a _ _ => by rw [h1, st_ne (by omega)]) (by rw [h1, st_ne (by decide)])) ⟨fun w => absurd w hl4, fun _ => ?_⟩
    unfold vc_X10_meets
    intro σ2 h2
    refine h _ σ2 ?_
    rw [h2, h1]
    exact hS.find _
