/-! ===== SHEETS: get, sheet ===== -/
theorem lk4_0 {fm : Nat → Int32} {sz : Nat → Nat} {s : Nat} {x2 x3 : Int32} (z : lk4 fm sz s x2 x3 = 0) : ¬ fm s = -1 ∧ un x3 < sz s := by
  unfold lk4 at z
  by_cases a : fm s = -1
  · rw [if_pos a] at z; exact absurd z nz1
  · rw [if_neg a] at z
    by_cases b : fm s = x2
    · rw [if_pos b] at z
      by_cases c : un x3 < sz s
      · exact ⟨a, c⟩
      · rw [if_neg c] at z; exact absurd z (by decide)
    · rw [if_neg b] at z; exact absurd z (by decide)
theorem lk4_n {fm : Nat → Int32} {sz : Nat → Nat} {s : Nat} {x2 x3 : Int32} (z : ¬ lk4 fm sz s x2 x3 = 0) : ¬ lk4 fm sz s x2 x3 ≤ 0 := by
  unfold lk4 at z ⊢
  by_cases a : fm s = -1
  · rw [if_pos a]; decide
  · rw [if_neg a] at z ⊢
    by_cases b : fm s = x2
    · rw [if_pos b] at z ⊢
      by_cases c : un x3 < sz s
      · rw [if_pos c] at z; exact absurd rfl z
      · rw [if_neg c]; decide
    · rw [if_neg b]; decide
theorem p_get {σ : tzS} {x1 x2 x3 : Int32} (hI : INV σ) {R : Int32 → Int32 → tzS → Prop} (h : ∀ A σ', INV σ' → R A A σ') : vc_X9_get x1 x2 x3 σ (fun r σ' => vc_X10_get x1 x2 x3 σ' (fun r' σ'' => R r r' σ'')) := by
  have hI' := hI
  obtain ⟨f, n, ru, fe, li, wi, td, fm, sz, it, fd, hS⟩ := hI
  have hb := hS.2.2.2.2
  have bad : ¬ (un x1 < 4 ∧ un x2 ≤ 2) → vc_X10_get x1 x2 x3 σ (fun r' σ'' => R (-2147483648) r' σ'') := fun w => by
    unfold vc_X10_get
    refine m_isSheet (fun a => ⟨fun z => absurd z nz1, fun _ => ?_⟩) (fun _ => ⟨fun _ => h _ σ hI', fun z => absurd rfl z⟩)
    exact s_inU (lo := 0) (hi := 2) (by omega) (by omega) (fun _ b => absurd ⟨a, b⟩ w) (fun _ => ⟨fun z => absurd rfl z, fun _ => h _ σ hI'⟩)
  unfold vc_X9_get
  refine c_noSheet (fun hx => ⟨fun z => absurd rfl z, fun _ => ?_⟩) (fun hx => ⟨fun _ => bad (fun w => hx w.1), fun z => absurd z nz1⟩)
  refine c_noForm (fun hy => ⟨fun _ => ?_, fun z => absurd rfl z⟩) (fun hy => ⟨fun z => absurd z nz1, fun _ => bad (fun w => hy w.2)⟩)
  have ex := un_at hx (by omega)
  have hxx := hx
  generalize un x1 = s at hx ex
  subst ex
  refine c_against hx hb hS.2.2.1 ?_
  have mstart : ∀ (σ' : tzS) (A : Int32), MH fm sz it fd σ' → ((lk4 fm sz s x2 x3 ≤ 0 → vp_in ((60 * nI s) + x3) 240 ∧ R A (σ'.1 154 ((60 * nI s) + x3).toNatClampNeg) σ') ∧ (¬ lk4 fm sz s x2 x3 ≤ 0 → ∀ σ_11 : tzS, σ_11 = tz_st σ' 133 36 (lk4 fm sz s x2 x3) → R A (-2147483648) σ_11)) → vc_X10_get (nI s) x2 x3 σ' (fun r' σ'' => R A r' σ'') := by
    intro σ' A hm hk
    unfold vc_X10_get
    refine m_isSheet (fun a => ⟨fun z => absurd z nz1, fun _ => ?_⟩) (fun a => absurd hxx a)
    refine s_inU (lo := 0) (hi := 2) (by omega) (by omega) (fun _ b => ⟨fun _ => ?_, fun z => absurd z nz1⟩) (fun a => absurd ⟨Nat.zero_le _, hy⟩ a)
    exact m_lacks hx hb hm hk
  refine ⟨fun z => ?_, fun z => ?_⟩
  · have hl := lk4_0 z
    have h60 := (hb s hx).1
    have e3 := un_at (x := x3) (b := 61) (by omega) (by omega)
    have hl4 : lk4 fm sz s x2 x3 ≤ 0 := by rw [z]; decide
    have hi : un x3 < sz s := hl.2
    generalize un x3 = i at *
    subst e3
    unfold vc_X7_item
    rw [cl_nI (by omega), cl_nI (by omega), (hS.2.2.1.1 s hx).2.2 i hi]
    refine ⟨in_nI (by omega) (by omega), in_nI (by omega) (by omega), ?_⟩
    refine mstart σ _ hS.2.2.2.1 ⟨fun _ => ?_, fun w => absurd hl4 w⟩
    have m1 : (60 : Int32) * nI s = nI (60 * s) := pk_mul 60 s
    rw [m1, nI_add, cl_nI (by omega), (hS.2.2.2.1.1 s hx).2.2.2 i hi]
    exact ⟨in_nI (by omega) (by omega), h _ σ hI'⟩
  · intro σ1 h1
    refine mstart σ1 _ (hS.2.2.2.1.cg (fun a _ _ => by rw [h1, st_ne (by omega)]) (by rw [h1, st_ne (by decide)])) ⟨fun w => absurd w (lk4_n z), fun _ => ?_⟩
    intro σ2 h2
    refine h _ σ2 ?_
    rw [h2, h1]
    exact hS.find _
theorem p_sheet {σ : tzS} {x1 x2 x3 : Int32} (hI : INV σ) {R : Int32 → Int32 → tzS → Prop} (h : ∀ A σ', INV σ' → R A A σ') : vc_X9_sheet x1 x2 x3 σ (fun r σ' => vc_X10_sheet x1 x2 x3 σ' (fun r' σ'' => R r r' σ'')) := by
  have hI' := hI
  obtain ⟨f, n, ru, fe, li, wi, td, fm, sz, it, fd, hS⟩ := hI
  have hb := hS.2.2.2.2
  have bad : ¬ (un x1 < 4 ∧ un x2 ≤ 2 ∧ x3 ≤ 60) → vc_X10_sheet x1 x2 x3 σ (fun r' σ'' => R (-2) r' σ'') := fun w => by
    unfold vc_X10_sheet
    refine m_isSheet (fun a => ⟨fun z => absurd z nz1, fun _ => ?_⟩) (fun _ => ⟨fun _ => h _ σ hI', fun z => absurd rfl z⟩)
    refine s_inU (lo := 0) (hi := 2) (by omega) (by omega) (fun _ b => ⟨fun z => absurd z nz1, fun _ => ⟨fun c => absurd ⟨a, b, c⟩ w, fun _ => h _ σ hI'⟩⟩) (fun _ => ⟨fun _ => h _ σ hI', fun z => absurd rfl z⟩)
  unfold vc_X9_sheet
  refine c_noSheet (fun hx => ⟨fun z => absurd rfl z, fun _ => ?_⟩) (fun hx => ⟨fun _ => bad (fun w => hx w.1), fun z => absurd z nz1⟩)
  refine c_noForm (fun hy => ⟨fun z => absurd rfl z, fun _ => ?_⟩) (fun hy => ⟨fun _ => bad (fun w => hy w.2.1), fun z => absurd z nz1⟩)
  refine ⟨fun h60 => ?_, fun h60 => bad (fun w => h60 w.2.2)⟩
  have ex := un_at hx (by omega)
  have e2 := un_at (x := x2) (b := 3) (by omega) (by omega)
  have hxx := hx
  generalize un x1 = s at hx ex
  subst ex
  refine ⟨fun h0 => ?_, fun h0 => ?_⟩
  · have hn3 : ¬ x3 < 0 := fun w => by
      rw [Int32.lt_iff_toInt_lt] at w
      rw [Int32.le_iff_toInt_le] at h0
      omega
    have hk : un x3 ≤ 60 := (un_le hn3 (b := 60) (by omega)).mp h60
    have e3 := un_at (x := x3) (b := 61) (by omega) (by omega)
    generalize un x3 = k at hk e3
    subst e3
    unfold vc_X7_make
    rw [cl_nI (by omega)]
    refine ⟨in_nI (by omega) (by omega), ?_⟩
    intro σ1 h1 σ3 h3
    have s3 : sf σ σ3 := h3 ▸ (h1 ▸ sf.rf.st (by omega) : sf σ σ1).st (by omega)
    refine for1 0 k (fun i r => (∀ j, j < i → r.1 (128 + s) j = 0) ∧ (∀ a, a ≠ 128 + s → r.1 a = σ3.1 a) ∧ sf σ r) (Nat.zero_le _) ⟨fun j hj => absurd hj (by omega), fun _ _ => rfl, s3⟩ ?_ ?_
    · intro i r ag _ hi hJ hag
      obtain ⟨j1, j2, j3⟩ := hJ
      refine ⟨fun z => absurd ((le_nI (by omega) (by omega)).mp z) (by omega), fun _ => ⟨in_nI (by omega) (by omega), ?_⟩⟩
      rw [cl_nI (by omega), nI_1]
      intro σ9 h9 x hx'
      subst hx'
      refine hag _ ⟨fun j hj => ?_, fun a ha => by rw [h9, st_ne ha]; exact j2 a ha, h9 ▸ j3.st (by omega)⟩
      by_cases e : j = i
      · rw [h9, e, st_eq]
      · rw [h9, st_nj e]; exact j1 j (by omega)
    · intro r ag hJ
      obtain ⟨j1, j2, j3⟩ := hJ
      refine ⟨fun _ => ?_, fun z => absurd ((le_nI (by omega) (by omega)).mpr (Nat.le_refl _)) z⟩
      have r125 : ∀ t, r.1 125 t = fmu (σ.1 125) s x2 t := fun t => by
        rw [j2 125 (by omega), h3, st_ne (by decide), h1, st_g, if_pos rfl]
        rfl
      have r126 : ∀ t, r.1 126 t = fmu (σ.1 126) s (nI k) t := fun t => by
        rw [j2 126 (by omega), h3, st_g, if_pos rfl, h1, st_ne (by decide)]
        rfl
      have r128 : ∀ t, t ≠ s → t < 4 → r.1 (128 + t) = σ.1 (128 + t) := fun t ht ht4 => by
        rw [j2 _ (by omega), h3, st_ne (by omega), h1, st_ne (by omega)]
      have rhi : ∀ a, 132 ≤ a → r.1 a = σ.1 a := fun a ha => by
        rw [j2 _ (by omega), h3, st_ne (by omega), h1, st_ne (by omega)]
      have r0 : r.1 0 = σ.1 0 := by
        rw [j2 _ (by omega), h3, st_ne (by omega), h1, st_ne (by omega)]
      unfold vc_X10_sheet
      refine m_isSheet (fun a => ⟨fun z => absurd z nz1, fun _ => ?_⟩) (fun a => absurd hxx a)
      refine s_inU (lo := 0) (hi := 2) (by omega) (by omega) (fun _ b => ⟨fun z => absurd z nz1, fun _ => ?_⟩) (fun a => absurd ⟨Nat.zero_le _, hy⟩ a)
      refine ⟨fun _ => ⟨fun _ => ?_, fun w => absurd h0 w⟩, fun w => absurd h60 w⟩
      rw [cl_nI (by omega)]
      refine ⟨in_nI (by omega) (by omega), ?_⟩
      intro σ9 h9 σ11 h11 σ12 h12
      have s12 : sf σ σ12 := h12 ▸ (h11 ▸ (h9 ▸ j3.st (by omega) : sf σ σ9).st (by omega) : sf σ σ11).st (by omega)
      have m1 : (60 : Int32) * nI s = nI (60 * s) := pk_mul 60 s
      refine for1 0 60 (fun i q => (∀ j, j < i → q.1 154 (60 * s + j) = 0) ∧ (∀ j, (j < 60 * s ∨ 60 * s + 60 ≤ j) → q.1 154 j = σ12.1 154 j) ∧ (∀ a, a ≠ 154 → q.1 a = σ12.1 a) ∧ sf σ q) (by omega) ⟨fun j hj => absurd hj (by omega), fun _ _ => rfl, fun _ _ => rfl, s12⟩ ?_ ?_
      · intro i q ag2 _ hi hK hag2
        obtain ⟨k1, k2, k3, k4⟩ := hK
        rw [m1, nI_add, cl_nI (by omega), nI_1]
        refine ⟨fun z => absurd ((le_nI (a := 60) (by omega) (by omega)).mp z) (by omega), fun _ => ⟨in_nI (by omega) (by omega), ?_⟩⟩
        intro σ17 h17 x hx'
        subst hx'
        refine hag2 _ ⟨fun j hj => ?_, fun j hj => by rw [h17, st_nj (by omega)]; exact k2 j hj, fun a ha => by rw [h17, st_ne ha]; exact k3 a ha, h17 ▸ k4.st (by omega)⟩
        by_cases e : j = i
        · rw [h17, e, st_eq]
        · rw [h17, st_nj (by omega)]; exact k1 j (by omega)
      · intro q ag2 hK
        obtain ⟨k1, k2, k3, k4⟩ := hK
        refine ⟨fun _ => ?_, fun z => absurd ((le_nI (a := 60) (by omega) (by omega)).mpr (Nat.le_refl _)) z⟩
        have lo : ∀ a, a < 133 → q.1 a = r.1 a := fun a ha => by rw [k3 a (by omega), h12, st_ne (by omega), h11, st_ne (by omega), h9, st_ne (by omega)]
        have c133 : q.1 133 = r.1 133 := by rw [k3 133 (by omega), h12, st_ne (by omega), h11, st_ne (by omega), h9, st_ne (by omega)]
        refine h _ q (hS.sf (fm' := fmu fm s x2) (sz' := fmu sz s k) (it' := fmu it s (fun _ => 0)) (fd' := fd) k4 ⟨fun t ht => ?_, ?_⟩ ⟨fun t ht => ?_, ?_⟩ (fun t ht => ?_))
        · obtain ⟨q1, q2, q3⟩ := hS.2.2.1.1 t ht
          rw [lo 125 (by omega), lo 126 (by omega), lo (128 + t) (by omega), r125 t, r126 t]
          by_cases e : t = s
          · rw [fmu_e e, fmu_e e, fmu_e e, fmu_e e, fmu_e e, e]
            exact ⟨rfl, rfl, fun i hi => j1 i hi⟩
          · rw [fmu_n e, fmu_n e, fmu_n e, fmu_n e, fmu_n e, r128 t e ht]
            exact ⟨q1, q2, q3⟩
        · rw [lo 0 (by omega), r0]; exact hS.2.2.1.2
        · obtain ⟨q1, q2, q3, q4⟩ := hS.2.2.2.1.1 t ht
          have a151 : q.1 151 t = fmu (σ.1 151) s 1 t := by
            rw [k3 151 (by omega), h12, st_ne (by decide), h11, st_ne (by decide), h9, st_g, if_pos rfl, rhi 151 (by omega)]
            rfl
          have a152 : q.1 152 t = fmu (σ.1 152) s x2 t := by
            rw [k3 152 (by omega), h12, st_ne (by decide), h11, st_g, if_pos rfl, h9, st_ne (by decide), rhi 152 (by omega)]
            rfl
          have a153 : q.1 153 t = fmu (σ.1 153) s (nI k) t := by
            rw [k3 153 (by omega), h12, st_g, if_pos rfl, h11, st_ne (by decide), h9, st_ne (by decide), rhi 153 (by omega)]
            rfl
          rw [a151, a152, a153]
          by_cases e : t = s
          · rw [fmu_e e, fmu_e e, fmu_e e, fmu_e e, fmu_e e, fmu_e e, e]
            refine ⟨⟨fun w => absurd w nz1, fun w => ?_⟩, fun _ => rfl, rfl, fun i hi => k1 i (by omega)⟩
            rw [e2] at w
            exact absurd w (ne_m1 (by omega))
          · rw [fmu_n e, fmu_n e, fmu_n e, fmu_n e, fmu_n e, fmu_n e]
            refine ⟨q1, q2, q3, fun i hi => ?_⟩
            have := (hb t ht).1
            rw [k2 (60 * t + i) (by omega), h12, st_ne (by decide), h11, st_ne (by decide), h9, st_ne (by decide), rhi 154 (by omega)]
            exact q4 i hi
        · rw [c133, rhi 133 (by omega)]; exact hS.2.2.2.1.2
        · by_cases e : t = s
          · rw [fmu_e e, fmu_e e]
            exact ⟨hk, Or.inr ⟨un x2, by omega, e2⟩⟩
          · rw [fmu_n e, fmu_n e]
            exact hb t ht
  · unfold vc_X9_finding
    intro σ1 h1
    unfold vc_X10_sheet
    refine m_isSheet (fun a => ⟨fun z => absurd z nz1, fun _ => ?_⟩) (fun a => absurd hxx a)
    refine s_inU (lo := 0) (hi := 2) (by omega) (by omega) (fun _ b => ⟨fun z => absurd z nz1, fun _ => ?_⟩) (fun a => absurd ⟨Nat.zero_le _, hy⟩ a)
    refine ⟨fun _ => ⟨fun w => absurd w h0, fun _ => ?_⟩, fun w => absurd h60 w⟩
    unfold vc_X10_meets
    intro σ2 h2
    refine h _ σ2 ?_
    rw [h2, h1]
    exact hS.find 5
