/-! ===== SHEETS: write ===== -/
def itw (it : Nat → Nat → Int32) (s : Nat) (w : Nat → Int32) (i : Nat) : Nat → Nat → Int32 := fun t j => if t = s ∧ j < i then w j else it t j
theorem itw_0 {it : Nat → Nat → Int32} {s : Nat} {w : Nat → Int32} : itw it s w 0 = it := by
  funext t j
  exact if_neg (by omega)
theorem itw_s {it : Nat → Nat → Int32} {s i : Nat} {w : Nat → Int32} : itu (itw it s w i) s i (w i) = itw it s w (i + 1) := by
  funext t j
  unfold itu itw
  by_cases e : t = s
  · by_cases e2 : j = i
    · rw [if_pos e, if_pos e2, if_pos ⟨e, by omega⟩, e2]
    · rw [if_pos e, if_neg e2]
      by_cases c : t = s ∧ j < i
      · rw [if_pos c, if_pos ⟨e, by omega⟩]
      · rw [if_neg c, if_neg (by omega)]
  · rw [if_neg e, if_neg (fun c => e c.1), if_neg (fun c => e c.1)]
theorem p_write {σ : tzS} {x y : Int32} (hI : INV σ) {R : Int32 → Int32 → tzS → Prop} (h : ∀ A σ', INV σ' → R A A σ') : vc_X9_write x y σ (fun r σ' => vc_X10_write x y σ' (fun r' σ'' => R r r' σ'')) := by
  have hI' := hI
  obtain ⟨f, n, ru, fe, li, wi, td, fm, sz, it, fd, hS⟩ := hI
  have hb := hS.2.2.2.2
  have hn := hS.1.1.1
  have r2 := (rd_ok (f := f) hn).2.1
  have hcb := cst_CB (f := f) (n := n) (ru := ru) (fe := fe) hn hS.1.2.1.2.1
  have bad : ¬ ((1 ≤ un x ∧ un x ≤ 8) ∧ un y < 4) → vc_X10_write x y σ (fun r' σ'' => R (-2) r' σ'') := fun w => by
    unfold vc_X10_write
    refine m_isParts (fun a b => ⟨fun z => absurd z nz1, fun _ => ?_⟩) (fun _ => ⟨fun _ => h _ σ hI', fun z => absurd rfl z⟩)
    exact m_isSheet (fun c => absurd ⟨⟨a, b⟩, c⟩ w) (fun _ => ⟨fun z => absurd rfl z, fun _ => h _ σ hI'⟩)
  unfold vc_X9_write vc_X9_noParts
  refine q_1le (S := 8) (Q := fun r_2 σ_1 => (¬ r_2 = 0 → vc_X10_write x y σ_1 (fun r' σ'' => R (-2) r' σ'')) ∧ (r_2 = 0 → _)) (by omega) (fun h1 h8 => ⟨fun z => absurd rfl z, fun _ => ?_⟩) (fun hx => ⟨fun _ => bad (fun w => hx w.1), fun z => absurd z nz1⟩)
  refine c_noSheet (fun hy => ⟨fun _ => ?_, fun z => absurd rfl z⟩) (fun hy => ⟨fun z => absurd z nz1, fun _ => bad (fun w => hy w.2)⟩)
  have ex := un_at (x := x) (b := 9) (by omega) (by omega)
  have ey := un_at hy (by omega)
  have hyy := hy
  have hx1 := h1
  have hx8 := h8
  generalize un x = k at h1 h8 ex
  generalize un y = s at hy ey
  subst ex
  subst ey
  have hs60 := (hb s hy).1
  -- how the reference begins
  have mstart : ∀ (σ' : tzS) (A : Int32), ((¬ σ'.1 151 s = 0 → vc_X10_partsTold σ' (fun (σ_9 : tzS) => tz_loop1 (fun (x3_12 : Int32) (σ_11 : tzS) (ag_10 : Int32 → tzS → Prop) => vc_X10_totalNow (nI k) σ_11 (fun (r_14 : Int32) (σ_13 : tzS) => (r_14 = (-1) → R A x3_12 σ_13) ∧ (¬ r_14 = (-1) → ((σ_13.1 153 s) ≤ x3_12 → R A x3_12 σ_13) ∧ (¬ (σ_13.1 153 s) ≤ x3_12 → ((nI k) ≤ x3_12 → R A x3_12 σ_13) ∧ (¬ (nI k) ≤ x3_12 → vc_X10_seamNow (nI k) x3_12 σ_13 (fun (r_19 : Int32) (σ_18 : tzS) => vc_X10_keep (nI s) x3_12 r_19 σ_18 (fun (σ_20 : tzS) => ∀ x3_21 : Int32, x3_21 = x3_12 + 1 → ag_10 x3_21 σ_20))))))) (0 : Int32) σ_9)) ∧ (σ'.1 151 s = 0 → vc_X10_meets 1 σ' (fun r_23 σ_22 => R A r_23 σ_22))) → vc_X10_write (nI k) (nI s) σ' (fun r' σ'' => R A r' σ'') := by
    intro σ' A hk
    unfold vc_X10_write
    refine m_isParts (fun a b => ⟨fun z => absurd z nz1, fun _ => ?_⟩) (fun a => absurd ⟨hx1, hx8⟩ a)
    refine m_isSheet (fun c => ⟨fun _ => ⟨in_nI (by omega) (by omega), ?_⟩, fun z => absurd z nz1⟩) (fun c => absurd hyy c)
    rw [cl_nI (by omega)]
    exact hk
  refine c_isLost hy hS.2.2.1 (fun hl => ⟨fun _ => ?_, fun z => absurd rfl z⟩) (fun hl => ⟨fun z => absurd z nz1, fun _ => ?_⟩)
  · refine c_read hS.1 (fun σ1 hC1 hF hR _ hq => ?_)
    have hS1 := hS.qf hC1 hq
    rw [hR.1]
    refine ⟨fun z => ?_, fun z => ?_⟩
    · replace z := (le_nI (by omega) (by omega)).mp z
      refine c_part hC1 hR (fun σ2 hC2 hR2 hP hq2 => ?_)
      have hS2 := hS1.qf hC2 hq2
      rw [cl_nI (by omega), (hS2.2.2.1.1 s hy).2.1, mn_nI (by omega) (by omega)]
      refine ⟨in_nI (by omega) (by omega), ?_⟩
      rintro x3 rfl
      generalize hW : (fun j => nar (fm s) (nI (bg (cst f n ru fe) j k (rd_S f n)))) = W at *
      refine for1 0 (min (sz s) k) (fun i r => CH fm sz (itw it s W i) fd r ∧ (∀ a, a ≠ 128 + s → r.1 a = σ2.1 a) ∧ r.2 = σ2.2) (Nat.zero_le _) ⟨by rw [itw_0]; exact hS2.2.2.1, fun _ _ => rfl, rfl⟩ ?_ ?_
      · intro i r ag _ hi hJ hag
        obtain ⟨j1, j2, j3⟩ := hJ
        refine ⟨fun z => absurd ((le_nI (by omega) (by omega)).mp z) (by omega), fun _ => ?_⟩
        have e40 : r.1 4 0 = nI (rd_S f n) := by rw [j2 4 (by omega)]; exact hR2.1
        rw [e40]
        refine s_beginOf hcb h8 (by omega) z (Nat.le_refl _) (fun k' j' a1 a2 a3 a4 => ?_) ?_
        · rw [j2 _ (by omega), j2 _ (by omega)]
          exact hP.2 k' j' a1 a2 a3 a4
        refine c_keep hy (by omega) j1 ?_
        rintro x4 rfl
        rw [nI_1]
        refine hag _ ⟨?_, fun a ha => by rw [st_ne ha]; exact j2 a ha, j3⟩
        have := j1.put (s := s) (i := i) (v := W i)
        rw [itw_s] at this
        rw [← hW] at this ⊢
        exact this
      · intro r ag hJ
        obtain ⟨j1, j2, j3⟩ := hJ
        refine ⟨fun _ => ?_, fun z => absurd ((le_nI (by omega) (by omega)).mpr (Nat.le_refl _)) z⟩
        have hmr : MH fm sz it fd r := hS2.2.2.2.1.cg (fun a _ _ => j2 a (by omega)) (by rw [j2 133 (by omega)])
        have hMr : MI f n ru fe li wi td r := hS2.2.1.hi (fun a _ _ => j2 a (by omega))
        have hCr : CI f n ru fe li wi td r := hC2.lo11 (fun a _ _ => j2 a (by omega)) (fun j _ => by rw [j2 0 (by omega)]) j3
        refine mstart r _ ⟨fun _ => ?_, fun w => absurd ((hmr.1 s hy).1.mp w) hl⟩
        refine m_partsTold hMr (fun σ9 hM9 hP9 _ hk9 => ?_)
        have hm9 : MH fm sz it fd σ9 := hmr.cg (fun a _ _ => hk9.1 a (by omega)) (hk9.2.1 36 (by omega))
        refine for1w 0 (min (sz s) k) (fun i p => MH fm sz (itw it s W i) fd p ∧ (∀ a, a ≠ 154 → p.1 a = σ9.1 a) ∧ p.2 = σ9.2) (Nat.zero_le _) ⟨by rw [itw_0]; exact hm9, fun _ _ => rfl, rfl⟩ ?_
        intro i p ag2 _ hi hK hag2
        obtain ⟨k1, k2, k3⟩ := hK
        have hPp : PM (cst f n ru fe) (rd_S f n) p := by
          unfold PM at *
          rw [k2 133 (by omega), k2 149 (by omega), k2 150 (by omega)]
          exact hP9
        refine s_totalNow r2 h8 hPp ?_
        rw [tmT_v h1 z]
        have bd := pt_bd8 hcb h1 h8 z
        have fin : min (sz s) k = i → R (nI (min (sz s) k)) (nI i) p := by
          intro e
          rw [e]
          refine h _ p ⟨f, n, ru, fe, li, wi, td, fm, sz, itw it s W i, fd, ?_, ?_, ?_, k1, hb⟩
          · exact hCr.lo (fun a ha => by rw [k2 a (by omega), hk9.1 a (by omega)]) (by rw [k3, hk9.2.2])
          · exact hM9.hi (fun a _ _ => k2 a (by omega))
          · rw [← e]
            exact j1.cg (fun a _ _ => by rw [k2 a (by omega), hk9.1 a (by omega)]) (by rw [k2 0 (by omega), hk9.1 0 (by omega)])
        refine ⟨fun w => absurd w (ne_m1 (by omega)), fun _ => ?_⟩
        rw [(k1.1 s hy).2.2.1]
        refine ⟨fun w => fin (by have := (le_nI (by omega) (by omega)).mp w; omega), fun w => ⟨fun w2 => fin (by have := (le_nI (by omega) (by omega)).mp w2; omega), fun w2 => ?_⟩⟩
        replace w := (not_congr (le_nI (by omega) (by omega))).mp w
        replace w2 := (not_congr (le_nI (by omega) (by omega))).mp w2
        refine s_seamNow hcb h8 (by omega) z hPp ?_
        refine m_keep hy (by omega) k1 hl ?_
        rintro x4 rfl
        rw [nI_1]
        refine hag2 (by omega) _ ⟨?_, fun a ha => by rw [st_ne ha]; exact k2 a ha, k3⟩
        have := MH.put (s := s) (i := i) (v := W i) hb (by omega) k1
        rw [itw_s] at this
        rw [← hW] at this ⊢
        exact this
    · replace z := (not_congr (le_nI (by omega) (by omega))).mp z
      refine mstart σ1 _ ⟨fun _ => ?_, fun w => absurd ((hS1.2.2.2.1.1 s hy).1.mp w) hl⟩
      refine m_partsTold hS1.2.1 (fun σ9 hM9 hP9 _ hk9 => ?_)
      refine for1w 0 0 (fun i p => p = σ9) (Nat.zero_le _) rfl ?_
      intro i p ag2 _ hi hK hag2
      subst hK
      have : i = 0 := by omega
      subst this
      refine s_totalNow r2 h8 hP9 ?_
      rw [tmT_n h1 z]
      exact ⟨fun _ => h _ p ⟨f, n, ru, fe, li, wi, td, fm, sz, it, fd, hS1.mo hk9⟩, fun w => absurd rfl w⟩
  · unfold vc_X9_finding
    intro σ1 h1'
    have hm1 : MH fm sz it fd σ1 := hS.2.2.2.1.cg (fun a _ _ => by rw [h1', st_ne (by omega)]) (by rw [h1', st_ne (by decide)])
    refine mstart σ1 _ ⟨fun w => absurd ((hm1.1 s hy).1.mpr hl) w, fun _ => ?_⟩
    unfold vc_X10_meets
    intro σ2 h2
    refine h _ σ2 ?_
    rw [h2, h1']
    exact hS.find 1
