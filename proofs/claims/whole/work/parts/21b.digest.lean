/-! ===== DIGEST, THE REST ===== -/
theorem cs_par {f : Nat → Nat} {n ru fe li wi td : Nat} {σ0 σ : tzS} {d : Int64} {k : Nat} (hC : CR f n ru fe li wi td σ0 σ) {Q : Int64 → tzS → Prop} (h : ∀ σ', CR f n ru fe li wi td σ0 σ' → Q (dg_par f n ru fe td k d) σ') : vc_X9_mixParting d (nI k) σ Q := by
  unfold vc_X9_mixParting
  refine c_best hC.1 (fun r0 k0 q0 => ?_)
  have h0 := hC.q k0 q0
  rintro _ rfl
  refine for2b 0 8 (fun i e r => e = fo (fun j e => mx e (a_seam f n ru fe (nI k) (nI j))) (mx d (a_best f n ru fe (nI k))) i ∧ CR f n ru fe li wi td σ0 r) (by omega) ⟨rfl, h0⟩ ?_ ?_
  · intro i e r ag _ hi hI hag
    obtain ⟨e1, hr⟩ := hI
    refine ⟨fun z => absurd ((le_nI (a := 8) (by omega) (by omega)).mp z) (by omega), fun _ => ?_⟩
    refine c_seam hr.1 (fun σ' hC' hq' => ?_)
    rintro x4 rfl x6 rfl
    rw [nI_1, e1]
    exact hag _ _ ⟨rfl, hr.q hC' hq'⟩
  · intro e r ag hI
    obtain ⟨e1, hr⟩ := hI
    refine ⟨fun _ => ?_, fun z => absurd ((le_nI (a := 8) (by omega) (by omega)).mpr (by omega)) z⟩
    subst e1
    refine c_drop hr.1 (fun r1 k1 q1 => ?_)
    replace hr := hr.q k1 q1
    rintro _ rfl
    refine c_drop hr.1 (fun r1 k1 q1 => ?_)
    replace hr := hr.q k1 q1
    rintro _ rfl
    refine c_apart hr.1 (fun r1 k1 q1 => ?_)
    replace hr := hr.q k1 q1
    rintro _ rfl
    refine c_apart hr.1 (fun r1 k1 q1 => ?_)
    exact h r1 (hr.q k1 q1)
theorem cm_par {f : Nat → Nat} {n ru fe li wi td : Nat} {σ0 σ : tzS} {d : Int64} {k : Nat} (hk1 : 1 ≤ k) (hk8 : k ≤ 8) (hC : MC f n ru fe li wi td σ0 σ) {Q : Int64 → tzS → Prop} (h : ∀ σ', MC f n ru fe li wi td σ0 σ' → Q (dg_par f n ru fe td k d) σ') : vc_X10_partsDigest d (nI k) σ Q := by
  have u : un (nI k) = k := un_nI (by omega)
  have u0 : un (0 : Int32) = 0 := un_nI (k := 0) (by omega)
  have u1 : un (1 : Int32) = 1 := un_nI (k := 1) (by omega)
  have u3 : un (3 : Int32) = 3 := un_nI (k := 3) (by omega)
  unfold vc_X10_partsDigest
  refine m_bestOf (by omega) (by omega) hC.1 (fun r0 k0 q0 => ?_)
  have h0 := hC.q k0 q0
  rintro _ rfl
  refine for2b 0 8 (fun i e r => e = fo (fun j e => mx e (a_seam f n ru fe (nI k) (nI j))) (mx d (a_best f n ru fe (nI k))) i ∧ MC f n ru fe li wi td σ0 r) (by omega) ⟨rfl, h0⟩ ?_ ?_
  · intro i e r ag _ hi hI hag
    obtain ⟨e1, hr⟩ := hI
    refine ⟨fun z => absurd ((le_nI (a := 8) (by omega) (by omega)).mp z) (by omega), fun _ => ?_⟩
    refine m_seamOf (by omega) (by omega) (by rw [un_nI (by omega)]; exact hi) hr.1 (fun σ' hC' hq' => ?_)
    rintro x4 rfl x6 rfl
    rw [nI_1, e1]
    exact hag _ _ ⟨rfl, hr.q hC' hq'⟩
  · intro e r ag hI
    obtain ⟨e1, hr⟩ := hI
    refine ⟨fun _ => ?_, fun z => absurd ((le_nI (a := 8) (by omega) (by omega)).mpr (by omega)) z⟩
    subst e1
    refine m_dropOf (by omega) (by omega) (by omega) hr.1 (fun r1 k1 q1 => ?_)
    replace hr := hr.q k1 q1
    rintro _ rfl
    refine m_dropOf (by omega) (by omega) (by omega) hr.1 (fun r1 k1 q1 => ?_)
    replace hr := hr.q k1 q1
    rintro _ rfl
    refine m_apartOf (by omega) (by omega) (by omega) (by omega) hr.1 (fun r1 k1 q1 => ?_)
    replace hr := hr.q k1 q1
    rintro _ rfl
    refine m_apartOf (by omega) (by omega) (by omega) (by omega) hr.1 (fun r1 k1 q1 => ?_)
    exact h r1 (hr.q k1 q1)
theorem c_count0 {f : Nat → Nat} {n ru fe li wi td : Nat} {σ : tzS} (hC : CI f n ru fe li wi td σ) {Q : Int32 → tzS → Prop} (h : ∀ σ', CR f n ru fe li wi td σ σ' → Q (a_count f n ru fe li td 0 (nI 0)) σ') : vc_X9_count (nI 0) σ Q := by
  unfold vc_X9_count
  refine c_read hC (fun σ1 hC1 hF hR hfl hq => ?_)
  replace h := h σ1 ⟨hC1, hq, hfl⟩
  have e : a_count f n ru fe li td 0 (nI 0) = nI n := if_pos (un_nI (by omega))
  rw [e] at h
  have ne : ∀ b, 0 < b → b < 100000 → nI 0 = nI b → False := fun b h1 h2 w => by
    have := (eq_nI (by omega) h2).mp w
    omega
  refine ⟨fun _ => by rw [hC1.1.2.1]; exact h, fun w => (ne 1 (by omega) (by omega) w).elim, fun w => (ne 2 (by omega) (by omega) w).elim, fun w => (ne 3 (by omega) (by omega) w).elim, fun w => (ne 4 (by omega) (by omega) w).elim, fun w => (ne 5 (by omega) (by omega) w).elim, fun w => (ne 6 (by omega) (by omega) w).elim, fun w => (ne 7 (by omega) (by omega) w).elim, fun w => (ne 8 (by omega) (by omega) w).elim, fun w => absurd rfl w⟩
theorem c_digest {f : Nat → Nat} {n ru fe li wi td : Nat} {A : Nat → Nat} (hA : SO (rd_dp f n wi) (rd_S f n - 1) A) {σ : tzS} (hC : CI f n ru fe li wi td σ) {Q : Int64 → tzS → Prop} (h : ∀ σ', CI f n ru fe li wi td σ' → qf σ σ' → Q (dg f n ru fe li wi td A) σ') : vc_X9_digest σ Q := by
  have hn := hC.1.1
  obtain ⟨r1, r2, r3, -⟩ := rd_ok (f := f) hn
  unfold vc_X9_digest
  refine for2b 0 8 (fun i e r => e = fo (fun j e => mx e (a_count f n ru fe li td 0 (nI j))) 17 i ∧ ((i = 0 ∧ r = σ) ∨ (1 ≤ i ∧ CR f n ru fe li wi td σ r))) (by omega) ⟨rfl, Or.inl ⟨rfl, rfl⟩⟩ ?_ ?_
  · intro i e r ag _ hi hI hag
    obtain ⟨e1, hr⟩ := hI
    refine ⟨fun z => absurd ((lt_nI (a := 7) (by omega) (by omega)).mp z) (by omega), fun _ => ?_⟩
    rcases hr with ⟨i0, hr⟩ | ⟨i1, hr⟩
    · subst i0
      subst hr
      refine c_count0 hC (fun σ' hC' => ?_)
      rintro x4 rfl x6 rfl
      rw [nI_1, e1]
      exact hag _ _ ⟨rfl, Or.inr ⟨by omega, hC'⟩⟩
    · refine c_count (fd := 0) hr.1 (fun w => by rw [un_nI (by omega)] at w; omega) (fun σ' hC' hq' => ?_)
      rintro x4 rfl x6 rfl
      rw [nI_1, e1]
      exact hag _ _ ⟨rfl, Or.inr ⟨by omega, hr.q hC' hq'⟩⟩
  · intro e r ag hI
    obtain ⟨e1, hr⟩ := hI
    refine ⟨fun _ => ?_, fun z => absurd ((lt_nI (a := 7) (by omega) (by omega)).mpr (by omega)) z⟩
    replace hr : CR f n ru fe li wi td σ r := by
      rcases hr with ⟨i0, _⟩ | ⟨_, hr⟩
      · omega
      · exact hr
    subst e1
    -- faults
    refine for2b 0 3 (fun i e r => e = fo (fun j e => mx e (a_fault f n (nI j))) (fo (fun j e => mx e (a_count f n ru fe li td 0 (nI j))) 17 8) i ∧ CR f n ru fe li wi td σ r) (by omega) ⟨rfl, hr⟩ ?_ ?_
    · intro i e r ag _ hi hI hag
      obtain ⟨e1, hr⟩ := hI
      refine ⟨fun z => absurd ((lt_nI (a := 2) (by omega) (by omega)).mp z) (by omega), fun _ => ?_⟩
      refine c_fault hr.1 (fun σ' hC' hq' => ?_)
      rintro x4 rfl x6 rfl
      rw [nI_1, e1]
      exact hag _ _ ⟨rfl, hr.q hC' hq'⟩
    · intro e r ag hI
      obtain ⟨e1, hr⟩ := hI
      refine ⟨fun _ => ?_, fun z => absurd ((lt_nI (a := 2) (by omega) (by omega)).mpr (by omega)) z⟩
      replace e1 : e = dg1 f n ru fe li td := e1
      subst e1
      -- sentences
      refine for2b 0 12 (fun i e r => e = fo (fun s e => dg_sen f n li wi A s e) (dg1 f n ru fe li td) i ∧ CR f n ru fe li wi td σ r) (by omega) ⟨rfl, hr⟩ ?_ ?_
      · intro i e r ag _ hi hI hag
        obtain ⟨e1, hr⟩ := hI
        refine ⟨fun z => absurd ((le_nI (a := 12) (by omega) (by omega)).mp z) (by omega), fun _ => ?_⟩
        refine cs_sen hA hr (fun σ' hr' => ?_)
        rintro x6 rfl
        rw [nI_1, e1]
        exact hag _ _ ⟨rfl, hr'⟩
      · intro e0 r ag hI
        obtain ⟨hE0, hr⟩ := hI
        refine ⟨fun _ => ?_, fun z => absurd ((le_nI (a := 12) (by omega) (by omega)).mpr (by omega)) z⟩
        -- stems
        refine for2b 0 (rd_K f n) (fun i e r => e = fo (fun t e => dg_stm f n t e) e0 i ∧ CR f n ru fe li wi td σ r) (Nat.zero_le _) ⟨rfl, hr⟩ ?_ ?_
        · intro i e r ag _ hi hI hag
          obtain ⟨e1, hr⟩ := hI
          have eK : r.1 4 2 = nI (rd_K f n) := hr.rd.2.2.1
          rw [eK]
          refine ⟨fun z => absurd ((le_nI (by omega) (by omega)).mp z) (by omega), fun _ => ?_⟩
          refine cs_stm hr (fun σ' hr' => ?_)
          rintro x6 rfl
          rw [nI_1, e1]
          exact hag _ _ ⟨rfl, hr'⟩
        · intro eT r ag hI
          obtain ⟨hET, hr⟩ := hI
          have eK : r.1 4 2 = nI (rd_K f n) := hr.rd.2.2.1
          rw [eK]
          refine ⟨fun _ => ?_, fun z => absurd ((le_nI (by omega) (by omega)).mpr (Nat.le_refl _)) z⟩
          -- chains
          refine for2b 0 10 (fun i e r => e = fo (fun i e => dg_chn f n li i e) eT i ∧ CR f n ru fe li wi td σ r) (Nat.zero_le _) ⟨rfl, hr⟩ ?_ ?_
          · intro i e r ag _ hi hI hag
            obtain ⟨e1, hr⟩ := hI
            refine ⟨fun z => absurd ((lt_nI (a := 9) (by omega) (by omega)).mp z) (by omega), fun _ => ?_⟩
            refine for2b 0 5 (fun j e' r => e' = fo (fun j e => mx e (a_chain f n li (nI i) (nI j))) e j ∧ CR f n ru fe li wi td σ r) (Nat.zero_le _) ⟨rfl, hr⟩ ?_ ?_
            · intro j e' r ag2 _ hj hJ hag2
              obtain ⟨e2, hr⟩ := hJ
              refine ⟨fun z => absurd ((lt_nI (a := 4) (by omega) (by omega)).mp z) (by omega), fun _ => ?_⟩
              refine c_chain hr.1 (fun σ' hC' hq' => ?_)
              rintro x4 rfl x6 rfl
              rw [nI_1, e2]
              exact hag2 _ _ ⟨rfl, hr.q hC' hq'⟩
            · intro e' r ag2 hJ
              obtain ⟨e2, hr⟩ := hJ
              refine ⟨fun _ x3 hx3 => ?_, fun z => absurd ((lt_nI (a := 4) (by omega) (by omega)).mpr (by omega)) z⟩
              subst hx3
              rw [nI_1, e2, e1]
              exact hag _ _ ⟨rfl, hr⟩
          · intro eC r ag hI
            obtain ⟨hEC, hr⟩ := hI
            refine ⟨fun _ => ?_, fun z => absurd ((lt_nI (a := 9) (by omega) (by omega)).mpr (by omega)) z⟩
            -- costs
            refine for2b 0 (rd_S f n) (fun i e r => e = fo (fun i e => dg_cst f n ru fe i e) eC i ∧ CR f n ru fe li wi td σ r) (Nat.zero_le _) ⟨rfl, hr⟩ ?_ ?_
            · intro i e r ag _ hi hI hag
              obtain ⟨e1, hr⟩ := hI
              rw [hr.rd.1]
              refine ⟨fun z => absurd ((le_nI (by omega) (by omega)).mp z) (by omega), fun _ => ?_⟩
              refine c_cost hr.1 (fun r' k' hR' q' => ?_)
              replace hr := hr.q k' q'
              rintro x4 rfl
              rw [hR'.1]
              refine c_cost hr.1 (fun r'' k'' _ q'' => ?_)
              rintro x4 rfl x6 rfl
              rw [nI_1, e1]
              exact hag _ _ ⟨rfl, hr.q k'' q''⟩
            · intro eP r ag hI
              obtain ⟨hEP, hr⟩ := hI
              rw [hr.rd.1]
              refine ⟨fun _ => ?_, fun z => absurd ((le_nI (by omega) (by omega)).mpr (Nat.le_refl _)) z⟩
              -- partings
              refine for2b 1 9 (fun i e r => e = fo (fun k e => dg_par f n ru fe td (k + 1) e) eP (i - 1) ∧ CR f n ru fe li wi td σ r) (by omega) ⟨rfl, hr⟩ ?_ ?_
              · intro i e r ag i1 hi hI hag
                obtain ⟨e1, hr⟩ := hI
                refine ⟨fun z => absurd ((lt_nI (a := 8) (by omega) (by omega)).mp z) (by omega), fun _ => ?_⟩
                refine cs_par hr (fun σ' hr' => ?_)
                rintro x6 rfl
                rw [nI_1, e1]
                refine hag _ _ ⟨?_, hr'⟩
                rw [show i + 1 - 1 = (i - 1) + 1 by omega]
                show _ = dg_par f n ru fe td (i - 1 + 1) _
                rw [show i - 1 + 1 = i by omega]
              · intro e r ag hI
                obtain ⟨e1, hr⟩ := hI
                refine ⟨fun _ => ?_, fun z => absurd ((lt_nI (a := 8) (by omega) (by omega)).mpr (by omega)) z⟩
                refine c_bent hr.1 (fun r' k' q' => ?_)
                have hfin : dg f n ru fe li wi td A = mx e (nI (bnt (cst f n ru fe) (rd_S f n) 8)) := by
                  unfold dg dg2
                  rw [← hE0, ← hET, ← hEC, ← hEP, e1]
                replace h := h r' k' (hr.2.1.tr q')
                rw [hfin] at h
                exact h
