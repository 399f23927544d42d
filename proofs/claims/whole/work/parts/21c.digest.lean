/-! ===== DIGEST OF THE REFERENCE ===== -/
theorem m_chainOfS {f : Nat → Nat} {n ru fe li wi td : Nat} {σ : tzS} {x y : Int32} (hx : un x < 100) (hy : un y ≤ 4) (hM : MI f n ru fe li wi td σ) {Q : Int32 → tzS → Prop} (h : ∀ σ', MI f n ru fe li wi td σ' → σ'.1 133 7 = nI (rd_S f n) → mo σ σ' → Q (a_chain f n li x y) σ') : vc_X10_chainOf x y σ Q := by
  have hc50 := rd_ch_le (f := f) (li := li) hM.1.1
  unfold vc_X10_chainOf
  refine s_findsChains hM.1 hM.2.2.2.2.1 hM.2.1.2.2.1 (fun σ1 σ2 hR1 hk1 hR2 hL hk2 => ?_)
  have hmo := hk1.mo.tr hk2.mo
  replace h := h σ2 (hM.mo hmo) hR2.2.2.2.1 hmo
  unfold a_chain at h
  rw [if_pos ⟨hx, hy⟩] at h
  have z := un_npos hx (by omega)
  rw [hL.1]
  refine ⟨fun z3 => ?_, fun z3 => ?_⟩
  · replace z3 := (un_lt z (b := (rd_ch f n li).1) (by omega)).mp z3
    rw [if_pos z3] at h
    have ex := un_at z3 (by omega)
    have e0 : y = 0 ↔ un y = 0 := un_eq (b := 0) (by omega)
    have e1 : y = 1 ↔ un y = 1 := un_eq (b := 1) (by omega)
    have e2 : y = 2 ↔ un y = 2 := un_eq (b := 2) (by omega)
    have e3 : y = 3 ↔ un y = 3 := un_eq (b := 3) (by omega)
    generalize un x = i at *
    subst ex
    obtain ⟨k1, k2, k3, k4⟩ := hL.2 i z3
    have hin : vp_in (nI i) 110 := in_nI (by omega) (by omega)
    unfold vc_X10_weight
    rw [cl_nI (by omega), k1, k2, k3, k4]
    refine ⟨fun y0 => ⟨hin, ?_⟩, fun y1 => ⟨hin, ?_⟩, fun y2 => ⟨hin, ?_⟩, fun y3 => ⟨hin, ?_⟩, fun y0 y1 y2 y3 => ⟨hin, ?_⟩⟩
    · rw [if_pos (e0.mp y0)] at h
      exact h
    · rw [if_neg (by rw [e1.mp y1]; decide), if_pos (e1.mp y1)] at h
      exact h
    · rw [if_neg (by rw [e2.mp y2]; decide), if_neg (by rw [e2.mp y2]; decide), if_pos (e2.mp y2)] at h
      exact h
    · rw [if_neg (by rw [e3.mp y3]; decide), if_neg (by rw [e3.mp y3]; decide), if_neg (by rw [e3.mp y3]; decide), if_pos (e3.mp y3)] at h
      exact h
    · rw [if_neg ((not_congr e0).mp y0), if_neg ((not_congr e1).mp y1), if_neg ((not_congr e2).mp y2), if_neg ((not_congr e3).mp y3)] at h
      exact h
  · replace z3 := (not_congr (un_lt z (b := (rd_ch f n li).1) (by omega))).mp z3
    rw [if_neg z3] at h
    exact h
theorem m_digest {f : Nat → Nat} {n ru fe li wi td : Nat} {A : Nat → Nat} (hA : SO (rd_dp f n wi) (rd_S f n - 1) A) {σ : tzS} (hM : MI f n ru fe li wi td σ) {Q : Int64 → tzS → Prop} (h : ∀ σ', MI f n ru fe li wi td σ' → mo σ σ' → Q (dg f n ru fe li wi td A) σ') : vc_X10_digest σ Q := by
  have hn := hM.1.1
  obtain ⟨r1, r2, r3, -⟩ := rd_ok (f := f) hn
  unfold vc_X10_digest
  refine for2b 0 8 (fun i e r => e = fo (fun j e => mx e (a_count f n ru fe li td 0 (nI j))) 17 i ∧ MC f n ru fe li wi td σ r) (by omega) ⟨rfl, hM, mo.rf⟩ ?_ ?_
  · intro i e r ag _ hi hI hag
    obtain ⟨e1, hr⟩ := hI
    refine ⟨fun z => absurd ((le_nI (a := 8) (by omega) (by omega)).mp z) (by omega), fun _ => ?_⟩
    refine m_count (fd := 0) hr.1 (fun w => by rw [un_nI (by omega)] at w; omega) (fun σ' hC' hq' => ?_)
    rintro x4 rfl x6 rfl
    rw [nI_1, e1]
    exact hag _ _ ⟨rfl, hr.q hC' hq'⟩
  · intro ec r ag hI
    obtain ⟨hEc, hr⟩ := hI
    refine ⟨fun _ => ?_, fun z => absurd ((le_nI (a := 8) (by omega) (by omega)).mpr (by omega)) z⟩
    refine for2b 0 3 (fun i e r => e = fo (fun j e => mx e (a_fault f n (nI j))) ec i ∧ MC f n ru fe li wi td σ r) (by omega) ⟨rfl, hr⟩ ?_ ?_
    · intro i e r ag _ hi hI hag
      obtain ⟨e1, hr⟩ := hI
      refine ⟨fun z => absurd ((le_nI (a := 3) (by omega) (by omega)).mp z) (by omega), fun _ => ?_⟩
      refine m_faultOf (by rw [un_nI (by omega)]; omega) hr.1 (fun σ' hC' hq' => ?_)
      rintro x4 rfl x6 rfl
      rw [nI_1, e1]
      exact hag _ _ ⟨rfl, hr.q hC' hq'⟩
    · intro ef r ag hI
      obtain ⟨hEf, hr⟩ := hI
      refine ⟨fun _ => ?_, fun z => absurd ((le_nI (a := 3) (by omega) (by omega)).mpr (by omega)) z⟩
      refine for2b 0 12 (fun i e r => e = fo (fun s e => dg_sen f n li wi A s e) ef i ∧ MC f n ru fe li wi td σ r) (by omega) ⟨rfl, hr⟩ ?_ ?_
      · intro i e r ag _ hi hI hag
        obtain ⟨e1, hr⟩ := hI
        refine ⟨fun z => absurd ((le_nI (a := 12) (by omega) (by omega)).mp z) (by omega), fun _ => ?_⟩
        refine cm_sen hA hr (fun σ' hr' => ?_)
        rintro x6 rfl
        rw [nI_1, e1]
        exact hag _ _ ⟨rfl, hr'⟩
      · intro e0 r ag hI
        obtain ⟨hE0, hr⟩ := hI
        refine ⟨fun _ => ?_, fun z => absurd ((le_nI (a := 12) (by omega) (by omega)).mpr (by omega)) z⟩
        refine s_reads hr.1.1 (fun σ16 hR16 hk16 => ?_)
        have h16 := hr.q (hr.1.mo hk16.mo) hk16.mo
        have e9 : σ16.1 133 9 = nI (rd_K f n) := hR16.2.2.2.2.2.1
        have e7 : σ16.1 133 7 = nI (rd_S f n) := hR16.2.2.2.1
        refine for2b 0 (rd_K f n) (fun i e r => e = fo (fun t e => dg_stm f n t e) e0 i ∧ r = σ16) (Nat.zero_le _) ⟨rfl, rfl⟩ ?_ ?_
        · intro i e r ag _ hi hI hag
          obtain ⟨e1, hr'⟩ := hI
          subst hr'
          rw [e9]
          refine ⟨fun z => absurd ((le_nI (by omega) (by omega)).mp z) (by omega), fun _ => ?_⟩
          refine cm_stm h16.1.1 hR16 hi ?_
          rintro x6 rfl
          rw [nI_1, e1]
          exact hag _ _ ⟨rfl, rfl⟩
        · intro eT r ag hI
          obtain ⟨hET, hr'⟩ := hI
          subst hr'
          rw [e9]
          refine ⟨fun _ => ?_, fun z => absurd ((le_nI (by omega) (by omega)).mpr (Nat.le_refl _)) z⟩
          refine for2b 0 10 (fun i e r => e = fo (fun i e => dg_chn f n li i e) eT i ∧ MC f n ru fe li wi td σ r ∧ r.1 133 7 = nI (rd_S f n)) (Nat.zero_le _) ⟨rfl, h16, e7⟩ ?_ ?_
          · intro i e r ag _ hi hI hag
            obtain ⟨e1, hr⟩ := hI
            refine ⟨fun z => absurd ((le_nI (a := 10) (by omega) (by omega)).mp z) (by omega), fun _ => ?_⟩
            refine for2b 0 5 (fun j e' r => e' = fo (fun j e => mx e (a_chain f n li (nI i) (nI j))) e j ∧ MC f n ru fe li wi td σ r ∧ r.1 133 7 = nI (rd_S f n)) (Nat.zero_le _) ⟨rfl, hr⟩ ?_ ?_
            · intro j e' r ag2 _ hj hJ hag2
              obtain ⟨e2, hr, _⟩ := hJ
              refine ⟨fun z => absurd ((le_nI (a := 5) (by omega) (by omega)).mp z) (by omega), fun _ => ?_⟩
              refine m_chainOfS (by rw [un_nI (by omega)]; omega) (by rw [un_nI (by omega)]; omega) hr.1 (fun σ' hC' h7' hq' => ?_)
              rintro x4 rfl x6 rfl
              rw [nI_1, e2]
              exact hag2 _ _ ⟨rfl, hr.q hC' hq', h7'⟩
            · intro e' r ag2 hJ
              obtain ⟨e2, hr⟩ := hJ
              refine ⟨fun _ x3 hx3 => ?_, fun z => absurd ((le_nI (a := 5) (by omega) (by omega)).mpr (by omega)) z⟩
              subst hx3
              rw [nI_1, e2, e1]
              exact hag _ _ ⟨rfl, hr⟩
          · intro eC r ag hI
            obtain ⟨hEC, hr⟩ := hI
            refine ⟨fun _ => ?_, fun z => absurd ((le_nI (a := 10) (by omega) (by omega)).mpr (by omega)) z⟩
            refine for2b 0 (rd_S f n) (fun i e r => e = fo (fun i e => dg_cst f n ru fe i e) eC i ∧ MC f n ru fe li wi td σ r ∧ r.1 133 7 = nI (rd_S f n)) (Nat.zero_le _) ⟨rfl, hr⟩ ?_ ?_
            · intro i e r ag _ hi hI hag
              obtain ⟨e1, hr, h7⟩ := hI
              rw [h7]
              refine ⟨fun z => absurd ((le_nI (by omega) (by omega)).mp z) (by omega), fun _ => ?_⟩
              refine m_costOf hr.1 (fun r' k' h7' _ q' => ?_)
              replace hr := hr.q k' q'
              rintro x4 rfl
              rw [h7']
              refine m_costOf hr.1 (fun r'' k'' h7'' _ q'' => ?_)
              rintro x4 rfl x6 rfl
              rw [nI_1, e1]
              exact hag _ _ ⟨rfl, hr.q k'' q'', h7''⟩
            · intro eP r ag hI
              obtain ⟨hEP, hr, h7⟩ := hI
              rw [h7]
              refine ⟨fun _ => ?_, fun z => absurd ((le_nI (by omega) (by omega)).mpr (Nat.le_refl _)) z⟩
              refine for2b 1 9 (fun i e r => e = fo (fun k e => dg_par f n ru fe td (k + 1) e) eP (i - 1) ∧ MC f n ru fe li wi td σ r) (by omega) ⟨rfl, hr⟩ ?_ ?_
              · intro i e r ag i1 hi hI hag
                obtain ⟨e1, hr⟩ := hI
                refine ⟨fun z => absurd ((le_nI (a := 9) (by omega) (by omega)).mp z) (by omega), fun _ => ?_⟩
                refine cm_par i1 (by omega) hr (fun σ' hr' => ?_)
                rintro x6 rfl
                rw [nI_1, e1]
                refine hag _ _ ⟨?_, hr'⟩
                rw [show i + 1 - 1 = (i - 1) + 1 by omega]
                show _ = dg_par f n ru fe td (i - 1 + 1) _
                rw [show i - 1 + 1 = i by omega]
              · intro e r ag hI
                obtain ⟨e1, hr⟩ := hI
                refine ⟨fun _ => ?_, fun z => absurd ((le_nI (a := 9) (by omega) (by omega)).mpr (by omega)) z⟩
                refine m_bentOf hr.1 (fun r' k' q' => ?_)
                have hfin : dg f n ru fe li wi td A = mx e (nI (bnt (cst f n ru fe) (rd_S f n) 8)) := by
                  unfold dg dg2 dg1
                  rw [← hEc, ← hEf, ← hE0, ← hET, ← hEC, ← hEP, e1]
                replace h := h r' k' (hr.2.tr q')
                rw [hfin] at h
                exact h
theorem p_digest {σ : tzS} (hI : INV σ) {R : Int64 → Int64 → tzS → Prop} (h : ∀ A σ', INV σ' → R A A σ') : vc_X9_digest σ (fun r σ' => vc_X10_digest σ' (fun r' σ'' => R r r' σ'')) := by
  obtain ⟨f, n, ru, fe, li, wi, td, fm, sz, it, fd, hS⟩ := hI
  obtain ⟨A, hA⟩ := SO_ex (rd_dp f n wi) (rd_S f n - 1)
  exact pair hS (V9 := fun s Q => vc_X9_digest s Q) (V10 := fun s Q => vc_X10_digest s Q) (fun Q k => c_digest hA hS.1 k) (fun σ' hS' Q k => m_digest hA hS'.2.1 k) (fun σ' i => h _ σ' i)
