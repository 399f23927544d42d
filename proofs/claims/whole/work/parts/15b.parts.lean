/-! ===== PARTS OF THE REFERENCE ===== -/
theorem s_parts {f : Nat → Nat} {n ru fe d : Nat} (hn : n ≤ 200) (hru : ru ≤ 3) (hfe : fe ≤ 40) {σ : tzS} (h7 : σ.1 133 7 = nI (rd_S f n)) (h9 : σ.1 133 9 = nI (rd_K f n)) (h18 : DX (rd_S f n) d (σ.1 133 18)) (hH : ∀ s t, s < 12 → t < 110 → σ.1 143 (110 * s + t) = nI (rd_hv f n s t)) (hr : σ.1 135 0 = nI ru) (hf : σ.1 135 1 = nI fe) {Q : tzS → Prop} (h : ∀ σ', PM (rd_cost f n ru fe d) (Sd (rd_S f n) d) σ' → mk4 σ σ' → Q σ') : vc_X10_parts σ Q := by
  obtain ⟨r1, r2, r3, r4, r5, r6⟩ := rd_ok (f := f) hn
  have hSd : Sd (rd_S f n) d ≤ rd_S f n := Sd_le
  have hc : CB (rd_cost f n ru fe d) (Sd (rd_S f n) d) := ⟨by omega, fun i j h1 h2 => rd_cost_le hn hfe (by omega) h2⟩
  have hcost : ∀ i j, i < j → j ≤ Sd (rd_S f n) d → ∀ r : tzS, mk4 σ r → ∀ Q : Int32 → tzS → Prop, (∀ σ', mk3 r σ' → Q (nI (rd_cost f n ru fe d i j)) σ') → vc_X10_costNow (nI (pl d i)) (nI (pl d j)) r Q := by
    intro i j z1 z2 r hk Q' hQ
    refine s_costNow hn hru hfe (by omega) z2 ?_ ?_ ?_ ?_ ?_ hQ
    · rw [hk.2.1 9 (by omega)]; exact h9
    · rw [hk.2.1 18 (by omega)]; exact h18
    · intro s t y1 y2
      rw [hk.1 143 (by omega) (by omega)]
      exact hH s t y1 y2
    · rw [hk.1 135 (by omega) (by omega)]; exact hr
    · rw [hk.1 135 (by omega) (by omega)]; exact hf
  have h18' : ∀ r : tzS, mk4 σ r → DX (rd_S f n) d (r.1 133 18) := fun r hk => by rw [hk.2.1 18 (by omega)]; exact h18
  clear hH hr hf h9 r4 r5 r6
  generalize hcc : rd_cost f n ru fe d = c at *
  generalize hNN : Sd (rd_S f n) d = N at *
  unfold vc_X10_parts
  refine ⟨fun y s => y = nI N ∧ s = σ, ?_, ?_, ?_⟩
  · rintro y s ⟨e1, e2⟩ σ4 h4
    subst e1
    subst e2
    have k4 : mk4 s σ4 := h4 ▸ mk4.rf.st3
    have n4 : σ4.1 133 30 = nI N := by rw [h4, st_eq]
    refine for1 0 N (fun i r => (∀ i' j', i' < i → i' < j' → j' ≤ N → r.1 148 (13 * i' + j') = nI (c i' j')) ∧ r.1 133 30 = nI N ∧ mk4 s r) (Nat.zero_le _) ⟨fun i' j' z => absurd z (Nat.not_lt_zero _), n4, k4⟩ ?_ ?_
    · intro i r ag _ hi hI hag
      obtain ⟨i1, i2, i3⟩ := hI
      rw [i2]
      refine ⟨fun z => absurd ((le_nI (by omega) (by omega)).mp z) (by omega), fun _ => ?_⟩
      rintro x2 rfl
      rw [nI_1]
      refine for1 (i + 1) (N + 1) (fun j q => (∀ i' j', (i' < i ∨ (i' = i ∧ j' < j)) → i' < j' → j' ≤ N → q.1 148 (13 * i' + j') = nI (c i' j')) ∧ q.1 133 30 = nI N ∧ mk4 s q) (by omega) ⟨fun i' j' z1 z2 z3 => i1 i' j' (by omega) z2 z3, i2, i3⟩ ?_ ?_
      · intro j q ag2 h1 h2 hJ hag2
        obtain ⟨j1, j2, j3⟩ := hJ
        rw [j2]
        refine ⟨fun z => absurd ((lt_nI (by omega) (by omega)).mp z) (by omega), fun _ => ?_⟩
        refine s_placeOf (S := rd_S f n) (d := d) (x := i) r2 (by omega) (h18' q j3) ?_
        refine s_placeOf (S := rd_S f n) (d := d) (x := j) r2 (by omega) (h18' q j3) ?_
        refine hcost i j (by omega) (by omega) q j3 _ (fun q2 hq2 => ?_)
        have m1 : (13 : Int32) * nI i = nI (13 * i) := pk_mul 13 i
        rw [m1, nI_add, nI_1, cl_nI (by omega)]
        refine ⟨in_nI (by omega) (by omega), ?_⟩
        rintro σ71 h71 x rfl
        refine hag2 _ ⟨fun i' j' z1 z2 z3 => ?_, ?_, h71 ▸ (j3.tr hq2.to4).st (by omega)⟩
        · by_cases e : 13 * i' + j' = 13 * i + j
          · have ei : i' = i := by omega
            have ej : j' = j := by omega
            rw [h71, e, st_eq, ei, ej]
          · rw [h71, st_nj e, hq2.1 148 (by omega)]
            exact j1 i' j' (by omega) z2 z3
        · rw [h71, st_ne (by omega), hq2.2.1 30 (by omega)]
          exact j2
      · intro q ag2 hJ
        obtain ⟨j1, j2, j3⟩ := hJ
        rw [j2]
        refine ⟨fun _ x hx => ?_, fun z => absurd ((lt_nI (by omega) (by omega)).mpr (by omega)) z⟩
        subst hx
        exact hag q ⟨fun i' j' z1 z2 z3 => j1 i' j' (by omega) z2 z3, j2, j3⟩
    · intro r ag hI
      obtain ⟨i1, i2, i3⟩ := hI
      rw [i2]
      refine ⟨fun _ => ?_, fun z => absurd ((le_nI (by omega) (by omega)).mpr (Nat.le_refl _)) z⟩
      refine for1 0 9 (fun m q => (∀ k j, k < m → j ≤ N → q.1 149 (13 * k + j) = tmT c k j ∧ q.1 150 (13 * k + j) = tmB c k j) ∧ q.1 148 = r.1 148 ∧ q.1 133 30 = nI N ∧ mk4 s q) (by omega) ⟨fun k j z => absurd z (Nat.not_lt_zero _), rfl, i2, i3⟩ ?_ ?_
      · intro m q ag2 _ h2 hJ hag2
        obtain ⟨j1, j2, j3, j4⟩ := hJ
        refine ⟨fun z => absurd ((le_nI (a := 9) (by omega) (by omega)).mp z) (by omega), fun _ => ?_⟩
        refine for1 0 (N + 1) (fun l q => (∀ k j, (k < m ∨ (k = m ∧ j < l)) → j ≤ N → q.1 149 (13 * k + j) = tmT c k j ∧ q.1 150 (13 * k + j) = tmB c k j) ∧ q.1 148 = r.1 148 ∧ q.1 133 30 = nI N ∧ mk4 s q) (by omega) ⟨fun k j z1 z2 => j1 k j (by omega) z2, j2, j3, j4⟩ ?_ ?_
        · intro l q ag3 _ l2 hL hag3
          obtain ⟨q1, q2, q3, q4⟩ := hL
          rw [q3]
          refine ⟨fun z => absurd ((lt_nI (by omega) (by omega)).mp z) (by omega), fun _ => ?_⟩
          have mm : (13 : Int32) * nI m = nI (13 * m) := pk_mul 13 m
          have fin : ∀ σ30 : tzS, σ30 = tz_st (tz_st q 149 (13 * m + l) (tmT c m l)) 150 (13 * m + l) (tmB c m l) → ag3 (nI l + 1) σ30 := by
            intro σ30 h30
            rw [nI_1]
            refine hag3 _ ⟨fun k j z1 z2 => ?_, ?_, ?_, h30 ▸ (q4.st (by omega)).st (by omega)⟩
            · by_cases e : 13 * k + j = 13 * m + l
              · have ei : k = m := by omega
                have ej : j = l := by omega
                rw [h30, st_ne (by omega), e, st_eq, st_eq, ei, ej]
                exact ⟨rfl, rfl⟩
              · rw [h30, st_ne (by omega), st_nj e, st_nj e, st_ne (by omega)]
                exact q1 k j (by omega) z2
            · rw [h30, st_ne (by omega), st_ne (by omega)]
              exact q2
            · rw [h30, st_ne (by omega), st_ne (by omega)]
              exact q3
          refine ⟨fun y s' => y = (if m = 0 ∧ l = 0 then 0 else -1) ∧ s' = q, ?_, ?_⟩
          · rintro y0 s' ⟨e1, e2⟩ y e0
            subst e0
            subst e2
            by_cases hm0 : m = 0
            · -- no block: only the empty run has a total
              subst hm0
              have eT : y = tmT c 0 l := by
                rw [e1]
                unfold tmT
                rw [if_pos rfl]
                by_cases e : l = 0
                · rw [if_pos ⟨rfl, e⟩, if_pos e]
                · rw [if_neg (fun w => e w.2), if_neg e]
              have eB : (-1 : Int32) = tmB c 0 l := rfl
              refine ⟨fun _ a b x r' => a = -1 ∧ b = y ∧ x = 0 ∧ r' = s', ⟨0, rfl, rfl, rfl, rfl⟩, ?_⟩
              rintro _ a b x r' ⟨rfl, rfl, rfl, rfl⟩
              rw [mm, nI_add, cl_nI (by omega)]
              refine ⟨fun z => ⟨in_nI (by omega) (by omega), ?_⟩, fun z => ⟨fun _ => ⟨in_nI (by omega) (by omega), ?_⟩, fun z2 => absurd (by decide) z2⟩⟩
              · rintro σ28 rfl σ30 rfl x rfl
                rw [eT]
                exact fin _ rfl
              · rintro σ28 rfl σ30 rfl x rfl
                rw [eT]
                exact fin _ rfl
            · have hy : y = -1 := by rw [e1, if_neg (fun w => hm0 w.1)]
              subst hy
              have m0 : ¬ nI m ≤ 0 := fun z => absurd ((le_nI (b := 0) (by omega) (by omega)).mp z) (by omega)
              have bd : ∀ i, m - 1 ≤ i → i < l → m ≠ 1 → (pt c (m - 1) i).1 + c i l ≤ 80320 := by
                intro i z1 z2 z3
                have a := (pt_ok hc (m - 1) i (by omega) z1 (by omega)).1
                have b := hc.2 i l z2 (by omega)
                have : (m - 1) * 10040 ≤ 7 * 10040 := Nat.mul_le_mul_right _ (by omega)
                omega
              refine for3c 0 l (fun i a b r' => a = (ms c m l i).1 ∧ b = (ms c m l i).2 ∧ r' = s') (Nat.zero_le _) ⟨?_, ?_, rfl⟩ ?_ ?_
              · unfold ms
                rw [if_pos (by omega)]
              · unfold ms
                rw [if_pos (by omega)]
              · intro i a b r' ag4 _ hil hM hag4
                obtain ⟨e1, e2, e3⟩ := hM
                subst e3
                have mi : (13 : Int32) * nI i = nI (13 * i) := pk_mul 13 i
                have mm1 : (13 : Int32) * nI (m - 1) = nI (13 * (m - 1)) := pk_mul 13 (m - 1)
                refine ⟨fun z => absurd ((le_nI (by omega) (by omega)).mp z) (by omega), fun _ => ⟨fun z => absurd z m0, fun _ => ?_⟩⟩
                rw [nI_sub1 (by omega), mm1, mi, nI_add, nI_add, nI_1, cl_nI (by omega), cl_nI (by omega)]
                refine ⟨in_nI (by omega) (by omega), ?_⟩
                rintro x6 rfl
                refine ⟨in_nI (by omega) (by omega), ?_⟩
                rintro x7 rfl
                rw [(q1 (m - 1) i (by omega) (by omega)).1, q2, i1 i l (by omega) hil (by omega)]
                -- taken, or passed over
                refine ⟨fun y s3 => s3 = r' ∧ ((y = 0 ∧ ms c m l (i + 1) = ms c m l i) ∨ (y = 1 ∧ ms c m l (i + 1) = (nI i, tmT c (m - 1) i + nI (c i l)))), ?_, ?_⟩
                · rintro y s3 ⟨e3, e4⟩ x8 rfl
                  subst e3
                  refine ⟨fun z x hx => ?_, fun z x hx => ?_⟩
                  · subst hx
                    refine hag4 _ _ _ ?_
                    rcases e4 with ⟨_, e4⟩ | ⟨e4, _⟩
                    · rw [e4]
                      exact ⟨e1, e2, rfl⟩
                    · rw [e4] at z
                      exact absurd z (by decide)
                  · subst hx
                    refine hag4 _ _ _ ?_
                    rcases e4 with ⟨e4, _⟩ | ⟨_, e4⟩
                    · exact absurd e4 z
                    · rw [e4]
                      exact ⟨rfl, rfl, rfl⟩
                · refine ⟨fun s3 => s3 = r' ∧ ms c m l (i + 1) = ms c m l i, ?_, ?_, ?_⟩
                  · rintro s3 ⟨e3, e4⟩
                    exact ⟨e3, Or.inl ⟨rfl, e4⟩⟩
                  · -- nothing behind it
                    intro z
                    refine ⟨rfl, ?_⟩
                    unfold tmT at z
                    by_cases q0 : m - 1 = 0
                    · rw [if_pos q0] at z
                      by_cases q1' : i = 0
                      · rw [if_pos q1'] at z
                        exact absurd z (by decide)
                      · unfold ms
                        have y1 : m = 1 := by omega
                        have y2 : ¬ i + 1 < m := by omega
                        have y3 : ¬ i < m := by omega
                        rw [if_neg y2, if_neg y3, if_pos y1, if_pos y1]
                    · rw [if_neg q0] at z
                      by_cases q1' : m - 1 ≤ i
                      · rw [if_pos q1'] at z
                        have := bd i q1' hil (by omega)
                        exact absurd z (ne_m1 (by omega))
                      · unfold ms
                        have y2 : i + 1 < m := by omega
                        have y3 : i < m := by omega
                        rw [if_pos y2, if_pos y3]
                  · intro z
                    -- so there is a total behind it
                    have hv : (m = 1 ∧ i = 0) ∨ (m ≠ 1 ∧ m - 1 ≤ i) := by
                      unfold tmT at z
                      by_cases q0 : m - 1 = 0
                      · rw [if_pos q0] at z
                        by_cases q1' : i = 0
                        · exact Or.inl ⟨by omega, q1'⟩
                        · rw [if_neg q1'] at z
                          exact absurd rfl z
                      · rw [if_neg q0] at z
                        by_cases q1' : m - 1 ≤ i
                        · exact Or.inr ⟨by omega, q1'⟩
                        · rw [if_neg q1'] at z
                          exact absurd rfl z
                    have hval : m ≠ 1 → m - 1 ≤ i → tmT c (m - 1) i + nI (c i l) = nI ((pt c (m - 1) i).1 + c i l) := by
                      intro y1 y2
                      unfold tmT
                      have y3 : ¬ m - 1 = 0 := by omega
                      rw [if_neg y3, if_pos y2, nI_add]
                    -- the first there is
                    have hfirst : i < m → ms c m l (i + 1) = (nI i, tmT c (m - 1) i + nI (c i l)) := by
                      intro y
                      have y2 : ¬ i + 1 < m := by omega
                      rcases hv with ⟨v1, v2⟩ | ⟨v1, v2⟩
                      · unfold ms tmT
                        have y3 : m - 1 = 0 := by omega
                        rw [if_neg y2, if_pos v1, if_pos y3, if_pos v2, v2]
                        have : (0 : Int32) + nI (c 0 l) = nI (0 + c 0 l) := nI_add 0 _
                        rw [this, Nat.zero_add]
                        rfl
                      · rw [hval v1 v2]
                        unfold ms
                        have y4 : i + 1 - m = 0 := by omega
                        have y5 : m - 1 = i := by omega
                        rw [if_neg y2, if_neg v1, y4]
                        show (nI (m - 1), nI ((pt c (m - 1) (m - 1)).1 + c (m - 1) l)) = _
                        rw [y5]
                    refine ⟨fun s3 => s3 = r' ∧ ms c m l (i + 1) = (nI i, tmT c (m - 1) i + nI (c i l)), ?_, ?_, ?_⟩
                    · rintro s3 ⟨e3, e4⟩
                      exact ⟨e3, Or.inr ⟨rfl, e4⟩⟩
                    · intro zb
                      refine ⟨rfl, ?_⟩
                      by_cases y : i < m
                      · exact hfirst y
                      · exfalso
                        rw [e2] at zb
                        unfold ms at zb
                        rw [if_neg y] at zb
                        rcases hv with ⟨v1, v2⟩ | ⟨v1, v2⟩
                        · omega
                        · rw [if_neg v1] at zb
                          have a := (am_ok (fun i => (pt c (m - 1) i).1 + c i l) (m - 1) (i - m)).1
                          have b := bd (m - 1) (Nat.le_refl _) (by omega) v1
                          exact absurd zb (ne_m1 (Nat.lt_of_le_of_lt (Nat.le_trans a b) (by omega)))
                    · intro zb
                      have y : ¬ i < m := by
                        intro y
                        apply zb
                        rw [e2]
                        unfold ms
                        rw [if_pos y]
                      rcases hv with ⟨v1, v2⟩ | ⟨v1, v2⟩
                      · omega
                      have y2 : ¬ i + 1 < m := by omega
                      have em : ms c m l i = (nI (am (fun i => (pt c (m - 1) i).1 + c i l) (m - 1) (i - m)).2, nI (am (fun i => (pt c (m - 1) i).1 + c i l) (m - 1) (i - m)).1) := by
                        unfold ms
                        rw [if_neg y, if_neg v1]
                      have em1 : ms c m l (i + 1) = (nI (am (fun i => (pt c (m - 1) i).1 + c i l) (m - 1) (i - m + 1)).2, nI (am (fun i => (pt c (m - 1) i).1 + c i l) (m - 1) (i - m + 1)).1) := by
                        unfold ms
                        rw [if_neg y2, if_neg v1, show i + 1 - m = i - m + 1 by omega]
                      have a := (am_ok (fun i => (pt c (m - 1) i).1 + c i l) (m - 1) (i - m)).1
                      have b := bd (m - 1) (Nat.le_refl _) (by omega) v1
                      have b2 := bd i v2 hil v1
                      have a2 : (am (fun i => (pt c (m - 1) i).1 + c i l) (m - 1) (i - m)).1 < 100000 := Nat.lt_of_le_of_lt (Nat.le_trans a b) (by omega)
                      have ei : m - 1 + (i - m + 1) = i := by omega
                      rw [e2, em, hval v1 v2]
                      refine ⟨fun zc => ⟨rfl, ?_⟩, fun zc => ⟨rfl, ?_⟩⟩
                      · have zc := (le_nI a2 (by omega)).mp zc
                        rw [em1, am_ge (by rw [ei]; omega)]
                      · have zc := (not_congr (le_nI a2 (by omega))).mp zc
                        rw [em1, am_lt (by rw [ei]; omega), ei]
              · intro a b r' ag4 hM
                obtain ⟨e1, e2, e3⟩ := hM
                subst e3
                rw [ms_end (by omega)] at e1 e2
                refine ⟨fun _ => ?_, fun z => absurd ((le_nI (by omega) (by omega)).mpr (Nat.le_refl _)) z⟩
                rw [mm, nI_add, cl_nI (by omega)]
                refine ⟨in_nI (by omega) (by omega), ?_⟩
                rintro σ28 rfl σ30 rfl x rfl
                rw [e1, e2]
                exact fin _ rfl
          · refine ⟨fun s3 => s3 = q ∧ ¬ (m = 0 ∧ l = 0), ?_, ?_, ?_⟩
            · rintro s3 ⟨e3, e4⟩
              exact ⟨by rw [if_neg e4], e3⟩
            · intro z
              exact ⟨rfl, fun w => z (by rw [w.1]; rfl)⟩
            · intro z
              have z := (eq_nI (b := 0) (by omega) (by omega)).mp z
              refine ⟨fun z2 => ⟨rfl, fun w => z2 (by rw [w.2]; rfl)⟩, fun z2 => ?_⟩
              have z2 := (eq_nI (b := 0) (by omega) (by omega)).mp z2
              exact ⟨by rw [if_pos ⟨z, z2⟩], rfl⟩
        · intro q ag3 hL
          obtain ⟨q1, q2, q3, q4⟩ := hL
          rw [q3]
          refine ⟨fun _ x hx => ?_, fun z => absurd ((lt_nI (by omega) (by omega)).mpr (by omega)) z⟩
          subst hx
          rw [nI_1]
          exact hag2 q ⟨fun k j z1 z2 => q1 k j (by omega) z2, q2, q3, q4⟩
      · intro q ag2 hJ
        obtain ⟨j1, j2, j3, j4⟩ := hJ
        exact ⟨fun _ => h q ⟨j3, fun k j z1 z2 => j1 k j (by omega) z2⟩ j4, fun z => absurd ((le_nI (a := 9) (by omega) (by omega)).mpr (by omega)) z⟩
  · intro z
    rcases h18 with ⟨e, -⟩ | ⟨e, e2⟩
    · exact absurd e z
    · refine ⟨?_, rfl⟩
      rw [h7, nI_sub1 (by omega), ← hNN]
      unfold Sd
      rw [if_pos e2]
  · intro z
    rcases h18 with ⟨-, e⟩ | ⟨e, e2⟩
    · refine ⟨?_, rfl⟩
      rw [h7, ← hNN]
      unfold Sd
      rw [if_neg (by omega)]
    · exact absurd (e.symm.trans z) (ne_m1 (by omega))
