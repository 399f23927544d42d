/-! ===== SHEETS: copy ===== -/
theorem sum_le {a b z : Nat} (ha : a < 2 ^ 31) (hb : b < 2 ^ 31) (hz : z ≤ 60) : nI b ≤ nI z - nI a ↔ a + b ≤ z := by
  rw [Int32.le_iff_toInt_le, Int32.toInt_sub, nI_toInt ha, nI_toInt hb, nI_toInt (by omega), Int.bmod_eq_of_le (by omega) (by omega)]
  omega
theorem sum_i {a b : Nat} (ha : a < 2 ^ 31) (hb : b < 2 ^ 31) : ((nI a).toInt64 + (nI b).toInt64).toInt = (a : Int) + b := by
  rw [Int64.toInt_add, Int32.toInt_toInt64, Int32.toInt_toInt64, nI_toInt ha, nI_toInt hb, Int.bmod_eq_of_le (by omega) (by omega)]
theorem cmp_sum {a b z : Nat} (ha : a < 2 ^ 31) (hb : b < 2 ^ 31) (hz : z ≤ 60) : ((0 : Int32) < lg_cmp ((nI a).toInt64 + (nI b).toInt64) (nI z).toInt64 ↔ z < a + b) ∧ (lg_cmp ((nI a).toInt64 + (nI b).toInt64) (nI z).toInt64 ≤ 0 ↔ a + b ≤ z) := by
  have e1 := sum_i ha hb
  have e2 : (nI z).toInt64.toInt = (z : Int) := by rw [Int32.toInt_toInt64, nI_toInt (by omega)]
  have key : ∀ X Y : Int64, ((0 : Int32) < lg_cmp X Y ↔ Y.toInt < X.toInt) ∧ (lg_cmp X Y ≤ 0 ↔ X.toInt ≤ Y.toInt) := by
    intro X Y
    unfold lg_cmp
    by_cases g : X > Y
    · have g' : Y.toInt < X.toInt := Int64.lt_iff_toInt_lt.mp g
      have ne : ¬ X = Y := fun w => by rw [w] at g'; omega
      simp only [g, ne, if_true, if_false]
      exact ⟨⟨fun _ => g', fun _ => by decide⟩, ⟨fun w => absurd w (by decide), fun w => by omega⟩⟩
    · have g' : ¬ Y.toInt < X.toInt := fun w => g (Int64.lt_iff_toInt_lt.mpr w)
      by_cases q : X = Y
      · subst q
        simp only [g, if_true, if_false]
        exact ⟨⟨fun w => absurd w (by decide), fun w => by omega⟩, ⟨fun _ => by omega, fun _ => by decide⟩⟩
      · simp only [g, q, if_true, if_false]
        exact ⟨⟨fun w => absurd w (by decide), fun w => by omega⟩, ⟨fun _ => by omega, fun _ => by decide⟩⟩
  obtain ⟨k1, k2⟩ := key ((nI a).toInt64 + (nI b).toInt64) (nI z).toInt64
  rw [e1, e2] at k1 k2
  exact ⟨k1.trans (by omega), k2.trans (by omega)⟩
theorem c_lacks {fm : Nat → Int32} {sz : Nat → Nat} {it : Nat → Nat → Int32} {fd : Int32} {s : Nat} {x y : Int32} (hs : s < 4) (hb : HB fm sz) {σ : tzS} (hc : CH fm sz it fd σ) {Q : Int32 → tzS → Prop} (h0 : ¬ x < 0 → ¬ y < 0 → un x + un y ≤ sz s → Q 0 σ) (h1 : ¬ (¬ x < 0 ∧ ¬ y < 0 ∧ un x + un y ≤ sz s) → Q 1 σ) : vc_X7_lacks (nI s) x y σ Q := by
  unfold vc_X7_lacks
  refine ⟨fun z => h1 (fun w => w.1 z), fun z => ⟨fun z2 => h1 (fun w => w.2.1 z2), fun z2 => ⟨in_nI (by omega) (by omega), ?_⟩⟩⟩
  rw [cl_nI (by omega), (hc.1 s hs).2.1]
  obtain ⟨ex, hx⟩ := un_is x z
  obtain ⟨ey, hy⟩ := un_is y z2
  have e := sum_le hx hy (hb s hs).1
  rw [← ex, ← ey] at e
  exact ⟨fun w => h0 z z2 (e.mp w), fun w => h1 (fun v => (not_congr e).mp w v.2.2)⟩
def cpi (it : Nat → Nat → Int32) (s a t b l : Nat) : Nat → Nat → Int32 := fun u j => if u = t ∧ b ≤ j ∧ j < b + l then it s (j - b + a) else it u j
theorem p_copy {σ : tzS} {x1 x2 x3 x4 x5 : Int32} (hI : INV σ) {R : Int32 → Int32 → tzS → Prop} (h : ∀ A σ', INV σ' → R A A σ') : vc_X9_copy x1 x2 x3 x4 x5 σ (fun r σ' => vc_X10_copy x1 x2 x3 x4 x5 σ' (fun r' σ'' => R r r' σ'')) := by
  have hI' := hI
  obtain ⟨f, n, ru, fe, li, wi, td, fm, sz, it, fd, hS⟩ := hI
  have hb := hS.2.2.2.2
  have bad : ¬ (un x1 < 4 ∧ un x3 < 4) → vc_X10_copy x1 x2 x3 x4 x5 σ (fun r' σ'' => R (-2) r' σ'') := fun w => by
    unfold vc_X10_copy
    refine m_isSheet (fun a => ⟨fun z => absurd z nz1, fun _ => ?_⟩) (fun _ => ⟨fun _ => h _ σ hI', fun z => absurd rfl z⟩)
    exact m_isSheet (fun b => absurd ⟨a, b⟩ w) (fun _ => ⟨fun z => absurd rfl z, fun _ => h _ σ hI'⟩)
  unfold vc_X9_copy
  refine c_noSheet (fun hx => ⟨fun z => absurd rfl z, fun _ => ?_⟩) (fun hx => ⟨fun _ => bad (fun w => hx w.1), fun z => absurd z nz1⟩)
  refine c_noSheet (fun hy => ⟨fun _ => ?_, fun z => absurd rfl z⟩) (fun hy => ⟨fun z => absurd z nz1, fun _ => bad (fun w => hy w.2)⟩)
  have ex := un_at hx (by omega)
  have ey := un_at hy (by omega)
  have hxx := hx
  have hyy := hy
  generalize un x1 = s at hx ex
  generalize un x3 = t at hy ey
  subst ex
  subst ey
  have hs60 := (hb s hx).1
  have ht60 := (hb t hy).1
  have ms := hS.2.2.2.1.1 s hx
  have mt := hS.2.2.2.1.1 t hy
  -- a finding of both
  have find : ∀ (k : Int32) (σ1 : tzS), σ1 = tz_st σ 0 11 k → ((fm s = -1 ∧ k = 1) ∨ (¬ fm s = -1 ∧ fm t = -1 ∧ k = 1) ∨ (¬ fm s = -1 ∧ ¬ fm t = -1 ∧ ¬ fm s = fm t ∧ k = 4) ∨ (¬ fm s = -1 ∧ ¬ fm t = -1 ∧ fm s = fm t ∧ k = 2 ∧ ¬ (¬ x2 < 0 ∧ ¬ x4 < 0 ∧ ¬ x5 < 0 ∧ un x2 + un x5 ≤ sz s ∧ un x4 + un x5 ≤ sz t))) → vc_X10_copy (nI s) x2 (nI t) x4 x5 σ1 (fun r' σ'' => R ((-10) - k) r' σ'') := by
    intro k σ1 h1 hk
    have fin : ∀ k', k' = k → vc_X10_meets k' σ1 (fun r σ'' => R ((-10) - k) r σ'') := by
      rintro k' rfl
      unfold vc_X10_meets
      intro σ2 h2
      refine h _ σ2 ?_
      rw [h2, h1]
      exact hS.find _
    have hi : ∀ a, a ≠ 0 → σ1.1 a = σ.1 a := fun a ha => by rw [h1, st_ne ha]
    unfold vc_X10_copy
    refine m_isSheet (fun a => ⟨fun z => absurd z nz1, fun _ => ?_⟩) (fun a => absurd hxx a)
    refine m_isSheet (fun a => ⟨fun _ => ⟨in_nI (by omega) (by omega), ?_⟩, fun z => absurd z nz1⟩) (fun a => absurd hyy a)
    rw [cl_nI (by omega), cl_nI (by omega), hi 151 (by omega), hi 152 (by omega), hi 153 (by omega)]
    rcases hk with ⟨a, e⟩ | ⟨a, b, e⟩ | ⟨a, b, c, e⟩ | ⟨a, b, c, e, d⟩
    · exact ⟨fun _ => fin 1 e.symm, fun w => absurd (ms.1.mpr a) w⟩
    · exact ⟨fun w => absurd (ms.1.mp w) a, fun _ => ⟨in_nI (by omega) (by omega), fun w => absurd (mt.1.mpr b) w, fun _ => fin 1 e.symm⟩⟩
    · refine ⟨fun w => absurd (ms.1.mp w) a, fun _ => ⟨in_nI (by omega) (by omega), fun _ => ?_, fun w => absurd (mt.1.mp w) b⟩⟩
      rw [ms.2.1 a, mt.2.1 b]
      exact ⟨fun w => absurd w c, fun _ => fin 4 e.symm⟩
    · refine ⟨fun w => absurd (ms.1.mp w) a, fun _ => ⟨in_nI (by omega) (by omega), fun _ => ?_, fun w => absurd (mt.1.mp w) b⟩⟩
      rw [ms.2.1 a, mt.2.1 b, ms.2.2.1, mt.2.2.1]
      refine ⟨fun _ => ?_, fun w => absurd c w⟩
      refine ⟨fun _ => fin 2 e.symm, fun z2 => ⟨fun _ => fin 2 e.symm, fun z4 => ⟨fun _ => fin 2 e.symm, fun z5 => ?_⟩⟩⟩
      obtain ⟨i2, l2⟩ := un_is x2 z2
      obtain ⟨i4, l4⟩ := un_is x4 z4
      obtain ⟨i5, l5⟩ := un_is x5 z5
      have c1 := cmp_sum l2 l5 hs60
      have c2 := cmp_sum l4 l5 ht60
      rw [← i2, ← i5] at c1
      rw [← i4, ← i5] at c2
      refine ⟨fun _ => fin 2 e.symm, fun w1 => ⟨fun w2 => ?_, fun _ => fin 2 e.symm⟩⟩
      exact absurd ⟨z2, z4, z5, by have := (not_congr c1.1).mp w1; omega, c2.2.mp w2⟩ d
  refine c_isLost hx hS.2.2.1 (fun hl => ⟨fun z => absurd rfl z, fun _ => ?_⟩) (fun hl => ⟨fun _ => ?_, fun z => absurd z nz1⟩)
  · refine c_isLost hy hS.2.2.1 (fun hl2 => ⟨fun _ => ⟨in_nI (by omega) (by omega), in_nI (by omega) (by omega), ?_⟩, fun z => absurd rfl z⟩) (fun hl2 => ⟨fun z => absurd z nz1, fun _ => ?_⟩)
    · rw [cl_nI (by omega), cl_nI (by omega), (hS.2.2.1.1 s hx).1, (hS.2.2.1.1 t hy).1]
      refine ⟨fun he => ?_, fun he => ?_⟩
      · refine c_lacks hx hb hS.2.2.1 (fun z2 z5 l1 => ⟨fun z => absurd rfl z, fun _ => ?_⟩) (fun w => ⟨fun _ => ?_, fun z => absurd z nz1⟩)
        · refine c_lacks hy hb hS.2.2.1 (fun z4 _ l2 => ⟨fun _ => ?_, fun z => absurd rfl z⟩) (fun w => ⟨fun z => absurd z nz1, fun _ => ?_⟩)
          · -- the items go over
            have i2 := (un_is x2 z2).1
            have i4 := (un_is x4 z4).1
            have i5 := (un_is x5 z5).1
            generalize un x2 = a at *
            generalize un x4 = b at *
            generalize un x5 = l at *
            subst i2
            subst i4
            subst i5
            unfold vc_X7_move
            rw [cl_nI (by omega), cl_nI (by omega), cl_nI (by omega), cl_nI (by omega), cl_nI (by omega)]
            refine ⟨in_nI (by omega) (by omega), in_nI (by omega) (by omega), ⟨z2, z4, z5, by omega, by omega⟩, ?_⟩
            intro σ3 h3
            have hg : ∀ u j, σ3.1 u j = if u = 128 + t ∧ b ≤ j ∧ j < b + l then σ.1 (128 + s) (j - b + a) else σ.1 u j := by
              intro u j
              rw [h3]
              show (if u = 128 + t then (if b ≤ j ∧ j < b + l then σ.1 (128 + s) (a + (j - b)) else σ.1 (128 + t) j) else σ.1 u j) = _
              by_cases c : u = 128 + t
              · rw [if_pos c]
                by_cases c2 : b ≤ j ∧ j < b + l
                · rw [if_pos c2, if_pos ⟨c, c2⟩, Nat.add_comm a]
                · rw [if_neg c2, if_neg (fun w => c2 w.2), c]
              · rw [if_neg c, if_neg (fun w => c w.1)]
            have hlo : ∀ u, u ≠ 128 + t → σ3.1 u = σ.1 u := fun u hu => by
              funext j
              rw [hg u j, if_neg (fun w => hu w.1)]
            have s3 : sf σ σ3 := ⟨fun u _ _ hu => hlo u (by omega), fun j _ => by rw [hlo 0 (by omega)], fun j _ => by rw [hlo 133 (by omega)], by rw [h3]; rfl⟩
            have hc3 : CH fm sz (cpi it s a t b l) fd σ3 := by
              refine ⟨fun u hu => ?_, by rw [hlo 0 (by omega)]; exact hS.2.2.1.2⟩
              obtain ⟨q1, q2, q3⟩ := hS.2.2.1.1 u hu
              rw [hlo 125 (by omega), hlo 126 (by omega)]
              refine ⟨q1, q2, fun i hi => ?_⟩
              rw [hg (128 + u) i]
              unfold cpi
              by_cases c : u = t ∧ b ≤ i ∧ i < b + l
              · rw [if_pos ⟨by omega, c.2⟩, if_pos c]
                exact (hS.2.2.1.1 s hx).2.2 _ (by omega)
              · rw [if_neg (by omega), if_neg c]
                exact q3 i hi
            have hm3 : MH fm sz it fd σ3 := hS.2.2.2.1.cg (fun u _ _ => hlo u (by omega)) (by rw [hlo 133 (by omega)])
            unfold vc_X10_copy
            refine m_isSheet (fun _ => ⟨fun z => absurd z nz1, fun _ => ?_⟩) (fun w => absurd hxx w)
            refine m_isSheet (fun _ => ⟨fun _ => ⟨in_nI (by omega) (by omega), ?_⟩, fun z => absurd z nz1⟩) (fun w => absurd hyy w)
            have ms3 := hm3.1 s hx
            have mt3 := hm3.1 t hy
            rw [cl_nI (by omega), cl_nI (by omega), ms3.2.1 hl, mt3.2.1 hl2, ms3.2.2.1, mt3.2.2.1]
            refine ⟨fun w => absurd (ms3.1.mp w) hl, fun _ => ⟨in_nI (by omega) (by omega), fun _ => ⟨fun _ => ⟨fun w => absurd w z2, fun _ => ⟨fun w => absurd w z4, fun _ => ⟨fun w => absurd w z5, fun _ => ?_⟩⟩⟩, fun w => absurd he w⟩, fun w => absurd (mt3.1.mp w) hl2⟩⟩
            have c1 := cmp_sum (a := a) (b := l) (z := sz s) (by omega) (by omega) hs60
            have c2 := cmp_sum (a := b) (b := l) (z := sz t) (by omega) (by omega) ht60
            refine ⟨fun w => absurd (c1.1.mp w) (by omega), fun _ => ⟨fun _ => ?_, fun w => absurd (c2.2.mpr l2) w⟩⟩
            have m1 : (60 : Int32) * nI s = nI (60 * s) := pk_mul 60 s
            have m2 : (60 : Int32) * nI t = nI (60 * t) := pk_mul 60 t
            rw [m1, m2, nI_add, nI_add]
            refine for1 0 l (fun i q => (∀ j, j < i → q.1 155 j = it s (a + j)) ∧ (∀ u, u ≠ 155 → q.1 u = σ3.1 u) ∧ sf σ q) (Nat.zero_le _) ⟨fun j hj => absurd hj (by omega), fun _ _ => rfl, s3⟩ ?_ ?_
            · intro i q ag _ hi hJ hag
              obtain ⟨j1, j2, j3⟩ := hJ
              rw [nI_add, cl_nI (by omega), cl_nI (by omega), nI_1]
              refine ⟨fun z => absurd ((le_nI (by omega) (by omega)).mp z) (by omega), fun _ => ⟨in_nI (by omega) (by omega), in_nI (by omega) (by omega), ?_⟩⟩
              intro σ40 h40 x hx'
              subst hx'
              refine hag _ ⟨fun j hj => ?_, fun u hu => by rw [h40, st_ne hu]; exact j2 u hu, h40 ▸ j3.st (by omega)⟩
              by_cases e : j = i
              · rw [h40, e, st_eq, j2 154 (by omega), show 60 * s + a + i = 60 * s + (a + i) by omega]
                exact ms3.2.2.2 (a + i) (by omega)
              · rw [h40, st_nj e]; exact j1 j (by omega)
            · intro q ag hJ
              obtain ⟨j1, j2, j3⟩ := hJ
              refine ⟨fun _ => ?_, fun z => absurd ((le_nI (by omega) (by omega)).mpr (Nat.le_refl _)) z⟩
              refine for1 0 l (fun i p => (∀ j, p.1 154 j = if 60 * t + b ≤ j ∧ j < 60 * t + b + i then it s (j - (60 * t + b) + a) else σ.1 154 j) ∧ (∀ u, u ≠ 154 → p.1 u = q.1 u) ∧ sf σ p) (Nat.zero_le _) ⟨fun j => by rw [if_neg (by omega), j2 154 (by omega), hlo 154 (by omega)], fun _ _ => rfl, j3⟩ ?_ ?_
              · intro i p ag2 _ hi hK hag2
                obtain ⟨k1, k2, k3⟩ := hK
                rw [nI_add, cl_nI (by omega), cl_nI (by omega), nI_1]
                refine ⟨fun z => absurd ((le_nI (by omega) (by omega)).mp z) (by omega), fun _ => ⟨in_nI (by omega) (by omega), in_nI (by omega) (by omega), ?_⟩⟩
                intro σ36 h36 x hx'
                subst hx'
                refine hag2 _ ⟨fun j => ?_, fun u hu => by rw [h36, st_ne hu]; exact k2 u hu, h36 ▸ k3.st (by omega)⟩
                by_cases e : j = 60 * t + b + i
                · rw [h36, e, st_eq, k2 155 (by omega), j1 i hi, if_pos (by omega), show 60 * t + b + i - (60 * t + b) + a = a + i by omega]
                · rw [h36, st_nj e, k1 j]
                  by_cases c : 60 * t + b ≤ j ∧ j < 60 * t + b + i
                  · rw [if_pos c, if_pos (by omega)]
                  · rw [if_neg c, if_neg (by omega)]
              · intro p ag2 hK
                obtain ⟨k1, k2, k3⟩ := hK
                refine ⟨fun _ => ?_, fun z => absurd ((le_nI (by omega) (by omega)).mpr (Nat.le_refl _)) z⟩
                have pl3 : ∀ u, u ≠ 154 → u ≠ 155 → p.1 u = σ3.1 u := fun u a1 a2 => by rw [k2 u a1, j2 u a2]
                refine h _ p (hS.sf (fm' := fm) (sz' := sz) (it' := cpi it s a t b l) (fd' := fd) k3 (hc3.cg (fun u _ _ => pl3 u (by omega) (by omega)) (by rw [pl3 0 (by omega) (by omega)])) ⟨fun u hu => ?_, by rw [pl3 133 (by omega) (by omega)]; exact hm3.2⟩ hb)
                obtain ⟨q1, q2, q3, q4⟩ := hm3.1 u hu
                have hu60 := (hb u hu).1
                rw [pl3 151 (by omega) (by omega), pl3 152 (by omega) (by omega), pl3 153 (by omega) (by omega)]
                refine ⟨q1, q2, q3, fun i hi => ?_⟩
                rw [k1 (60 * u + i)]
                unfold cpi
                by_cases c : u = t ∧ b ≤ i ∧ i < b + l
                · rw [if_pos c, if_pos (by omega), show 60 * u + i - (60 * t + b) + a = i - b + a by omega]
                · rw [if_neg c, if_neg (by omega)]
                  exact (hS.2.2.2.1.1 u hu).2.2.2 i hi
          · unfold vc_X9_finding
            exact fun σ1 h1 => find 2 σ1 h1 (Or.inr (Or.inr (Or.inr ⟨hl, hl2, he, rfl, fun v => w ⟨v.2.1, v.2.2.1, v.2.2.2.2⟩⟩)))
        · unfold vc_X9_finding
          exact fun σ1 h1 => find 2 σ1 h1 (Or.inr (Or.inr (Or.inr ⟨hl, hl2, he, rfl, fun v => w ⟨v.1, v.2.2.1, v.2.2.2.1⟩⟩)))
      · unfold vc_X9_finding
        exact fun σ1 h1 => find 4 σ1 h1 (Or.inr (Or.inr (Or.inl ⟨hl, hl2, he, rfl⟩)))
    · unfold vc_X9_finding
      exact fun σ1 h1 => find 1 σ1 h1 (Or.inr (Or.inl ⟨hl, hl2, rfl⟩))
  · unfold vc_X9_finding
    exact fun σ1 h1 => find 1 σ1 h1 (Or.inl ⟨hl, rfl⟩)
