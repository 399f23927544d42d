/-! ===== SHEETS: read ===== -/
theorem tt.rf {σ : tzS} : tt σ σ := ⟨fun _ _ _ => rfl, fun _ _ => rfl, rfl⟩
theorem tt.tr {σ σ' σ'' : tzS} (h : tt σ σ') (h2 : tt σ' σ'') : tt σ σ'' := ⟨fun a a1 a2 => (h2.1 a a1 a2).trans (h.1 a a1 a2), fun j hj => (h2.2.1 j hj).trans (h.2.1 j hj), h2.2.2.trans h.2.2⟩
/-- the text with i bytes of a sheet behind it -/
def fx (f : Nat → Nat) (n : Nat) (g : Nat → Int32) (i : Nat) : Nat → Nat := fun j => if n ≤ j ∧ j < n + i then un (g (j - n)) else f j
theorem fx_0 {f : Nat → Nat} {n : Nat} {g : Nat → Int32} : fx f n g 0 = f := by
  funext j
  exact if_neg (by omega)
theorem fx_s {f : Nat → Nat} {n i : Nat} {g : Nat → Int32} : fap (fx f n g i) (n + i) (un (g i)) = fx f n g (i + 1) := by
  funext j
  unfold fap fx
  by_cases e : j = n + i
  · rw [if_pos e, if_pos (by omega), e, show n + i - n = i by omega]
  · rw [if_neg e]
    by_cases c : n ≤ j ∧ j < n + i
    · rw [if_pos c, if_pos (by omega)]
    · rw [if_neg c, if_neg (by omega)]
theorem s_leading {fm : Nat → Int32} {sz : Nat → Nat} {it : Nat → Nat → Int32} {fd : Int32} {s : Nat} (hs : s < 4) (hb : HB fm sz) {σ : tzS} (hc : CH fm sz it fd σ) {Q : Int32 → tzS → Prop} (h : ∀ L, L ≤ sz s → (∀ j, j < L → un (it s j) ≤ 255) → (L < sz s → ¬ un (it s L) ≤ 255) → Q (nI L) σ) : vc_X9_leadingBytes (nI s) σ Q := by
  have h60 := (hb s hs).1
  obtain ⟨q1, q2, q3⟩ := hc.1 s hs
  unfold vc_X9_leadingBytes
  refine for1w 0 (sz s) (fun i r => r = σ ∧ ∀ j, j < i → un (it s j) ≤ 255) (Nat.zero_le _) ⟨rfl, fun j hj => absurd hj (by omega)⟩ ?_
  intro i r ag _ hi hI hag
  obtain ⟨e, hj⟩ := hI
  subst e
  rw [cl_nI (by omega), q2]
  refine ⟨in_nI (by omega) (by omega), fun z => ?_, fun z => ?_⟩
  · replace z := (le_nI (by omega) (by omega)).mp z
    exact h i hi hj (fun w => by omega)
  · replace z := (not_congr (le_nI (by omega) (by omega))).mp z
    unfold vc_X7_item
    rw [cl_nI (by omega), cl_nI (by omega), q3 i (by omega)]
    refine ⟨in_nI (by omega) (by omega), in_nI (by omega) (by omega), ?_⟩
    unfold vc_X9_noByte
    refine q_le (S := 255) (Q := fun r_9 σ_8 => (¬ r_9 = 0 → Q (nI i) σ_8) ∧ (r_9 = 0 → ∀ x2_11 : Int32, x2_11 = nI i + 1 → ag x2_11 σ_8)) (by omega) (fun hx => ⟨fun w => absurd rfl w, fun _ x hx' => ?_⟩) (fun hx => ⟨fun _ => h i hi hj (fun _ => hx), fun w => absurd w nz1⟩)
    subst hx'
    rw [nI_1]
    refine hag (by omega) _ ⟨rfl, fun j hj' => ?_⟩
    by_cases e : j = i
    · rw [e]; exact hx
    · exact hj j (by omega)
theorem p_read {σ : tzS} {x : Int32} (hI : INV σ) {R : Int32 → Int32 → tzS → Prop} (h : ∀ A σ', INV σ' → R A A σ') : vc_X9_read x σ (fun r σ' => vc_X10_read x σ' (fun r' σ'' => R r r' σ'')) := by
  have hI' := hI
  obtain ⟨f, n, ru, fe, li, wi, td, fm, sz, it, fd, hS⟩ := hI
  have hb := hS.2.2.2.2
  have hT := hS.1.1
  have hn := hT.1
  unfold vc_X9_read
  refine c_noSheet (fun hx => ⟨fun _ => ?_, fun z => absurd rfl z⟩) (fun hx => ⟨fun z => absurd z nz1, fun _ => ?_⟩)
  · have ex := un_at hx (by omega)
    have hxx := hx
    generalize un x = s at hx ex
    subst ex
    have h60 := (hb s hx).1
    refine c_isLost hx hS.2.2.1 (fun hl => ⟨fun _ => ?_, fun z => absurd rfl z⟩) (fun hl => ⟨fun z => absurd z nz1, fun _ => ?_⟩)
    · refine s_leading hx hb hS.2.2.1 (fun L hL1 hL2 hL3 => ?_)
      have e200 : (200 : Int32) - nI n = nI (200 - n) := pk_sub (a := 200) hn
      rw [hT.2.1, e200, mn_nI (by omega) (by omega)]
      rintro x2 rfl
      generalize hm : min (200 - n) L = m at *
      refine for1 0 m (fun i r => CT (fx f n (it s) i) (n + i) r ∧ bt 1 2 σ r) (Nat.zero_le _) ⟨by rw [fx_0]; exact hT, bt.rf⟩ ?_ ?_
      · intro i r ag _ hi hJ hag
        obtain ⟨j1, j2⟩ := hJ
        refine ⟨fun z => absurd ((le_nI (by omega) (by omega)).mp z) (by omega), fun _ => ?_⟩
        unfold vc_X7_item
        rw [cl_nI (by omega), cl_nI (by omega), j2.1 (128 + s) (by omega), (hS.2.2.1.1 s hx).2.2 i (by omega)]
        refine ⟨in_nI (by omega) (by omega), in_nI (by omega) (by omega), ?_⟩
        have hby := hL2 i (by omega)
        have ev := un_at (x := it s i) (b := 256) (by omega) (by omega)
        have key : vc_X8_add (nI (un (it s i))) r (fun σ17 => ∀ x3 : Int32, x3 = nI i + 1 → ag x3 σ17) := by
          refine s_add (by omega) (by omega) j1 (fun σ' hT' hb' => ?_)
          intro x3 hx3
          subst hx3
          rw [nI_1]
          rw [fx_s] at hT'
          exact hag _ ⟨hT', j2.tr hb'⟩
        rw [← ev] at key
        exact key
      · intro r ag hJ
        obtain ⟨j1, j2⟩ := hJ
        refine ⟨fun _ => ?_, fun z => absurd ((le_nI (by omega) (by omega)).mpr (Nat.le_refl _)) z⟩
        refine c_forget j1 (hS.1.2.1.lo (j2.1 132 (by omega)) (by rw [j2.1 0 (by omega)])) (fun σ6 hC6 hf6 => ?_)
        have e1 : ∀ a, 3 ≤ a → σ6.1 a = σ.1 a := fun a ha => by rw [hf6.1 a (by omega), j2.1 a (by omega)]
        have e0 : ∀ j, j < 12 → σ6.1 0 j = σ.1 0 j := fun j hj => by rw [hf6.2.1 j hj, j2.1 0 (by omega)]
        have hm6 : MH fm sz it fd σ6 := hS.2.2.2.1.cg (fun a _ _ => e1 a (by omega)) (by rw [e1 133 (by omega)])
        have hM6 : MI f n ru fe li wi td σ6 := hS.2.1.hi (fun a _ _ => e1 a (by omega))
        unfold vc_X10_read
        refine m_isSheet (fun a => ⟨fun _ => ⟨in_nI (by omega) (by omega), ?_⟩, fun z => absurd z nz1⟩) (fun a => absurd hxx a)
        rw [cl_nI (by omega)]
        refine ⟨fun _ => ?_, fun w => absurd ((hm6.1 s hx).1.mp w) hl⟩
        refine for1w 0 m (fun i p => MI (fx f n (it s) i) (n + i) ru fe li wi td p ∧ tt σ6 p) (Nat.zero_le _) ⟨by rw [fx_0]; exact hM6, tt.rf⟩ ?_
        intro i p ag2 _ hi hK hag2
        obtain ⟨k1, k2⟩ := hK
        have hmp : MH fm sz it fd p := hm6.cg (fun a _ _ => k2.1 a (by omega) (by omega)) (k2.2.1 36 (by omega))
        have m1 : (60 : Int32) * nI s = nI (60 * s) := pk_mul 60 s
        have fin : m = i → R (nI m) (nI i) p := by
          intro e
          subst e
          exact h _ p (hS.text hC6 e1 e0 k1 k2)
        rw [(hmp.1 s hx).2.2.1, m1, nI_add, cl_nI (show 60 * s + i < 100000 by omega)]
        refine ⟨fun z => fin (by have := (le_nI (by omega) (by omega)).mp z; omega), fun z => ?_⟩
        replace z := (not_congr (le_nI (by omega) (by omega))).mp z
        refine ⟨in_nI (by omega) (by omega), ?_⟩
        rw [(hmp.1 s hx).2.2.2 i (by omega)]
        refine m_type k1 (fun hby h200 σ' hM' ht' => ?_) (fun hnb => ?_) (fun _ h200 => ?_)
        · refine ⟨fun w => absurd ((le_nI (b := 0) (by omega) (by omega)).mp w) (by omega), fun _ x2 hx2 => ?_⟩
          subst hx2
          rw [nI_1]
          rw [fx_s] at hM'
          have him : i < m := by
            by_cases c : i < L
            · omega
            · have : i = L := by omega
              subst this
              exact absurd hby (hL3 (by omega))
          exact hag2 him σ' ⟨hM', k2.tr ht'⟩
        · refine ⟨fun _ => fin ?_, fun w => absurd (by decide) w⟩
          by_cases c : i < L
          · exact absurd (hL2 i c) hnb
          · omega
        · exact ⟨fun _ => fin (by omega), fun w => absurd (by decide) w⟩
    · unfold vc_X9_finding
      intro σ1 h1
      have hm1 : MH fm sz it fd σ1 := hS.2.2.2.1.cg (fun a _ _ => by rw [h1, st_ne (by omega)]) (by rw [h1, st_ne (by decide)])
      unfold vc_X10_read
      refine m_isSheet (fun a => ⟨fun _ => ⟨in_nI (by omega) (by omega), ?_⟩, fun z => absurd z nz1⟩) (fun a => absurd hxx a)
      rw [cl_nI (by omega)]
      refine ⟨fun w => absurd ((hm1.1 s hx).1.mpr hl) w, fun _ => ?_⟩
      unfold vc_X10_meets
      intro σ2 h2
      refine h _ σ2 ?_
      rw [h2, h1]
      exact hS.find 1
  · unfold vc_X10_read
    exact m_isSheet (fun a => absurd a hx) (fun _ => ⟨fun z => absurd rfl z, fun _ => h _ σ hI'⟩)
