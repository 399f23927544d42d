/-! FROM THE CONSTRUCTORS TO THE FIRST STORE -/
def tw_s0 : tzS := (fun k => if k = 135 then upd (upd (upd (fun _ => 0) 1 3) 2 2) 3 2 else tc_s1.1 k, tc_s1.2)
theorem tw_INV : INV tw_s0 := by
  refine INV0 rfl ⟨rfl, rfl, rfl, rfl⟩ (fun j _ _ => rfl) (fun s hs => ?_) ⟨rfl, rfl, rfl⟩ ⟨rfl, rfl, rfl, rfl⟩
  match s, hs with
  | 0, _ => exact ⟨rfl, rfl, rfl, rfl⟩
  | 1, _ => exact ⟨rfl, rfl, rfl, rfl⟩
  | 2, _ => exact ⟨rfl, rfl, rfl, rfl⟩
  | 3, _ => exact ⟨rfl, rfl, rfl, rfl⟩
  | s + 4, h => exact absurd h (by omega)
def tw_okd (d : tzD) : Bool := match d with
  | .inl (_, rs) => rs.all (fun o => match o with
    | some r => decide (r < 156)
    | none => true)
  | .inr (t, n, b) => decide (b + n ≤ 156) || (t != 3)
theorem tw_all : tz_L.all tw_okd = true := by decide +kernel
theorem tw_lay {k : Nat} (hk : k < 156) : tw_okd (tz_lay k) = true := by
  have hl : tz_L.length = 156 := by decide +kernel
  have h1 : tz_lay k ∈ tz_L := by
    unfold tz_lay
    rw [List.getD_eq_getElem?_getD, List.getElem?_eq_getElem (by rw [hl]; exact hk)]
    exact List.getElem_mem _
  exact List.all_eq_true.mp tw_all _ h1
theorem tw_ent {ad ad' : Nat → Nat} {cy : Nat → ClassId} {σ : tzS} {k : Nat} (h : ∀ r, r < 156 → ad r = ad' r) (hk : k < 156) : tz_ent ad cy σ k = tz_ent ad' cy σ k := by
  have h9 := tw_lay hk
  unfold tz_ent
  cases hd : tz_lay k with
  | inl q =>
    obtain ⟨ci, rs⟩ := q
    rw [hd] at h9
    have hr : rs.all (fun o => match o with
      | some r => decide (r < 156)
      | none => true) = true := h9
    dsimp only
    congr 2
    unfold tz_fs
    apply List.map_congr_left
    intro j _
    cases hj : rs[j]? with
    | none => rfl
    | some o =>
      cases o with
      | none => rfl
      | some r =>
        have := List.all_eq_true.mp hr _ (List.mem_of_getElem? hj)
        simp only [decide_eq_true_eq] at this
        show Value.ref (ad r) = Value.ref (ad' r)
        rw [h r this]
  | inr q =>
    obtain ⟨t, n, b⟩ := q
    rw [hd] at h9
    have hr : (decide (b + n ≤ 156) || (t != 3)) = true := h9
    dsimp only
    by_cases ht : t = 3
    · subst ht
      have hb : b + n ≤ 156 := by simpa using hr
      have e : (fun i => if i < n then some (ad (b + i)) else none) = (fun i => if i < n then some (ad' (b + i)) else none) := by
        funext i
        by_cases hi : i < n
        · rw [if_pos hi, if_pos hi, h (b + i) (by omega)]
        · rw [if_neg hi, if_neg hi]
      rw [e]
    · rw [if_neg ht, if_neg ht]
theorem tc_wa_pre {G : tcG} {wp : va_W} {b : Nat} {x : va_E} {c i : Nat} (h : wp.length = b) (hi : i < b) : (tc_wa G wp b x c)[i]? = wp[i]? := by
  unfold tc_wa
  rw [List.getElem?_append_left (by rw [List.length_append, h]; exact Nat.lt_succ_of_lt hi), List.getElem?_append_left (by omega)]
/-- all cells made: the store's world -/
theorem tw_world (G : tcG) {ad : Nat → Nat} (had : ∀ r, r < 156 → ad r = G.2.1 + r) : (tc_wa G (tc_wa G [] 0 (tc_fin G 0) 132) 133 (tc_fin G 133) 22).set 135 (G.2.1 + 135, .inl (G.2.2.1 0, 4, .inl (upd (upd (upd (fun _ => 0) 1 3) 2 2) 3 2))) = tz_w ad G.2.2.1 tw_s0 := by
  have l1 : (tc_wa G [] 0 (tc_fin G 0) 132).length = 133 := tc_wa_len rfl rfl
  have l2 : (tc_wa G (tc_wa G [] 0 (tc_fin G 0) 132) 133 (tc_fin G 133) 22).length = 156 := tc_wa_len l1 rfl
  have key : ∀ i, i < 156 → (tc_wa G (tc_wa G [] 0 (tc_fin G 0) 132) 133 (tc_fin G 133) 22)[i]? = some (G.2.1 + i, tc_fin G i) := by
    intro i hi
    by_cases h0 : i < 133
    · rw [tc_wa_pre l1 h0]
      by_cases h1 : i = 0
      · subst h1
        exact tc_wa_at rfl
      · exact tc_wa_in rfl (by omega) (by omega)
    · by_cases h1 : i = 133
      · subst h1
        exact tc_wa_at l1
      · exact tc_wa_in l1 (by omega) (by omega)
  apply List.ext_getElem?
  intro i
  by_cases hi : i < 156
  · rw [tz_w_at (show i < tz_N from hi), had i hi]
    by_cases h5 : i = 135
    · subst h5
      rw [List.getElem?_set_self (by rw [l2]; decide)]
      rfl
    · rw [List.getElem?_set_ne (Ne.symm h5), key i hi]
      have e : tc_fin G i = tz_ent ad G.2.2.1 tw_s0 i := by
        unfold tc_fin
        rw [tw_ent (ad := ad) (ad' := fun k => G.2.1 + k) had hi]
        refine (tz_ent_eq (σ := tc_s1) (σ' := tw_s0) ?_ rfl).symm
        show (if i = 135 then _ else tc_s1.1 i) = tc_s1.1 i
        rw [if_neg h5]
      rw [e]
  · rw [List.getElem?_eq_none (by rw [List.length_set, l2]; omega), List.getElem?_eq_none (by rw [tz_w_len]; show 156 ≤ i; omega)]
/-- the kinds at the law's entry -/
theorem tw_D {s : State} {args : Array Value} (ct : ∀ w ∈ tz_TB, w.before args s = true) : ∃ D : va_G, ∀ (c : Nat) (q : vw_C), vwCl[c]? = some q → u_Kn s q.1 q.2.1 q.2.2 (D.1 c) (D.2 c) := by
  have H : ∀ c : Nat, ∃ u : ClassId × (Nat → Nat), ∀ q : vw_C, vwCl[c]? = some q → u_Kn s q.1 q.2.1 q.2.2 u.1 u.2 := by
    intro c
    have put : ∀ {C : String} {T : u_T} {N : Nat}, (∀ w ∈ u_ws C T N, w ∈ tz_TB) → Cond.instantiable C N ∈ tz_TB → vwCl[c]? = some (C, T, N) → ∃ u : ClassId × (Nat → Nat), ∀ q : vw_C, vwCl[c]? = some q → u_Kn s q.1 q.2.1 q.2.2 u.1 u.2 := by
      intro C T N hw hi hc
      obtain ⟨cC, iS, h⟩ := u_known ct hw (ct _ hi)
      refine ⟨(cC, iS), fun q hq => ?_⟩
      cases Option.some.inj (hc.symm.trans hq)
      exact h
    match c with
    | 0 => exact put uw_X0 (tz_in 245 (by decide +kernel) rfl) rfl
    | 1 => exact put uw_X1 (tz_in 218 (by decide +kernel) rfl) rfl
    | 2 => exact put uw_X2 (tz_in 284 (by decide +kernel) rfl) rfl
    | 3 => exact put uw_X3 (tz_in 119 (by decide +kernel) rfl) rfl
    | 4 => exact put uw_X4 (tz_in 309 (by decide +kernel) rfl) rfl
    | 5 => exact put uw_X5 (tz_in 270 (by decide +kernel) rfl) rfl
    | 6 => exact put uw_X6 (tz_in 150 (by decide +kernel) rfl) rfl
    | 7 => exact put uw_X7 (tz_in 328 (by decide +kernel) rfl) rfl
    | 8 => exact put uw_X8 (tz_in 100 (by decide +kernel) rfl) rfl
    | 9 => exact put uw_X9 (tz_in 92 (by decide +kernel) rfl) rfl
    | 10 => exact put uw_X10 (tz_in 821 (by decide +kernel) rfl) rfl
    | c + 11 => exact ⟨(0, fun _ => 0), fun q hq => by cases hq⟩
  obtain ⟨f, hf⟩ := Classical.axiomOfChoice H
  exact ⟨(fun c => (f c).1, fun c => (f c).2), hf⟩
theorem tw_arr {s : State} {args : Array Value} {ty : FieldType} (h : (Cond.arrayClass ty).before args s = true) : ∃ c : ClassId, ArrOfT s c ty ∧ s.vm.findClass ("[" ++ ty.toString) = some c := by
  obtain ⟨c, k, comp, h1, h2, h3⟩ := Cond.arrayClass_spec h
  exact ⟨c, fun n z => ⟨fun k h => (by cases h), k, h2, comp, h3⟩, h1⟩
theorem tw_K {s : State} {args : Array Value} (ct : ∀ w ∈ tz_TB, w.before args s = true) (ho : (Cond.arrayOver (.array .int)).before args s = true) : ∃ (D : va_G) (cy : Nat → ClassId), va_K D vwCl (tz_ty cy) s := by
  obtain ⟨D, hD⟩ := tw_D ct
  obtain ⟨c0, a0, b0⟩ := tw_arr (ct _ c_arr_int)
  obtain ⟨c1, a1, b1⟩ := tw_arr (ct _ c_arr_boolean)
  obtain ⟨c2, a2, b2⟩ := tw_arr (ct _ c_arr_long)
  obtain ⟨comp, c3, k3, -, -, h3, h4, b3⟩ := arrayOverA_spec ho
  have a3 : ArrOfT s c3 (.array .int) := fun n z => ⟨fun k h => (by cases h), k3, h3, comp, h4⟩
  refine ⟨D, fun t => if t = 0 then c0 else if t = 1 then c1 else if t = 2 then c2 else c3, hD, fun k q hk => ?_⟩
  match k, hk with
  | 0, hk => cases hk; exact ⟨a0, b0⟩
  | 1, hk => cases hk; exact ⟨a1, b1⟩
  | 2, hk => cases hk; exact ⟨a2, b2⟩
  | 3, hk => cases hk; exact ⟨a3, b3⟩
  | k + 4, hk => cases hk
theorem tw_eq {args : Array Value} {s : State} {tm : Term} {z : Int32} (h : (Cond.eq tm (.int z)).before args s = true) : tm.eval args s none [] s = some (.int z) := by
  cases hv : tm.eval args s none [] s with
  | none => simp [Cond.before, Cond.holds, Cond.value, hv] at h
  | some w =>
    have hz : (Term.int z).eval args s none [] s = some (.int z) := rfl
    simp only [Cond.before, Cond.holds, Cond.value, hv, hz] at h
    cases w <;> simp_all
