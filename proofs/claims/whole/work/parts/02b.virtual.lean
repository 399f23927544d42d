/-- the link of a field access: entry 'index' of the own file's table is field j of the objects of kind ci -/
def tz_Fl (own : String) (index ci j : Nat) : Prop := ∃ q : vw_C, vwCl[ci]? = some q ∧ j < q.2.2 ∧ Cond.fieldLink own index (q.2.1 j).1 (q.2.1 j).2.1 (q.2.1 j).2.2.1 ∈ tz_TB ∧ ∀ w ∈ u_ws q.1 q.2.1 q.2.2, w ∈ tz_TB
/-- the same for writing: the field isn't final, and has this type; the kind's fields have types and names of their own -/
def tz_Fp (own : String) (index ci j : Nat) (ty : FieldType) : Prop := ∃ q : vw_C, vwCl[ci]? = some q ∧ j < q.2.2 ∧ Cond.fieldLink own index (q.2.1 j).1 (q.2.1 j).2.1 (q.2.1 j).2.2.1 ∈ tz_TB ∧ (∀ w ∈ u_ws q.1 q.2.1 q.2.2, w ∈ tz_TB) ∧ (q.2.1 j).2.2.2 = false ∧ parseFieldDescriptor (q.2.1 j).2.2.1 = some ty ∧ (∃ ty0 : Nat → FieldType, ∀ k, k < q.2.2 → parseFieldDescriptor (q.2.1 k).2.2.1 = some (ty0 k)) ∧ ∀ a, a < q.2.2 → ∀ b, b < q.2.2 → a ≠ b → (q.2.1 a).2.1 ≠ (q.2.1 b).2.1
/-- the link of a call of an own instance method -/
def tz_Lv (own : String) (index : Nat) (y : MethodName) (bytes : ByteArray) (maxL : Nat) (ret : Option FieldType) (n : Nat) : Prop := Cond.methodLink own index y ∈ tz_TB ∧ Cond.instanceMethod y ∈ tz_TB ∧ Cond.selects y.cls y y ∈ tz_TB ∧ Cond.initialized y.cls ∈ tz_TB ∧ Cond.code y bytes maxL ret ∈ tz_TB ∧ y.cls ≠ "java/lang/invoke/MethodHandle" ∧ y.cls ≠ "java/lang/invoke/VarHandle" ∧ (parseMethodDescriptor y.desc).map (fun d => d.parameters.length) = some n
def tz_Ls (own : String) (index : Nat) (y : MethodName) (bytes : ByteArray) (maxL : Nat) (ret : Option FieldType) (n : Nat) : Prop := Cond.methodLink own index y ∈ tz_TB ∧ Cond.static y ∈ tz_TB ∧ Cond.initialized y.cls ∈ tz_TB ∧ Cond.code y bytes maxL ret ∈ tz_TB ∧ y.cls ≠ "java/lang/invoke/MethodHandle" ∧ y.cls ≠ "java/lang/invoke/VarHandle" ∧ (parseMethodDescriptor y.desc).map (fun d => d.parameters.length) = some n
def tz_Ln (w : Cond) (own : String) (index : Nat) (y : MethodName) (bytes : ByteArray) (maxL : Nat) (ret : Option FieldType) (n : Nat) : Prop := w = .methodLinkNest own index y "TopicSeams" ∧ Cond.static y ∈ tz_TB ∧ Cond.initialized y.cls ∈ tz_TB ∧ Cond.code y bytes maxL ret ∈ tz_TB ∧ y.cls ≠ "java/lang/invoke/MethodHandle" ∧ y.cls ≠ "java/lang/invoke/VarHandle" ∧ (parseMethodDescriptor y.desc).map (fun d => d.parameters.length) = some n
section TZ2
variable {G : tzG} {E : tzE} {cc : ByteArray} {own : String} {nL fr lo pc : Nat} {L : List (Nat × Value)} {st : List Value} {σ : tzS}
theorem tz_getI {k ci j index : Nat} {rs : List (Option Nat)} (C : tz_C G E cc own nL fr lo) (d : decode cc pc = .ok (.getfield index, 3)) (f : tz_Fl own index ci j) (hk : k < tz_N) (hl : tz_lay k = .inl (ci, rs)) (hj : rs[j]? = some none) (kk : tz_V G E (pc + 3) L (.int (σ.1 k j) :: st) σ) : tz_V G E pc L (.ref k :: st) σ := by
  obtain ⟨⟨p, e, R, s, m, args, below, meth, c⟩, ⟨nL0, cells, slots, Q⟩⟩ := E
  obtain ⟨⟨C0, T0, N0⟩, h1, h2, h3, h4⟩ := f
  intro H locs ls hP hS h
  have he := tz_w_at (ad := G.2.1) (cy := G.2.2.1) (σ := σ) hk
  unfold tz_ent at he
  rw [hl] at he
  exact va_get C.1.1 C.1.2.1 C.1.2.2.2.2 h4 C.1.2.2.2.1 C.2.2.1.1 hP k he h1 j h2 (C.1.2.2.2.2 _ h3) (fun _ q => q) (tz_fs_int hj) d (kk H locs ls hP hS h)
theorem tz_getR {k ci j index : Nat} {rs : List (Option Nat)} {r : Nat} (C : tz_C G E cc own nL fr lo) (d : decode cc pc = .ok (.getfield index, 3)) (f : tz_Fl own index ci j) (hk : k < tz_N) (hl : tz_lay k = .inl (ci, rs)) (hj : rs[j]? = some (some r)) (kk : tz_V G E (pc + 3) L (.ref r :: st) σ) : tz_V G E pc L (.ref k :: st) σ := by
  obtain ⟨⟨p, e, R, s, m, args, below, meth, c⟩, ⟨nL0, cells, slots, Q⟩⟩ := E
  obtain ⟨⟨C0, T0, N0⟩, h1, h2, h3, h4⟩ := f
  intro H locs ls hP hS h
  have he := tz_w_at (ad := G.2.1) (cy := G.2.2.1) (σ := σ) hk
  unfold tz_ent at he
  rw [hl] at he
  exact va_get C.1.1 C.1.2.1 C.1.2.2.2.2 h4 C.1.2.2.2.1 C.2.2.1.1 hP k he h1 j h2 (C.1.2.2.2.2 _ h3) (fun _ q => q) (tz_fs_ref hj) d (kk H locs ls hP hS h)
theorem tz_st_ne {σ : tzS} {k j a : Nat} {v : Int32} (h : a ≠ k) : (tz_st σ k j v).1 a = σ.1 a := by
  funext b
  exact if_neg h
theorem tz_st_self {σ : tzS} {k j : Nat} {v : Int32} : (tz_st σ k j v).1 k = fun b => if b = j then v else σ.1 k b := by
  funext b
  exact if_pos rfl
theorem tz_put {k ci j index : Nat} {rs : List (Option Nat)} {ty : FieldType} {v : Int32} {P : tzS → Prop} (C : tz_C G E cc own nL fr lo) (d : decode cc pc = .ok (.putfield index, 3)) (f : tz_Fp own index ci j ty) (hk : k < tz_N) (hl : tz_lay k = .inl (ci, rs)) (hj : rs[j]? = some none) (hn : narrow ty (.int v) = .int v) (hf : fits ty (.int v) = true) (hp : ∀ σ', σ' = tz_st σ k j v → P σ') (kk : ∀ σ, P σ → tz_V G E (pc + 3) L st σ) : tz_V G E pc L (.int v :: .ref k :: st) σ := by
  obtain ⟨⟨p, e, R, s, m, args, below, meth, c⟩, ⟨nL0, cells, slots, Q⟩⟩ := E
  obtain ⟨⟨C0, T0, N0⟩, h1, h2, h3, h4, h5, h6, ⟨ty0, h7⟩, h8⟩ := f
  intro H locs ls hP hS h
  have he := tz_w_at (ad := G.2.1) (cy := G.2.2.1) (σ := σ) hk
  unfold tz_ent at he
  rw [hl] at he
  have hjl := (List.getElem?_eq_some_iff.mp hj).1
  refine va_put (ty := ty) (v := .int v) C.1.1 C.1.2.1 C.1.2.2.2.2 h4 ty0 h7 h8 C.1.2.2.2.1 C.2.2.1.1 hP (tz_D C.2.2.2.1 σ) hS k he h1 j h2 (C.1.2.2.2.2 _ h3) (fun _ q => q) h5 h6 hn hf (by rw [tz_fs_len]; exact hjl) d (fun H1 locs1 hP1 _ hS1 => ?_)
  have hw : (tz_w G.2.1 G.2.2.1 σ).set k (G.2.1 k, .inr (ci, (tz_fs G.2.1 (σ.1 k) rs).set j (.int v))) = tz_w G.2.1 G.2.2.1 (tz_st σ k j v) := by
    refine tz_w_set hk ?_ (fun i _ hi => tz_ent_eq (tz_st_ne hi) rfl)
    unfold tz_ent
    rw [hl]
    show Sum.inr (ci, _) = Sum.inr (ci, _)
    rw [tz_fs_set hj, tz_st_self]
  rw [hw] at hP1
  exact kk _ (hp _ rfl) H1 locs1 ls hP1 hS1 h
theorem tz_iald {k n b : Nat} {i : Int32} (C : tz_C G E cc own nL fr lo) (d : decode cc pc = .ok (.iaload, 1)) (hk : k < tz_N) (hl : tz_lay k = .inr (0, n, b)) (hin : vp_in i n) (kk : tz_V G E (pc + 1) L (.int (σ.1 k i.toNatClampNeg) :: st) σ) : tz_V G E pc L (.int i :: .ref k :: st) σ := by
  obtain ⟨⟨p, e, R, s, m, args, below, meth, c⟩, ⟨nL0, cells, slots, Q⟩⟩ := E
  intro H locs ls hP hS h
  have he := tz_w_at (ad := G.2.1) (cy := G.2.2.1) (σ := σ) hk
  unfold tz_ent at he
  rw [hl] at he
  exact va_iald C.1.1 C.1.2.1 C.2.2.1.1 hP k 0 he rfl hin d (kk H locs ls hP hS h)
theorem tz_zald {k n b : Nat} {i : Int32} (C : tz_C G E cc own nL fr lo) (d : decode cc pc = .ok (.baload, 1)) (hk : k < tz_N) (hl : tz_lay k = .inr (1, n, b)) (hin : vp_in i n) (kk : tz_V G E (pc + 1) L (.int (σ.1 k i.toNatClampNeg) :: st) σ) : tz_V G E pc L (.int i :: .ref k :: st) σ := by
  obtain ⟨⟨p, e, R, s, m, args, below, meth, c⟩, ⟨nL0, cells, slots, Q⟩⟩ := E
  intro H locs ls hP hS h
  have he := tz_w_at (ad := G.2.1) (cy := G.2.2.1) (σ := σ) hk
  unfold tz_ent at he
  rw [hl] at he
  exact va_zald C.1.1 C.1.2.1 C.2.2.1.1 hP k 1 he rfl hin d (kk H locs ls hP hS h)
theorem tz_lald {k n b : Nat} {i : Int32} (C : tz_C G E cc own nL fr lo) (d : decode cc pc = .ok (.laload, 1)) (hk : k < tz_N) (hl : tz_lay k = .inr (2, n, b)) (hin : vp_in i n) (kk : tz_V G E (pc + 1) L (.long (σ.2 k i.toNatClampNeg) :: st) σ) : tz_V G E pc L (.int i :: .ref k :: st) σ := by
  obtain ⟨⟨p, e, R, s, m, args, below, meth, c⟩, ⟨nL0, cells, slots, Q⟩⟩ := E
  intro H locs ls hP hS h
  have he := tz_w_at (ad := G.2.1) (cy := G.2.2.1) (σ := σ) hk
  unfold tz_ent at he
  rw [hl] at he
  exact va_lald C.1.1 C.1.2.1 C.2.2.1.1 hP k 2 he rfl hin d (kk H locs ls hP hS h)
theorem tz_aald {k n b : Nat} {i : Int32} (C : tz_C G E cc own nL fr lo) (d : decode cc pc = .ok (.aaload, 1)) (hk : k < tz_N) (hl : tz_lay k = .inr (3, n, b)) (hin : vp_in i n) (kk : tz_V G E (pc + 1) L (.ref (b + i.toNatClampNeg) :: st) σ) : tz_V G E pc L (.int i :: .ref k :: st) σ := by
  obtain ⟨⟨p, e, R, s, m, args, below, meth, c⟩, ⟨nL0, cells, slots, Q⟩⟩ := E
  intro H locs ls hP hS h
  have he := tz_w_at (ad := G.2.1) (cy := G.2.2.1) (σ := σ) hk
  unfold tz_ent at he
  rw [hl] at he
  have hlt : i.toNatClampNeg < n := Nat.not_le.mp fun q => hin (Or.inr q)
  have hK := C.2.2.1.1
  refine W.aald (v := .ref (G.2.1 (b + i.toNatClampNeg))) (ty := .array .int) C.1.1 C.1.2.1 (hP k _ he) ((hK.2 3 _ rfl).1 n (fun j => va_rf (if j < n then some (G.2.1 (b + j)) else none))) rfl (fun q => by cases q) (by show ¬ (i < 0 ∨ (arrV _ _ _).slots.size ≤ _); rw [arrV_size]; exact hin) ?_ rfl rfl d (kk H locs ls hP hS h)
  show (arrV _ _ _).slots[_]? = _
  rw [arrV_read _ _ hlt]
  show some (va_rf (if i.toNatClampNeg < n then some (G.2.1 (b + i.toNatClampNeg)) else none)) = _
  rw [if_pos hlt]
  rfl
theorem tz_iast {k n b : Nat} {i v : Int32} {P : tzS → Prop} (C : tz_C G E cc own nL fr lo) (d : decode cc pc = .ok (.iastore, 1)) (hk : k < tz_N) (hl : tz_lay k = .inr (0, n, b)) (hp : vp_in i n ∧ ∀ σ', σ' = tz_st σ k i.toNatClampNeg v → P σ') (kk : ∀ σ, P σ → tz_V G E (pc + 1) L st σ) : tz_V G E pc L (.int v :: .int i :: .ref k :: st) σ := by
  obtain ⟨⟨p, e, R, s, m, args, below, meth, c⟩, ⟨nL0, cells, slots, Q⟩⟩ := E
  intro H locs ls hP hS h
  have he := tz_w_at (ad := G.2.1) (cy := G.2.2.1) (σ := σ) hk
  unfold tz_ent at he
  rw [hl] at he
  refine va_iast C.1.1 C.1.2.1 C.2.2.1.1 hP (tz_D C.2.2.2.1 σ) hS k 0 he rfl hp.1 d (fun H1 locs1 hP1 _ hS1 => ?_)
  have hw : (tz_w G.2.1 G.2.2.1 σ).set k (G.2.1 k, .inl (G.2.2.1 0, n, .inl (upd (σ.1 k) i.toNatClampNeg v))) = tz_w G.2.1 G.2.2.1 (tz_st σ k i.toNatClampNeg v) := by
    refine tz_w_set hk ?_ (fun i _ hi => tz_ent_eq (tz_st_ne hi) rfl)
    unfold tz_ent
    rw [hl]
    show Sum.inl (_, n, Sum.inl _) = Sum.inl (_, n, Sum.inl _)
    rw [tz_st_self]
    rfl
  rw [hw] at hP1
  exact kk _ (hp.2 _ rfl) H1 locs1 ls hP1 hS1 h
theorem tz_zast {k n b : Nat} {i v : Int32} {P : tzS → Prop} (C : tz_C G E cc own nL fr lo) (d : decode cc pc = .ok (.bastore, 1)) (hk : k < tz_N) (hl : tz_lay k = .inr (1, n, b)) (hv : vp_nar .boolean v = v) (hp : vp_in i n ∧ ∀ σ', σ' = tz_st σ k i.toNatClampNeg v → P σ') (kk : ∀ σ, P σ → tz_V G E (pc + 1) L st σ) : tz_V G E pc L (.int v :: .int i :: .ref k :: st) σ := by
  obtain ⟨⟨p, e, R, s, m, args, below, meth, c⟩, ⟨nL0, cells, slots, Q⟩⟩ := E
  intro H locs ls hP hS h
  have he := tz_w_at (ad := G.2.1) (cy := G.2.2.1) (σ := σ) hk
  unfold tz_ent at he
  rw [hl] at he
  refine va_zast C.1.1 C.1.2.1 C.2.2.1.1 hP (tz_D C.2.2.2.1 σ) hS k 1 he rfl hp.1 d (fun H1 locs1 hP1 _ hS1 => ?_)
  have hw : (tz_w G.2.1 G.2.2.1 σ).set k (G.2.1 k, .inl (G.2.2.1 1, n, .inl (upd (σ.1 k) i.toNatClampNeg v))) = tz_w G.2.1 G.2.2.1 (tz_st σ k i.toNatClampNeg v) := by
    refine tz_w_set hk ?_ (fun i _ hi => tz_ent_eq (tz_st_ne hi) rfl)
    unfold tz_ent
    rw [hl]
    show Sum.inl (_, n, Sum.inl _) = Sum.inl (_, n, Sum.inl _)
    rw [tz_st_self]
    rfl
  rw [hv, hw] at hP1
  exact kk _ (hp.2 _ rfl) H1 locs1 ls hP1 hS1 h
theorem tz_last {k n b : Nat} {i : Int32} {v : Int64} {P : tzS → Prop} (C : tz_C G E cc own nL fr lo) (d : decode cc pc = .ok (.lastore, 1)) (hk : k < tz_N) (hl : tz_lay k = .inr (2, n, b)) (hp : vp_in i n ∧ ∀ σ', σ' = tz_sl σ k i.toNatClampNeg v → P σ') (kk : ∀ σ, P σ → tz_V G E (pc + 1) L st σ) : tz_V G E pc L (.long v :: .int i :: .ref k :: st) σ := by
  obtain ⟨⟨p, e, R, s, m, args, below, meth, c⟩, ⟨nL0, cells, slots, Q⟩⟩ := E
  intro H locs ls hP hS h
  have he := tz_w_at (ad := G.2.1) (cy := G.2.2.1) (σ := σ) hk
  unfold tz_ent at he
  rw [hl] at he
  refine va_last C.1.1 C.1.2.1 C.2.2.1.1 hP (tz_D C.2.2.2.1 σ) hS k 2 he rfl hp.1 d (fun H1 locs1 hP1 _ hS1 => ?_)
  have hw : (tz_w G.2.1 G.2.2.1 σ).set k (G.2.1 k, .inl (G.2.2.1 2, n, .inr (.inl (vp_updL (σ.2 k) i.toNatClampNeg v)))) = tz_w G.2.1 G.2.2.1 (tz_sl σ k i.toNatClampNeg v) := by
    refine tz_w_set hk ?_ (fun j _ hj => tz_ent_eq rfl (by funext b; exact if_neg hj))
    unfold tz_ent
    rw [hl]
    show Sum.inl (_, n, Sum.inr (Sum.inl _)) = Sum.inl (_, n, Sum.inr (Sum.inl _))
    have : (tz_sl σ k i.toNatClampNeg v).2 k = vp_updL (σ.2 k) i.toNatClampNeg v := by
      funext b
      exact if_pos rfl
    rw [this]
  rw [hw] at hP1
  exact kk _ (hp.2 _ rfl) H1 locs1 ls hP1 hS1 h
theorem tz_copy {k0 k1 n0 n1 b0 b1 index : Nat} {sp dp n : Int32} {P : tzS → Prop} (C : tz_C G E cc own nL fr lo) (d : decode cc pc = .ok (.invokestatic index, 3)) (w1 : Cond.methodLink own index arraycopyName ∈ tz_TB) (w2 : Cond.native arraycopyName ∈ tz_TB) (w3 : Cond.static arraycopyName ∈ tz_TB) (w4 : Cond.initialized "java/lang/System" ∈ tz_TB) (hr : 1 ≤ fr ∧ (st.map fun v => v.category).sum + (nativeFrameWords "java/lang/System" "arraycopy" 5 + 11) ≤ lo) (hk0 : k0 < tz_N) (hl0 : tz_lay k0 = .inr (0, n0, b0)) (hk1 : k1 < tz_N) (hl1 : tz_lay k1 = .inr (0, n1, b1)) (hp : (¬ sp < 0 ∧ ¬ dp < 0 ∧ ¬ n < 0 ∧ sp.toNatClampNeg + n.toNatClampNeg ≤ n0 ∧ dp.toNatClampNeg + n.toNatClampNeg ≤ n1) ∧ ∀ σ', σ' = tz_cp σ k0 k1 sp.toNatClampNeg dp.toNatClampNeg n.toNatClampNeg → P σ') (kk : ∀ σ, P σ → tz_V G E (pc + 3) L st σ) : tz_V G E pc L (.int n :: .int dp :: .ref k1 :: .int sp :: .ref k0 :: st) σ := by
  obtain ⟨⟨p, e, R, s, m, args, below, meth, c⟩, ⟨nL0, cells, slots, Q⟩⟩ := E
  obtain rfl : nL0 = nL := C.2.1
  intro H locs ls hP hS h
  have he0 := tz_w_at (ad := G.2.1) (cy := G.2.2.1) (σ := σ) hk0
  have he1 := tz_w_at (ad := G.2.1) (cy := G.2.2.1) (σ := σ) hk1
  unfold tz_ent at he0 he1
  rw [hl0] at he0
  rw [hl1] at he1
  obtain ⟨⟨g1, g2, g3, g4, g5⟩, hp⟩ := hp
  have hcat : ((st.map (tz_x G.2.1)).map fun v => v.category).sum = (st.map fun v => v.category).sum := by
    rw [List.map_map]
    congr 1
    apply List.map_congr_left
    intro v _
    exact tz_x_cat _ v
  refine va_copyi (ty := .int) C.1.1 C.1.2.1 (by rw [C.1.2.2.1]; exact h.1.symm) C.1.2.2.2.1 (C.1.2.2.2.2 _ w1) (C.1.2.2.2.2 _ w2) (C.1.2.2.2.2 _ w3) (C.1.2.2.2.2 _ w4) C.2.2.1.1 hP (tz_D C.2.2.2.1 σ) hS k0 k1 0 0 he0 he1 rfl rfl rfl g1 g2 g3 g4 g5 (fun _ _ => rfl) (Nat.le_trans hr.1 C.2.2.2.2.1) (by rw [hcat]; exact Nat.le_trans hr.2 C.2.2.2.2.2.1) d (fun H1 locs1 hP1 _ hS1 => ?_)
  have hw : (tz_w G.2.1 G.2.2.1 σ).set k1 (G.2.1 k1, .inl (G.2.2.1 0, n1, .inl (va_cpy (σ.1 k0) (σ.1 k1) sp.toNatClampNeg dp.toNatClampNeg n.toNatClampNeg))) = tz_w G.2.1 G.2.2.1 (tz_cp σ k0 k1 sp.toNatClampNeg dp.toNatClampNeg n.toNatClampNeg) := by
    refine tz_w_set hk1 ?_ (fun j _ hj => tz_ent_eq (by funext b; exact if_neg hj) rfl)
    unfold tz_ent
    rw [hl1]
    show Sum.inl (_, n1, Sum.inl _) = Sum.inl (_, n1, Sum.inl _)
    have : (tz_cp σ k0 k1 sp.toNatClampNeg dp.toNatClampNeg n.toNatClampNeg).1 k1 = va_cpy (σ.1 k0) (σ.1 k1) sp.toNatClampNeg dp.toNatClampNeg n.toNatClampNeg := by
      funext b
      exact if_pos rfl
    rw [this]
  rw [hw] at hP1
  exact kk _ (hp _ rfl) H1 locs1 ls hP1 hS1 h
theorem tz_cat {ad : Nat → Nat} {st : List Value} (h : (st.map fun v => v.category).sum ≤ 8) : ((st.map (tz_x ad)).map fun v => v.category).sum ≤ 8 := by
  have : ((st.map (tz_x ad)).map fun v => v.category).sum = (st.map fun v => v.category).sum := by
    rw [List.map_map]
    congr 1
    apply List.map_congr_left
    intro v _
    exact tz_x_cat _ v
  rw [this]
  exact h
theorem tz_catq {ad : Nat → Nat} {st : List Value} {n q : Nat} (h : (st.map fun v => v.category).sum + n ≤ q) : ((st.map (tz_x ad)).map fun v => v.category).sum + n ≤ q := by
  have : ((st.map (tz_x ad)).map fun v => v.category).sum = (st.map fun v => v.category).sum := by
    rw [List.map_map]
    congr 1
    apply List.map_congr_left
    intro v _
    exact tz_x_cat _ v
  rw [this]
  exact h
theorem tz_mmax {index : Nat} {x y : Int32} (C : tz_C G E cc own nL fr lo) (d : decode cc pc = .ok (.invokestatic index, 3)) (w1 : Cond.methodLink own index Lib.Math.max.name ∈ tz_TB) (w2 : Cond.static Lib.Math.max.name ∈ tz_TB) (w3 : Cond.initialized "java/lang/Math" ∈ tz_TB) (w4 : Cond.code Lib.Math.max.name Lib.Math.max.code 2 (some .int) ∈ tz_TB) (hr : 1 ≤ fr ∧ (st.map fun v => v.category).sum + 13 ≤ lo) (kk : tz_V G E (pc + 3) L (.int (if x < y then y else x) :: st) σ) : tz_V G E pc L (.int y :: .int x :: st) σ := by
  obtain ⟨⟨p, e, R, s, m, args, below, meth, c⟩, ⟨nL0, cells, slots, Q⟩⟩ := E
  obtain rfl : nL0 = nL := C.2.1
  intro H locs ls hP hS h
  exact va_mmax C.1.1 C.1.2.1 (by rw [C.1.2.2.1]; exact h.1.symm) C.1.2.2.2.1 (C.1.2.2.2.2 _ w1) (C.1.2.2.2.2 _ w2) (C.1.2.2.2.2 _ w3) (C.1.2.2.2.2 _ w4) (Nat.le_trans hr.1 C.2.2.2.2.1) (Nat.le_trans (tz_catq hr.2) C.2.2.2.2.2.1) C.2.2.2.2.2.2.1 C.2.2.2.2.2.2.2 d (kk H locs ls hP hS h)
theorem tz_mmin {index : Nat} {x y : Int32} (C : tz_C G E cc own nL fr lo) (d : decode cc pc = .ok (.invokestatic index, 3)) (w1 : Cond.methodLink own index Lib.Math.min.name ∈ tz_TB) (w2 : Cond.static Lib.Math.min.name ∈ tz_TB) (w3 : Cond.initialized "java/lang/Math" ∈ tz_TB) (w4 : Cond.code Lib.Math.min.name Lib.Math.min.code 2 (some .int) ∈ tz_TB) (hr : 1 ≤ fr ∧ (st.map fun v => v.category).sum + 13 ≤ lo) (kk : tz_V G E (pc + 3) L (.int (if y < x then y else x) :: st) σ) : tz_V G E pc L (.int y :: .int x :: st) σ := by
  obtain ⟨⟨p, e, R, s, m, args, below, meth, c⟩, ⟨nL0, cells, slots, Q⟩⟩ := E
  obtain rfl : nL0 = nL := C.2.1
  intro H locs ls hP hS h
  exact va_mmin C.1.1 C.1.2.1 (by rw [C.1.2.2.1]; exact h.1.symm) C.1.2.2.2.1 (C.1.2.2.2.2 _ w1) (C.1.2.2.2.2 _ w2) (C.1.2.2.2.2 _ w3) (C.1.2.2.2.2 _ w4) (Nat.le_trans hr.1 C.2.2.2.2.1) (Nat.le_trans (tz_catq hr.2) C.2.2.2.2.2.1) C.2.2.2.2.2.2.1 C.2.2.2.2.2.2.2 d (kk H locs ls hP hS h)
theorem tz_ldcw {index : Nat} (v : Int32) (C : tz_C G E cc own nL fr lo) (d : decode cc pc = .ok (.ldc_w index, 3)) (w : Cond.constant own index v ∈ tz_TB) (kk : tz_V G E (pc + 3) L (.int v :: st) σ) : tz_V G E pc L st σ := by
  obtain ⟨⟨p, e, R, s, m, args, below, meth, c⟩, ⟨nL0, cells, slots, Q⟩⟩ := E
  intro H locs ls hP hS h
  exact lv_ldcw C.1.1 C.1.2.1 C.1.2.2.2.1 (C.1.2.2.2.2 _ w) d (kk H locs ls hP hS h)
theorem tz_ldc {index : Nat} (v : Int32) (C : tz_C G E cc own nL fr lo) (d : decode cc pc = .ok (.ldc index, 2)) (w : Cond.constant own index v ∈ tz_TB) (kk : tz_V G E (pc + 2) L (.int v :: st) σ) : tz_V G E pc L st σ := by
  obtain ⟨⟨p, e, R, s, m, args, below, meth, c⟩, ⟨nL0, cells, slots, Q⟩⟩ := E
  intro H locs ls hP hS h
  exact lv_ldc C.1.1 C.1.2.1 C.1.2.2.2.1 (C.1.2.2.2.2 _ w) d (kk H locs ls hP hS h)
theorem tz_ldc2 {index : Nat} (v : Int64) (C : tz_C G E cc own nL fr lo) (d : decode cc pc = .ok (.ldc2_w index, 3)) (w : Cond.constantLong own index v ∈ tz_TB) (kk : tz_V G E (pc + 3) L (.long v :: st) σ) : tz_V G E pc L st σ := by
  obtain ⟨⟨p, e, R, s, m, args, below, meth, c⟩, ⟨nL0, cells, slots, Q⟩⟩ := E
  intro H locs ls hP hS h
  exact lv_ldc2 C.1.1 C.1.2.1 C.1.2.2.2.1 (C.1.2.2.2.2 _ w) d (kk H locs ls hP hS h)
/-- a static table: LEAST (1000), MOST (1001) -/
theorem tz_getsL {index : Nat} (C : tz_C G E cc own nL fr lo) (d : decode cc pc = .ok (.getstatic index, 3)) (w : Cond.fieldLink own index "TopicSeams" "LEAST" "[I" ∈ tz_TB) (kk : tz_V G E (pc + 3) L (.ref 1000 :: st) σ) : tz_V G E pc L st σ := by
  obtain ⟨⟨p, e, R, s, m, args, below, meth, c⟩, ⟨nL0, cells, slots, Q⟩⟩ := E
  intro H locs ls hP hS h
  exact va_gets C.1.1 C.1.2.1 C.2.2.1.2.2.2.1 hS C.1.2.2.2.1 (C.1.2.2.2.2 _ w) (fun _ q => q) d (kk H locs ls hP hS h)
theorem tz_getsM {index : Nat} (C : tz_C G E cc own nL fr lo) (d : decode cc pc = .ok (.getstatic index, 3)) (w : Cond.fieldLink own index "TopicSeams" "MOST" "[I" ∈ tz_TB) (kk : tz_V G E (pc + 3) L (.ref 1001 :: st) σ) : tz_V G E pc L st σ := by
  obtain ⟨⟨p, e, R, s, m, args, below, meth, c⟩, ⟨nL0, cells, slots, Q⟩⟩ := E
  intro H locs ls hP hS h
  exact va_gets C.1.1 C.1.2.1 C.2.2.1.2.2.2.2.2.1 hS C.1.2.2.2.1 (C.1.2.2.2.2 _ w) (fun _ q => q) d (kk H locs ls hP hS h)
theorem tz_tldL {i : Int32} (C : tz_C G E cc own nL fr lo) (d : decode cc pc = .ok (.iaload, 1)) (hin : vp_in i 4) (kk : tz_V G E (pc + 1) L (.int (tz_least i.toNatClampNeg) :: st) σ) : tz_V G E pc L (.int i :: .ref 1000 :: st) σ := by
  obtain ⟨⟨p, e, R, s, m, args, below, meth, c⟩, ⟨nL0, cells, slots, Q⟩⟩ := E
  intro H locs ls hP hS h
  exact va_ti C.1.1 C.1.2.1 C.2.2.1.2.2.2.2.1 hS hin rfl d (kk H locs ls hP hS h)
theorem tz_tldM {i : Int32} (C : tz_C G E cc own nL fr lo) (d : decode cc pc = .ok (.iaload, 1)) (hin : vp_in i 4) (kk : tz_V G E (pc + 1) L (.int (tz_most i.toNatClampNeg) :: st) σ) : tz_V G E pc L (.int i :: .ref 1001 :: st) σ := by
  obtain ⟨⟨p, e, R, s, m, args, below, meth, c⟩, ⟨nL0, cells, slots, Q⟩⟩ := E
  intro H locs ls hP hS h
  exact va_ti C.1.1 C.1.2.1 C.2.2.1.2.2.2.2.2.2 hS hin rfl d (kk H locs ls hP hS h)
theorem tz_tabIn {dflt lw hw : Int} {offs : Array Int} {len : Nat} {x : Int32} (off : Int) (tgt : Nat) (C : tz_C G E cc own nL fr lo) (d : decode cc pc = .ok (.tableswitch dflt lw hw offs, len)) (h1 : ¬ x.toInt < lw) (h2 : ¬ hw < x.toInt) (ho : offs[(x.toInt - lw).toNat]? = some off) (ht : (pc : Int) + off = (tgt : Int)) (kk : tz_V G E tgt L st σ) : tz_V G E pc L (.int x :: st) σ := by
  obtain ⟨⟨p, e, R, s, m, args, below, meth, c⟩, ⟨nL0, cells, slots, Q⟩⟩ := E
  intro H locs ls hP hS h
  exact lv_tableIn C.1.1 C.1.2.1 d h1 h2 ho ht (kk H locs ls hP hS h)
theorem tz_tabOut {dflt lw hw : Int} {offs : Array Int} {len : Nat} {x : Int32} (tgt : Nat) (C : tz_C G E cc own nL fr lo) (d : decode cc pc = .ok (.tableswitch dflt lw hw offs, len)) (h1 : x.toInt < lw ∨ hw < x.toInt) (ht : (pc : Int) + dflt = (tgt : Int)) (kk : tz_V G E tgt L st σ) : tz_V G E pc L (.int x :: st) σ := by
  obtain ⟨⟨p, e, R, s, m, args, below, meth, c⟩, ⟨nL0, cells, slots, Q⟩⟩ := E
  intro H locs ls hP hS h
  exact lv_tableOut C.1.1 C.1.2.1 d h1 ht (kk H locs ls hP hS h)

theorem tz_calliv {y : MethodName} {bytes : ByteArray} {maxL index n f0 l0 : Nat} {ret : Option FieldType} {vs stk : List Value} {k ci : Nat} {rs : List (Option Nat)} {q9 : vw_C}  {Q9 : Int32 → tzS → Prop} (C : tz_C G E cc own nL fr lo) (d : decode cc pc = .ok (.invokevirtual index, 3)) (w : tz_Lv own index y bytes maxL ret n) (hM : tz_M G y bytes maxL ret f0 l0 (.ref k :: vs) σ (tz_Qi G Q9)) (hk : k < tz_N) (hl : tz_lay k = .inl (ci, rs)) (hc : vwCl[ci]? = some q9) (hy : q9.1 = y.cls) (hn : vs.length = n) (hr : f0 + 1 ≤ fr ∧ 8 + (maxL + 11) + l0 ≤ lo) (hst : (st.map fun v => v.category).sum ≤ 8) (hs : stk = vs.reverse ++ .ref k :: st) (kk : ∀ (r : Int32) σ, Q9 r σ → tz_V G E (pc + 3) L (.int r :: st) σ) : tz_V G E pc L stk σ := by
  subst hs
  obtain ⟨⟨p, e, R, s, m, args, below, meth, c⟩, ⟨nL0, cells, slots, Q⟩⟩ := E
  obtain rfl : nL0 = nL := C.2.1
  intro H locs ls hP hS h
  obtain ⟨w1, w2, w3, w4, w5, w6, w7, w8⟩ := w
  obtain ⟨⟨cx, cb, cm, co, ct⟩, -, cK, cok, cf, cl, cce, csl⟩ := id C
  have he := tz_w_at (ad := G.2.1) (cy := G.2.2.1) (σ := σ) hk
  unfold tz_ent at he
  rw [hl] at he
  have hG : GoodIn tz_TB (wsV own index y.cls y (Cond.code y bytes maxL ret :: tz_TB)) := by
    intro w hw
    rcases List.mem_append.mp hw with q | q
    · rcases List.mem_cons.mp q with rfl | q
      · exact ⟨w1, good_of_word (List.mem_filter.mp w1).2⟩
      · rcases List.mem_cons.mp q with rfl | q
        · exact ⟨w2, good_of_word (List.mem_filter.mp w2).2⟩
        · rcases List.mem_cons.mp q with rfl | q
          · exact ⟨w3, good_of_word (List.mem_filter.mp w3).2⟩
          · rcases List.mem_cons.mp q with rfl | q
            · exact ⟨w4, good_of_word (List.mem_filter.mp w4).2⟩
            · cases q
    · exact tz_good w5 w q
  have hrc := va_recv (q := q9) cK.1 hP hc he
  rw [hy] at hrc
  refine va_calli (va_runV (As := vs.map (tz_x G.2.1)) (rest := st.map (tz_x G.2.1)) (b := G.2.1 k) ⟨cx, cb, cm, co, ct⟩ hM (cwV n ct hG rfl rfl rfl ⟨rfl, w6, w7, w8⟩ ⟨Nat.le_trans hr.1 cf, Nat.le_trans hr.2 cl⟩) ⟨tz_Pc.blind G _ σ, hrc, fun U hU hW => ⟨rfl, by rw [hU]; exact hP, cK.warm hW hU hS⟩⟩ rfl (by rw [List.length_map]; exact hn) h.1 (by show List.map (tz_x G.2.1) (vs.reverse ++ .ref k :: st) = _; rw [List.map_append, List.map_reverse]; rfl) (lv_room (tz_cat hst)) d ⟨cce, csl⟩) hS (fun q _ z => z) (fun q z => z) (fun r u t H1 locs1 ht hvm hw hB hz1 hk1 hS1 => ?_)
  exact kk r u hw H1 locs1 ls (by rw [← ht]; exact hB) hS1 h
theorem tz_callis {y : MethodName} {bytes : ByteArray} {maxL index n f0 l0 : Nat} {ret : Option FieldType} {vs stk : List Value}   {Q9 : Int32 → tzS → Prop} (C : tz_C G E cc own nL fr lo) (d : decode cc pc = .ok (.invokestatic index, 3)) (w : tz_Ls own index y bytes maxL ret n) (hM : tz_M G y bytes maxL ret f0 l0 (vs) σ (tz_Qi G Q9))  (hn : vs.length = n) (hr : f0 + 1 ≤ fr ∧ 8 + (maxL + 11) + l0 ≤ lo) (hst : (st.map fun v => v.category).sum ≤ 8) (hs : stk = vs.reverse ++ st) (kk : ∀ (r : Int32) σ, Q9 r σ → tz_V G E (pc + 3) L (.int r :: st) σ) : tz_V G E pc L stk σ := by
  subst hs
  obtain ⟨⟨p, e, R, s, m, args, below, meth, c⟩, ⟨nL0, cells, slots, Q⟩⟩ := E
  obtain rfl : nL0 = nL := C.2.1
  intro H locs ls hP hS h
  obtain ⟨w1, w2, w4, w5, w6, w7, w8⟩ := w
  obtain ⟨⟨cx, cb, cm, co, ct⟩, -, cK, cok, cf, cl, cce, csl⟩ := id C
  have hG : GoodIn tz_TB (va_wsS own index y (Cond.code y bytes maxL ret :: tz_TB)) := by
    intro w hw
    rcases List.mem_append.mp hw with q | q
    · rcases List.mem_cons.mp q with rfl | q
      · exact ⟨w1, good_of_word (List.mem_filter.mp w1).2⟩
      · rcases List.mem_cons.mp q with rfl | q
        · exact ⟨w2, good_of_word (List.mem_filter.mp w2).2⟩
        · rcases List.mem_cons.mp q with rfl | q
          · exact ⟨w4, good_of_word (List.mem_filter.mp w4).2⟩
          · cases q
    · exact tz_good w5 w q
  refine va_calli (va_runS (As := vs.map (tz_x G.2.1)) (rest := st.map (tz_x G.2.1)) ⟨cx, cb, cm, co, ct⟩ hM (va_cwS n ct hG rfl rfl rfl ⟨w6, w7, w8⟩ ⟨Nat.le_trans hr.1 cf, Nat.le_trans hr.2 cl⟩) ⟨tz_Pc.blind G _ σ, fun U hU hW => ⟨rfl, by rw [hU]; exact hP, cK.warm hW hU hS⟩⟩ rfl (by rw [List.length_map]; exact hn) h.1 (by show List.map (tz_x G.2.1) (vs.reverse ++ st) = _; rw [List.map_append, List.map_reverse]) (lv_room (tz_cat hst)) d ⟨cce, csl⟩) hS (fun q _ z => z) (fun q z => z) (fun r u t H1 locs1 ht hvm hw hB hz1 hk1 hS1 => ?_)
  exact kk r u hw H1 locs1 ls (by rw [← ht]; exact hB) hS1 h
theorem tz_callin {y : MethodName} {bytes : ByteArray} {maxL index n f0 l0 : Nat} {ret : Option FieldType} {vs stk : List Value}  {w9 : Cond} (hw9 : w9 = tz_nest1 ∨ w9 = tz_nest2) {Q9 : Int32 → tzS → Prop} (C : tz_C G E cc own nL fr lo) (d : decode cc pc = .ok (.invokestatic index, 3)) (w : tz_Ln w9 own index y bytes maxL ret n) (hM : tz_M G y bytes maxL ret f0 l0 (vs) σ (tz_Qi G Q9))  (hn : vs.length = n) (hr : f0 + 1 ≤ fr ∧ 8 + (maxL + 11) + l0 ≤ lo) (hst : (st.map fun v => v.category).sum ≤ 8) (hs : stk = vs.reverse ++ st) (kk : ∀ (r : Int32) σ, Q9 r σ → tz_V G E (pc + 3) L (.int r :: st) σ) : tz_V G E pc L stk σ := by
  subst hs
  obtain ⟨⟨p, e, R, s, m, args, below, meth, c⟩, ⟨nL0, cells, slots, Q⟩⟩ := E
  obtain rfl : nL0 = nL := C.2.1
  intro H locs ls hP hS h
  obtain ⟨w1, w2, w4, w5, w6, w7, w8⟩ := w
  obtain ⟨⟨cx, cb, cm, co, ct⟩, -, cK, cok, cf, cl, cce, csl⟩ := id C
  have hN : va_Nw w9 s := by
    rcases hw9 with rfl | rfl
    · exact cK.2.1
    · exact cK.2.2.1
  rw [w1] at hN
  refine va_calli (va_runSN (As := vs.map (tz_x G.2.1)) (rest := st.map (tz_x G.2.1)) ⟨cx, cb, cm, co, ct⟩ hM ⟨va_cnB n ct (tz_good w5) rfl rfl rfl hN (ct _ w4) ⟨w6, w7, w8⟩ ⟨Nat.le_trans hr.1 cf, Nat.le_trans hr.2 cl⟩, ct _ w2, trivial⟩ ⟨tz_Pc.blind G _ σ, fun U hU hW => ⟨rfl, by rw [hU]; exact hP, cK.warm hW hU hS⟩⟩ rfl (by rw [List.length_map]; exact hn) h.1 (by show List.map (tz_x G.2.1) (vs.reverse ++ st) = _; rw [List.map_append, List.map_reverse]) (lv_room (tz_cat hst)) d ⟨cce, csl⟩) hS (fun q _ z => z) (fun q z => z) (fun r u t H1 locs1 ht hvm hw hB hz1 hk1 hS1 => ?_)
  exact kk r u hw H1 locs1 ls (by rw [← ht]; exact hB) hS1 h
theorem tz_calllv {y : MethodName} {bytes : ByteArray} {maxL index n f0 l0 : Nat} {ret : Option FieldType} {vs stk : List Value} {k ci : Nat} {rs : List (Option Nat)} {q9 : vw_C}  {Q9 : Int64 → tzS → Prop} (C : tz_C G E cc own nL fr lo) (d : decode cc pc = .ok (.invokevirtual index, 3)) (w : tz_Lv own index y bytes maxL ret n) (hM : tz_M G y bytes maxL ret f0 l0 (.ref k :: vs) σ (tz_Ql G Q9)) (hk : k < tz_N) (hl : tz_lay k = .inl (ci, rs)) (hc : vwCl[ci]? = some q9) (hy : q9.1 = y.cls) (hn : vs.length = n) (hr : f0 + 1 ≤ fr ∧ 8 + (maxL + 11) + l0 ≤ lo) (hst : (st.map fun v => v.category).sum ≤ 8) (hs : stk = vs.reverse ++ .ref k :: st) (kk : ∀ (r : Int64) σ, Q9 r σ → tz_V G E (pc + 3) L (.long r :: st) σ) : tz_V G E pc L stk σ := by
  subst hs
  obtain ⟨⟨p, e, R, s, m, args, below, meth, c⟩, ⟨nL0, cells, slots, Q⟩⟩ := E
  obtain rfl : nL0 = nL := C.2.1
  intro H locs ls hP hS h
  obtain ⟨w1, w2, w3, w4, w5, w6, w7, w8⟩ := w
  obtain ⟨⟨cx, cb, cm, co, ct⟩, -, cK, cok, cf, cl, cce, csl⟩ := id C
  have he := tz_w_at (ad := G.2.1) (cy := G.2.2.1) (σ := σ) hk
  unfold tz_ent at he
  rw [hl] at he
  have hG : GoodIn tz_TB (wsV own index y.cls y (Cond.code y bytes maxL ret :: tz_TB)) := by
    intro w hw
    rcases List.mem_append.mp hw with q | q
    · rcases List.mem_cons.mp q with rfl | q
      · exact ⟨w1, good_of_word (List.mem_filter.mp w1).2⟩
      · rcases List.mem_cons.mp q with rfl | q
        · exact ⟨w2, good_of_word (List.mem_filter.mp w2).2⟩
        · rcases List.mem_cons.mp q with rfl | q
          · exact ⟨w3, good_of_word (List.mem_filter.mp w3).2⟩
          · rcases List.mem_cons.mp q with rfl | q
            · exact ⟨w4, good_of_word (List.mem_filter.mp w4).2⟩
            · cases q
    · exact tz_good w5 w q
  have hrc := va_recv (q := q9) cK.1 hP hc he
  rw [hy] at hrc
  refine va_calll (va_runV (As := vs.map (tz_x G.2.1)) (rest := st.map (tz_x G.2.1)) (b := G.2.1 k) ⟨cx, cb, cm, co, ct⟩ hM (cwV n ct hG rfl rfl rfl ⟨rfl, w6, w7, w8⟩ ⟨Nat.le_trans hr.1 cf, Nat.le_trans hr.2 cl⟩) ⟨tz_Pc.blind G _ σ, hrc, fun U hU hW => ⟨rfl, by rw [hU]; exact hP, cK.warm hW hU hS⟩⟩ rfl (by rw [List.length_map]; exact hn) h.1 (by show List.map (tz_x G.2.1) (vs.reverse ++ .ref k :: st) = _; rw [List.map_append, List.map_reverse]; rfl) (lv_room (tz_cat hst)) d ⟨cce, csl⟩) hS (fun q _ z => z) (fun q z => z) (fun r u t H1 locs1 ht hvm hw hB hz1 hk1 hS1 => ?_)
  exact kk r u hw H1 locs1 ls (by rw [← ht]; exact hB) hS1 h
theorem tz_callls {y : MethodName} {bytes : ByteArray} {maxL index n f0 l0 : Nat} {ret : Option FieldType} {vs stk : List Value}   {Q9 : Int64 → tzS → Prop} (C : tz_C G E cc own nL fr lo) (d : decode cc pc = .ok (.invokestatic index, 3)) (w : tz_Ls own index y bytes maxL ret n) (hM : tz_M G y bytes maxL ret f0 l0 (vs) σ (tz_Ql G Q9))  (hn : vs.length = n) (hr : f0 + 1 ≤ fr ∧ 8 + (maxL + 11) + l0 ≤ lo) (hst : (st.map fun v => v.category).sum ≤ 8) (hs : stk = vs.reverse ++ st) (kk : ∀ (r : Int64) σ, Q9 r σ → tz_V G E (pc + 3) L (.long r :: st) σ) : tz_V G E pc L stk σ := by
  subst hs
  obtain ⟨⟨p, e, R, s, m, args, below, meth, c⟩, ⟨nL0, cells, slots, Q⟩⟩ := E
  obtain rfl : nL0 = nL := C.2.1
  intro H locs ls hP hS h
  obtain ⟨w1, w2, w4, w5, w6, w7, w8⟩ := w
  obtain ⟨⟨cx, cb, cm, co, ct⟩, -, cK, cok, cf, cl, cce, csl⟩ := id C
  have hG : GoodIn tz_TB (va_wsS own index y (Cond.code y bytes maxL ret :: tz_TB)) := by
    intro w hw
    rcases List.mem_append.mp hw with q | q
    · rcases List.mem_cons.mp q with rfl | q
      · exact ⟨w1, good_of_word (List.mem_filter.mp w1).2⟩
      · rcases List.mem_cons.mp q with rfl | q
        · exact ⟨w2, good_of_word (List.mem_filter.mp w2).2⟩
        · rcases List.mem_cons.mp q with rfl | q
          · exact ⟨w4, good_of_word (List.mem_filter.mp w4).2⟩
          · cases q
    · exact tz_good w5 w q
  refine va_calll (va_runS (As := vs.map (tz_x G.2.1)) (rest := st.map (tz_x G.2.1)) ⟨cx, cb, cm, co, ct⟩ hM (va_cwS n ct hG rfl rfl rfl ⟨w6, w7, w8⟩ ⟨Nat.le_trans hr.1 cf, Nat.le_trans hr.2 cl⟩) ⟨tz_Pc.blind G _ σ, fun U hU hW => ⟨rfl, by rw [hU]; exact hP, cK.warm hW hU hS⟩⟩ rfl (by rw [List.length_map]; exact hn) h.1 (by show List.map (tz_x G.2.1) (vs.reverse ++ st) = _; rw [List.map_append, List.map_reverse]) (lv_room (tz_cat hst)) d ⟨cce, csl⟩) hS (fun q _ z => z) (fun q z => z) (fun r u t H1 locs1 ht hvm hw hB hz1 hk1 hS1 => ?_)
  exact kk r u hw H1 locs1 ls (by rw [← ht]; exact hB) hS1 h
theorem tz_callln {y : MethodName} {bytes : ByteArray} {maxL index n f0 l0 : Nat} {ret : Option FieldType} {vs stk : List Value}  {w9 : Cond} (hw9 : w9 = tz_nest1 ∨ w9 = tz_nest2) {Q9 : Int64 → tzS → Prop} (C : tz_C G E cc own nL fr lo) (d : decode cc pc = .ok (.invokestatic index, 3)) (w : tz_Ln w9 own index y bytes maxL ret n) (hM : tz_M G y bytes maxL ret f0 l0 (vs) σ (tz_Ql G Q9))  (hn : vs.length = n) (hr : f0 + 1 ≤ fr ∧ 8 + (maxL + 11) + l0 ≤ lo) (hst : (st.map fun v => v.category).sum ≤ 8) (hs : stk = vs.reverse ++ st) (kk : ∀ (r : Int64) σ, Q9 r σ → tz_V G E (pc + 3) L (.long r :: st) σ) : tz_V G E pc L stk σ := by
  subst hs
  obtain ⟨⟨p, e, R, s, m, args, below, meth, c⟩, ⟨nL0, cells, slots, Q⟩⟩ := E
  obtain rfl : nL0 = nL := C.2.1
  intro H locs ls hP hS h
  obtain ⟨w1, w2, w4, w5, w6, w7, w8⟩ := w
  obtain ⟨⟨cx, cb, cm, co, ct⟩, -, cK, cok, cf, cl, cce, csl⟩ := id C
  have hN : va_Nw w9 s := by
    rcases hw9 with rfl | rfl
    · exact cK.2.1
    · exact cK.2.2.1
  rw [w1] at hN
  refine va_calll (va_runSN (As := vs.map (tz_x G.2.1)) (rest := st.map (tz_x G.2.1)) ⟨cx, cb, cm, co, ct⟩ hM ⟨va_cnB n ct (tz_good w5) rfl rfl rfl hN (ct _ w4) ⟨w6, w7, w8⟩ ⟨Nat.le_trans hr.1 cf, Nat.le_trans hr.2 cl⟩, ct _ w2, trivial⟩ ⟨tz_Pc.blind G _ σ, fun U hU hW => ⟨rfl, by rw [hU]; exact hP, cK.warm hW hU hS⟩⟩ rfl (by rw [List.length_map]; exact hn) h.1 (by show List.map (tz_x G.2.1) (vs.reverse ++ st) = _; rw [List.map_append, List.map_reverse]) (lv_room (tz_cat hst)) d ⟨cce, csl⟩) hS (fun q _ z => z) (fun q z => z) (fun r u t H1 locs1 ht hvm hw hB hz1 hk1 hS1 => ?_)
  exact kk r u hw H1 locs1 ls (by rw [← ht]; exact hB) hS1 h
theorem tz_callvv {y : MethodName} {bytes : ByteArray} {maxL index n f0 l0 : Nat} {ret : Option FieldType} {vs stk : List Value} {k ci : Nat} {rs : List (Option Nat)} {q9 : vw_C}  {Q9 : tzS → Prop} (C : tz_C G E cc own nL fr lo) (d : decode cc pc = .ok (.invokevirtual index, 3)) (w : tz_Lv own index y bytes maxL ret n) (hM : tz_M G y bytes maxL ret f0 l0 (.ref k :: vs) σ (tz_Qv G Q9)) (hk : k < tz_N) (hl : tz_lay k = .inl (ci, rs)) (hc : vwCl[ci]? = some q9) (hy : q9.1 = y.cls) (hn : vs.length = n) (hr : f0 + 1 ≤ fr ∧ 8 + (maxL + 11) + l0 ≤ lo) (hst : (st.map fun v => v.category).sum ≤ 8) (hs : stk = vs.reverse ++ .ref k :: st) (kk : ∀ σ, Q9 σ → tz_V G E (pc + 3) L (st) σ) : tz_V G E pc L stk σ := by
  subst hs
  obtain ⟨⟨p, e, R, s, m, args, below, meth, c⟩, ⟨nL0, cells, slots, Q⟩⟩ := E
  obtain rfl : nL0 = nL := C.2.1
  intro H locs ls hP hS h
  obtain ⟨w1, w2, w3, w4, w5, w6, w7, w8⟩ := w
  obtain ⟨⟨cx, cb, cm, co, ct⟩, -, cK, cok, cf, cl, cce, csl⟩ := id C
  have he := tz_w_at (ad := G.2.1) (cy := G.2.2.1) (σ := σ) hk
  unfold tz_ent at he
  rw [hl] at he
  have hG : GoodIn tz_TB (wsV own index y.cls y (Cond.code y bytes maxL ret :: tz_TB)) := by
    intro w hw
    rcases List.mem_append.mp hw with q | q
    · rcases List.mem_cons.mp q with rfl | q
      · exact ⟨w1, good_of_word (List.mem_filter.mp w1).2⟩
      · rcases List.mem_cons.mp q with rfl | q
        · exact ⟨w2, good_of_word (List.mem_filter.mp w2).2⟩
        · rcases List.mem_cons.mp q with rfl | q
          · exact ⟨w3, good_of_word (List.mem_filter.mp w3).2⟩
          · rcases List.mem_cons.mp q with rfl | q
            · exact ⟨w4, good_of_word (List.mem_filter.mp w4).2⟩
            · cases q
    · exact tz_good w5 w q
  have hrc := va_recv (q := q9) cK.1 hP hc he
  rw [hy] at hrc
  refine va_callv (va_runV (As := vs.map (tz_x G.2.1)) (rest := st.map (tz_x G.2.1)) (b := G.2.1 k) ⟨cx, cb, cm, co, ct⟩ hM (cwV n ct hG rfl rfl rfl ⟨rfl, w6, w7, w8⟩ ⟨Nat.le_trans hr.1 cf, Nat.le_trans hr.2 cl⟩) ⟨tz_Pc.blind G _ σ, hrc, fun U hU hW => ⟨rfl, by rw [hU]; exact hP, cK.warm hW hU hS⟩⟩ rfl (by rw [List.length_map]; exact hn) h.1 (by show List.map (tz_x G.2.1) (vs.reverse ++ .ref k :: st) = _; rw [List.map_append, List.map_reverse]; rfl) (lv_room (tz_cat hst)) d ⟨cce, csl⟩) hS (fun q _ z => z) (fun q z => z) (fun u t H1 locs1 ht hvm hw hB hz1 hk1 hS1 => ?_)
  exact kk u hw H1 locs1 ls (by rw [← ht]; exact hB) hS1 h
theorem tz_callvs {y : MethodName} {bytes : ByteArray} {maxL index n f0 l0 : Nat} {ret : Option FieldType} {vs stk : List Value}   {Q9 : tzS → Prop} (C : tz_C G E cc own nL fr lo) (d : decode cc pc = .ok (.invokestatic index, 3)) (w : tz_Ls own index y bytes maxL ret n) (hM : tz_M G y bytes maxL ret f0 l0 (vs) σ (tz_Qv G Q9))  (hn : vs.length = n) (hr : f0 + 1 ≤ fr ∧ 8 + (maxL + 11) + l0 ≤ lo) (hst : (st.map fun v => v.category).sum ≤ 8) (hs : stk = vs.reverse ++ st) (kk : ∀ σ, Q9 σ → tz_V G E (pc + 3) L (st) σ) : tz_V G E pc L stk σ := by
  subst hs
  obtain ⟨⟨p, e, R, s, m, args, below, meth, c⟩, ⟨nL0, cells, slots, Q⟩⟩ := E
  obtain rfl : nL0 = nL := C.2.1
  intro H locs ls hP hS h
  obtain ⟨w1, w2, w4, w5, w6, w7, w8⟩ := w
  obtain ⟨⟨cx, cb, cm, co, ct⟩, -, cK, cok, cf, cl, cce, csl⟩ := id C
  have hG : GoodIn tz_TB (va_wsS own index y (Cond.code y bytes maxL ret :: tz_TB)) := by
    intro w hw
    rcases List.mem_append.mp hw with q | q
    · rcases List.mem_cons.mp q with rfl | q
      · exact ⟨w1, good_of_word (List.mem_filter.mp w1).2⟩
      · rcases List.mem_cons.mp q with rfl | q
        · exact ⟨w2, good_of_word (List.mem_filter.mp w2).2⟩
        · rcases List.mem_cons.mp q with rfl | q
          · exact ⟨w4, good_of_word (List.mem_filter.mp w4).2⟩
          · cases q
    · exact tz_good w5 w q
  refine va_callv (va_runS (As := vs.map (tz_x G.2.1)) (rest := st.map (tz_x G.2.1)) ⟨cx, cb, cm, co, ct⟩ hM (va_cwS n ct hG rfl rfl rfl ⟨w6, w7, w8⟩ ⟨Nat.le_trans hr.1 cf, Nat.le_trans hr.2 cl⟩) ⟨tz_Pc.blind G _ σ, fun U hU hW => ⟨rfl, by rw [hU]; exact hP, cK.warm hW hU hS⟩⟩ rfl (by rw [List.length_map]; exact hn) h.1 (by show List.map (tz_x G.2.1) (vs.reverse ++ st) = _; rw [List.map_append, List.map_reverse]) (lv_room (tz_cat hst)) d ⟨cce, csl⟩) hS (fun q _ z => z) (fun q z => z) (fun u t H1 locs1 ht hvm hw hB hz1 hk1 hS1 => ?_)
  exact kk u hw H1 locs1 ls (by rw [← ht]; exact hB) hS1 h
theorem tz_callvn {y : MethodName} {bytes : ByteArray} {maxL index n f0 l0 : Nat} {ret : Option FieldType} {vs stk : List Value}  {w9 : Cond} (hw9 : w9 = tz_nest1 ∨ w9 = tz_nest2) {Q9 : tzS → Prop} (C : tz_C G E cc own nL fr lo) (d : decode cc pc = .ok (.invokestatic index, 3)) (w : tz_Ln w9 own index y bytes maxL ret n) (hM : tz_M G y bytes maxL ret f0 l0 (vs) σ (tz_Qv G Q9))  (hn : vs.length = n) (hr : f0 + 1 ≤ fr ∧ 8 + (maxL + 11) + l0 ≤ lo) (hst : (st.map fun v => v.category).sum ≤ 8) (hs : stk = vs.reverse ++ st) (kk : ∀ σ, Q9 σ → tz_V G E (pc + 3) L (st) σ) : tz_V G E pc L stk σ := by
  subst hs
  obtain ⟨⟨p, e, R, s, m, args, below, meth, c⟩, ⟨nL0, cells, slots, Q⟩⟩ := E
  obtain rfl : nL0 = nL := C.2.1
  intro H locs ls hP hS h
  obtain ⟨w1, w2, w4, w5, w6, w7, w8⟩ := w
  obtain ⟨⟨cx, cb, cm, co, ct⟩, -, cK, cok, cf, cl, cce, csl⟩ := id C
  have hN : va_Nw w9 s := by
    rcases hw9 with rfl | rfl
    · exact cK.2.1
    · exact cK.2.2.1
  rw [w1] at hN
  refine va_callv (va_runSN (As := vs.map (tz_x G.2.1)) (rest := st.map (tz_x G.2.1)) ⟨cx, cb, cm, co, ct⟩ hM ⟨va_cnB n ct (tz_good w5) rfl rfl rfl hN (ct _ w4) ⟨w6, w7, w8⟩ ⟨Nat.le_trans hr.1 cf, Nat.le_trans hr.2 cl⟩, ct _ w2, trivial⟩ ⟨tz_Pc.blind G _ σ, fun U hU hW => ⟨rfl, by rw [hU]; exact hP, cK.warm hW hU hS⟩⟩ rfl (by rw [List.length_map]; exact hn) h.1 (by show List.map (tz_x G.2.1) (vs.reverse ++ st) = _; rw [List.map_append, List.map_reverse]) (lv_room (tz_cat hst)) d ⟨cce, csl⟩) hS (fun q _ z => z) (fun q z => z) (fun u t H1 locs1 ht hvm hw hB hz1 hk1 hS1 => ?_)
  exact kk u hw H1 locs1 ls (by rw [← ht]; exact hB) hS1 h
end TZ2
theorem tz_starti {G : tzG} (hG : tz_ok G) {y : MethodName} {cc : ByteArray} {maxL fr lo : Nat} {vs : List Value} {σ : tzS} {Q9 : Int32 → tzS → Prop} (own : String) (L : List (Nat × Value)) (hy : plainName y.cls = true) (ho : y.cls = own) (hlen : (lg_sl vs).length ≤ maxL) (hL : lv_args 0 vs = L)
    (body : ∀ E : tzE, tz_C G E cc own maxL fr lo → (∀ (pc : Nat) (L : List (Nat × Value)) (r : Int32) (σ : tzS), decode cc pc = .ok (.ireturn, 1) → Q9 r σ → tz_V G E pc L [.int r] σ) → tz_V G E 0 L [] σ) : tz_M G y cc maxL (some .int) fr lo vs σ (tz_Qi G Q9) := by
  refine Met.ofW (cc := cc) (maxL := maxL) (ret := some .int) hy rfl ?_
  intro p e s m args below meth c s₁ B hml hv
  obtain ⟨rfl, hP, hK⟩ := hv
  have hx := B.exec
  have hb := B.bytes
  have hr := B.returns
  have hts := atoms_spec (ws := Cond.code y cc maxL (some .int) :: tz_TB) B.pre
  have hown : s.vm.findClass own = some m.cls := ho ▸ findClass_of_methodNamed B.named
  have hlocks := B.notSynchronized
  have hsl : ∀ vs : List Value, (lg_sl (vs.map (tz_x G.2.1))).length = (lg_sl vs).length := by
    intro vs
    induction vs with
    | nil => rfl
    | cons a l ih =>
      show (lg_sl (tz_x G.2.1 a :: l.map (tz_x G.2.1))).length = (lg_sl (a :: l)).length
      unfold lg_sl at ih ⊢
      rw [List.flatMap_cons, List.flatMap_cons, List.length_append, List.length_append, ih, tz_x_cat]
      split <;> rfl
  have hla : ∀ (vs : List Value) (n : Nat), lv_args n (vs.map (tz_x G.2.1)) = (lv_args n vs).map fun q => (q.1, tz_x G.2.1 q.2) := by
    intro vs
    induction vs with
    | nil => intro n; rfl
    | cons a l ih =>
      intro n
      show lv_args n (tz_x G.2.1 a :: l.map (tz_x G.2.1)) = _
      unfold lv_args
      rw [ih, tz_x_cat]
      rfl
  have hl := lv_entry (vs.map (tz_x G.2.1)) (n := maxL) (by rw [hsl]; exact hlen)
  rw [lg_entry_eq]
  generalize (lg_sl (vs.map (tz_x G.2.1)) ++ List.replicate (maxL - (lg_sl (vs.map (tz_x G.2.1))).length) Slot.unset).toArray = ls at hl ⊢
  rw [hla, hL] at hl
  refine body ((p, e, _, s, m, _, below, meth, c), (maxL, 0, 0, _)) ⟨⟨hx, hb, hml, hown, fun w h => hts w (List.mem_cons_of_mem _ h)⟩, rfl, hK, hG, Nat.le_refl _, Nat.le_refl _, Nat.zero_le _, Nat.zero_le _⟩ ?_ s.heap [] ls hP va_S.rf hl
  intro pc L r σ hd hq H locs ls hP hS hl
  exact W.iret (v := r) hx hb hr (fun t ht hW => ⟨⟨r, σ, rfl, hq, by unfold tz_B; rw [ht]; exact hP⟩, hS.F ht⟩) hS.2.2 hd
theorem tz_startz {G : tzG} (hG : tz_ok G) {y : MethodName} {cc : ByteArray} {maxL fr lo : Nat} {vs : List Value} {σ : tzS} {Q9 : Int32 → tzS → Prop} (own : String) (L : List (Nat × Value)) (hy : plainName y.cls = true) (ho : y.cls = own) (hlen : (lg_sl vs).length ≤ maxL) (hL : lv_args 0 vs = L)
    (body : ∀ E : tzE, tz_C G E cc own maxL fr lo → (∀ (pc : Nat) (L : List (Nat × Value)) (r : Int32) (σ : tzS), decode cc pc = .ok (.ireturn, 1) → narrow .boolean (.int r) = .int r → Q9 r σ → tz_V G E pc L [.int r] σ) → tz_V G E 0 L [] σ) : tz_M G y cc maxL (some .boolean) fr lo vs σ (tz_Qi G Q9) := by
  refine Met.ofW (cc := cc) (maxL := maxL) (ret := some .boolean) hy rfl ?_
  intro p e s m args below meth c s₁ B hml hv
  obtain ⟨rfl, hP, hK⟩ := hv
  have hx := B.exec
  have hb := B.bytes
  have hr := B.returns
  have hts := atoms_spec (ws := Cond.code y cc maxL (some .boolean) :: tz_TB) B.pre
  have hown : s.vm.findClass own = some m.cls := ho ▸ findClass_of_methodNamed B.named
  have hlocks := B.notSynchronized
  have hsl : ∀ vs : List Value, (lg_sl (vs.map (tz_x G.2.1))).length = (lg_sl vs).length := by
    intro vs
    induction vs with
    | nil => rfl
    | cons a l ih =>
      show (lg_sl (tz_x G.2.1 a :: l.map (tz_x G.2.1))).length = (lg_sl (a :: l)).length
      unfold lg_sl at ih ⊢
      rw [List.flatMap_cons, List.flatMap_cons, List.length_append, List.length_append, ih, tz_x_cat]
      split <;> rfl
  have hla : ∀ (vs : List Value) (n : Nat), lv_args n (vs.map (tz_x G.2.1)) = (lv_args n vs).map fun q => (q.1, tz_x G.2.1 q.2) := by
    intro vs
    induction vs with
    | nil => intro n; rfl
    | cons a l ih =>
      intro n
      show lv_args n (tz_x G.2.1 a :: l.map (tz_x G.2.1)) = _
      unfold lv_args
      rw [ih, tz_x_cat]
      rfl
  have hl := lv_entry (vs.map (tz_x G.2.1)) (n := maxL) (by rw [hsl]; exact hlen)
  rw [lg_entry_eq]
  generalize (lg_sl (vs.map (tz_x G.2.1)) ++ List.replicate (maxL - (lg_sl (vs.map (tz_x G.2.1))).length) Slot.unset).toArray = ls at hl ⊢
  rw [hla, hL] at hl
  refine body ((p, e, _, s, m, _, below, meth, c), (maxL, 0, 0, _)) ⟨⟨hx, hb, hml, hown, fun w h => hts w (List.mem_cons_of_mem _ h)⟩, rfl, hK, hG, Nat.le_refl _, Nat.le_refl _, Nat.zero_le _, Nat.zero_le _⟩ ?_ s.heap [] ls hP va_S.rf hl
  intro pc L r σ hd hnr hq H locs ls hP hS hl
  exact W.zret (v := r) hx hb hr hnr (fun t ht hW => ⟨⟨r, σ, rfl, hq, by unfold tz_B; rw [ht]; exact hP⟩, hS.F ht⟩) hS.2.2 hd
theorem tz_startl {G : tzG} (hG : tz_ok G) {y : MethodName} {cc : ByteArray} {maxL fr lo : Nat} {vs : List Value} {σ : tzS} {Q9 : Int64 → tzS → Prop} (own : String) (L : List (Nat × Value)) (hy : plainName y.cls = true) (ho : y.cls = own) (hlen : (lg_sl vs).length ≤ maxL) (hL : lv_args 0 vs = L)
    (body : ∀ E : tzE, tz_C G E cc own maxL fr lo → (∀ (pc : Nat) (L : List (Nat × Value)) (r : Int64) (σ : tzS), decode cc pc = .ok (.lreturn, 1) → Q9 r σ → tz_V G E pc L [.long r] σ) → tz_V G E 0 L [] σ) : tz_M G y cc maxL (some .long) fr lo vs σ (tz_Ql G Q9) := by
  refine Met.ofW (cc := cc) (maxL := maxL) (ret := some .long) hy rfl ?_
  intro p e s m args below meth c s₁ B hml hv
  obtain ⟨rfl, hP, hK⟩ := hv
  have hx := B.exec
  have hb := B.bytes
  have hr := B.returns
  have hts := atoms_spec (ws := Cond.code y cc maxL (some .long) :: tz_TB) B.pre
  have hown : s.vm.findClass own = some m.cls := ho ▸ findClass_of_methodNamed B.named
  have hlocks := B.notSynchronized
  have hsl : ∀ vs : List Value, (lg_sl (vs.map (tz_x G.2.1))).length = (lg_sl vs).length := by
    intro vs
    induction vs with
    | nil => rfl
    | cons a l ih =>
      show (lg_sl (tz_x G.2.1 a :: l.map (tz_x G.2.1))).length = (lg_sl (a :: l)).length
      unfold lg_sl at ih ⊢
      rw [List.flatMap_cons, List.flatMap_cons, List.length_append, List.length_append, ih, tz_x_cat]
      split <;> rfl
  have hla : ∀ (vs : List Value) (n : Nat), lv_args n (vs.map (tz_x G.2.1)) = (lv_args n vs).map fun q => (q.1, tz_x G.2.1 q.2) := by
    intro vs
    induction vs with
    | nil => intro n; rfl
    | cons a l ih =>
      intro n
      show lv_args n (tz_x G.2.1 a :: l.map (tz_x G.2.1)) = _
      unfold lv_args
      rw [ih, tz_x_cat]
      rfl
  have hl := lv_entry (vs.map (tz_x G.2.1)) (n := maxL) (by rw [hsl]; exact hlen)
  rw [lg_entry_eq]
  generalize (lg_sl (vs.map (tz_x G.2.1)) ++ List.replicate (maxL - (lg_sl (vs.map (tz_x G.2.1))).length) Slot.unset).toArray = ls at hl ⊢
  rw [hla, hL] at hl
  refine body ((p, e, _, s, m, _, below, meth, c), (maxL, 0, 0, _)) ⟨⟨hx, hb, hml, hown, fun w h => hts w (List.mem_cons_of_mem _ h)⟩, rfl, hK, hG, Nat.le_refl _, Nat.le_refl _, Nat.zero_le _, Nat.zero_le _⟩ ?_ s.heap [] ls hP va_S.rf hl
  intro pc L r σ hd hq H locs ls hP hS hl
  exact W.lret (v := r) hx hb hr (fun t ht hW => ⟨⟨r, σ, rfl, hq, by unfold tz_B; rw [ht]; exact hP⟩, hS.F ht⟩) hS.2.2 hd
theorem tz_startv {G : tzG} (hG : tz_ok G) {y : MethodName} {cc : ByteArray} {maxL fr lo : Nat} {vs : List Value} {σ : tzS} {Q9 : tzS → Prop} (own : String) (L : List (Nat × Value)) (hy : plainName y.cls = true) (ho : y.cls = own) (hlen : (lg_sl vs).length ≤ maxL) (hL : lv_args 0 vs = L)
    (body : ∀ E : tzE, tz_C G E cc own maxL fr lo → (∀ (pc : Nat) (L : List (Nat × Value)) (σ : tzS), decode cc pc = .ok (.return_, 1) → Q9 σ → tz_V G E pc L [] σ) → tz_V G E 0 L [] σ) : tz_M G y cc maxL (none) fr lo vs σ (tz_Qv G Q9) := by
  refine Met.ofW (cc := cc) (maxL := maxL) (ret := none) hy rfl ?_
  intro p e s m args below meth c s₁ B hml hv
  obtain ⟨rfl, hP, hK⟩ := hv
  have hx := B.exec
  have hb := B.bytes
  have hr := B.returns
  have hts := atoms_spec (ws := Cond.code y cc maxL (none) :: tz_TB) B.pre
  have hown : s.vm.findClass own = some m.cls := ho ▸ findClass_of_methodNamed B.named
  have hlocks := B.notSynchronized
  have hsl : ∀ vs : List Value, (lg_sl (vs.map (tz_x G.2.1))).length = (lg_sl vs).length := by
    intro vs
    induction vs with
    | nil => rfl
    | cons a l ih =>
      show (lg_sl (tz_x G.2.1 a :: l.map (tz_x G.2.1))).length = (lg_sl (a :: l)).length
      unfold lg_sl at ih ⊢
      rw [List.flatMap_cons, List.flatMap_cons, List.length_append, List.length_append, ih, tz_x_cat]
      split <;> rfl
  have hla : ∀ (vs : List Value) (n : Nat), lv_args n (vs.map (tz_x G.2.1)) = (lv_args n vs).map fun q => (q.1, tz_x G.2.1 q.2) := by
    intro vs
    induction vs with
    | nil => intro n; rfl
    | cons a l ih =>
      intro n
      show lv_args n (tz_x G.2.1 a :: l.map (tz_x G.2.1)) = _
      unfold lv_args
      rw [ih, tz_x_cat]
      rfl
  have hl := lv_entry (vs.map (tz_x G.2.1)) (n := maxL) (by rw [hsl]; exact hlen)
  rw [lg_entry_eq]
  generalize (lg_sl (vs.map (tz_x G.2.1)) ++ List.replicate (maxL - (lg_sl (vs.map (tz_x G.2.1))).length) Slot.unset).toArray = ls at hl ⊢
  rw [hla, hL] at hl
  refine body ((p, e, _, s, m, _, below, meth, c), (maxL, 0, 0, _)) ⟨⟨hx, hb, hml, hown, fun w h => hts w (List.mem_cons_of_mem _ h)⟩, rfl, hK, hG, Nat.le_refl _, Nat.le_refl _, Nat.zero_le _, Nat.zero_le _⟩ ?_ s.heap [] ls hP va_S.rf hl
  intro pc L σ hd hq H locs ls hP hS hl
  exact W.vret hx hb hr (fun t ht hW => ⟨⟨σ, rfl, hq, by unfold tz_B; rw [ht]; exact hP⟩, hS.F ht⟩) hS.2.2 hd
