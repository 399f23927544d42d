/-! THE CONSTRUCTORS: cells are made one after another from h0 on; cell k lies at h0 + k. -/
def va_AOA (t : FieldType) (U : State) : Prop := (Cond.arrayOver (.array t)).before #[] U = true
def tc_NW : List Cond := [.methodLinkNest RX9 11 yX8_init "TopicSeams", .methodLinkNest RX9 18 yX3_init "TopicSeams", .methodLinkNest RX9 25 yX6_init "TopicSeams", .methodLinkNest RX9 32 yX1_init "TopicSeams", .methodLinkNest RX9 39 yX0_init "TopicSeams", .methodLinkNest RX9 46 yX5_init "TopicSeams", .methodLinkNest RX9 53 yX2_init "TopicSeams", .methodLinkNest RX2 20 yX0_init "TopicSeams", .methodLinkNest RX2 27 yX5_init "TopicSeams", .methodLinkNest RX9 60 yX4_init "TopicSeams", .methodLinkNest RX9 67 yX7_init "TopicSeams"]
theorem tc_NW_is : ∀ w ∈ tc_NW, ∃ a i x h, w = Cond.methodLinkNest a i x h := by
  intro w hw
  simp only [tc_NW, List.mem_cons, List.not_mem_nil, or_false] at hw
  rcases hw with h | h | h | h | h | h | h | h | h | h | h <;> exact ⟨_, _, _, _, h⟩
/-- launch, first address, array kinds, object kinds -/
abbrev tcG : Type := Launch × Nat × (Nat → ClassId) × va_G
abbrev tcE : Type := (Program × Env × Room × State × MethodId × Array Value × List Frame × Method × Code) × (Nat × (State → Prop))
def tc_K (G : tcG) (U : State) : Prop := va_K G.2.2.2 vwCl (tz_ty G.2.2.1) U ∧ va_AOA .int U ∧ ∀ w ∈ tc_NW, va_Nw w U
theorem tc_K.warm {G : tcG} {s U : State} (h : tc_K G s) (hW : s.WarmedH U.vm) : tc_K G U := by
  refine ⟨va_K.moved hW.alike h.1, over_moved hW.alike h.2.1, fun w hw => ?_⟩
  have h1 := h.2.2 w hw
  obtain ⟨a, i, x, hh, rfl⟩ := tc_NW_is w hw
  exact va_Nw.warmM hW h1
theorem tc_K.same {G : tcG} {s U : State} (h : tc_K G s) (hv : s.vm = U.vm) : tc_K G U := by
  have ha : s.vm.Alike U.vm := by rw [hv]; exact Vm.Alike.refl _
  refine ⟨va_K.moved ha h.1, over_moved ha h.2.1, fun w hw => ?_⟩
  have h1 := h.2.2 w hw
  obtain ⟨a, i, x, hh, rfl⟩ := tc_NW_is w hw
  exact va_Nw.same rfl hv h1
def tc_A (G : tcG) : Nat → Prop := fun q => G.2.1 ≤ q
def tc_O (G : tcG) (ws : va_W) : Prop := ∀ (i : Nat) (q : Nat × va_E), ws[i]? = some q → q.1 = G.2.1 + i
theorem tc_O.app {G : tcG} {ws ws' : va_W} (h : tc_O G ws) (h' : ∀ (i : Nat) (q : Nat × va_E), ws'[i]? = some q → q.1 = G.2.1 + (ws.length + i)) : tc_O G (ws ++ ws') := by
  intro i q hq
  by_cases hl : i < ws.length
  · rw [List.getElem?_append_left hl] at hq
    exact h i q hq
  · rw [List.getElem?_append_right (by omega)] at hq
    rw [h' _ _ hq]
    congr 1
    omega
theorem tc_O.push {G : tcG} {ws : va_W} {e : va_E} {n : Nat} (h : tc_O G ws) (hn : ws.length = n) : tc_O G (ws ++ [(G.2.1 + n, e)]) := by
  refine h.app (fun i q hq => ?_)
  have hz : i < 1 := (List.getElem?_eq_some_iff.mp hq).1
  rw [show i = 0 by omega] at hq
  cases hq
  show G.2.1 + n = _
  omega
theorem tc_O.set {G : tcG} {ws : va_W} {e : va_E} {k : Nat} (h : tc_O G ws) : tc_O G (ws.set k (G.2.1 + k, e)) := by
  intro i q hq
  by_cases hk : k = i
  · subst hk
    by_cases hl : k < ws.length
    · rw [List.getElem?_set_self hl] at hq
      cases hq
      rfl
    · rw [List.getElem?_eq_none (by rw [List.length_set]; omega)] at hq
      cases hq
  · rw [List.getElem?_set_ne hk] at hq
    exact h i q hq
theorem tc_O.D {G : tcG} {ws : va_W} (h : tc_O G ws) : va_D (tc_A G) ws := by
  refine ⟨fun i j p q hp hq e => ?_, fun k q hk => ?_⟩
  · have h1 := h i p hp
    have h2 := h j q hq
    omega
  · have h1 := h k q hk
    show G.2.1 ≤ q.1
    omega
def tc_V (G : tcG) (E : tcE) (L : List (Nat × Value)) (ws : va_W) (cells slots pc : Nat) (st : List Value) : Prop :=
  match E with
  | ((p, e, R, s, m, args, below, meth, c), (nL, Q)) => tc_O G ws → ∀ (H : Heap) (locs : List Loc) (ls : Array Slot), va_P G.2.2.2 vwCl ws H → H.size = G.2.1 + ws.length → va_S (tc_A G) s.heap H locs → lv_has ls nL L → W p G.1 e R s m args below meth c H locs cells slots Q (F0 m pc ls st)
def tc_C (G : tcG) (E : tcE) (cc : ByteArray) (own : String) (nL fr lo rc rs : Nat) : Prop :=
  match E with
  | ((p, e, R, s, m, args, below, meth, c), (nL0, Q)) =>
    (p.tables.exec = Jvm.exec ∧ c.code = cc ∧ c.maxLocals = nL ∧ s.vm.findClass own = some m.cls ∧ ∀ w ∈ tz_TB, w.before args s = true) ∧ nL0 = nL ∧ tc_K G s ∧ G.2.1 ≤ s.heap.size ∧ fr ≤ R.frames ∧ lo ≤ R.locals ∧ rc ≤ R.cells ∧ rs ≤ R.slots
def tc_I (E : tcE) : Prop :=
  match E with
  | ((p, e, R, s, m, args, below, meth, c), (nL0, Q)) => meth.name = "<init>"
/-- a field that a constructor puts -/
def tc_Fp (own : String) (index ci j : Nat) (ty : FieldType) (b : Bool) : Prop := ∃ q : vw_C, vwCl[ci]? = some q ∧ j < q.2.2 ∧ Cond.fieldLink own index (q.2.1 j).1 (q.2.1 j).2.1 (q.2.1 j).2.2.1 ∈ tz_TB ∧ (∀ w ∈ u_ws q.1 q.2.1 q.2.2, w ∈ tz_TB) ∧ (q.2.1 j).2.2.2 = b ∧ (q.2.1 j).1 = own ∧ parseFieldDescriptor (q.2.1 j).2.2.1 = some ty ∧ (∃ ty0 : Nat → FieldType, ∀ k, k < q.2.2 → parseFieldDescriptor (q.2.1 k).2.2.1 = some (ty0 k)) ∧ ∀ a, a < q.2.2 → ∀ b, b < q.2.2 → a ≠ b → (q.2.1 a).2.1 ≠ (q.2.1 b).2.1
/-- a kind that is made -/
def tc_Fn (own : String) (index ci N : Nat) (fs : List Value) : Prop := ∃ q : vw_C, vwCl[ci]? = some q ∧ q.2.2 = N ∧ Cond.classLink own index q.1 ∈ tz_TB ∧ Cond.instantiable q.1 N ∈ tz_TB ∧ Cond.initialized q.1 ∈ tz_TB ∧ (∀ w ∈ u_ws q.1 q.2.1 q.2.2, w ∈ tz_TB) ∧ ∃ ty : Nat → FieldType, (∀ k, k < q.2.2 → parseFieldDescriptor (q.2.1 k).2.2.1 = some (ty k)) ∧ ∀ j, j < N → defaultValue (ty j) = vp_V fs j
section TC
variable {G : tcG} {E : tcE} {cc : ByteArray} {own : String} {nL fr lo rc rs pc cells slots : Nat} {L : List (Nat × Value)} {st : List Value} {ws : va_W}
theorem tc_aload {k : Fin 4} (i x : Nat) (j : Nat) (C : tc_C G E cc own nL fr lo rc rs) (d : decode cc pc = .ok (.aload_n k, 1)) (hi : (k : Nat) = i) (hl : L[j]? = some (i, .ref x)) (kk : tc_V G E L ws cells slots (pc + 1) (.ref x :: st)) : tc_V G E L ws cells slots pc st := by
  obtain ⟨⟨p, e, R, s, m, args, below, meth, c⟩, ⟨nL0, Q⟩⟩ := E
  intro hO H locs ls hP hz hS h
  exact lv_aload_n C.1.1 C.1.2.1 d hi (lv_at h j hl) (kk hO H locs ls hP hz hS h)
theorem tc_iconst {n : Int} (v : Int32) (hv : Int32.ofInt n = v) (C : tc_C G E cc own nL fr lo rc rs) (d : decode cc pc = .ok (.iconst n, 1)) (kk : tc_V G E L ws cells slots (pc + 1) (.int v :: st)) : tc_V G E L ws cells slots pc st := by
  obtain ⟨⟨p, e, R, s, m, args, below, meth, c⟩, ⟨nL0, Q⟩⟩ := E
  intro hO H locs ls hP hz hS h
  exact lv_iconst C.1.1 C.1.2.1 d hv (kk hO H locs ls hP hz hS h)
theorem tc_bipush {n : Int} (v : Int32) (hv : (Int8.ofInt n).toInt32 = v) (C : tc_C G E cc own nL fr lo rc rs) (d : decode cc pc = .ok (.bipush n, 2)) (kk : tc_V G E L ws cells slots (pc + 2) (.int v :: st)) : tc_V G E L ws cells slots pc st := by
  obtain ⟨⟨p, e, R, s, m, args, below, meth, c⟩, ⟨nL0, Q⟩⟩ := E
  intro hO H locs ls hP hz hS h
  exact lv_bipush C.1.1 C.1.2.1 d hv (kk hO H locs ls hP hz hS h)
theorem tc_sipush {n : Int} (v : Int32) (hv : (Int16.ofInt n).toInt32 = v) (C : tc_C G E cc own nL fr lo rc rs) (d : decode cc pc = .ok (.sipush n, 3)) (kk : tc_V G E L ws cells slots (pc + 3) (.int v :: st)) : tc_V G E L ws cells slots pc st := by
  obtain ⟨⟨p, e, R, s, m, args, below, meth, c⟩, ⟨nL0, Q⟩⟩ := E
  intro hO H locs ls hP hz hS h
  exact lv_sipush C.1.1 C.1.2.1 d hv (kk hO H locs ls hP hz hS h)
theorem tc_dup {x : Nat} (C : tc_C G E cc own nL fr lo rc rs) (d : decode cc pc = .ok (.dup, 1)) (kk : tc_V G E L ws cells slots (pc + 1) (.ref x :: .ref x :: st)) : tc_V G E L ws cells slots pc (.ref x :: st) := by
  obtain ⟨⟨p, e, R, s, m, args, below, meth, c⟩, ⟨nL0, Q⟩⟩ := E
  intro hO H locs ls hP hz hS h
  exact lv_dup C.1.1 C.1.2.1 d rfl (kk hO H locs ls hP hz hS h)
theorem tc_astore {k : Fin 4} (i : Nat) {x : Nat} {L' : List (Nat × Value)} (C : tc_C G E cc own nL fr lo rc rs) (d : decode cc pc = .ok (.astore_n k, 1)) (hi : (k : Nat) = i) (hn : i < nL) (hl : (i, Value.ref x) :: L.filter (fun q => !(q.1 == i) && !(q.1 + 1 == i && q.2.category == 2)) = L') (kk : tc_V G E L' ws cells slots (pc + 1) st) : tc_V G E L ws cells slots pc (.ref x :: st) := by
  obtain ⟨⟨p, e, R, s, m, args, below, meth, c⟩, ⟨nL0, Q⟩⟩ := E
  obtain rfl : nL0 = nL := C.2.1
  intro hO H locs ls hP hz hS h
  exact lv_astore_n C.1.1 C.1.2.1 d hi h hn hl (fun ls' h' => kk hO H locs ls' hP hz hS h')
/-- Object's own constructor -/
theorem tc_objInit {idx x : Nat} (C : tc_C G E cc own nL fr lo rc rs) (d : decode cc pc = .ok (.invokespecial idx, 3)) (w1 : Cond.methodLink own idx Lib.objectInit ∈ tz_TB) (w2 : Cond.instanceMethod Lib.objectInit ∈ tz_TB) (w3 : Cond.code Lib.objectInit ⟨#[0xb1]⟩ 1 none ∈ tz_TB) (hf : 1 ≤ fr) (hlo : 20 ≤ lo) (hst : (st.map fun v => v.category).sum ≤ 8) (kk : tc_V G E L ws cells slots (pc + 3) st) : tc_V G E L ws cells slots pc (.ref x :: st) := by
  obtain ⟨⟨p, e, R, s, m, args, below, meth, c⟩, ⟨nL0, Q⟩⟩ := E
  obtain rfl : nL0 = nL := C.2.1
  intro hO H locs ls hP hz hS h
  obtain ⟨⟨cx, cb, cm, co, ct⟩, -, cK, ch, cf, cl, cce, csl⟩ := id C
  refine W.objInit cx cb co (ct _ w1) (ct _ w2) (ct _ w3) rfl (by rw [cm]; exact h.1) rfl d (Nat.le_trans hf cf) ?_ (kk hO H locs ls hP hz hS h)
  have h1 := lv_room (m := m) (pc := pc) (ls := ls) (rest := .ref x :: st) hst
  omega
theorem tc_new {index ci N : Nat} {fs : List Value} (n : Nat) (C : tc_C G E cc own nL fr lo rc rs) (d : decode cc pc = .ok (.new index, 3)) (f : tc_Fn own index ci N fs) (hn : ws.length = n) (hc : cells + 1 ≤ rc) (hs : slots + N ≤ rs) (kk : tc_V G E L (ws ++ [(G.2.1 + n, .inr (ci, fs))]) (cells + 1) (slots + N) (pc + 3) (.ref (G.2.1 + n) :: st)) : tc_V G E L ws cells slots pc st := by
  obtain ⟨⟨p, e, R, s, m, args, below, meth, c⟩, ⟨nL0, Q⟩⟩ := E
  obtain ⟨⟨C9, T9, N9⟩, f1, f2, f3, f4, f5, f6, ty, f7, f8⟩ := f
  dsimp only at f1 f2 f3 f4 f5 f6 f7 f8
  subst f2
  intro hO H locs ls hP hz hS h
  obtain ⟨⟨cx, cb, cm, co, ct⟩, -, cK, ch, cf, cl, cce, csl⟩ := id C
  have hKn := cK.1.1 ci _ f1
  have hz1 : H.size = G.2.1 + n := by omega
  refine W.newcK cx cb co (ct _ f3) (ct _ f4) (ct _ f5) rfl d (by omega) (by omega) hKn.2.1 hz1 fun H1 kC hkC e1 z1 o1 => ?_
  have hk : ∀ (k : Nat) (x : Nat × va_E), ws[k]? = some x → H1[x.1]? = H[x.1]? := fun k x hx => o1 x.1 (by have := (hP k x hx).lt; omega)
  refine kk (hO.push hn) H1 locs ls ((hP.kept hk).app (fun k x hx => ?_)) (by rw [List.length_append]; show H1.size = _ + (ws.length + 1); omega) ⟨by have := hS.1; omega, fun x h1 h2 => (o1 x (by have := hS.1; omega)).trans (hS.2.1 x h1 h2), hS.2.2⟩ h
  have hz : k < 1 := (List.getElem?_eq_some_iff.mp hx).1
  rw [show k = 0 by omega] at hx
  cases hx
  exact ⟨_, f1, (u_born ty ct f6 hKn hkC e1 f7).to f8⟩
theorem tc_newa {atype : ArrayType} {ty : FieldType} {a0 : vp_A} {N : Nat} {v : Int32} (n t : Nat) (C : tc_C G E cc own nL fr lo rc rs) (d : decode cc pc = .ok (.newarray atype, 2)) (hty : newarray.typeOf atype = ty) (w : Cond.arrayClass ty ∈ tz_TB) (ht : (tz_ty G.2.2.1)[t]? = some (G.2.2.1 t, ty)) (hp : ∀ o, ty ≠ .object o) (ha : ∀ cA : ClassId, vp_cell cA a0 = arrV cA N (fun _ => defaultValue ty)) (hv : ¬ v < 0) (hN : v.toNatClampNeg = N) (hb : N * componentBytes ty ≤ 536870912) (hn : ws.length = n) (hc : cells + 1 ≤ rc) (hs : slots + N ≤ rs) (kk : tc_V G E L (ws ++ [(G.2.1 + n, .inl (G.2.2.1 t, a0))]) (cells + 1) (slots + N) (pc + 2) (.ref (G.2.1 + n) :: st)) : tc_V G E L ws cells slots pc (.int v :: st) := by
  obtain ⟨⟨p, e, R, s, m, args, below, meth, c⟩, ⟨nL0, Q⟩⟩ := E
  subst hty
  intro hO H locs ls hP hz hS h
  obtain ⟨⟨cx, cb, cm, co, ct⟩, -, cK, ch, cf, cl, cce, csl⟩ := id C
  have hz1 : H.size = G.2.1 + n := by omega
  refine va_newaK cx cb (ct _ w) rfl d rfl hv hN hb (by omega) (by omega) hz1 fun H1 cA e1 z1 o1 hAr hNm => ?_
  have hk : ∀ (k : Nat) (x : Nat × va_E), ws[k]? = some x → H1[x.1]? = H[x.1]? := fun k x hx => o1 x.1 (by have := (hP k x hx).lt; omega)
  have hcA : cA = G.2.2.1 t := by
    have h1 := (cK.1.2 t _ ht).2
    have h2 : s.vm.findClass ("[" ++ (newarray.typeOf atype).toString) = some (G.2.2.1 t) := by
      cases atype <;> first | exact h1 | exact absurd rfl (hp _)
    exact Option.some.inj (hNm.symm.trans h2)
  subst hcA
  refine kk (hO.push hn) H1 locs ls ((hP.kept hk).app (fun k x hx => ?_)) (by rw [List.length_append]; show H1.size = _ + (ws.length + 1); omega) ⟨by have := hS.1; omega, fun x h1 h2 => (o1 x (by have := hS.1; omega)).trans (hS.2.1 x h1 h2), hS.2.2⟩ h
  have hz : k < 1 := (List.getElem?_eq_some_iff.mp hx).1
  rw [show k = 0 by omega] at hx
  cases hx
  show H1[G.2.1 + n]? = some (vp_cell _ _)
  rw [ha]
  exact e1
theorem tc_put {index ci j : Nat} {ty : FieldType} {b : Bool} {fs : List Value} {v : Value} (q0 : Nat) (C : tc_C G E cc own nL fr lo rc rs) (hi : tc_I E) (d : decode cc pc = .ok (.putfield index, 3)) (f : tc_Fp own index ci j ty b) (he : ws[q0]? = some (G.2.1 + q0, .inr (ci, fs))) (hn : narrow ty v = v) (hfit : fits ty v = true) (hl : j < fs.length) (kk : tc_V G E L (ws.set q0 (G.2.1 + q0, .inr (ci, fs.set j v))) cells slots (pc + 3) st) : tc_V G E L ws cells slots pc (v :: .ref (G.2.1 + q0) :: st) := by
  obtain ⟨⟨p, e, R, s, m, args, below, meth, c⟩, ⟨nL0, Q⟩⟩ := E
  obtain ⟨⟨C9, T9, N9⟩, f1, f2, f3, f4, f5, f6, f7, ⟨ty0, f8⟩, f9⟩ := f
  dsimp only at f1 f2 f3 f4 f5 f6 f7 f8 f9
  intro hO H locs ls hP hz hS0 h
  obtain ⟨⟨cx, cb, cm, co, ct⟩, -, cK, ch, cf, cl, cce, csl⟩ := id C
  have hD := hO.D
  have hap := va_apart (own := own) ct f4 ty0 f8 f9 cK.1 f1
  obtain ⟨r, h1, cell, q1, q2, q3, q4⟩ := hP q0 _ he
  have hr : r = (C9, T9, N9) := Option.some.inj (h1.symm.trans f1)
  subst hr
  obtain ⟨hS, hfc, kC, hkC, hkind⟩ := cK.1.1 ci _ f1
  obtain ⟨cf9, kf, fi, f, hi9, hsl⟩ := hS j f2
  have hlay := ct _ (f4 _ (u_in_lay f2))
  unfold u_lay at hlay
  have hst := (u_facts hfc hkC (u_lays ct f4 f2) hi9).1
  cases b with
  | true =>
    rw [if_pos f5] at hlay
    have hcf : m.cls = cf9 := by
      obtain ⟨_, _, c', _, _, _, -, -, hf', -, -, -, hown2, -⟩ := Cond.laysFinal_spec hlay
      have e1 : c' = cf9 := by have := hi9.symm.trans hf'; simp at this; exact this.1.symm
      rw [f6] at hown2
      rw [← e1]; exact Option.some.inj (co.symm.trans hown2)
    have h6 := u_fits hfc hkC hkind (Or.inr hlay) hi9 f7 hn hfit
    refine W.putFinK cx cb co (ct _ f3) hi9 hst hcf hi (by rw [q2]; exact h6) q1 q3 (by rw [hsl]; exact k2_hasslot (q4 j f2)) rfl rfl d fun H' e1 e2 e3 => ?_
    rw [hsl] at e1 ⊢
    exact kk hO.set H' _ ls (hP.set hD he ⟨_, f1, t_OB.to (V := updV (vp_V fs) j v) ⟨_, e1, q2, q3, t_set q4 hap f2 v⟩ (fun j _ => vp_updV_set hl v j)⟩ e3) (by rw [List.length_set, e2]; exact hz) (hS0.put e2 e3 (hD.2 q0 _ he)) h
  | false =>
    rw [if_neg (by rw [f5]; decide)] at hlay
    have h6 := u_store hfc hkC hkind hlay hi9 f7 hn hfit
    refine W.putK cx cb (f := f) ⟨co, ct _ f3, ⟨_, _, _, hi9⟩, hst⟩ (by rw [q2]; exact h6) q1 q3 (by rw [hsl]; exact k2_hasslot (q4 j f2)) rfl rfl d fun H' e1 e2 e3 => ?_
    rw [hsl] at e1 ⊢
    exact kk hO.set H' _ ls (hP.set hD he ⟨_, f1, t_OB.to (V := updV (vp_V fs) j v) ⟨_, e1, q2, q3, t_set q4 hap f2 v⟩ (fun j _ => vp_updV_set hl v j)⟩ e3) (by rw [List.length_set, e2]; exact hz) (hS0.put e2 e3 (hD.2 q0 _ he)) h
theorem tc_iast {f : Nat → Int32} {N : Nat} {i x : Int32} (q0 : Nat) (C : tc_C G E cc own nL fr lo rc rs) (d : decode cc pc = .ok (.iastore, 1)) (he : ws[q0]? = some (G.2.1 + q0, .inl (G.2.2.1 0, N, .inl f))) (hin : vp_in i N) (kk : tc_V G E L (ws.set q0 (G.2.1 + q0, .inl (G.2.2.1 0, N, .inl (upd f i.toNatClampNeg x)))) cells slots (pc + 1) st) : tc_V G E L ws cells slots pc (.int x :: .int i :: .ref (G.2.1 + q0) :: st) := by
  obtain ⟨⟨p, e, R, s, m, args, below, meth, c⟩, ⟨nL0, Q⟩⟩ := E
  intro hO H locs ls hP hz hS h
  obtain ⟨⟨cx, cb, cm, co, ct⟩, -, cK, ch, cf, cl, cce, csl⟩ := id C
  have hD := hO.D
  refine W.iast cx cb (hP q0 _ he) ((cK.1.2 0 (G.2.2.1 0, .int) rfl).1 N (fun j => .int (f j))) (fun q => by cases q) (by show ¬ (i < 0 ∨ (arrV _ _ _).slots.size ≤ _); rw [arrV_size]; exact hin) rfl rfl d fun H1 e1 z1 oq => ?_
  refine kk hO.set H1 _ ls (hP.set hD he ?_ oq) (by rw [List.length_set, z1]; exact hz) (hS.put z1 oq (hD.2 q0 _ he)) h
  show H1[G.2.1 + q0]? = some (vp_cell _ _)
  rw [e1]
  rw [vp_cell_i, vp_cell_i, arrV_store]
  congr 2
  funext q
  by_cases hq : q = i.toNatClampNeg
  · subst hq
    simp [updV, upd]
  · simp [updV, upd, hq]
theorem tc_get {index ci j : Nat} {fs : List Value} {v : Value} (q0 : Nat) (C : tc_C G E cc own nL fr lo rc rs) (d : decode cc pc = .ok (.getfield index, 3)) (f : tz_Fl own index ci j) (he : ws[q0]? = some (G.2.1 + q0, .inr (ci, fs))) (hv : fs[j]? = some v) (kk : tc_V G E L ws cells slots (pc + 3) (v :: st)) : tc_V G E L ws cells slots pc (.ref (G.2.1 + q0) :: st) := by
  obtain ⟨⟨p, e, R, s, m, args, below, meth, c⟩, ⟨nL0, Q⟩⟩ := E
  obtain ⟨⟨C9, T9, N9⟩, f1, f2, f3, f4⟩ := f
  dsimp only at f1 f2 f3 f4
  intro hO H locs ls hP hz hS h
  obtain ⟨⟨cx, cb, cm, co, ct⟩, -, cK, ch, cf, cl, cce, csl⟩ := id C
  exact va_get cx cb ct f4 co cK.1 hP q0 he f1 j f2 (ct _ f3) (fun _ h9 => h9) hv d (kk hO H locs ls hP hz hS h)
end TC
