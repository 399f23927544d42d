/-! THE VIRTUAL LAYER. Cells have numbers (tz_L says what each is); a store gives the ints of every cell (fields of an object, items of an array) and the longs. -/
abbrev tzS : Type := (Nat → Nat → Int32) × (Nat → Nat → Int64)
/-- one int put -/
def tz_st (σ : tzS) (k j : Nat) (v : Int32) : tzS := (fun a b => if a = k then (if b = j then v else σ.1 a b) else σ.1 a b, σ.2)
/-- one long put -/
def tz_sl (σ : tzS) (k j : Nat) (v : Int64) : tzS := (σ.1, fun a b => if a = k then (if b = j then v else σ.2 a b) else σ.2 a b)
/-- n items of cell k0 from sp on, to cell k1 from dp on -/
def tz_cp (σ : tzS) (k0 k1 sp dp n : Nat) : tzS := (fun a b => if a = k1 then va_cpy (σ.1 k0) (σ.1 k1) sp dp n b else σ.1 a b, σ.2)
abbrev tzD : Type := (Nat × List (Option Nat)) ⊕ (Nat × Nat × Nat)
def tz_L : List tzD := [.inl (9, [some 1, some 3, some 4, some 38, some 43, some 59, some 80, some 120, some 124, some 132, none, none, none, none, none, none, none]), .inl (8, [some 2, none]), .inr (0, 200, 0), .inl (3, [none, none, none, none, none, none, none]), .inl (6, [none, none, none, some 5, some 6, some 7, some 20, some 33, some 34, some 35, some 36, some 37]), .inr (0, 12, 0), .inr (0, 12, 0), .inr (3, 12, 8), .inr (0, 9, 0), .inr (0, 9, 0), .inr (0, 9, 0), .inr (0, 9, 0), .inr (0, 9, 0), .inr (0, 9, 0), .inr (0, 9, 0), .inr (0, 9, 0), .inr (0, 9, 0), .inr (0, 9, 0), .inr (0, 9, 0), .inr (0, 9, 0), .inr (3, 12, 21), .inr (0, 108, 0), .inr (0, 108, 0), .inr (0, 108, 0), .inr (0, 108, 0), .inr (0, 108, 0), .inr (0, 108, 0), .inr (0, 108, 0), .inr (0, 108, 0), .inr (0, 108, 0), .inr (0, 108, 0), .inr (0, 108, 0), .inr (0, 108, 0), .inr (0, 108, 0), .inr (0, 108, 0), .inr (0, 108, 0), .inr (0, 108, 0), .inr (2, 108, 0), .inl (1, [none, some 39, some 40, some 41, some 42]), .inr (0, 100, 0), .inr (0, 100, 0), .inr (0, 100, 0), .inr (0, 100, 0), .inl (0, [some 44, some 58, none, none, none]), .inr (3, 13, 45), .inr (0, 13, 0), .inr (0, 13, 0), .inr (0, 13, 0), .inr (0, 13, 0), .inr (0, 13, 0), .inr (0, 13, 0), .inr (0, 13, 0), .inr (0, 13, 0), .inr (0, 13, 0), .inr (0, 13, 0), .inr (0, 13, 0), .inr (0, 13, 0), .inr (0, 13, 0), .inr (0, 108, 0), .inl (5, [some 60, some 70]), .inr (3, 9, 61), .inr (0, 13, 0), .inr (0, 13, 0), .inr (0, 13, 0), .inr (0, 13, 0), .inr (0, 13, 0), .inr (0, 13, 0), .inr (0, 13, 0), .inr (0, 13, 0), .inr (0, 13, 0), .inr (3, 9, 71), .inr (0, 13, 0), .inr (0, 13, 0), .inr (0, 13, 0), .inr (0, 13, 0), .inr (0, 13, 0), .inr (0, 13, 0), .inr (0, 13, 0), .inr (0, 13, 0), .inr (0, 13, 0), .inl (2, [some 81, some 82, some 83, some 99]), .inr (0, 9, 0), .inr (0, 9, 0), .inl (0, [some 84, some 98, none, none, none]), .inr (3, 13, 85), .inr (0, 13, 0), .inr (0, 13, 0), .inr (0, 13, 0), .inr (0, 13, 0), .inr (0, 13, 0), .inr (0, 13, 0), .inr (0, 13, 0), .inr (0, 13, 0), .inr (0, 13, 0), .inr (0, 13, 0), .inr (0, 13, 0), .inr (0, 13, 0), .inr (0, 13, 0), .inr (0, 108, 0), .inl (5, [some 100, some 110]), .inr (3, 9, 101), .inr (0, 13, 0), .inr (0, 13, 0), .inr (0, 13, 0), .inr (0, 13, 0), .inr (0, 13, 0), .inr (0, 13, 0), .inr (0, 13, 0), .inr (0, 13, 0), .inr (0, 13, 0), .inr (3, 9, 111), .inr (0, 13, 0), .inr (0, 13, 0), .inr (0, 13, 0), .inr (0, 13, 0), .inr (0, 13, 0), .inr (0, 13, 0), .inr (0, 13, 0), .inr (0, 13, 0), .inr (0, 13, 0), .inl (4, [some 121, some 122, some 123]), .inr (0, 12, 0), .inr (0, 12, 0), .inr (0, 11, 0), .inl (7, [some 125, some 126, some 127]), .inr (0, 4, 0), .inr (0, 4, 0), .inr (3, 4, 128), .inr (0, 60, 0), .inr (0, 60, 0), .inr (0, 60, 0), .inr (0, 60, 0), .inr (0, 4, 0), .inl (10, [none, some 134, some 135, none, none, none, none, none, none, none, some 136, some 137, some 138, some 139, some 140, some 141, some 142, some 143, none, none, none, none, none, some 144, some 145, some 146, some 147, some 148, some 149, some 150, none, some 151, some 152, some 153, some 154, some 155, none]), .inr (0, 200, 0), .inr (0, 4, 0), .inr (0, 110, 0), .inr (0, 110, 0), .inr (0, 110, 0), .inr (0, 110, 0), .inr (0, 110, 0), .inr (0, 110, 0), .inr (0, 14, 0), .inr (0, 1320, 0), .inr (0, 110, 0), .inr (0, 110, 0), .inr (0, 110, 0), .inr (0, 110, 0), .inr (0, 169, 0), .inr (0, 117, 0), .inr (0, 117, 0), .inr (1, 4, 0), .inr (0, 4, 0), .inr (0, 4, 0), .inr (0, 240, 0), .inr (0, 60, 0)]
def tz_lay (k : Nat) : tzD := tz_L.getD k (.inr (9, 0, 0))
abbrev tz_N : Nat := 156
def tz_fs (ad : Nat → Nat) (f : Nat → Int32) (rs : List (Option Nat)) : List Value := (List.range rs.length).map fun j => match rs[j]? with
  | some (some r) => .ref (ad r)
  | _ => .int (f j)
def tz_ent (ad : Nat → Nat) (cy : Nat → ClassId) (σ : tzS) (k : Nat) : va_E := match tz_lay k with
  | .inl (ci, rs) => .inr (ci, tz_fs ad (σ.1 k) rs)
  | .inr (t, n, b) => .inl (cy t, n, if t = 2 then .inr (.inl (σ.2 k)) else if t = 3 then .inr (.inr (.inr (.inr (fun i => if i < n then some (ad (b + i)) else none)))) else .inl (σ.1 k))
def tz_w (ad : Nat → Nat) (cy : Nat → ClassId) (σ : tzS) : va_W := (List.range tz_N).map fun k => (ad k, tz_ent ad cy σ k)
def tz_ty (cy : Nat → ClassId) : List (ClassId × FieldType) := [(cy 0, .int), (cy 1, .boolean), (cy 2, .long), (cy 3, .array .int)]
def tz_x (ad : Nat → Nat) (v : Value) : Value := match v with
  | .ref k => .ref (ad k)
  | v => v
theorem tz_x_cat (ad : Nat → Nat) (v : Value) : (tz_x ad v).category = v.category := by cases v <;> rfl
theorem tz_w_at {ad : Nat → Nat} {cy : Nat → ClassId} {σ : tzS} {k : Nat} (h : k < tz_N) : (tz_w ad cy σ)[k]? = some (ad k, tz_ent ad cy σ k) := by
  unfold tz_w
  rw [List.getElem?_map, List.getElem?_range h]
  rfl
theorem tz_w_len {ad : Nat → Nat} {cy : Nat → ClassId} {σ : tzS} : (tz_w ad cy σ).length = tz_N := by
  unfold tz_w
  rw [List.length_map, List.length_range]
theorem tz_w_set {ad : Nat → Nat} {cy : Nat → ClassId} {σ σ' : tzS} {k : Nat} {e : va_E} (hk : k < tz_N) (he : tz_ent ad cy σ' k = e) (ho : ∀ j, j < tz_N → j ≠ k → tz_ent ad cy σ' j = tz_ent ad cy σ j) : (tz_w ad cy σ).set k (ad k, e) = tz_w ad cy σ' := by
  apply List.ext_getElem?
  intro i
  by_cases hi : i = k
  · subst hi
    rw [List.getElem?_set_self (by rw [tz_w_len]; exact hk), tz_w_at hk, he]
  · rw [List.getElem?_set_ne (Ne.symm hi)]
    by_cases hn : i < tz_N
    · rw [tz_w_at hn, tz_w_at hn, ho i hn hi]
    · rw [List.getElem?_eq_none (by rw [tz_w_len]; omega), List.getElem?_eq_none (by rw [tz_w_len]; omega)]
/-- the entries of cells that agree -/
theorem tz_ent_eq {ad : Nat → Nat} {cy : Nat → ClassId} {σ σ' : tzS} {k : Nat} (h1 : σ'.1 k = σ.1 k) (h2 : σ'.2 k = σ.2 k) : tz_ent ad cy σ' k = tz_ent ad cy σ k := by
  unfold tz_ent
  rw [h1, h2]
theorem tz_fs_len {ad : Nat → Nat} {f : Nat → Int32} {rs : List (Option Nat)} : (tz_fs ad f rs).length = rs.length := by
  unfold tz_fs
  rw [List.length_map, List.length_range]
theorem tz_fs_int {ad : Nat → Nat} {f : Nat → Int32} {rs : List (Option Nat)} {j : Nat} (h : rs[j]? = some none) : (tz_fs ad f rs)[j]? = some (.int (f j)) := by
  have hj := (List.getElem?_eq_some_iff.mp h).1
  unfold tz_fs
  rw [List.getElem?_map, List.getElem?_range hj]
  simp only [Option.map_some, h]
theorem tz_fs_ref {ad : Nat → Nat} {f : Nat → Int32} {rs : List (Option Nat)} {j r : Nat} (h : rs[j]? = some (some r)) : (tz_fs ad f rs)[j]? = some (.ref (ad r)) := by
  have hj := (List.getElem?_eq_some_iff.mp h).1
  unfold tz_fs
  rw [List.getElem?_map, List.getElem?_range hj]
  simp only [Option.map_some, h]
theorem tz_fs_set {ad : Nat → Nat} {f : Nat → Int32} {rs : List (Option Nat)} {j : Nat} {v : Int32} (h : rs[j]? = some none) : (tz_fs ad f rs).set j (.int v) = tz_fs ad (fun b => if b = j then v else f b) rs := by
  have hj := (List.getElem?_eq_some_iff.mp h).1
  apply List.ext_getElem?
  intro i
  by_cases hi : i = j
  · subst hi
    rw [List.getElem?_set_self (by rw [tz_fs_len]; exact hj), tz_fs_int h]
    simp
  · rw [List.getElem?_set_ne (Ne.symm hi)]
    unfold tz_fs
    rw [List.getElem?_map, List.getElem?_map]
    by_cases hn : i < rs.length
    · rw [List.getElem?_range hn]
      simp only [Option.map_some, hi, if_false]
    · rw [List.getElem?_eq_none (by rw [List.length_range]; omega)]
      rfl
/-- what is one for all methods: the launch, the cells' addresses, the array kinds, the kinds' numbers, the cells that may be written -/
abbrev tzG : Type := Launch × (Nat → Nat) × (Nat → ClassId) × va_G × (Nat → Prop)
/-- the addresses are apart, and may be written -/
def tz_ok (G : tzG) : Prop := (∀ i j : Nat, i < tz_N → j < tz_N → G.2.1 i = G.2.1 j → i = j) ∧ ∀ k : Nat, k < tz_N → G.2.2.2.2 (G.2.1 k)
def tz_TB : List Cond := lw_tbl.filter goodWord
theorem tz_in {w : Cond} (i : Nat) (h : lw_tbl[i]? = some w) (hg : goodWord w = true) : w ∈ tz_TB := List.mem_filter.mpr ⟨List.mem_of_getElem? h, hg⟩
theorem tz_good {y : MethodName} {bytes : ByteArray} {maxL : Nat} {ret : Option FieldType} (h : Cond.code y bytes maxL ret ∈ tz_TB) : GoodIn tz_TB (Cond.code y bytes maxL ret :: tz_TB) := by
  intro w hw
  rcases List.mem_cons.mp hw with rfl | hw
  · exact ⟨h, good_of_word (List.mem_filter.mp h).2⟩
  · exact ⟨hw, good_of_word (List.mem_filter.mp hw).2⟩
def tz_nest1 : Cond := .methodLinkNest RX6 60 yX9_isLetter "TopicSeams"
def tz_nest2 : Cond := .methodLinkNest RX3 55 yX9_isLetter "TopicSeams"
def tz_least (j : Nat) : Int32 := ([0, 0, 1, 1] : List Int32).getD j 0
def tz_most (j : Nat) : Int32 := ([3, 40, 4, 4] : List Int32).getD j 0
/-- what a state says of the tables and of what nobody writes -/
def tz_K (G : tzG) (U : State) : Prop := va_K G.2.2.2.1 vwCl (tz_ty G.2.2.1) U ∧ va_Nw tz_nest1 U ∧ va_Nw tz_nest2 U ∧
  va_Z "TopicSeams" "LEAST" "[I" (.ref (G.2.1 1000)) G.2.2.2.2 U U.heap ∧ va_T .int (G.2.1 1000) 4 (fun j => .int (tz_least j)) G.2.2.2.2 U U.heap ∧
  va_Z "TopicSeams" "MOST" "[I" (.ref (G.2.1 1001)) G.2.2.2.2 U U.heap ∧ va_T .int (G.2.1 1001) 4 (fun j => .int (tz_most j)) G.2.2.2.2 U U.heap
theorem tz_K.warm {G : tzG} {s U : State} {H : Heap} {locs : List Loc} (h : tz_K G s) (hW : s.WarmedH U.vm) (hU : U.heap = H) (hS : va_S G.2.2.2.2 s.heap H locs) : tz_K G U := by
  obtain ⟨h1, h2, h3, h4, h5, h6, h7⟩ := h
  refine ⟨va_K.moved hW.alike h1, va_Nw.warmM hW h2, va_Nw.warmM hW h3, ?_, ?_, ?_, ?_⟩
  · rw [hU]; exact (h4.kept hS.2.1).moved hW.alike
  · rw [hU]; exact (h5.kept hS.2.1).moved hW.alike
  · rw [hU]; exact (h6.kept hS.2.1).moved hW.alike
  · rw [hU]; exact (h7.kept hS.2.1).moved hW.alike
def tz_Pc (G : tzG) (vs : List Value) (σ : tzS) : Array Value → State → Prop := fun v U => v = (vs.map (tz_x G.2.1)).toArray ∧ va_P G.2.2.2.1 vwCl (tz_w G.2.1 G.2.2.1 σ) U.heap ∧ tz_K G U
theorem tz_Pc.blind (G : tzG) (vs : List Value) (σ : tzS) : FrameBlind (tz_Pc G vs σ) := by
  intro a U g mk h
  obtain ⟨h0, hP, h1, h2, h3, h4, h5, h6, h7⟩ := h
  have ha : U.vm.Alike (U.calling g mk a).vm := Vm.Alike.refl U.vm
  exact ⟨h0, hP, va_K.moved ha h1, va_Nw.same rfl rfl h2, va_Nw.same rfl rfl h3, h4.moved ha, h5.moved ha, h6.moved ha, h7.moved ha⟩
def tz_B (G : tzG) (σ : tzS) (t : State) : Prop := va_P G.2.2.2.1 vwCl (tz_w G.2.1 G.2.2.1 σ) t.heap
abbrev tz_Qi (G : tzG) (Q : Int32 → tzS → Prop) : Array Value → State → Outcome → State → Prop := va_Qi Q (tz_B G) G.2.2.2.2
abbrev tz_Ql (G : tzG) (Q : Int64 → tzS → Prop) : Array Value → State → Outcome → State → Prop := va_Ql Q (tz_B G) G.2.2.2.2
abbrev tz_Qv (G : tzG) (Q : tzS → Prop) : Array Value → State → Outcome → State → Prop := va_Qv Q (tz_B G) G.2.2.2.2
/-- a method's contract -/
abbrev tz_M (G : tzG) (y : MethodName) (bytes : ByteArray) (maxL : Nat) (ret : Option FieldType) (fr lo : Nat) (vs : List Value) (σ : tzS) (Qc : Array Value → State → Outcome → State → Prop) : Prop :=
  Met G.1 y (Cond.code y bytes maxL ret :: tz_TB) { frames := fr, cells := 0, slots := 0, locals := lo } (tz_Pc G vs σ) Qc 0 0 G.2.2.2.2
/-- what is one for a method's walk -/
abbrev tzE : Type := (Program × Env × Room × State × MethodId × Array Value × List Frame × Method × Code) × (Nat × Nat × Nat × (State → Prop))
def tz_V (G : tzG) (E : tzE) (pc : Nat) (L : List (Nat × Value)) (st : List Value) (σ : tzS) : Prop :=
  match E with
  | ((p, e, R, s, m, args, below, meth, c), (nL, cells, slots, Q)) =>
    ∀ (H : Heap) (locs : List Loc) (ls : Array Slot), va_P G.2.2.2.1 vwCl (tz_w G.2.1 G.2.2.1 σ) H → va_S G.2.2.2.2 s.heap H locs → lv_has ls nL (L.map fun q => (q.1, tz_x G.2.1 q.2)) → W p G.1 e R s m args below meth c H locs cells slots Q (F0 m pc ls (st.map (tz_x G.2.1)))
def tz_C (G : tzG) (E : tzE) (cc : ByteArray) (own : String) (nL fr lo : Nat) : Prop :=
  match E with
  | ((p, e, R, s, m, args, below, meth, c), (nL0, cells, slots, Q)) =>
    (p.tables.exec = Jvm.exec ∧ c.code = cc ∧ c.maxLocals = nL ∧ s.vm.findClass own = some m.cls ∧ ∀ w ∈ tz_TB, w.before args s = true) ∧ nL0 = nL ∧ tz_K G s ∧ tz_ok G ∧ fr ≤ R.frames ∧ lo ≤ R.locals ∧ cells ≤ R.cells ∧ slots ≤ R.slots

theorem tz_at {ad : Nat → Nat} {ls : Array Slot} {nL : Nat} {L : List (Nat × Value)} (h : lv_has ls nL (L.map fun q => (q.1, tz_x ad q.2))) (k : Nat) {i : Nat} {v : Value} (hk : L[k]? = some (i, v)) : ls[i]? = some (.val (tz_x ad v)) := by
  refine lv_at h k ?_
  rw [List.getElem?_map, hk]
  rfl
theorem tz_flt (ad : Nat → Nat) (f : Nat → Nat → Bool) (L : List (Nat × Value)) : (L.map fun q => (q.1, tz_x ad q.2)).filter (fun q => f q.1 q.2.category) = (L.filter (fun q => f q.1 q.2.category)).map fun q => (q.1, tz_x ad q.2) := by
  rw [List.filter_map]
  congr 1
  apply List.filter_congr
  intro q _
  simp only [Function.comp, tz_x_cat]
theorem tz_D {G : tzG} (h : tz_ok G) (σ : tzS) : va_D G.2.2.2.2 (tz_w G.2.1 G.2.2.1 σ) := by
  have key : ∀ (i : Nat) (q : Nat × va_E), (tz_w G.2.1 G.2.2.1 σ)[i]? = some q → i < tz_N ∧ q.1 = G.2.1 i := by
    intro i q hq
    have hi : i < tz_N := by
      have := (List.getElem?_eq_some_iff.mp hq).1
      rw [tz_w_len] at this
      exact this
    rw [tz_w_at hi] at hq
    cases hq
    exact ⟨hi, rfl⟩
  refine ⟨fun i j p q hp hq e => ?_, fun k q hk => ?_⟩
  · obtain ⟨h1, e1⟩ := key i p hp
    obtain ⟨h2, e2⟩ := key j q hq
    exact h.1 i j h1 h2 (by rw [← e1, ← e2]; exact e)
  · obtain ⟨h1, e1⟩ := key k q hk
    rw [e1]
    exact h.2 k h1
section TZ
variable {G : tzG} {E : tzE} {cc : ByteArray} {own : String} {nL fr lo pc : Nat} {L : List (Nat × Value)} {st : List Value} {σ : tzS}
/-- fewer known locals -/
theorem tz_sub {L' : List (Nat × Value)} (k : tz_V G E pc L st σ) (ks : List Nat) (hl : lv_pick L' ks = L) : tz_V G E pc L' st σ := by
  obtain ⟨⟨p, e, R, s, m, args, below, meth, c⟩, ⟨nL, cells, slots, Q⟩⟩ := E
  intro H locs ls hP hS h
  refine k H locs ls hP hS (lv_sub h ks ?_)
  rw [← hl]
  unfold lv_pick
  rw [List.map_filterMap]
  congr 1
  funext i
  rw [List.getElem?_map]

theorem tz_iconst {n : Int} (v : Int32) (hv : Int32.ofInt n = v) (C : tz_C G E cc own nL fr lo) (d : decode cc pc = .ok (.iconst n, 1)) (k : tz_V G E (pc + 1) L (.int v :: st) σ) : tz_V G E pc L (st) σ := by
  obtain ⟨⟨p, e, R, s, m, args, below, meth, c⟩, ⟨nL0, cells, slots, Q⟩⟩ := E
  intro H locs ls hP hS h
  exact lv_iconst C.1.1 C.1.2.1 d hv (k H locs ls hP hS h)
theorem tz_bipush {n : Int} (v : Int32) (hv : (Int8.ofInt n).toInt32 = v) (C : tz_C G E cc own nL fr lo) (d : decode cc pc = .ok (.bipush n, 2)) (k : tz_V G E (pc + 2) L (.int v :: st) σ) : tz_V G E pc L (st) σ := by
  obtain ⟨⟨p, e, R, s, m, args, below, meth, c⟩, ⟨nL0, cells, slots, Q⟩⟩ := E
  intro H locs ls hP hS h
  exact lv_bipush C.1.1 C.1.2.1 d hv (k H locs ls hP hS h)
theorem tz_sipush {n : Int} (v : Int32) (hv : (Int16.ofInt n).toInt32 = v) (C : tz_C G E cc own nL fr lo) (d : decode cc pc = .ok (.sipush n, 3)) (k : tz_V G E (pc + 3) L (.int v :: st) σ) : tz_V G E pc L (st) σ := by
  obtain ⟨⟨p, e, R, s, m, args, below, meth, c⟩, ⟨nL0, cells, slots, Q⟩⟩ := E
  intro H locs ls hP hS h
  exact lv_sipush C.1.1 C.1.2.1 d hv (k H locs ls hP hS h)
theorem tz_lconst {n : Fin 2} (v : Int64) (hv : Int64.ofNat (n : Nat) = v) (C : tz_C G E cc own nL fr lo) (d : decode cc pc = .ok (.lconst n, 1)) (k : tz_V G E (pc + 1) L (.long v :: st) σ) : tz_V G E pc L (st) σ := by
  obtain ⟨⟨p, e, R, s, m, args, below, meth, c⟩, ⟨nL0, cells, slots, Q⟩⟩ := E
  intro H locs ls hP hS h
  exact lv_lconst C.1.1 C.1.2.1 d hv (k H locs ls hP hS h)
theorem tz_iadd {x y : Int32} (C : tz_C G E cc own nL fr lo) (d : decode cc pc = .ok (.iadd, 1)) (k : tz_V G E (pc + 1) L (.int (x + y) :: st) σ) : tz_V G E pc L (.int y :: .int x :: st) σ := by
  obtain ⟨⟨p, e, R, s, m, args, below, meth, c⟩, ⟨nL0, cells, slots, Q⟩⟩ := E
  intro H locs ls hP hS h
  exact lv_iadd C.1.1 C.1.2.1 d  (k H locs ls hP hS h)
theorem tz_isub {x y : Int32} (C : tz_C G E cc own nL fr lo) (d : decode cc pc = .ok (.isub, 1)) (k : tz_V G E (pc + 1) L (.int (x - y) :: st) σ) : tz_V G E pc L (.int y :: .int x :: st) σ := by
  obtain ⟨⟨p, e, R, s, m, args, below, meth, c⟩, ⟨nL0, cells, slots, Q⟩⟩ := E
  intro H locs ls hP hS h
  exact lv_isub C.1.1 C.1.2.1 d  (k H locs ls hP hS h)
theorem tz_imul {x y : Int32} (C : tz_C G E cc own nL fr lo) (d : decode cc pc = .ok (.imul, 1)) (k : tz_V G E (pc + 1) L (.int (x * y) :: st) σ) : tz_V G E pc L (.int y :: .int x :: st) σ := by
  obtain ⟨⟨p, e, R, s, m, args, below, meth, c⟩, ⟨nL0, cells, slots, Q⟩⟩ := E
  intro H locs ls hP hS h
  exact lv_imul C.1.1 C.1.2.1 d  (k H locs ls hP hS h)
theorem tz_iand {x y : Int32} (C : tz_C G E cc own nL fr lo) (d : decode cc pc = .ok (.iand, 1)) (k : tz_V G E (pc + 1) L (.int (x &&& y) :: st) σ) : tz_V G E pc L (.int y :: .int x :: st) σ := by
  obtain ⟨⟨p, e, R, s, m, args, below, meth, c⟩, ⟨nL0, cells, slots, Q⟩⟩ := E
  intro H locs ls hP hS h
  exact lv_iand C.1.1 C.1.2.1 d  (k H locs ls hP hS h)
theorem tz_ior {x y : Int32} (C : tz_C G E cc own nL fr lo) (d : decode cc pc = .ok (.ior, 1)) (k : tz_V G E (pc + 1) L (.int (x ||| y) :: st) σ) : tz_V G E pc L (.int y :: .int x :: st) σ := by
  obtain ⟨⟨p, e, R, s, m, args, below, meth, c⟩, ⟨nL0, cells, slots, Q⟩⟩ := E
  intro H locs ls hP hS h
  exact lv_ior C.1.1 C.1.2.1 d  (k H locs ls hP hS h)
theorem tz_ladd {x y : Int64} (C : tz_C G E cc own nL fr lo) (d : decode cc pc = .ok (.ladd, 1)) (k : tz_V G E (pc + 1) L (.long (x + y) :: st) σ) : tz_V G E pc L (.long y :: .long x :: st) σ := by
  obtain ⟨⟨p, e, R, s, m, args, below, meth, c⟩, ⟨nL0, cells, slots, Q⟩⟩ := E
  intro H locs ls hP hS h
  exact lv_ladd C.1.1 C.1.2.1 d  (k H locs ls hP hS h)
theorem tz_lmul {x y : Int64} (C : tz_C G E cc own nL fr lo) (d : decode cc pc = .ok (.lmul, 1)) (k : tz_V G E (pc + 1) L (.long (x * y) :: st) σ) : tz_V G E pc L (.long y :: .long x :: st) σ := by
  obtain ⟨⟨p, e, R, s, m, args, below, meth, c⟩, ⟨nL0, cells, slots, Q⟩⟩ := E
  intro H locs ls hP hS h
  exact lv_lmul C.1.1 C.1.2.1 d  (k H locs ls hP hS h)
theorem tz_land {x y : Int64} (C : tz_C G E cc own nL fr lo) (d : decode cc pc = .ok (.land, 1)) (k : tz_V G E (pc + 1) L (.long (x &&& y) :: st) σ) : tz_V G E pc L (.long y :: .long x :: st) σ := by
  obtain ⟨⟨p, e, R, s, m, args, below, meth, c⟩, ⟨nL0, cells, slots, Q⟩⟩ := E
  intro H locs ls hP hS h
  exact lv_land C.1.1 C.1.2.1 d  (k H locs ls hP hS h)
theorem tz_lor {x y : Int64} (C : tz_C G E cc own nL fr lo) (d : decode cc pc = .ok (.lor, 1)) (k : tz_V G E (pc + 1) L (.long (x ||| y) :: st) σ) : tz_V G E pc L (.long y :: .long x :: st) σ := by
  obtain ⟨⟨p, e, R, s, m, args, below, meth, c⟩, ⟨nL0, cells, slots, Q⟩⟩ := E
  intro H locs ls hP hS h
  exact lv_lor C.1.1 C.1.2.1 d  (k H locs ls hP hS h)
theorem tz_ishl {x y : Int32} (C : tz_C G E cc own nL fr lo) (d : decode cc pc = .ok (.ishl, 1)) (k : tz_V G E (pc + 1) L (.int (x <<< (y &&& 31)) :: st) σ) : tz_V G E pc L (.int y :: .int x :: st) σ := by
  obtain ⟨⟨p, e, R, s, m, args, below, meth, c⟩, ⟨nL0, cells, slots, Q⟩⟩ := E
  intro H locs ls hP hS h
  exact lv_ishl C.1.1 C.1.2.1 d  (k H locs ls hP hS h)
theorem tz_ishr {x y : Int32} (C : tz_C G E cc own nL fr lo) (d : decode cc pc = .ok (.ishr, 1)) (k : tz_V G E (pc + 1) L (.int (x >>> (y &&& 31)) :: st) σ) : tz_V G E pc L (.int y :: .int x :: st) σ := by
  obtain ⟨⟨p, e, R, s, m, args, below, meth, c⟩, ⟨nL0, cells, slots, Q⟩⟩ := E
  intro H locs ls hP hS h
  exact lv_ishr C.1.1 C.1.2.1 d  (k H locs ls hP hS h)
theorem tz_iushr {x y : Int32} (C : tz_C G E cc own nL fr lo) (d : decode cc pc = .ok (.iushr, 1)) (k : tz_V G E (pc + 1) L (.int (x.toUInt32 >>> (y.toUInt32 &&& Int32.toUInt32 31)).toInt32 :: st) σ) : tz_V G E pc L (.int y :: .int x :: st) σ := by
  obtain ⟨⟨p, e, R, s, m, args, below, meth, c⟩, ⟨nL0, cells, slots, Q⟩⟩ := E
  intro H locs ls hP hS h
  exact lv_iushr C.1.1 C.1.2.1 d rfl (k H locs ls hP hS h)
theorem tz_lshl {x : Int64} {y : Int32} (C : tz_C G E cc own nL fr lo) (d : decode cc pc = .ok (.lshl, 1)) (k : tz_V G E (pc + 1) L (.long (x <<< (y.toInt64 &&& 63)) :: st) σ) : tz_V G E pc L (.int y :: .long x :: st) σ := by
  obtain ⟨⟨p, e, R, s, m, args, below, meth, c⟩, ⟨nL0, cells, slots, Q⟩⟩ := E
  intro H locs ls hP hS h
  exact lv_lshl C.1.1 C.1.2.1 d rfl (k H locs ls hP hS h)
theorem tz_lshr {x : Int64} {y : Int32} (C : tz_C G E cc own nL fr lo) (d : decode cc pc = .ok (.lshr, 1)) (k : tz_V G E (pc + 1) L (.long (x >>> (y.toInt64 &&& 63)) :: st) σ) : tz_V G E pc L (.int y :: .long x :: st) σ := by
  obtain ⟨⟨p, e, R, s, m, args, below, meth, c⟩, ⟨nL0, cells, slots, Q⟩⟩ := E
  intro H locs ls hP hS h
  exact lv_lshr C.1.1 C.1.2.1 d rfl (k H locs ls hP hS h)
theorem tz_i2l {x : Int32} (C : tz_C G E cc own nL fr lo) (d : decode cc pc = .ok (.i2l, 1)) (k : tz_V G E (pc + 1) L (.long x.toInt64 :: st) σ) : tz_V G E pc L (.int x :: st) σ := by
  obtain ⟨⟨p, e, R, s, m, args, below, meth, c⟩, ⟨nL0, cells, slots, Q⟩⟩ := E
  intro H locs ls hP hS h
  exact lv_i2l C.1.1 C.1.2.1 d rfl (k H locs ls hP hS h)
theorem tz_l2i {x : Int64} (C : tz_C G E cc own nL fr lo) (d : decode cc pc = .ok (.l2i, 1)) (k : tz_V G E (pc + 1) L (.int x.toInt32 :: st) σ) : tz_V G E pc L (.long x :: st) σ := by
  obtain ⟨⟨p, e, R, s, m, args, below, meth, c⟩, ⟨nL0, cells, slots, Q⟩⟩ := E
  intro H locs ls hP hS h
  exact lv_l2i C.1.1 C.1.2.1 d rfl (k H locs ls hP hS h)
theorem tz_i2b {x : Int32} (C : tz_C G E cc own nL fr lo) (d : decode cc pc = .ok (.i2b, 1)) (k : tz_V G E (pc + 1) L (.int x.toInt8.toInt32 :: st) σ) : tz_V G E pc L (.int x :: st) σ := by
  obtain ⟨⟨p, e, R, s, m, args, below, meth, c⟩, ⟨nL0, cells, slots, Q⟩⟩ := E
  intro H locs ls hP hS h
  exact lv_i2b C.1.1 C.1.2.1 d rfl (k H locs ls hP hS h)
theorem tz_i2s {x : Int32} (C : tz_C G E cc own nL fr lo) (d : decode cc pc = .ok (.i2s, 1)) (k : tz_V G E (pc + 1) L (.int x.toInt16.toInt32 :: st) σ) : tz_V G E pc L (.int x :: st) σ := by
  obtain ⟨⟨p, e, R, s, m, args, below, meth, c⟩, ⟨nL0, cells, slots, Q⟩⟩ := E
  intro H locs ls hP hS h
  exact lv_i2s C.1.1 C.1.2.1 d rfl (k H locs ls hP hS h)
theorem tz_lcmp {x y : Int64} (C : tz_C G E cc own nL fr lo) (d : decode cc pc = .ok (.lcmp, 1)) (k : tz_V G E (pc + 1) L (.int (lg_cmp x y) :: st) σ) : tz_V G E pc L (.long y :: .long x :: st) σ := by
  obtain ⟨⟨p, e, R, s, m, args, below, meth, c⟩, ⟨nL0, cells, slots, Q⟩⟩ := E
  intro H locs ls hP hS h
  exact W.lcmp C.1.1 C.1.2.1 d (k H locs ls hP hS h)
theorem tz_dup {v : Value} (C : tz_C G E cc own nL fr lo) (d : decode cc pc = .ok (.dup, 1)) (hv : v.category = 1) (k : tz_V G E (pc + 1) L (v :: v :: st) σ) : tz_V G E pc L (v :: st) σ := by
  obtain ⟨⟨p, e, R, s, m, args, below, meth, c⟩, ⟨nL0, cells, slots, Q⟩⟩ := E
  intro H locs ls hP hS h
  exact lv_dup C.1.1 C.1.2.1 d (by rw [tz_x_cat]; exact hv) (k H locs ls hP hS h)
theorem tz_dup2 {v u : Value} (C : tz_C G E cc own nL fr lo) (d : decode cc pc = .ok (.dup2, 1)) (hv : v.category = 1) (hu : u.category = 1) (k : tz_V G E (pc + 1) L (v :: u :: v :: u :: st) σ) : tz_V G E pc L (v :: u :: st) σ := by
  obtain ⟨⟨p, e, R, s, m, args, below, meth, c⟩, ⟨nL0, cells, slots, Q⟩⟩ := E
  intro H locs ls hP hS h
  exact lv_dup2_11 C.1.1 C.1.2.1 d (by rw [tz_x_cat]; exact hv) (by rw [tz_x_cat]; exact hu) (k H locs ls hP hS h)
theorem tz_goto {off : Int} (tgt : Nat) (C : tz_C G E cc own nL fr lo) (d : decode cc pc = .ok (.goto off, 3)) (ht : (pc : Int) + off = (tgt : Int)) (k : tz_V G E tgt L st σ) : tz_V G E pc L st σ := by
  obtain ⟨⟨p, e, R, s, m, args, below, meth, c⟩, ⟨nL0, cells, slots, Q⟩⟩ := E
  intro H locs ls hP hS h
  exact lv_goto C.1.1 C.1.2.1 d ht (k H locs ls hP hS h)
theorem tz_iload_n {i : Fin 4} {x : Int32} (j : Nat) (k : Nat) (C : tz_C G E cc own nL fr lo) (d : decode cc pc = .ok (.iload_n i, 1)) (hi : (i : Nat) = j) (hk : L[k]? = some (j, .int x)) (kk : tz_V G E (pc + 1) L (.int x :: st) σ) : tz_V G E pc L st σ := by
  obtain ⟨⟨p, e, R, s, m, args, below, meth, c⟩, ⟨nL0, cells, slots, Q⟩⟩ := E
  intro H locs ls hP hS h
  exact lv_iload_n C.1.1 C.1.2.1 d hi (tz_at h k hk) (kk H locs ls hP hS h)
theorem tz_iload {x : Int32} {j : Nat} (k : Nat) (C : tz_C G E cc own nL fr lo) (d : decode cc pc = .ok (.iload j, 2)) (hk : L[k]? = some (j, .int x)) (kk : tz_V G E (pc + 2) L (.int x :: st) σ) : tz_V G E pc L st σ := by
  obtain ⟨⟨p, e, R, s, m, args, below, meth, c⟩, ⟨nL0, cells, slots, Q⟩⟩ := E
  intro H locs ls hP hS h
  exact lv_iload C.1.1 C.1.2.1 d (tz_at h k hk) (kk H locs ls hP hS h)
theorem tz_lload_n {i : Fin 4} {x : Int64} (j : Nat) (k : Nat) (C : tz_C G E cc own nL fr lo) (d : decode cc pc = .ok (.lload_n i, 1)) (hi : (i : Nat) = j) (hk : L[k]? = some (j, .long x)) (kk : tz_V G E (pc + 1) L (.long x :: st) σ) : tz_V G E pc L st σ := by
  obtain ⟨⟨p, e, R, s, m, args, below, meth, c⟩, ⟨nL0, cells, slots, Q⟩⟩ := E
  intro H locs ls hP hS h
  exact lv_lload_n C.1.1 C.1.2.1 d hi (tz_at h k hk) (kk H locs ls hP hS h)
theorem tz_lload {x : Int64} {j : Nat} (k : Nat) (C : tz_C G E cc own nL fr lo) (d : decode cc pc = .ok (.lload j, 2)) (hk : L[k]? = some (j, .long x)) (kk : tz_V G E (pc + 2) L (.long x :: st) σ) : tz_V G E pc L st σ := by
  obtain ⟨⟨p, e, R, s, m, args, below, meth, c⟩, ⟨nL0, cells, slots, Q⟩⟩ := E
  intro H locs ls hP hS h
  exact lv_lload C.1.1 C.1.2.1 d (tz_at h k hk) (kk H locs ls hP hS h)
theorem tz_aload_n {i : Fin 4} {r : Nat} (j : Nat) (k : Nat) (C : tz_C G E cc own nL fr lo) (d : decode cc pc = .ok (.aload_n i, 1)) (hi : (i : Nat) = j) (hk : L[k]? = some (j, .ref r)) (kk : tz_V G E (pc + 1) L (.ref r :: st) σ) : tz_V G E pc L st σ := by
  obtain ⟨⟨p, e, R, s, m, args, below, meth, c⟩, ⟨nL0, cells, slots, Q⟩⟩ := E
  intro H locs ls hP hS h
  exact lv_aload_n C.1.1 C.1.2.1 d hi (tz_at h k hk) (kk H locs ls hP hS h)
theorem tz_istore_n {i : Fin 4} (j : Nat) {x : Int32} {P : Int32 → Prop} (L0 : List (Nat × Value)) (C : tz_C G E cc own nL fr lo) (d : decode cc pc = .ok (.istore_n i, 1)) (hi : (i : Nat) = j) (hn : j < nL) (hl : L.filter (fun q => !(q.1 == j) && !(q.1 + 1 == j && q.2.category == 2)) = L0) (hp : ∀ y, y = x → P y) (kk : ∀ x : Int32, P x → tz_V G E (pc + 1) ((j, .int x) :: L0) st σ) : tz_V G E pc L (.int x :: st) σ := by
  obtain ⟨⟨p, e, R, s, m, args, below, meth, c⟩, ⟨nL0, cells, slots, Q⟩⟩ := E
  obtain rfl : nL0 = nL := C.2.1
  intro H locs ls hP hS h
  refine lv_istore_n (lv' := ((j, .int x) :: L0).map fun q => (q.1, tz_x G.2.1 q.2)) C.1.1 C.1.2.1 d hi h hn ?_ (fun ls' h' => kk x (hp x rfl) H locs ls' hP hS h')
  rw [← hl]
  exact congrArg (List.cons _) (tz_flt G.2.1 (fun (a b : Nat) => !(a == j) && !(a + 1 == j && b == 2)) L)
theorem tz_istore {j : Nat} {x : Int32} {P : Int32 → Prop} (L0 : List (Nat × Value)) (C : tz_C G E cc own nL fr lo) (d : decode cc pc = .ok (.istore j, 2))  (hn : j < nL) (hl : L.filter (fun q => !(q.1 == j) && !(q.1 + 1 == j && q.2.category == 2)) = L0) (hp : ∀ y, y = x → P y) (kk : ∀ x : Int32, P x → tz_V G E (pc + 2) ((j, .int x) :: L0) st σ) : tz_V G E pc L (.int x :: st) σ := by
  obtain ⟨⟨p, e, R, s, m, args, below, meth, c⟩, ⟨nL0, cells, slots, Q⟩⟩ := E
  obtain rfl : nL0 = nL := C.2.1
  intro H locs ls hP hS h
  refine lv_istore (lv' := ((j, .int x) :: L0).map fun q => (q.1, tz_x G.2.1 q.2)) C.1.1 C.1.2.1 d  h hn ?_ (fun ls' h' => kk x (hp x rfl) H locs ls' hP hS h')
  rw [← hl]
  exact congrArg (List.cons _) (tz_flt G.2.1 (fun (a b : Nat) => !(a == j) && !(a + 1 == j && b == 2)) L)
theorem tz_lstore_n {i : Fin 4} (j : Nat) {x : Int64} {P : Int64 → Prop} (L0 : List (Nat × Value)) (C : tz_C G E cc own nL fr lo) (d : decode cc pc = .ok (.lstore_n i, 1)) (hi : (i : Nat) = j) (hn : j + 1 < nL) (hl : L.filter (fun q => !(q.1 == j) && (!(q.1 == j + 1) && !(q.1 + 1 == j && q.2.category == 2))) = L0) (hp : ∀ y, y = x → P y) (kk : ∀ x : Int64, P x → tz_V G E (pc + 1) ((j, .long x) :: L0) st σ) : tz_V G E pc L (.long x :: st) σ := by
  obtain ⟨⟨p, e, R, s, m, args, below, meth, c⟩, ⟨nL0, cells, slots, Q⟩⟩ := E
  obtain rfl : nL0 = nL := C.2.1
  intro H locs ls hP hS h
  refine lv_lstore_n (lv' := ((j, .long x) :: L0).map fun q => (q.1, tz_x G.2.1 q.2)) C.1.1 C.1.2.1 d hi h hn ?_ (fun ls' h' => kk x (hp x rfl) H locs ls' hP hS h')
  rw [← hl]
  exact congrArg (List.cons _) (tz_flt G.2.1 (fun (a b : Nat) => !(a == j) && (!(a == j + 1) && !(a + 1 == j && b == 2))) L)
theorem tz_lstore {j : Nat} {x : Int64} {P : Int64 → Prop} (L0 : List (Nat × Value)) (C : tz_C G E cc own nL fr lo) (d : decode cc pc = .ok (.lstore j, 2))  (hn : j + 1 < nL) (hl : L.filter (fun q => !(q.1 == j) && (!(q.1 == j + 1) && !(q.1 + 1 == j && q.2.category == 2))) = L0) (hp : ∀ y, y = x → P y) (kk : ∀ x : Int64, P x → tz_V G E (pc + 2) ((j, .long x) :: L0) st σ) : tz_V G E pc L (.long x :: st) σ := by
  obtain ⟨⟨p, e, R, s, m, args, below, meth, c⟩, ⟨nL0, cells, slots, Q⟩⟩ := E
  obtain rfl : nL0 = nL := C.2.1
  intro H locs ls hP hS h
  refine lv_lstore (lv' := ((j, .long x) :: L0).map fun q => (q.1, tz_x G.2.1 q.2)) C.1.1 C.1.2.1 d  h hn ?_ (fun ls' h' => kk x (hp x rfl) H locs ls' hP hS h')
  rw [← hl]
  exact congrArg (List.cons _) (tz_flt G.2.1 (fun (a b : Nat) => !(a == j) && (!(a == j + 1) && !(a + 1 == j && b == 2))) L)
theorem tz_iinc {j : Nat} {n : Int} {x : Int32} {P : Int32 → Prop} (k : Nat) (L0 : List (Nat × Value)) (v : Int32) (C : tz_C G E cc own nL fr lo) (d : decode cc pc = .ok (.iinc j n, 3)) (hv : Int32.ofInt n = v) (hk : L[k]? = some (j, .int x)) (hn : j < nL) (hl : L.filter (fun q => !(q.1 == j) && !(q.1 + 1 == j && q.2.category == 2)) = L0) (hp : ∀ y, y = x + v → P y) (kk : ∀ x : Int32, P x → tz_V G E (pc + 3) ((j, .int x) :: L0) st σ) : tz_V G E pc L st σ := by
  obtain ⟨⟨p, e, R, s, m, args, below, meth, c⟩, ⟨nL0, cells, slots, Q⟩⟩ := E
  obtain rfl : nL0 = nL := C.2.1
  intro H locs ls hP hS h
  refine lv_iinc (v := x + v) (lv' := ((j, .int (x + v)) :: L0).map fun q => (q.1, tz_x G.2.1 q.2)) C.1.1 C.1.2.1 d h (k := k) (x := x) (by rw [List.getElem?_map, hk]; rfl) (by rw [hv]) hn ?_ (fun ls' h' => kk (x + v) (hp _ rfl) H locs ls' hP hS h')
  rw [← hl]
  exact congrArg (List.cons _) (tz_flt G.2.1 (fun (a b : Nat) => !(a == j) && !(a + 1 == j && b == 2)) L)
theorem tz_if_eq {x : Int32} {off : Int} (tgt : Nat) {P N : Prop} (C : tz_C G E cc own nL fr lo) (d : decode cc pc = .ok (.ifCond .eq off, 3)) (ht : (pc : Int) + off = (tgt : Int)) (hp : (x = 0 → P) ∧ (¬ x = 0 → N)) (kt : x = 0 → P → tz_V G E tgt L st σ) (kf : ¬ x = 0 → N → tz_V G E (pc + 3) L st σ) : tz_V G E pc L (.int x :: st) σ := by
  obtain ⟨⟨p, e, R, s, m, args, below, meth, c⟩, ⟨nL0, cells, slots, Q⟩⟩ := E
  intro H locs ls hP hS h
  exact lv_if_eq C.1.1 C.1.2.1 d ht (fun q => kt q (hp.1 q) H locs ls hP hS h) (fun q => kf q (hp.2 q) H locs ls hP hS h)
theorem tz_if_eq_t {x : Int32} {off : Int} (tgt : Nat) (C : tz_C G E cc own nL fr lo) (d : decode cc pc = .ok (.ifCond .eq off, 3)) (ht : (pc : Int) + off = (tgt : Int)) (hc : x = 0) (kt : tz_V G E tgt L st σ) : tz_V G E pc L (.int x :: st) σ := tz_if_eq tgt C d ht (P := True) (N := False) ⟨fun _ => trivial, fun q => absurd hc (by first | exact q | exact fun z => z q)⟩ (fun _ _ => kt) (fun _ q => q.elim)
theorem tz_if_eq_f {x : Int32} {off : Int} (tgt : Nat) (C : tz_C G E cc own nL fr lo) (d : decode cc pc = .ok (.ifCond .eq off, 3)) (ht : (pc : Int) + off = (tgt : Int)) (hc : ¬ x = 0) (kf : tz_V G E (pc + 3) L st σ) : tz_V G E pc L (.int x :: st) σ := tz_if_eq tgt C d ht (P := False) (N := True) ⟨fun q => absurd q (by first | exact hc | exact fun z => z hc), fun _ => trivial⟩ (fun _ q => q.elim) (fun _ _ => kf)
theorem tz_if_ne {x : Int32} {off : Int} (tgt : Nat) {P N : Prop} (C : tz_C G E cc own nL fr lo) (d : decode cc pc = .ok (.ifCond .ne off, 3)) (ht : (pc : Int) + off = (tgt : Int)) (hp : (¬ x = 0 → P) ∧ (x = 0 → N)) (kt : ¬ x = 0 → P → tz_V G E tgt L st σ) (kf : x = 0 → N → tz_V G E (pc + 3) L st σ) : tz_V G E pc L (.int x :: st) σ := by
  obtain ⟨⟨p, e, R, s, m, args, below, meth, c⟩, ⟨nL0, cells, slots, Q⟩⟩ := E
  intro H locs ls hP hS h
  exact lv_if_ne C.1.1 C.1.2.1 d ht (fun q => kt q (hp.1 q) H locs ls hP hS h) (fun q => kf q (hp.2 q) H locs ls hP hS h)
theorem tz_if_ne_t {x : Int32} {off : Int} (tgt : Nat) (C : tz_C G E cc own nL fr lo) (d : decode cc pc = .ok (.ifCond .ne off, 3)) (ht : (pc : Int) + off = (tgt : Int)) (hc : ¬ x = 0) (kt : tz_V G E tgt L st σ) : tz_V G E pc L (.int x :: st) σ := tz_if_ne tgt C d ht (P := True) (N := False) ⟨fun _ => trivial, fun q => absurd hc (by first | exact q | exact fun z => z q)⟩ (fun _ _ => kt) (fun _ q => q.elim)
theorem tz_if_ne_f {x : Int32} {off : Int} (tgt : Nat) (C : tz_C G E cc own nL fr lo) (d : decode cc pc = .ok (.ifCond .ne off, 3)) (ht : (pc : Int) + off = (tgt : Int)) (hc : x = 0) (kf : tz_V G E (pc + 3) L st σ) : tz_V G E pc L (.int x :: st) σ := tz_if_ne tgt C d ht (P := False) (N := True) ⟨fun q => absurd q (by first | exact hc | exact fun z => z hc), fun _ => trivial⟩ (fun _ q => q.elim) (fun _ _ => kf)
theorem tz_if_lt {x : Int32} {off : Int} (tgt : Nat) {P N : Prop} (C : tz_C G E cc own nL fr lo) (d : decode cc pc = .ok (.ifCond .lt off, 3)) (ht : (pc : Int) + off = (tgt : Int)) (hp : (x < 0 → P) ∧ (¬ x < 0 → N)) (kt : x < 0 → P → tz_V G E tgt L st σ) (kf : ¬ x < 0 → N → tz_V G E (pc + 3) L st σ) : tz_V G E pc L (.int x :: st) σ := by
  obtain ⟨⟨p, e, R, s, m, args, below, meth, c⟩, ⟨nL0, cells, slots, Q⟩⟩ := E
  intro H locs ls hP hS h
  exact lv_if_lt C.1.1 C.1.2.1 d ht (fun q => kt q (hp.1 q) H locs ls hP hS h) (fun q => kf q (hp.2 q) H locs ls hP hS h)
theorem tz_if_lt_t {x : Int32} {off : Int} (tgt : Nat) (C : tz_C G E cc own nL fr lo) (d : decode cc pc = .ok (.ifCond .lt off, 3)) (ht : (pc : Int) + off = (tgt : Int)) (hc : x < 0) (kt : tz_V G E tgt L st σ) : tz_V G E pc L (.int x :: st) σ := tz_if_lt tgt C d ht (P := True) (N := False) ⟨fun _ => trivial, fun q => absurd hc (by first | exact q | exact fun z => z q)⟩ (fun _ _ => kt) (fun _ q => q.elim)
theorem tz_if_lt_f {x : Int32} {off : Int} (tgt : Nat) (C : tz_C G E cc own nL fr lo) (d : decode cc pc = .ok (.ifCond .lt off, 3)) (ht : (pc : Int) + off = (tgt : Int)) (hc : ¬ x < 0) (kf : tz_V G E (pc + 3) L st σ) : tz_V G E pc L (.int x :: st) σ := tz_if_lt tgt C d ht (P := False) (N := True) ⟨fun q => absurd q (by first | exact hc | exact fun z => z hc), fun _ => trivial⟩ (fun _ q => q.elim) (fun _ _ => kf)
theorem tz_if_ge {x : Int32} {off : Int} (tgt : Nat) {P N : Prop} (C : tz_C G E cc own nL fr lo) (d : decode cc pc = .ok (.ifCond .ge off, 3)) (ht : (pc : Int) + off = (tgt : Int)) (hp : (0 ≤ x → P) ∧ (¬ 0 ≤ x → N)) (kt : 0 ≤ x → P → tz_V G E tgt L st σ) (kf : ¬ 0 ≤ x → N → tz_V G E (pc + 3) L st σ) : tz_V G E pc L (.int x :: st) σ := by
  obtain ⟨⟨p, e, R, s, m, args, below, meth, c⟩, ⟨nL0, cells, slots, Q⟩⟩ := E
  intro H locs ls hP hS h
  exact lv_if_ge C.1.1 C.1.2.1 d ht (fun q => kt q (hp.1 q) H locs ls hP hS h) (fun q => kf q (hp.2 q) H locs ls hP hS h)
theorem tz_if_ge_t {x : Int32} {off : Int} (tgt : Nat) (C : tz_C G E cc own nL fr lo) (d : decode cc pc = .ok (.ifCond .ge off, 3)) (ht : (pc : Int) + off = (tgt : Int)) (hc : 0 ≤ x) (kt : tz_V G E tgt L st σ) : tz_V G E pc L (.int x :: st) σ := tz_if_ge tgt C d ht (P := True) (N := False) ⟨fun _ => trivial, fun q => absurd hc (by first | exact q | exact fun z => z q)⟩ (fun _ _ => kt) (fun _ q => q.elim)
theorem tz_if_ge_f {x : Int32} {off : Int} (tgt : Nat) (C : tz_C G E cc own nL fr lo) (d : decode cc pc = .ok (.ifCond .ge off, 3)) (ht : (pc : Int) + off = (tgt : Int)) (hc : ¬ 0 ≤ x) (kf : tz_V G E (pc + 3) L st σ) : tz_V G E pc L (.int x :: st) σ := tz_if_ge tgt C d ht (P := False) (N := True) ⟨fun q => absurd q (by first | exact hc | exact fun z => z hc), fun _ => trivial⟩ (fun _ q => q.elim) (fun _ _ => kf)
theorem tz_if_gt {x : Int32} {off : Int} (tgt : Nat) {P N : Prop} (C : tz_C G E cc own nL fr lo) (d : decode cc pc = .ok (.ifCond .gt off, 3)) (ht : (pc : Int) + off = (tgt : Int)) (hp : (0 < x → P) ∧ (¬ 0 < x → N)) (kt : 0 < x → P → tz_V G E tgt L st σ) (kf : ¬ 0 < x → N → tz_V G E (pc + 3) L st σ) : tz_V G E pc L (.int x :: st) σ := by
  obtain ⟨⟨p, e, R, s, m, args, below, meth, c⟩, ⟨nL0, cells, slots, Q⟩⟩ := E
  intro H locs ls hP hS h
  exact lv_if_gt C.1.1 C.1.2.1 d ht (fun q => kt q (hp.1 q) H locs ls hP hS h) (fun q => kf q (hp.2 q) H locs ls hP hS h)
theorem tz_if_gt_t {x : Int32} {off : Int} (tgt : Nat) (C : tz_C G E cc own nL fr lo) (d : decode cc pc = .ok (.ifCond .gt off, 3)) (ht : (pc : Int) + off = (tgt : Int)) (hc : 0 < x) (kt : tz_V G E tgt L st σ) : tz_V G E pc L (.int x :: st) σ := tz_if_gt tgt C d ht (P := True) (N := False) ⟨fun _ => trivial, fun q => absurd hc (by first | exact q | exact fun z => z q)⟩ (fun _ _ => kt) (fun _ q => q.elim)
theorem tz_if_gt_f {x : Int32} {off : Int} (tgt : Nat) (C : tz_C G E cc own nL fr lo) (d : decode cc pc = .ok (.ifCond .gt off, 3)) (ht : (pc : Int) + off = (tgt : Int)) (hc : ¬ 0 < x) (kf : tz_V G E (pc + 3) L st σ) : tz_V G E pc L (.int x :: st) σ := tz_if_gt tgt C d ht (P := False) (N := True) ⟨fun q => absurd q (by first | exact hc | exact fun z => z hc), fun _ => trivial⟩ (fun _ q => q.elim) (fun _ _ => kf)
theorem tz_if_le {x : Int32} {off : Int} (tgt : Nat) {P N : Prop} (C : tz_C G E cc own nL fr lo) (d : decode cc pc = .ok (.ifCond .le off, 3)) (ht : (pc : Int) + off = (tgt : Int)) (hp : (x ≤ 0 → P) ∧ (¬ x ≤ 0 → N)) (kt : x ≤ 0 → P → tz_V G E tgt L st σ) (kf : ¬ x ≤ 0 → N → tz_V G E (pc + 3) L st σ) : tz_V G E pc L (.int x :: st) σ := by
  obtain ⟨⟨p, e, R, s, m, args, below, meth, c⟩, ⟨nL0, cells, slots, Q⟩⟩ := E
  intro H locs ls hP hS h
  exact lv_if_le C.1.1 C.1.2.1 d ht (fun q => kt q (hp.1 q) H locs ls hP hS h) (fun q => kf q (hp.2 q) H locs ls hP hS h)
theorem tz_if_le_t {x : Int32} {off : Int} (tgt : Nat) (C : tz_C G E cc own nL fr lo) (d : decode cc pc = .ok (.ifCond .le off, 3)) (ht : (pc : Int) + off = (tgt : Int)) (hc : x ≤ 0) (kt : tz_V G E tgt L st σ) : tz_V G E pc L (.int x :: st) σ := tz_if_le tgt C d ht (P := True) (N := False) ⟨fun _ => trivial, fun q => absurd hc (by first | exact q | exact fun z => z q)⟩ (fun _ _ => kt) (fun _ q => q.elim)
theorem tz_if_le_f {x : Int32} {off : Int} (tgt : Nat) (C : tz_C G E cc own nL fr lo) (d : decode cc pc = .ok (.ifCond .le off, 3)) (ht : (pc : Int) + off = (tgt : Int)) (hc : ¬ x ≤ 0) (kf : tz_V G E (pc + 3) L st σ) : tz_V G E pc L (.int x :: st) σ := tz_if_le tgt C d ht (P := False) (N := True) ⟨fun q => absurd q (by first | exact hc | exact fun z => z hc), fun _ => trivial⟩ (fun _ q => q.elim) (fun _ _ => kf)
theorem tz_icmp_eq {x y : Int32} {off : Int} (tgt : Nat) {P N : Prop} (C : tz_C G E cc own nL fr lo) (d : decode cc pc = .ok (.if_icmp .eq off, 3)) (ht : (pc : Int) + off = (tgt : Int)) (hp : (x = y → P) ∧ (¬ x = y → N)) (kt : x = y → P → tz_V G E tgt L st σ) (kf : ¬ x = y → N → tz_V G E (pc + 3) L st σ) : tz_V G E pc L (.int y :: .int x :: st) σ := by
  obtain ⟨⟨p, e, R, s, m, args, below, meth, c⟩, ⟨nL0, cells, slots, Q⟩⟩ := E
  intro H locs ls hP hS h
  exact lv_icmp_eq C.1.1 C.1.2.1 d ht (fun q => kt q (hp.1 q) H locs ls hP hS h) (fun q => kf q (hp.2 q) H locs ls hP hS h)
theorem tz_icmp_eq_t {x y : Int32} {off : Int} (tgt : Nat) (C : tz_C G E cc own nL fr lo) (d : decode cc pc = .ok (.if_icmp .eq off, 3)) (ht : (pc : Int) + off = (tgt : Int)) (hc : x = y) (kt : tz_V G E tgt L st σ) : tz_V G E pc L (.int y :: .int x :: st) σ := tz_icmp_eq tgt C d ht (P := True) (N := False) ⟨fun _ => trivial, fun q => absurd hc (by first | exact q | exact fun z => z q)⟩ (fun _ _ => kt) (fun _ q => q.elim)
theorem tz_icmp_eq_f {x y : Int32} {off : Int} (tgt : Nat) (C : tz_C G E cc own nL fr lo) (d : decode cc pc = .ok (.if_icmp .eq off, 3)) (ht : (pc : Int) + off = (tgt : Int)) (hc : ¬ x = y) (kf : tz_V G E (pc + 3) L st σ) : tz_V G E pc L (.int y :: .int x :: st) σ := tz_icmp_eq tgt C d ht (P := False) (N := True) ⟨fun q => absurd q (by first | exact hc | exact fun z => z hc), fun _ => trivial⟩ (fun _ q => q.elim) (fun _ _ => kf)
theorem tz_icmp_ne {x y : Int32} {off : Int} (tgt : Nat) {P N : Prop} (C : tz_C G E cc own nL fr lo) (d : decode cc pc = .ok (.if_icmp .ne off, 3)) (ht : (pc : Int) + off = (tgt : Int)) (hp : (¬ x = y → P) ∧ (x = y → N)) (kt : ¬ x = y → P → tz_V G E tgt L st σ) (kf : x = y → N → tz_V G E (pc + 3) L st σ) : tz_V G E pc L (.int y :: .int x :: st) σ := by
  obtain ⟨⟨p, e, R, s, m, args, below, meth, c⟩, ⟨nL0, cells, slots, Q⟩⟩ := E
  intro H locs ls hP hS h
  exact lv_icmp_ne C.1.1 C.1.2.1 d ht (fun q => kt q (hp.1 q) H locs ls hP hS h) (fun q => kf q (hp.2 q) H locs ls hP hS h)
theorem tz_icmp_ne_t {x y : Int32} {off : Int} (tgt : Nat) (C : tz_C G E cc own nL fr lo) (d : decode cc pc = .ok (.if_icmp .ne off, 3)) (ht : (pc : Int) + off = (tgt : Int)) (hc : ¬ x = y) (kt : tz_V G E tgt L st σ) : tz_V G E pc L (.int y :: .int x :: st) σ := tz_icmp_ne tgt C d ht (P := True) (N := False) ⟨fun _ => trivial, fun q => absurd hc (by first | exact q | exact fun z => z q)⟩ (fun _ _ => kt) (fun _ q => q.elim)
theorem tz_icmp_ne_f {x y : Int32} {off : Int} (tgt : Nat) (C : tz_C G E cc own nL fr lo) (d : decode cc pc = .ok (.if_icmp .ne off, 3)) (ht : (pc : Int) + off = (tgt : Int)) (hc : x = y) (kf : tz_V G E (pc + 3) L st σ) : tz_V G E pc L (.int y :: .int x :: st) σ := tz_icmp_ne tgt C d ht (P := False) (N := True) ⟨fun q => absurd q (by first | exact hc | exact fun z => z hc), fun _ => trivial⟩ (fun _ q => q.elim) (fun _ _ => kf)
theorem tz_icmp_lt {x y : Int32} {off : Int} (tgt : Nat) {P N : Prop} (C : tz_C G E cc own nL fr lo) (d : decode cc pc = .ok (.if_icmp .lt off, 3)) (ht : (pc : Int) + off = (tgt : Int)) (hp : (x < y → P) ∧ (¬ x < y → N)) (kt : x < y → P → tz_V G E tgt L st σ) (kf : ¬ x < y → N → tz_V G E (pc + 3) L st σ) : tz_V G E pc L (.int y :: .int x :: st) σ := by
  obtain ⟨⟨p, e, R, s, m, args, below, meth, c⟩, ⟨nL0, cells, slots, Q⟩⟩ := E
  intro H locs ls hP hS h
  exact lv_icmp_lt C.1.1 C.1.2.1 d ht (fun q => kt q (hp.1 q) H locs ls hP hS h) (fun q => kf q (hp.2 q) H locs ls hP hS h)
theorem tz_icmp_lt_t {x y : Int32} {off : Int} (tgt : Nat) (C : tz_C G E cc own nL fr lo) (d : decode cc pc = .ok (.if_icmp .lt off, 3)) (ht : (pc : Int) + off = (tgt : Int)) (hc : x < y) (kt : tz_V G E tgt L st σ) : tz_V G E pc L (.int y :: .int x :: st) σ := tz_icmp_lt tgt C d ht (P := True) (N := False) ⟨fun _ => trivial, fun q => absurd hc (by first | exact q | exact fun z => z q)⟩ (fun _ _ => kt) (fun _ q => q.elim)
theorem tz_icmp_lt_f {x y : Int32} {off : Int} (tgt : Nat) (C : tz_C G E cc own nL fr lo) (d : decode cc pc = .ok (.if_icmp .lt off, 3)) (ht : (pc : Int) + off = (tgt : Int)) (hc : ¬ x < y) (kf : tz_V G E (pc + 3) L st σ) : tz_V G E pc L (.int y :: .int x :: st) σ := tz_icmp_lt tgt C d ht (P := False) (N := True) ⟨fun q => absurd q (by first | exact hc | exact fun z => z hc), fun _ => trivial⟩ (fun _ q => q.elim) (fun _ _ => kf)
theorem tz_icmp_ge {x y : Int32} {off : Int} (tgt : Nat) {P N : Prop} (C : tz_C G E cc own nL fr lo) (d : decode cc pc = .ok (.if_icmp .ge off, 3)) (ht : (pc : Int) + off = (tgt : Int)) (hp : (y ≤ x → P) ∧ (¬ y ≤ x → N)) (kt : y ≤ x → P → tz_V G E tgt L st σ) (kf : ¬ y ≤ x → N → tz_V G E (pc + 3) L st σ) : tz_V G E pc L (.int y :: .int x :: st) σ := by
  obtain ⟨⟨p, e, R, s, m, args, below, meth, c⟩, ⟨nL0, cells, slots, Q⟩⟩ := E
  intro H locs ls hP hS h
  exact lv_icmp_ge C.1.1 C.1.2.1 d ht (fun q => kt q (hp.1 q) H locs ls hP hS h) (fun q => kf q (hp.2 q) H locs ls hP hS h)
theorem tz_icmp_ge_t {x y : Int32} {off : Int} (tgt : Nat) (C : tz_C G E cc own nL fr lo) (d : decode cc pc = .ok (.if_icmp .ge off, 3)) (ht : (pc : Int) + off = (tgt : Int)) (hc : y ≤ x) (kt : tz_V G E tgt L st σ) : tz_V G E pc L (.int y :: .int x :: st) σ := tz_icmp_ge tgt C d ht (P := True) (N := False) ⟨fun _ => trivial, fun q => absurd hc (by first | exact q | exact fun z => z q)⟩ (fun _ _ => kt) (fun _ q => q.elim)
theorem tz_icmp_ge_f {x y : Int32} {off : Int} (tgt : Nat) (C : tz_C G E cc own nL fr lo) (d : decode cc pc = .ok (.if_icmp .ge off, 3)) (ht : (pc : Int) + off = (tgt : Int)) (hc : ¬ y ≤ x) (kf : tz_V G E (pc + 3) L st σ) : tz_V G E pc L (.int y :: .int x :: st) σ := tz_icmp_ge tgt C d ht (P := False) (N := True) ⟨fun q => absurd q (by first | exact hc | exact fun z => z hc), fun _ => trivial⟩ (fun _ q => q.elim) (fun _ _ => kf)
theorem tz_icmp_gt {x y : Int32} {off : Int} (tgt : Nat) {P N : Prop} (C : tz_C G E cc own nL fr lo) (d : decode cc pc = .ok (.if_icmp .gt off, 3)) (ht : (pc : Int) + off = (tgt : Int)) (hp : (y < x → P) ∧ (¬ y < x → N)) (kt : y < x → P → tz_V G E tgt L st σ) (kf : ¬ y < x → N → tz_V G E (pc + 3) L st σ) : tz_V G E pc L (.int y :: .int x :: st) σ := by
  obtain ⟨⟨p, e, R, s, m, args, below, meth, c⟩, ⟨nL0, cells, slots, Q⟩⟩ := E
  intro H locs ls hP hS h
  exact lv_icmp_gt C.1.1 C.1.2.1 d ht (fun q => kt q (hp.1 q) H locs ls hP hS h) (fun q => kf q (hp.2 q) H locs ls hP hS h)
theorem tz_icmp_gt_t {x y : Int32} {off : Int} (tgt : Nat) (C : tz_C G E cc own nL fr lo) (d : decode cc pc = .ok (.if_icmp .gt off, 3)) (ht : (pc : Int) + off = (tgt : Int)) (hc : y < x) (kt : tz_V G E tgt L st σ) : tz_V G E pc L (.int y :: .int x :: st) σ := tz_icmp_gt tgt C d ht (P := True) (N := False) ⟨fun _ => trivial, fun q => absurd hc (by first | exact q | exact fun z => z q)⟩ (fun _ _ => kt) (fun _ q => q.elim)
theorem tz_icmp_gt_f {x y : Int32} {off : Int} (tgt : Nat) (C : tz_C G E cc own nL fr lo) (d : decode cc pc = .ok (.if_icmp .gt off, 3)) (ht : (pc : Int) + off = (tgt : Int)) (hc : ¬ y < x) (kf : tz_V G E (pc + 3) L st σ) : tz_V G E pc L (.int y :: .int x :: st) σ := tz_icmp_gt tgt C d ht (P := False) (N := True) ⟨fun q => absurd q (by first | exact hc | exact fun z => z hc), fun _ => trivial⟩ (fun _ q => q.elim) (fun _ _ => kf)
theorem tz_icmp_le {x y : Int32} {off : Int} (tgt : Nat) {P N : Prop} (C : tz_C G E cc own nL fr lo) (d : decode cc pc = .ok (.if_icmp .le off, 3)) (ht : (pc : Int) + off = (tgt : Int)) (hp : (x ≤ y → P) ∧ (¬ x ≤ y → N)) (kt : x ≤ y → P → tz_V G E tgt L st σ) (kf : ¬ x ≤ y → N → tz_V G E (pc + 3) L st σ) : tz_V G E pc L (.int y :: .int x :: st) σ := by
  obtain ⟨⟨p, e, R, s, m, args, below, meth, c⟩, ⟨nL0, cells, slots, Q⟩⟩ := E
  intro H locs ls hP hS h
  exact lv_icmp_le C.1.1 C.1.2.1 d ht (fun q => kt q (hp.1 q) H locs ls hP hS h) (fun q => kf q (hp.2 q) H locs ls hP hS h)
theorem tz_icmp_le_t {x y : Int32} {off : Int} (tgt : Nat) (C : tz_C G E cc own nL fr lo) (d : decode cc pc = .ok (.if_icmp .le off, 3)) (ht : (pc : Int) + off = (tgt : Int)) (hc : x ≤ y) (kt : tz_V G E tgt L st σ) : tz_V G E pc L (.int y :: .int x :: st) σ := tz_icmp_le tgt C d ht (P := True) (N := False) ⟨fun _ => trivial, fun q => absurd hc (by first | exact q | exact fun z => z q)⟩ (fun _ _ => kt) (fun _ q => q.elim)
theorem tz_icmp_le_f {x y : Int32} {off : Int} (tgt : Nat) (C : tz_C G E cc own nL fr lo) (d : decode cc pc = .ok (.if_icmp .le off, 3)) (ht : (pc : Int) + off = (tgt : Int)) (hc : ¬ x ≤ y) (kf : tz_V G E (pc + 3) L st σ) : tz_V G E pc L (.int y :: .int x :: st) σ := tz_icmp_le tgt C d ht (P := False) (N := True) ⟨fun q => absurd q (by first | exact hc | exact fun z => z hc), fun _ => trivial⟩ (fun _ q => q.elim) (fun _ _ => kf)
end TZ
