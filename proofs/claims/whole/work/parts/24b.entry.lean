def R_law : String := "TopicSeamsLaw"
def lw_P (b : Addr) (xs : List Int32) (args : Array Value) (s : State) : Prop := args = #[.ref b] ∧ s.IntsAt b xs ∧ xs.length ≤ 3072 ∧ (Jvm.Cond.and given_1 narrow_1).before args s = true
def lw_Q (_ : Array Value) (s : State) (o : Outcome) (t : State) : Prop := o = .returned (some (.int 1)) ∧ Framed s o t [] 600000 7302250
def lw_Z (below : List Frame) (a : Array Value) (s : State) : State → Prop := fun t => ∃ o, t.status = .running ∧ Ended t below o ∧ lw_Q a s o t
/-- the law's own end, with 1 on the stack, nothing written that was there before, its room as the claim has it -/
theorem lw_ret {p : Program} {l : Launch} {e : Env} {s : State} {m : MethodId} {below : List Frame} {meth : Method} {c : Code} {b : Nat} (hx : p.tables.exec = Jvm.exec) (hb : c.code = code) (hr : meth.sig.returnType = ret) (hlocks : meth.locks = false) {pc : Nat} {H : Heap} {ls : Array Slot} (hdg : decode code pc = .ok (.ireturn, 1)) : W p l e room_1 s m #[Value.ref b] below meth c H [] 600000 7302250 (lw_Z below #[Value.ref b] s) (F0 m pc ls [.int 1]) := by
  intro T hT X
  obtain ⟨fs, hret, hrun, hended, hW, hframe⟩ := X.leave (v := some (.int 1)) (hlocks := hlocks) (fun h => by rw [hr] at h; cases h)
  have hmeth' : T.vm.method? m = some meth := X.method'
  refine ⟨T.setFrames fs, ?_, .returned (some (.int 1)), hrun, hended, rfl, ⟨_, rfl⟩, hW, hframe⟩
  jvm_step X.here [X.here.top, hx, hb, hdg, hmeth', hr, ret, narrow_b1]
  (try refine ⟨rfl, ?_⟩); (try refine ⟨rfl, ?_⟩)
  first | (intro acts; rw [hret _ acts rfl rfl rfl]) | rw [hret _ _ rfl rfl rfl]
  exact Steps.refl _
/-- what holds at the law's entry: the machine, the code, the tables' words (any of lw_tbl by 'hts w (by decide +kernel)'), the script of L ints xs at the cell b, what the Statement gives of the start (any of its parts by flat_of_before) -/
def lw_At (p : Program) (s : State) (m : MethodId) (meth : Method) (c : Code) (b L : Nat) (xs : Nat → Int32) : Prop :=
  p.tables.exec = Jvm.exec ∧ c.code = code ∧ meth.sig.returnType = ret ∧ c.maxLocals = 4 ∧ s.vm.findClass R_law = some m.cls ∧ (∀ w ∈ lw_tbl, w.before #[Value.ref b] s = true) ∧ va_X b L xs s s.heap ∧ b < s.heap.size ∧ meth.locks = false ∧ (Jvm.Cond.and given_1 narrow_1).before #[Value.ref b] s = true
theorem cfn_RL_7 : tc_Fn RL 7 9 17 [.null, .null, .null, .null, .null, .null, .null, .null, .null, .null, .int 0, .int 0, .int 0, .int 0, .int 0, .int 0, .int 0] := ⟨(RX9, TX9, 17), rfl, rfl, tz_in 91 (by decide +kernel) rfl, tz_in 92 (by decide +kernel) rfl, tz_in 77 (by decide +kernel) rfl, uw_X9, tyX9, tyX9_ok, fun j hj => match j, hj with
    | 0, _ => rfl
    | 1, _ => rfl
    | 2, _ => rfl
    | 3, _ => rfl
    | 4, _ => rfl
    | 5, _ => rfl
    | 6, _ => rfl
    | 7, _ => rfl
    | 8, _ => rfl
    | 9, _ => rfl
    | 10, _ => rfl
    | 11, _ => rfl
    | 12, _ => rfl
    | 13, _ => rfl
    | 14, _ => rfl
    | 15, _ => rfl
    | 16, _ => rfl
    | j + 17, h => absurd h (by omega)⟩
theorem cfn_RL_10 : tc_Fn RL 10 10 37 [.int 0, .null, .null, .int 0, .int 0, .int 0, .int 0, .int 0, .int 0, .int 0, .null, .null, .null, .null, .null, .null, .null, .null, .int 0, .int 0, .int 0, .int 0, .int 0, .null, .null, .null, .null, .null, .null, .null, .int 0, .null, .null, .null, .null, .null, .int 0] := ⟨(RX10, TX10, 37), rfl, rfl, tz_in 820 (by decide +kernel) rfl, tz_in 821 (by decide +kernel) rfl, tz_in 87 (by decide +kernel) rfl, uw_X10, tyX10, tyX10_ok, fun j hj => match j, hj with
    | 0, _ => rfl
    | 1, _ => rfl
    | 2, _ => rfl
    | 3, _ => rfl
    | 4, _ => rfl
    | 5, _ => rfl
    | 6, _ => rfl
    | 7, _ => rfl
    | 8, _ => rfl
    | 9, _ => rfl
    | 10, _ => rfl
    | 11, _ => rfl
    | 12, _ => rfl
    | 13, _ => rfl
    | 14, _ => rfl
    | 15, _ => rfl
    | 16, _ => rfl
    | 17, _ => rfl
    | 18, _ => rfl
    | 19, _ => rfl
    | 20, _ => rfl
    | 21, _ => rfl
    | 22, _ => rfl
    | 23, _ => rfl
    | 24, _ => rfl
    | 25, _ => rfl
    | 26, _ => rfl
    | 27, _ => rfl
    | 28, _ => rfl
    | 29, _ => rfl
    | 30, _ => rfl
    | 31, _ => rfl
    | 32, _ => rfl
    | 33, _ => rfl
    | 34, _ => rfl
    | 35, _ => rfl
    | 36, _ => rfl
    | j + 37, h => absurd h (by omega)⟩
theorem cml_RL_9 : Cond.methodLink RL 9 yX9_init ∈ tz_TB := tz_in 93 (by decide +kernel) rfl
theorem cml_RL_12 : Cond.methodLink RL 12 yX10_init ∈ tz_TB := tz_in 822 (by decide +kernel) rfl
theorem tw_nw : ∀ w ∈ tc_NW, w ∈ lw_tbl := by
  have h : tc_NW = [101, 120, 151, 219, 246, 271, 285, 290, 292, 310, 329].filterMap (fun i => lw_tbl[i]?) := by decide +kernel
  intro w hw
  rw [h] at hw
  obtain ⟨i, -, hi⟩ := List.mem_filterMap.mp hw
  exact List.mem_of_getElem? hi
theorem tw_least {s : State} {b : Nat} {A : Nat → Prop} (hA : ∀ a : Nat, a < s.heap.size → ¬ A a) (hts : ∀ w ∈ lw_tbl, w.before #[Value.ref b] s = true) (hg : (Jvm.Cond.and given_1 narrow_1).before #[Value.ref b] s = true) : ∃ t : Nat, va_Z "TopicSeams" "LEAST" "[I" (.ref t) A s s.heap ∧ va_T .int t 4 (fun j => .int (tz_least j)) A s s.heap := by
  have hs := flat_of_before _ hg
  have h0 : (Term.length (.static "TopicSeams" "LEAST" "[I")).eval #[Value.ref b] s none [] s = some (.int 4) := tw_eq (hs _ (by decide +kernel))
  have e0 : (Term.elem (.static "TopicSeams" "LEAST" "[I") (.int 0)).eval #[Value.ref b] s none [] s = some (.int 0) := tw_eq (hs _ (by decide +kernel))
  have e1 : (Term.elem (.static "TopicSeams" "LEAST" "[I") (.int 1)).eval #[Value.ref b] s none [] s = some (.int 0) := tw_eq (hs _ (by decide +kernel))
  have e2 : (Term.elem (.static "TopicSeams" "LEAST" "[I") (.int 2)).eval #[Value.ref b] s none [] s = some (.int 1) := tw_eq (hs _ (by decide +kernel))
  have e3 : (Term.elem (.static "TopicSeams" "LEAST" "[I") (.int 3)).eval #[Value.ref b] s none [] s = some (.int 1) := tw_eq (hs _ (by decide +kernel))
  obtain ⟨t, h1, h2⟩ := va_Tof (ty := .int) (N := 4) (f := fun j => .int (tz_least j)) (A := A) (by decide) (hs (Cond.arrayOf (.static "TopicSeams" "LEAST" "[I") .int) (by decide +kernel)) h0 (fun j hj => by
    match j, hj with
    | 0, _ => exact e0
    | 1, _ => exact e1
    | 2, _ => exact e2
    | 3, _ => exact e3
    | j + 4, h => exact absurd h (by omega)) hA
  exact ⟨t, va_Zof (hts _ (List.mem_of_getElem? (i := 480) (by decide +kernel))) (hts _ (List.mem_of_getElem? (i := 77) (by decide +kernel))) h1 hA, h2⟩
theorem tw_most {s : State} {b : Nat} {A : Nat → Prop} (hA : ∀ a : Nat, a < s.heap.size → ¬ A a) (hts : ∀ w ∈ lw_tbl, w.before #[Value.ref b] s = true) (hg : (Jvm.Cond.and given_1 narrow_1).before #[Value.ref b] s = true) : ∃ t : Nat, va_Z "TopicSeams" "MOST" "[I" (.ref t) A s s.heap ∧ va_T .int t 4 (fun j => .int (tz_most j)) A s s.heap := by
  have hs := flat_of_before _ hg
  have h0 : (Term.length (.static "TopicSeams" "MOST" "[I")).eval #[Value.ref b] s none [] s = some (.int 4) := tw_eq (hs _ (by decide +kernel))
  have e0 : (Term.elem (.static "TopicSeams" "MOST" "[I") (.int 0)).eval #[Value.ref b] s none [] s = some (.int 3) := tw_eq (hs _ (by decide +kernel))
  have e1 : (Term.elem (.static "TopicSeams" "MOST" "[I") (.int 1)).eval #[Value.ref b] s none [] s = some (.int 40) := tw_eq (hs _ (by decide +kernel))
  have e2 : (Term.elem (.static "TopicSeams" "MOST" "[I") (.int 2)).eval #[Value.ref b] s none [] s = some (.int 4) := tw_eq (hs _ (by decide +kernel))
  have e3 : (Term.elem (.static "TopicSeams" "MOST" "[I") (.int 3)).eval #[Value.ref b] s none [] s = some (.int 4) := tw_eq (hs _ (by decide +kernel))
  obtain ⟨t, h1, h2⟩ := va_Tof (ty := .int) (N := 4) (f := fun j => .int (tz_most j)) (A := A) (by decide) (hs (Cond.arrayOf (.static "TopicSeams" "MOST" "[I") .int) (by decide +kernel)) h0 (fun j hj => by
    match j, hj with
    | 0, _ => exact e0
    | 1, _ => exact e1
    | 2, _ => exact e2
    | 3, _ => exact e3
    | j + 4, h => exact absurd h (by omega)) hA
  exact ⟨t, va_Zof (hts _ (List.mem_of_getElem? (i := 482) (by decide +kernel))) (hts _ (List.mem_of_getElem? (i := 77) (by decide +kernel))) h1 hA, h2⟩
/-- the law's loop, from all that is made -/
theorem tw_loop {p : Program} {e : Env} {s : State} {m : MethodId} {below : List Frame} {meth : Method} {c : Code} (l : Launch) {b L : Nat} {xs : Nat → Int32} (hL : L ≤ 3072) (C0 : lw_At p s m meth c b L xs) {D : va_G} {cy : Nat → ClassId} (hK : va_K D vwCl (tz_ty cy) s) {H : Heap} {locs : List Loc} {ls : Array Slot}
    (hP : va_P D vwCl ((tc_wa (l, s.heap.size, cy, D) (tc_wa (l, s.heap.size, cy, D) [] 0 (tc_fin (l, s.heap.size, cy, D) 0) 132) 133 (tc_fin (l, s.heap.size, cy, D) 133) 22).set 135 (s.heap.size + 135, .inl (cy 0, 4, .inl (upd (upd (upd (fun _ => 0) 1 3) 2 2) 3 2)))) H) (hS : va_S (fun q => s.heap.size ≤ q) s.heap H locs) (hl : lv_has ls 4 [(2, .ref (s.heap.size + 133)), (1, .ref (s.heap.size + 0)), (0, .ref b)]) :
    W p l e room_1 s m #[Value.ref b] below meth c H locs 600000 7302250 (lw_Z below #[Value.ref b] s) (F0 m 16 ls []) := by
  obtain ⟨hx, hb, hr, hml, hown, hts, hX, hbl, hlocks, hgv⟩ := C0
  have hA : ∀ a : Nat, a < s.heap.size → ¬ s.heap.size ≤ a := fun a h => Nat.not_le.mpr h
  obtain ⟨tl, hzl, htl⟩ := tw_least (A := fun q => s.heap.size ≤ q) hA hts hgv
  obtain ⟨tm, hzm, htm⟩ := tw_most (A := fun q => s.heap.size ≤ q) hA hts hgv
  obtain ⟨ad, had⟩ : ∃ ad : Nat → Nat, ad = fun k => if k < 156 then s.heap.size + k else if k = 1000 then tl else if k = 1001 then tm else b := ⟨_, rfl⟩
  have had1 : ∀ r, r < 156 → ad r = s.heap.size + r := fun r hr => by rw [had]; exact if_pos hr
  have had2 : ad 1000 = tl := by rw [had]; rfl
  have had3 : ad 1001 = tm := by rw [had]; rfl
  have had4 : ad 1002 = b := by rw [had]; rfl
  rw [tw_world (l, s.heap.size, cy, D) (ad := ad) had1] at hP
  have hG : tz_ok (l, ad, cy, D, fun q => s.heap.size ≤ q) := by
    refine ⟨fun i j hi hj h => ?_, fun k hk => ?_⟩
    · have h1 : ad i = ad j := h
      rw [had1 i hi, had1 j hj] at h1
      omega
    · show s.heap.size ≤ ad k
      rw [had1 k hk]
      omega
  have hKz : tz_K (l, ad, cy, D, fun q => s.heap.size ≤ q) s := by
    refine ⟨hK, va_Nw.of rfl (hts tz_nest1 (List.mem_of_getElem? (i := 456) (by decide +kernel))), va_Nw.of rfl (hts tz_nest2 (List.mem_of_getElem? (i := 437) (by decide +kernel))), ?_, ?_, ?_, ?_⟩
    · show va_Z _ _ _ (.ref (ad 1000)) _ _ _
      rw [had2]; exact hzl
    · show va_T _ (ad 1000) _ _ _ _ _
      rw [had2]; exact htl
    · show va_Z _ _ _ (.ref (ad 1001)) _ _ _
      rw [had3]; exact hzm
    · show va_T _ (ad 1001) _ _ _ _ _
      rw [had3]; exact htm
  have hC : tz_C (l, ad, cy, D, fun q => s.heap.size ≤ q) ((p, e, room_1, s, m, #[Value.ref b], below, meth, c), (4, 600000, 7302250, lw_Z below #[Value.ref b] s)) cL_law RL 4 9 219 := ⟨⟨hx, hb, hml, hown, fun w h => hts w (List.mem_filter.mp h).1⟩, rfl, hKz, hG, by decide, by decide, by decide, by decide⟩
  have hXz : tz_X (l, ad, cy, D, fun q => s.heap.size ≤ q) ((p, e, room_1, s, m, #[Value.ref b], below, meth, c), (4, 600000, 7302250, lw_Z below #[Value.ref b] s)) L xs := by
    show va_X (ad 1002) L xs s s.heap ∧ ad 1002 < s.heap.size ∧ ¬ s.heap.size ≤ ad 1002
    rw [had4]
    exact ⟨hX, hbl, hA b hbl⟩
  have key := m_law (l, ad, cy, D, fun q => s.heap.size ≤ q) hG hC hXz (σ := tw_s0) (Q := fun r _ => r = 1) (fun pc L9 r σ hd hn hq H locs ls hP hS hl => by
    subst hq
    exact va_forget hS.2.2 (lw_ret hx hb hr hlocks hd)) (s_law (by omega) tw_INV (fun _ => rfl))
  refine key H locs ls hP hS ?_
  show lv_has ls 4 [(0, .ref (ad 1002)), (1, .ref (ad 0)), (2, .ref (ad 133))]
  rw [had4, had1 0 (by decide), had1 133 (by decide)]
  exact lv_sub hl [2, 1, 0] rfl
