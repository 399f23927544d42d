theorem tc_outer (c : ClassId) (N h0 : Nat) : ∀ i : Nat, Jvm.Free.Multi.outerC c N h0 i = arrV c N (fun j => va_rf (if j < i then some (h0 + 1 + j) else none))
  | 0 => by
    show ({ cls := c, slots := Array.replicate N .null, vm := .none } : Cell) = _
    rw [arrV_new]
    refine congrArg (arrV c N) (funext fun j => ?_)
    simp [va_rf]
  | i + 1 => by
    show (Jvm.Free.Multi.outerC c N h0 i).setSlot i (.ref (h0 + 1 + i)) = _
    rw [tc_outer c N h0 i, arrV_store]
    refine congrArg (arrV c N) (funext fun j => ?_)
    by_cases e : j = i
    · subst e
      simp [updV, va_rf]
    · by_cases h : j < i
      · simp [updV, e, h, Nat.lt_succ_of_lt h]
      · simp [updV, e, h, show ¬ j < i + 1 by omega]
def tc_Pc (G : tcG) (b : Nat) (ws : va_W) : Array Value → State → Prop := fun v U => v = #[.ref (G.2.1 + b)] ∧ va_P G.2.2.2 vwCl ws U.heap ∧ U.heap.size = G.2.1 + ws.length ∧ tc_K G U
theorem tc_Pc.blind (G : tcG) (b : Nat) (ws : va_W) : FrameBlind (tc_Pc G b ws) := by
  intro a U g mk h
  obtain ⟨h0, hP, hz, hK⟩ := h
  exact ⟨h0, hP, hz, hK.same rfl⟩
/-- a constructor's contract: the world before, the world after -/
def tc_M (G : tcG) (y : MethodName) (bytes : ByteArray) (f0 l0 mc ms b : Nat) (ws wq : va_W) : Prop :=
  tc_O G ws → b < ws.length → Met G.1 y (Cond.code y bytes 1 none :: tz_TB) { frames := f0, cells := mc, slots := ms, locals := l0 } (tc_Pc G b ws) (va_Qv (fun _ : Unit => True) (fun _ t => va_P G.2.2.2 vwCl wq t.heap ∧ t.heap.size = G.2.1 + wq.length ∧ tc_O G wq) (tc_A G)) mc ms (tc_A G)
theorem tc_start {G : tcG} {y : MethodName} {cc : ByteArray} {f0 l0 mc ms b : Nat} {ws wq : va_W} (own : String) (hy : plainName y.cls = true) (ho : y.cls = own) (hi : y.name = "<init>")
    (body : ∀ E : tcE, tc_C G E cc own 1 f0 l0 mc ms → tc_I E → (∀ pc : Nat, decode cc pc = .ok (.return_, 1) → tc_V G E [(0, .ref (G.2.1 + b))] wq mc ms pc []) → tc_V G E [(0, .ref (G.2.1 + b))] ws 0 0 0 []) : tc_M G y cc f0 l0 mc ms b ws wq := by
  intro hO hbl
  refine Met.ofW (cc := cc) (maxL := 1) (ret := none) hy rfl ?_
  intro p e s m args below meth c s₁ B hml hv
  obtain ⟨rfl, hP, hz, hK⟩ := hv
  have hx := B.exec
  have hb := B.bytes
  have hr := B.returns
  have hts := atoms_spec (ws := Cond.code y cc 1 none :: tz_TB) B.pre
  have hown : s.vm.findClass own = some m.cls := ho ▸ findClass_of_methodNamed B.named
  have hlocks := B.notSynchronized
  have hin : meth.name = "<init>" := by rw [← hi]; exact (name_of_methodNamed B.named B.method).1
  have hl := lv_entry ([.ref (G.2.1 + b)]) (n := 1) (Nat.le_of_ble_eq_true rfl)
  show W p G.1 e _ s m _ below meth c s.heap [] 0 0 _ (entryFrame m ([.ref (G.2.1 + b)] : List Value).toArray 1)
  rw [lg_entry_eq]
  generalize (lg_sl ([.ref (G.2.1 + b)]) ++ List.replicate (1 - (lg_sl ([.ref (G.2.1 + b)])).length) Slot.unset).toArray = ls at hl ⊢
  have hl : lv_has ls 1 [(0, .ref (G.2.1 + b))] := hl
  refine body ((p, e, _, s, m, _, below, meth, c), (1, _)) ⟨⟨hx, hb, hml, hown, fun w h => hts w (List.mem_cons_of_mem _ h)⟩, rfl, hK, by omega, Nat.le_refl _, Nat.le_refl _, Nat.le_refl _, Nat.le_refl _⟩ hin ?_ hO s.heap [] ls hP hz va_S.rf hl
  intro pc hd hO9 H locs ls hP hz hS hl
  exact W.vret hx hb hr (fun t ht hW => ⟨⟨(), rfl, trivial, by rw [ht]; exact hP, by rw [ht]; exact hz, hO9⟩, hS.F ht⟩) hS.2.2 hd
section TC
variable {G : tcG} {E : tcE} {cc : ByteArray} {own : String} {nL fr lo rc rs pc cells slots : Nat} {L : List (Nat × Value)} {st : List Value} {ws : va_W}
theorem tc_mna {index N K : Nat} {v u : Int32} (n : Nat) (C : tc_C G E cc own nL fr lo rc rs) (d : decode cc pc = .ok (.multianewarray index 2, 4)) (w1 : Cond.classLink own index "[[I" ∈ tz_TB) (w2 : Cond.arrayClass .int ∈ tz_TB) (hv : ¬ v < 0) (hu : ¬ u < 0) (hN : v.toNatClampNeg = N) (hM : u.toNatClampNeg = K) (hb1 : N * 4 ≤ 536870912) (hb2 : K * componentBytes .int ≤ 536870912) (hb3 : K ≤ 536870912) (hn : ws.length = n) (hc : cells + (1 + N) ≤ rc) (hs : slots + (N + N * K) ≤ rs)
    (kk : tc_V G E L ((ws ++ [(G.2.1 + n, .inl (G.2.2.1 3, N, .inr (.inr (.inr (.inr (fun i => if i < N then some (G.2.1 + (n + 1 + i)) else none))))))]) ++ (List.range N).map (fun i => (G.2.1 + (n + 1 + i), .inl (G.2.2.1 0, K, .inl fun _ => 0)))) (cells + 1 + N) (slots + N + N * K) (pc + 4) (.ref (G.2.1 + n) :: st)) : tc_V G E L ws cells slots pc (.int u :: .int v :: st) := by
  obtain ⟨⟨p, e, R, s, m, args, below, meth, c⟩, ⟨nL0, Q⟩⟩ := E
  intro hO H locs ls hP hz hS h
  obtain ⟨⟨cx, cb, cm, co, ct⟩, -, cK, ch, cf, cl, cce, csl⟩ := id C
  have hz1 : H.size = G.2.1 + n := by omega
  subst hN
  subst hM
  intro T hT Xs
  have w1' : (Cond.classLink own index ("[" ++ (FieldType.array .int).toString)).before args s = true := ct _ w1
  obtain ⟨vm₁, cA, comp, -, fA, fC, hO9, -, X', step⟩ := Xs.multianewarray2F cx co w1' (over_moved (Vm.Alike.refl _) cK.2.1) (ct _ w2) (g := F0 m pc ls (.int u :: .int v :: st)) rfl (by rw [cb]; exact d) rfl hv hu hb1 hb2 hb3 rfl rfl (by omega) (by omega)
  have e0 : comp = G.2.2.1 0 := by
    have h1 : s.vm.findClass (FieldType.array .int).toString = some (G.2.2.1 0) := (cK.1.2 0 (G.2.2.1 0, .int) rfl).2
    exact Option.some.inj (fC.symm.trans h1)
  have e3 : cA = G.2.2.1 3 := by
    have h1 : s.vm.findClass ("[" ++ (FieldType.array .int).toString) = some (G.2.2.1 3) := (cK.1.2 3 (G.2.2.1 3, .array .int) rfl).2
    exact Option.some.inj (fA.symm.trans h1)
  subst e0
  subst e3
  generalize hF : Jvm.Free.Multi.fill (T.setVm vm₁) (G.2.2.1 3) (G.2.2.1 0) v.toNatClampNeg u.toNatClampNeg (defaultValue .int) v.toNatClampNeg = F at X' step
  have hTh : (T.setVm vm₁).heap = H := hT
  obtain ⟨f1, f2, -, -⟩ := Jvm.Free.Multi.fill_facts (T.setVm vm₁) (G.2.2.1 3) (G.2.2.1 0) v.toNatClampNeg u.toNatClampNeg (defaultValue .int) v.toNatClampNeg
  rw [hF, hTh] at f1 f2
  have hold : ∀ x : Nat, x < H.size → F.heap[x]? = H[x]? := fun x hx => by
    have := Jvm.Free.Multi.fill_old (T.setVm vm₁) (G.2.2.1 3) (G.2.2.1 0) v.toNatClampNeg u.toNatClampNeg (defaultValue .int) (a := x) (by rw [hTh]; exact hx) v.toNatClampNeg
    rw [hF, hTh] at this
    exact this
  have hrow : ∀ j : Nat, j < v.toNatClampNeg → F.heap[H.size + 1 + j]? = some (vp_cell (G.2.2.1 0) (u.toNatClampNeg, .inl fun _ => 0)) := fun j hj => by
    have := Jvm.Free.Multi.fill_inner (T.setVm vm₁) (G.2.2.1 3) (G.2.2.1 0) v.toNatClampNeg u.toNatClampNeg (defaultValue .int) v.toNatClampNeg j hj
    rw [hF, hTh] at this
    rw [this, vp_cell_i, ← arrV_new]
    rfl
  have hout : Jvm.Free.Multi.outerC (G.2.2.1 3) v.toNatClampNeg H.size v.toNatClampNeg = vp_cell (G.2.2.1 3) (v.toNatClampNeg, .inr (.inr (.inr (.inr (fun i => if i < v.toNatClampNeg then some (G.2.1 + (n + 1 + i)) else none))))) := by
    rw [vp_cell_q, tc_outer]
    congr 1
    funext j
    rw [hz1, show G.2.1 + n + 1 + j = G.2.1 + (n + 1 + j) by omega]
  rw [hout] at f2
  have hP0 : va_P G.2.2.2 vwCl ws F.heap := hP.kept (fun k9 x hx => hold x.1 ((hP k9 x hx).lt))
  have hP1 := hP0.app (w2 := [(G.2.1 + n, .inl (G.2.2.1 3, v.toNatClampNeg, .inr (.inr (.inr (.inr (fun i => if i < v.toNatClampNeg then some (G.2.1 + (n + 1 + i)) else none))))))]) (fun k9 x hx => by
    have h0 : k9 < 1 := (List.getElem?_eq_some_iff.mp hx).1
    rw [show k9 = 0 by omega] at hx
    cases hx
    rw [hz1] at f2
    exact f2)
  have hP2 := hP1.app (w2 := (List.range v.toNatClampNeg).map (fun i => (G.2.1 + (n + 1 + i), .inl (G.2.2.1 0, u.toNatClampNeg, .inl fun _ => 0)))) (fun k9 x hx => by
    obtain ⟨i, hi, rfl⟩ := List.mem_map.mp (List.mem_of_getElem? hx)
    have h9 := hrow i (List.mem_range.mp hi)
    rw [hz1, show G.2.1 + n + 1 + i = G.2.1 + (n + 1 + i) by omega] at h9
    exact h9)
  have hO2 := (hO.push (e := .inl (G.2.2.1 3, v.toNatClampNeg, .inr (.inr (.inr (.inr (fun i => if i < v.toNatClampNeg then some (G.2.1 + (n + 1 + i)) else none)))))) hn).app (ws' := (List.range v.toNatClampNeg).map (fun i => (G.2.1 + (n + 1 + i), .inl (G.2.2.1 0, u.toNatClampNeg, .inl fun _ => 0)))) (fun i q hq => by
    rw [List.getElem?_map] at hq
    by_cases h9 : i < v.toNatClampNeg
    · rw [List.getElem?_range h9] at hq
      cases hq
      rw [List.length_append, hn]
      rfl
    · rw [List.getElem?_eq_none (by rw [List.length_range]; omega)] at hq
      cases hq)
  obtain ⟨t, a1, b1⟩ := kk hO2 F.heap locs ls hP2 (by rw [f1, List.length_append, List.length_append, List.length_map, List.length_range]; simp only [List.length_cons, List.length_nil]; omega) ⟨by rw [f1]; have := hS.1; omega, fun x h1 h2 => (hold x (Nat.lt_of_lt_of_le h1 hS.1)).trans (hS.2.1 x h1 h2), hS.2.2⟩ h F rfl X'
  refine ⟨t, step t ?_, b1⟩
  have e : T.heap.size = G.2.1 + n := by rw [hT]; exact hz1
  rw [e]
  exact a1
/-- what a constructor's call asks of the tables -/
def tc_Lc (y : MethodName) (bytes : ByteArray) : Prop := Cond.initialized y.cls ∈ tz_TB ∧ Cond.instanceMethod y ∈ tz_TB ∧ Cond.code y bytes 1 none ∈ tz_TB ∧ y.name = "<init>" ∧ y.cls ≠ "java/lang/invoke/MethodHandle" ∧ y.cls ≠ "java/lang/invoke/VarHandle" ∧ (parseMethodDescriptor y.desc).map (fun d => d.parameters.length) = some 0
theorem tc_callN {y : MethodName} {bytes : ByteArray} {index f0 l0 mc ms b : Nat} {wq : va_W} (host : String) (C : tc_C G E cc own nL fr lo rc rs) (d : decode cc pc = .ok (.invokespecial index, 3)) (hw : Cond.methodLinkNest own index y host ∈ tc_NW) (w : tc_Lc y bytes) (hM : tc_M G y bytes f0 l0 mc ms b ws wq) (hb : b < ws.length) (hr : f0 + 1 ≤ fr ∧ 8 + (1 + 11) + l0 ≤ lo) (hst : (st.map fun v => v.category).sum ≤ 8) (hc : cells + mc ≤ rc) (hs : slots + ms ≤ rs) (kk : tc_V G E L wq (cells + mc) (slots + ms) (pc + 3) st) : tc_V G E L ws cells slots pc (.ref (G.2.1 + b) :: st) := by
  obtain ⟨⟨p, e, R, s, m, args, below, meth, c⟩, ⟨nL0, Q⟩⟩ := E
  obtain rfl : nL0 = nL := C.2.1
  intro hO H locs ls hP hz hS h
  obtain ⟨w1, w2, w3, w4, w5, w6, w7⟩ := w
  obtain ⟨⟨cx, cb, cm, co, ct⟩, -, cK, ch, cf, cl, cce, csl⟩ := id C
  refine va_callv (va_runIN (host := host) (As := []) (rest := st) (b := G.2.1 + b) ⟨cx, cb, cm, co, ct⟩ (hM hO hb) ⟨va_cnB 0 ct (tz_good w3) rfl rfl rfl (cK.2.2 _ hw) (ct _ w1) ⟨w5, w6, w7⟩ ⟨Nat.le_trans hr.1 cf, Nat.le_trans hr.2 cl⟩, w4, ct _ w2⟩ ⟨tc_Pc.blind G b ws, fun U hU hW => ⟨rfl, by rw [hU]; exact hP, by rw [hU]; exact hz, cK.warm hW⟩⟩ rfl rfl h.1 rfl (lv_room hst) d ⟨by omega, by omega⟩) hS (fun q _ z => z) (fun q z => z) (fun u t H1 locs1 ht hvm hw hB hz1 hk1 hS1 => ?_)
  obtain ⟨b1, b2, b3⟩ := hB
  rw [ht] at b1 b2
  exact kk b3 H1 locs1 ls b1 b2 hS1 h
theorem tc_callI {y : MethodName} {bytes : ByteArray} {index f0 l0 mc ms b : Nat} {wq : va_W} (C : tc_C G E cc own nL fr lo rc rs) (d : decode cc pc = .ok (.invokespecial index, 3)) (hw : Cond.methodLink own index y ∈ tz_TB) (w : tc_Lc y bytes) (hM : tc_M G y bytes f0 l0 mc ms b ws wq) (hb : b < ws.length) (hr : f0 + 1 ≤ fr ∧ 8 + (1 + 11) + l0 ≤ lo) (hst : (st.map fun v => v.category).sum ≤ 8) (hc : cells + mc ≤ rc) (hs : slots + ms ≤ rs) (kk : tc_V G E L wq (cells + mc) (slots + ms) (pc + 3) st) : tc_V G E L ws cells slots pc (.ref (G.2.1 + b) :: st) := by
  obtain ⟨⟨p, e, R, s, m, args, below, meth, c⟩, ⟨nL0, Q⟩⟩ := E
  obtain rfl : nL0 = nL := C.2.1
  intro hO H locs ls hP hz hS h
  obtain ⟨w1, w2, w3, w4, w5, w6, w7⟩ := w
  obtain ⟨⟨cx, cb, cm, co, ct⟩, -, cK, ch, cf, cl, cce, csl⟩ := id C
  refine va_callv (va_runI (As := []) (rest := st) (b := G.2.1 + b) ⟨cx, cb, cm, co, ct⟩ (hM hO hb) (cwI 0 ct (tz_good w3) rfl rfl rfl (ct _ w1) (ct _ hw) (ct _ w2) w4 ⟨w5, w6, w7⟩ ⟨Nat.le_trans hr.1 cf, Nat.le_trans hr.2 cl⟩) ⟨tc_Pc.blind G b ws, fun U hU hW => ⟨rfl, by rw [hU]; exact hP, by rw [hU]; exact hz, cK.warm hW⟩⟩ rfl rfl h.1 rfl (lv_room hst) d ⟨by omega, by omega⟩) hS (fun q _ z => z) (fun q z => z) (fun u t H1 locs1 ht hvm hw hB hz1 hk1 hS1 => ?_)
  obtain ⟨b1, b2, b3⟩ := hB
  rw [ht] at b1 b2
  exact kk b3 H1 locs1 ls b1 b2 hS1 h
end TC
