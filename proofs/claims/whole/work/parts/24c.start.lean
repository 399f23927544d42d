set_option maxRecDepth 100000 in
set_option maxHeartbeats 4000000 in
theorem tw_walk {p : Program} {e : Env} {s : State} {m : MethodId} {below : List Frame} {meth : Method} {c : Code} (l : Launch) {b L : Nat} {xs : Nat → Int32} (hL : L ≤ 3072) (C0 : lw_At p s m meth c b L xs) {D : va_G} {cy : Nat → ClassId} (hK : tc_K (l, s.heap.size, cy, D) s) :
    tc_V (l, s.heap.size, cy, D) ((p, e, room_1, s, m, #[Value.ref b], below, meth, c), (4, lw_Z below #[Value.ref b] s)) [(0, .ref b)] [] 0 0 0 [] := by
  have C0' := C0
  obtain ⟨hx, hb, hr, hml, hown, hts, hX, hbl, hlocks, hgv⟩ := C0'
  have hC : tc_C (l, s.heap.size, cy, D) ((p, e, room_1, s, m, #[Value.ref b], below, meth, c), (4, lw_Z below #[Value.ref b] s)) cL_law RL 4 11 440 600000 7302250 := ⟨⟨hx, hb, hml, hown, fun w h => hts w (List.mem_filter.mp h).1⟩, rfl, hK, Nat.le_refl _, by decide, by decide, by decide, by decide⟩
  have hk9 := k_X9_0 (l, s.heap.size, cy, D) [] rfl
  have hk10 := k_X10_133 (l, s.heap.size, cy, D) (tc_wa (l, s.heap.size, cy, D) [] 0 (tc_fin (l, s.heap.size, cy, D) 0) 132) (tc_wa_len rfl rfl)
  have key : ∀ (H : Heap) (locs : List Loc) (ls : Array Slot), va_P D vwCl ((tc_wa (l, s.heap.size, cy, D) (tc_wa (l, s.heap.size, cy, D) [] 0 (tc_fin (l, s.heap.size, cy, D) 0) 132) 133 (tc_fin (l, s.heap.size, cy, D) 133) 22).set 135 (s.heap.size + 135, .inl (cy 0, 4, .inl (upd (upd (upd (fun _ => 0) 1 3) 2 2) 3 2)))) H → va_S (fun q => s.heap.size ≤ q) s.heap H locs → lv_has ls 4 [(2, .ref (s.heap.size + 133)), (1, .ref (s.heap.size + 0)), (0, .ref b)] → W p l e room_1 s m #[Value.ref b] below meth c H locs 600000 7302250 (lw_Z below #[Value.ref b] s) (F0 m 16 ls []) := fun H locs ls hP hS hl => tw_loop l hL C0 hK.1 hP hS hl
  refine tc_new 0 hC dL_law_0 cfn_RL_7 rfl (by decide) (by decide) ?_
  refine tc_dup hC dL_law_3 ?_
  refine tc_callI hC dL_law_4 cml_RL_9 clc_X9 hk9 (Nat.le_of_ble_eq_true rfl) ⟨by decide, by decide⟩ (Nat.le_of_ble_eq_true rfl) (by decide) (by decide) ?_
  refine tc_astore 1 hC dL_law_7 rfl (by decide) rfl ?_
  refine tc_new 133 hC dL_law_8 cfn_RL_10 (tc_wa_len rfl rfl) (by decide) (by decide) ?_
  refine tc_dup hC dL_law_11 ?_
  have e1 := List.append_nil (tc_wa (l, s.heap.size, cy, D) [] 0 (tc_fin (l, s.heap.size, cy, D) 0) 132 ++ [(s.heap.size + 133, (.inr (10, [.int 0, .null, .null, .int 0, .int 0, .int 0, .int 0, .int 0, .int 0, .int 0, .null, .null, .null, .null, .null, .null, .null, .null, .int 0, .int 0, .int 0, .int 0, .int 0, .null, .null, .null, .null, .null, .null, .null, .int 0, .null, .null, .null, .null, .null, .int 0]) : va_E))])
  rw [← e1]
  refine tc_callI hC dL_law_12 cml_RL_12 clc_X10 hk10 ?_ ⟨by decide, by decide⟩ (Nat.le_of_ble_eq_true rfl) (by decide) (by decide) ?_
  · have hl9 : (tc_wa (l, s.heap.size, cy, D) [] 0 (tc_fin (l, s.heap.size, cy, D) 0) 132).length = 133 := tc_wa_len rfl rfl
    rw [e1, List.length_append, hl9]
    exact Nat.lt_succ_self 133
  refine tc_astore 2 hC dL_law_15 rfl (by decide) rfl ?_
  intro hO H locs ls hP hz hS hl
  exact W.widen (by decide) (by decide) (key H locs ls hP hS hl)
/-- the start: kinds, statics, then the walk -/
theorem whole_start {p : Program} {e : Env} {s : State} {m : MethodId} {below : List Frame} {meth : Method} {c : Code} (l : Launch) (hflags : l.flags = flags0) {b L : Nat} {xs : Nat → Int32} (hL : L ≤ 3072) (C0 : lw_At p s m meth c b L xs) : W p l e room_1 s m #[Value.ref b] below meth c s.heap [] 0 0 (lw_Z below #[Value.ref b] s) (entryFrame m ([Value.ref b] : List Value).toArray 4) := by
  have hts := C0.2.2.2.2.2.1
  have ho : (Cond.arrayOver (.array .int)).before #[Value.ref b] s = true := hts _ (List.mem_of_getElem? (i := 156) (by decide +kernel))
  obtain ⟨D, cy, hK⟩ := tw_K (fun w h => hts w (List.mem_filter.mp h).1) ho
  have hKc : tc_K (l, s.heap.size, cy, D) s := ⟨hK, over_moved (Vm.Alike.refl _) ho, fun w hw => by
    have h1 := hts w (tw_nw w hw)
    obtain ⟨a, i, x, hh, rfl⟩ := tc_NW_is w hw
    exact va_Nw.of rfl h1⟩
  have hl := lv_entry ([.ref b]) (n := 4) (Nat.le_of_ble_eq_true rfl)
  rw [lg_entry_eq]
  generalize (lg_sl ([.ref b]) ++ List.replicate (4 - (lg_sl ([.ref b])).length) Slot.unset).toArray = ls at hl ⊢
  exact tw_walk l hL C0 hKc (fun i q h => by cases h) s.heap [] ls (fun k q h => by cases h) rfl va_S.rf hl
