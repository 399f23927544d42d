/-- the store when all is made: but for what the reference's constructor puts last -/
def tc_s1 : tzS := (fun k => if k = 3 then (fun j => if j < 3 then -1 else 0) else if k = 125 then upd (upd (upd (upd (fun _ => 0) 0 (-1)) 1 (-1)) 2 (-1)) 3 (-1) else if k = 132 then upd (upd (upd (upd (fun _ => 0) 0 0) 1 3) 2 2) 3 2 else fun _ => 0, fun _ _ => 0)
def tc_fin (G : tcG) (k : Nat) : va_E := tz_ent (fun k => G.2.1 + k) G.2.2.1 tc_s1 k
def tc_blk (G : tcG) (a : Nat) : Nat → va_W
  | 0 => []
  | c + 1 => tc_blk G a c ++ [(G.2.1 + (a + c), tc_fin G (a + c))]
def tc_wa (G : tcG) (wp : va_W) (b : Nat) (x : va_E) (c : Nat) : va_W := (wp ++ [(G.2.1 + b, x)]) ++ tc_blk G (b + 1) c
theorem tc_blk_len (G : tcG) (a : Nat) : ∀ c, (tc_blk G a c).length = c
  | 0 => rfl
  | c + 1 => by
    show (tc_blk G a c ++ _).length = _
    rw [List.length_append, tc_blk_len G a c]
    rfl
theorem tc_blk_app (G : tcG) (a c : Nat) : ∀ d, tc_blk G a (c + d) = tc_blk G a c ++ tc_blk G (a + c) d
  | 0 => (List.append_nil _).symm
  | d + 1 => by
    show tc_blk G a (c + d) ++ [(G.2.1 + (a + (c + d)), tc_fin G (a + (c + d)))] = tc_blk G a c ++ (tc_blk G (a + c) d ++ [(G.2.1 + (a + c + d), tc_fin G (a + c + d))])
    rw [tc_blk_app G a c d, List.append_assoc, Nat.add_assoc]
theorem tc_blk_at {G : tcG} {a : Nat} : ∀ {c i : Nat}, i < c → (tc_blk G a c)[i]? = some (G.2.1 + (a + i), tc_fin G (a + i))
  | c + 1, i, h => by
    show (tc_blk G a c ++ [_])[i]? = _
    by_cases hi : i < c
    · rw [List.getElem?_append_left (by rw [tc_blk_len]; exact hi)]
      exact tc_blk_at hi
    · rw [List.getElem?_append_right (by rw [tc_blk_len]; omega), tc_blk_len, show i - c = 0 by omega, show i = c by omega]
      rfl
theorem tc_wa_len {G : tcG} {wp : va_W} {b : Nat} {x : va_E} {c m : Nat} (h : wp.length = b) (hm : b + 1 + c = m) : (tc_wa G wp b x c).length = m := by
  unfold tc_wa
  rw [List.length_append, List.length_append, tc_blk_len, h]
  exact hm
theorem tc_wa_at {G : tcG} {wp : va_W} {b : Nat} {x : va_E} {c : Nat} (h : wp.length = b) : (tc_wa G wp b x c)[b]? = some (G.2.1 + b, x) := by
  unfold tc_wa
  rw [List.getElem?_append_left (by rw [List.length_append, h]; exact Nat.lt_succ_self b), List.getElem?_append_right (by omega), h, Nat.sub_self]
  rfl
theorem tc_wa_in {G : tcG} {wp : va_W} {b : Nat} {x : va_E} {c k : Nat} (h : wp.length = b) (h1 : b < k) (h2 : k < b + 1 + c) : (tc_wa G wp b x c)[k]? = some (G.2.1 + k, tc_fin G k) := by
  unfold tc_wa
  have hl : (wp ++ [(G.2.1 + b, x)]).length = b + 1 := by rw [List.length_append, h]; rfl
  rw [List.getElem?_append_right (by rw [hl]; omega), hl, tc_blk_at (by omega), show b + 1 + (k - (b + 1)) = k by omega]
theorem tc_wa_set {G : tcG} {wp : va_W} {b : Nat} {x y : va_E} {c : Nat} (h : wp.length = b) : (tc_wa G wp b x c).set b (G.2.1 + b, y) = tc_wa G wp b y c := by
  unfold tc_wa
  rw [List.set_append_left _ _ (by rw [List.length_append, h]; exact Nat.lt_succ_self b), List.set_append_right _ _ (by omega), h, Nat.sub_self]
  rfl
theorem tc_wa_seal {G : tcG} {wp : va_W} {b : Nat} {x : va_E} {c m : Nat} (hm : b + 1 + c = m) : tc_wa G wp b x c ++ [(G.2.1 + m, tc_fin G m)] = tc_wa G wp b x (c + 1) := by
  subst hm
  unfold tc_wa
  rw [List.append_assoc]
  rfl
theorem tc_wa_more {G : tcG} {wp : va_W} {b : Nat} {x : va_E} {c m d : Nat} (hm : b + 1 + c = m) : (tc_wa G wp b x c ++ [(G.2.1 + m, tc_fin G m)]) ++ tc_blk G (m + 1) d = tc_wa G wp b x (c + 1 + d) := by
  rw [tc_wa_seal hm]
  subst hm
  unfold tc_wa
  rw [List.append_assoc, tc_blk_app G (b + 1) (c + 1) d]
  rfl
theorem tc_blk_rows {G : tcG} {a N : Nat} {e : va_E} (h : ∀ i, i < N → tc_fin G (a + i) = e) : (List.range N).map (fun i => (G.2.1 + (a + i), e)) = tc_blk G a N := by
  apply List.ext_getElem?
  intro i
  rw [List.getElem?_map]
  by_cases hi : i < N
  · rw [List.getElem?_range hi, tc_blk_at hi, h i hi]
    rfl
  · rw [List.getElem?_eq_none (by rw [List.length_range]; omega), List.getElem?_eq_none (by rw [tc_blk_len]; omega)]
    rfl
theorem tc_fin_int {G : tcG} {k N : Nat} (hl : tz_lay k = .inr (0, N, 0)) (h : k ≠ 3 ∧ k ≠ 125 ∧ k ≠ 132) : tc_fin G k = .inl (G.2.2.1 0, N, .inl fun _ => 0) := by
  unfold tc_fin tz_ent
  rw [hl]
  show (Sum.inl (G.2.2.1 0, N, if (0 : Nat) = 2 then _ else if (0 : Nat) = 3 then _ else .inl (tc_s1.1 k)) : va_E) = _
  rw [if_neg (by decide), if_neg (by decide)]
  unfold tc_s1
  dsimp only
  rw [if_neg h.1, if_neg h.2.1, if_neg h.2.2]
theorem tc_fin_grid {G : tcG} {k N b : Nat} (hl : tz_lay k = .inr (3, N, b)) : tc_fin G k = .inl (G.2.2.1 3, N, .inr (.inr (.inr (.inr (fun i => if i < N then some (G.2.1 + (b + i)) else none))))) := by
  unfold tc_fin tz_ent
  rw [hl]
  show (Sum.inl (G.2.2.1 3, N, if (3 : Nat) = 2 then _ else if (3 : Nat) = 3 then _ else .inl (tc_s1.1 k)) : va_E) = _
  rw [if_neg (by decide), if_pos rfl]
section TC
variable {G : tcG} {E : tcE} {cc : ByteArray} {own : String} {nL fr lo rc rs pc cells slots : Nat} {L : List (Nat × Value)} {st : List Value} {wp : va_W} {b c : Nat} {fs : List Value} {y : va_E}
theorem tcw_seal {x : va_E} (m : Nat) (hm : b + 1 + c = m) (hx : x = tc_fin G m) (kk : tc_V G E L (tc_wa G wp b y (c + 1)) cells slots pc st) : tc_V G E L (tc_wa G wp b y c ++ [(G.2.1 + m, x)]) cells slots pc st := by
  subst hx
  rw [tc_wa_seal hm]
  exact kk
theorem tcw_put {index ci j : Nat} {ty : FieldType} {bo : Bool} {v : Value} (fs' : List Value) (C : tc_C G E cc own nL fr lo rc rs) (hi : tc_I E) (d : decode cc pc = .ok (.putfield index, 3)) (f : tc_Fp own index ci j ty bo) (hlen : wp.length = b) (hn : narrow ty v = v) (hfit : fits ty v = true) (hl : j < fs.length) (hs : fs.set j v = fs') (kk : tc_V G E L (tc_wa G wp b (.inr (ci, fs')) c) cells slots (pc + 3) st) : tc_V G E L (tc_wa G wp b (.inr (ci, fs)) c) cells slots pc (v :: .ref (G.2.1 + b) :: st) := by
  subst hs
  refine tc_put b C hi d f (tc_wa_at hlen) hn hfit hl ?_
  rw [tc_wa_set hlen]
  exact kk
theorem tcw_iast {f : Nat → Int32} {N : Nat} {i x : Int32} (m i' : Nat) (hm : b + 1 + c = m) (hi : i.toNatClampNeg = i') (C : tc_C G E cc own nL fr lo rc rs) (d : decode cc pc = .ok (.iastore, 1)) (hlen : wp.length = b) (hin : vp_in i N) (kk : tc_V G E L (tc_wa G wp b y c ++ [(G.2.1 + m, .inl (G.2.2.1 0, N, .inl (upd f i' x)))]) cells slots (pc + 1) st) : tc_V G E L (tc_wa G wp b y c ++ [(G.2.1 + m, .inl (G.2.2.1 0, N, .inl f))]) cells slots pc (.int x :: .int i :: .ref (G.2.1 + m) :: st) := by
  subst hi
  have hl : (tc_wa G wp b y c).length = m := tc_wa_len hlen hm
  refine tc_iast m C d (by rw [List.getElem?_append_right (by omega), hl, Nat.sub_self]; rfl) hin ?_
  rw [List.set_append_right _ _ (by omega), hl, Nat.sub_self]
  exact kk
theorem tcw_mna {index N K : Nat} {v u : Int32} (m : Nat) (hm : b + 1 + c = m) (C : tc_C G E cc own nL fr lo rc rs) (d : decode cc pc = .ok (.multianewarray index 2, 4)) (w1 : Cond.classLink own index "[[I" ∈ tz_TB) (w2 : Cond.arrayClass .int ∈ tz_TB) (hlen : wp.length = b) (hv : ¬ v < 0) (hu : ¬ u < 0) (hN : v.toNatClampNeg = N) (hM : u.toNatClampNeg = K) (hb1 : N * 4 ≤ 536870912) (hb2 : K * componentBytes .int ≤ 536870912) (hb3 : K ≤ 536870912) (hc : cells + (1 + N) ≤ rc) (hs : slots + (N + N * K) ≤ rs)
    (h1 : tz_lay m = .inr (3, N, m + 1)) (h2 : ∀ i, i < N → tz_lay (m + 1 + i) = .inr (0, K, 0) ∧ m + 1 + i ≠ 3 ∧ m + 1 + i ≠ 125 ∧ m + 1 + i ≠ 132)
    (kk : tc_V G E L (tc_wa G wp b y (c + 1 + N)) (cells + 1 + N) (slots + N + N * K) (pc + 4) (.ref (G.2.1 + m) :: st)) : tc_V G E L (tc_wa G wp b y c) cells slots pc (.int u :: .int v :: st) := by
  refine tc_mna m C d w1 w2 hv hu hN hM hb1 hb2 hb3 (tc_wa_len hlen hm) hc hs ?_
  rw [← tc_fin_grid h1, tc_blk_rows (fun i hi => tc_fin_int (h2 i hi).1 (h2 i hi).2), tc_wa_more hm]
  exact kk
/-- a sub-object's constructor -/
theorem tcw_callN {z : MethodName} {bytes : ByteArray} {index f0 l0 mc ms : Nat} {x : va_E} (m : Nat) (hm : b + 1 + c = m) (C : tc_C G E cc own nL fr lo rc rs) (d : decode cc pc = .ok (.invokespecial index, 3)) (hw : Cond.methodLinkNest own index z "TopicSeams" ∈ tc_NW) (w : tc_Lc z bytes) (hlen : wp.length = b) (hM : ∀ wp : va_W, wp.length = m → tc_M G z bytes f0 l0 mc ms m (tc_wa G wp m x 0) (tc_wa G wp m (tc_fin G m) mc)) (hr : f0 + 1 ≤ fr ∧ 8 + (1 + 11) + l0 ≤ lo) (hst : (st.map fun v => v.category).sum ≤ 8) (hc : cells + mc ≤ rc) (hs : slots + ms ≤ rs) (kk : tc_V G E L (tc_wa G wp b y (c + 1 + mc)) (cells + mc) (slots + ms) (pc + 3) st) : tc_V G E L (tc_wa G wp b y c ++ [(G.2.1 + m, x)]) cells slots pc (.ref (G.2.1 + m) :: st) := by
  have hl : (tc_wa G wp b y c).length = m := tc_wa_len hlen hm
  have h1 := hM (tc_wa G wp b y c) hl
  have e1 : tc_wa G (tc_wa G wp b y c) m x 0 = tc_wa G wp b y c ++ [(G.2.1 + m, x)] := List.append_nil _
  have e2 : tc_wa G (tc_wa G wp b y c) m (tc_fin G m) mc = tc_wa G wp b y (c + 1 + mc) := tc_wa_more hm
  rw [e1, e2] at h1
  refine tc_callN "TopicSeams" C d hw w h1 (by rw [List.length_append, hl]; exact Nat.lt_succ_self m) hr hst hc hs kk
end TC
