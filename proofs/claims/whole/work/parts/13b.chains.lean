theorem for4d {A A' A'' : Type} {B : A → A' → A'' → Int32 → tzS → (A → A' → A'' → Int32 → tzS → Prop) → Prop} {a : A} {b : A'} {c : A''} {σ : tzS} (lo hi : Nat) (I : Nat → A → A' → A'' → tzS → Prop) (hle : lo ≤ hi) (h0 : I lo a b c σ) (step : ∀ i a b c σ ag, lo ≤ i → i < hi → I i a b c σ → (∀ a' b' c' σ', I (i + 1) a' b' c' σ' → ag a' b' c' (nI (i + 1)) σ') → B a b c (nI i) σ ag) (exit : ∀ a b c σ ag, I hi a b c σ → B a b c (nI hi) σ ag) : tz_loop4 B a b c (nI lo) σ := by
  refine ⟨fun n a b c x s => ∃ i, x = nI i ∧ lo ≤ i ∧ i ≤ hi ∧ n = hi - i ∧ I i a b c s, ⟨hi - lo, lo, rfl, Nat.le_refl _, hle, rfl, h0⟩, ?_⟩
  rintro n a b c x s ⟨i, rfl, h1, h2, rfl, hI⟩
  by_cases hi' : i < hi
  · exact step i a b c s _ h1 hi' hI (fun a' b' c' σ' h' => ⟨hi - (i + 1), by omega, i + 1, rfl, by omega, by omega, rfl, h'⟩)
  · have : i = hi := by omega
    subst this
    exact exit a b c s _ hI
theorem sm_le_of {g : Nat → Nat} {s S : Nat} (h : s ≤ S) : fb_sm g s ≤ fb_sm g S := by
  have := fb_sm_mono g s (S - s)
  rwa [show s + (S - s) = S by omega] at this
/-- there are never many chains -/
theorem rd_ch_bd {f : Nat → Nat} {n li t s : Nat} (hn : n ≤ 200) (ht : t < rd_K f n) (hs : s ≤ rd_S f n) : 2 * (ch_s (fun s => rd_hv f n s t) li t (ch_all (rd_hv f n) li (rd_S f n) t) s).2.1 + (ch_s (fun s => rd_hv f n s t) li t (ch_all (rd_hv f n) li (rd_S f n) t) s).1.2.2 ≤ 100 := by
  have h1 := ch_s_le (fun s => rd_hv f n s t) li t (ch_all (rd_hv f n) li (rd_S f n) t) s
  have h2 := ch_all_le (rd_hv f n) li (rd_S f n) t
  have h3 := sm_le_of (g := fun s => rd_hv f n s t) hs
  have h4 := fb_sm_part (fun t => fb_sm (fun s => rd_hv f n s t) (rd_S f n)) ht
  have h5 : fb_sm (fun t => fb_sm (fun s => rd_hv f n s t) (rd_S f n)) (rd_K f n) = rd_W f n := by
    rw [← rd_ct_all]
    exact fb_sm_cong (fun t _ => rd_ct_sum hn)
  have h6 := (rd_ok (f := f) hn).1
  omega
theorem s_linkStem {f : Nat → Nat} {n li t : Nat} (hn : n ≤ 200) (hli : li ≤ 4) (ht : t < rd_K f n) {σ : tzS} (hR : ReadOK f n σ) (hL : LK (ch_all (rd_hv f n) li (rd_S f n) t) σ) {Q : tzS → Prop} (h : ∀ σ', LK (ch_all (rd_hv f n) li (rd_S f n) (t + 1)) σ' → bt 38 42 σ σ' → Q σ') : vc_X1_linkStem (nI t) (nI li) σ Q := by
  obtain ⟨r1, r2, r3, r4, r5, r6⟩ := rd_ok (f := f) hn
  obtain ⟨p1, p2, p3, p4, p5⟩ := rd_first hn ht
  obtain ⟨o1, o2, o3, o4, o5, o6⟩ := hR
  obtain ⟨u1, u2, u3, u4, u5⟩ := o6 t ht
  unfold vc_X1_linkStem
  rw [cl_nI (by omega), u3]
  refine ⟨in_nI (by omega) (by omega), ?_⟩
  rintro x4 rfl
  generalize hfi : sp_tN f n (rd_sw f n t) = fi at *
  refine for4d fi (rd_la f n t + 1) (fun s x4 x5 x6 r => LK (ch_s (fun s => rd_hv f n s t) li t (ch_all (rd_hv f n) li (rd_S f n) t) s).2 r ∧ ((s = fi ∧ x4 = nI fi ∧ x5 = nI fi ∧ x6 = nI 0) ∨ (fi < s ∧ x4 = nI (ch_s (fun s => rd_hv f n s t) li t (ch_all (rd_hv f n) li (rd_S f n) t) s).1.1 ∧ x5 = nI (ch_s (fun s => rd_hv f n s t) li t (ch_all (rd_hv f n) li (rd_S f n) t) s).1.2.1 ∧ x6 = nI (ch_s (fun s => rd_hv f n s t) li t (ch_all (rd_hv f n) li (rd_S f n) t) s).1.2.2)) ∧ bt 38 42 σ r) (by omega) ?_ ?_ ?_
  · refine ⟨?_, Or.inl ⟨rfl, rfl, rfl, rfl⟩, bt.rf⟩
    rw [ch_s_pre (fun i hi => by
      by_cases q : 0 < rd_hv f n i t
      · exact absurd (p5 i q).1 (by omega)
      · show rd_hv f n i t = 0
        omega)]
    exact hL
  · intro s x4 x5 x6 r ag hs1 hs2 hI hag
    obtain ⟨hK, hx, hb⟩ := hI
    have bd := rd_ch_bd (f := f) (li := li) (s := s) hn ht (by omega)
    have ok := ch_s_ok (g := fun s => rd_hv f n s t) (li := li) (t := t) (C := ch_all (rd_hv f n) li (rd_S f n) t) s
    have hg := rd_hv_le (f := f) (n := n) (s := s) (t := t) hn
    rw [hb.1 36 (by omega), hb.1 _ (by rw [cl_nI (by omega)]; omega), u4, cl_nI (by omega), o5 s t (by omega) ht]
    refine ⟨fun q => absurd ((lt_nI (by omega) (by omega)).mp q) (by omega), fun _ => ⟨in_nI (by omega) (by omega), ?_⟩⟩
    rintro x8 rfl
    refine ⟨fun c => ?_, fun c => ?_⟩
    · have c : ¬ rd_hv f n s t = 0 := fun q => c (by rw [q]; rfl)
      rcases hx with ⟨e, rfl, rfl, rfl⟩ | ⟨e, rfl, rfl, rfl⟩
      · subst e
        have pre := ch_s_pre (g := fun s => rd_hv f n s t) (li := li) (t := t) (C := ch_all (rd_hv f n) li (rd_S f n) t) (s := s) (fun i hi => by
          by_cases q : 0 < rd_hv f n i t
          · exact absurd (p5 i q).1 (by omega)
          · show rd_hv f n i t = 0
            omega)
        have on := ch_s_on (g := fun s => rd_hv f n s t) (li := li) (t := t) (C := ch_all (rd_hv f n) li (rd_S f n) t) (s := s) c (by rw [pre]; simp)
        rw [pk_sub (Nat.le_refl _), Nat.sub_self]
        refine ⟨fun _ => ?_, fun q => absurd ((le_nI (by omega) (by omega)).mpr (by omega)) q⟩
        rintro y6 rfl y7 rfl
        rw [nI_1, nI_add]
        refine hag _ _ _ _ ⟨?_, Or.inr ⟨by omega, ?_, ?_, ?_⟩, hb⟩
        · rw [on]
          exact hK
        · rw [on, pre]
          simp
        · rw [on]
        · rw [on, pre]
      · have w0 : (ch_s (fun s => rd_hv f n s t) li t (ch_all (rd_hv f n) li (rd_S f n) t) s).1.2.2 ≠ 0 := fun q => by
          have := ok.2.2 q fi e
          omega
        have ok2 := ok.2.1 w0
        rw [pk_sub (by omega)]
        refine ⟨fun c2 => ?_, fun c2 => ?_⟩
        · have c2 := (le_nI (by omega) (by omega)).mp c2
          have on := ch_s_on (g := fun s => rd_hv f n s t) (li := li) (t := t) (C := ch_all (rd_hv f n) li (rd_S f n) t) (s := s) c (by omega)
          rintro y6 rfl y7 rfl
          rw [nI_1, nI_add]
          refine hag _ _ _ _ ⟨?_, Or.inr ⟨by omega, ?_, ?_, ?_⟩, hb⟩
          · rw [on]
            exact hK
          · rw [on, if_neg w0]
          · rw [on]
          · rw [on]
        · have c2 : ¬ s - (ch_s (fun s => rd_hv f n s t) li t (ch_all (rd_hv f n) li (rd_S f n) t) s).1.2.1 ≤ li := fun q => c2 ((le_nI (by omega) (by omega)).mpr q)
          have nw := ch_s_new (g := fun s => rd_hv f n s t) (li := li) (t := t) (C := ch_all (rd_hv f n) li (rd_S f n) t) (s := s) c ⟨w0, by omega⟩
          refine s_keep1 (by omega) (by omega) hK (fun r' hK' hb' => ?_)
          rintro y6 rfl y7 rfl
          rw [nI_1, show (0 : Int32) + nI (rd_hv f n s t) = nI (rd_hv f n s t) from by show nI 0 + _ = _; rw [nI_add, Nat.zero_add]]
          refine hag _ _ _ _ ⟨?_, Or.inr ⟨by omega, ?_, ?_, ?_⟩, hb.tr hb'⟩
          · rw [nw]
            exact hK'
          · rw [nw]
          · rw [nw]
          · rw [nw]
    · have c : rd_hv f n s t = 0 := (eq_nI (b := 0) (by omega) (by omega)).mp c
      have hne : s ≠ fi := fun q => by
        rw [q] at c
        omega
      have st := ch_s_0 (g := fun s => rd_hv f n s t) (li := li) (t := t) (C := ch_all (rd_hv f n) li (rd_S f n) t) (s := s) c
      rintro y7 rfl
      rw [nI_1]
      rcases hx with ⟨e, -⟩ | ⟨e, rfl, rfl, rfl⟩
      · exact absurd e hne
      · refine hag _ _ _ _ ⟨?_, Or.inr ⟨by omega, ?_, ?_, ?_⟩, hb⟩
        · rw [st]
          exact hK
        · rw [st]
        · rw [st]
        · rw [st]
  · intro x4 x5 x6 r ag hI
    obtain ⟨hK, hx, hb⟩ := hI
    have bd := rd_ch_bd (f := f) (li := li) (s := rd_la f n t + 1) hn ht (by omega)
    have post := ch_s_post (g := fun s => rd_hv f n s t) (li := li) (t := t) (C := ch_all (rd_hv f n) li (rd_S f n) t) (s := rd_la f n t + 1) (d := rd_S f n - (rd_la f n t + 1)) (fun i h1 h2 => by
      by_cases q : 0 < rd_hv f n i t
      · exact absurd (p5 i q).2 (by omega)
      · show rd_hv f n i t = 0
        omega)
    rw [show rd_la f n t + 1 + (rd_S f n - (rd_la f n t + 1)) = rd_S f n by omega] at post
    rw [hb.1 36 (by omega), u4]
    refine ⟨fun _ => ?_, fun q => absurd ((lt_nI (by omega) (by omega)).mpr (Nat.lt_succ_self _)) q⟩
    rcases hx with ⟨e, -⟩ | ⟨e, rfl, rfl, rfl⟩
    · omega
    · refine s_keep1 (by omega) (by omega) hK (fun r' hK' hb' => h r' ?_ (hb.tr hb'))
      show LK (ch_add _ _) r'
      rw [post]
      exact hK'
theorem ReadOK.bt {f : Nat → Nat} {n lo hi : Nat} {σ σ' : tzS} (h : ReadOK f n σ) (hb : bt lo hi σ σ') (hlo : 38 ≤ lo) (hn : rd_S f n ≤ 12) : ReadOK f n σ' := by
  obtain ⟨o1, o2, o3, o4, o5, o6⟩ := h
  refine ⟨by rw [hb.1 4 (by omega)]; exact o1, by rw [hb.1 4 (by omega)]; exact o2, by rw [hb.1 4 (by omega)]; exact o3, fun s hs => ?_, fun s t hs ht => by rw [hb.1 _ (by omega)]; exact o5 s t hs ht, fun t ht => ?_⟩
  · rw [hb.1 6 (by omega), hb.1 5 (by omega)]
    exact ⟨(o4 s hs).1, (o4 s hs).2.1, fun w hw => by rw [hb.1 _ (by omega)]; exact (o4 s hs).2.2 w hw⟩
  · rw [hb.1 33 (by omega), hb.1 34 (by omega), hb.1 35 (by omega), hb.1 36 (by omega), hb.2]
    exact o6 t ht
theorem s_linkFill {f : Nat → Nat} {n li : Nat} (hn : n ≤ 200) (hli : li ≤ 4) {σ : tzS} (hR : ReadOK f n σ) {Q : tzS → Prop} (h : ∀ σ', LinkOK f n li σ' → bt 38 42 σ σ' → Q σ') : vc_X1_fill (nI li) σ Q := by
  obtain ⟨r1, r2, r3, r4, r5, r6⟩ := rd_ok (f := f) hn
  unfold vc_X1_fill
  rintro σ1 rfl
  refine for1 0 (rd_K f n) (fun t r => LK (ch_all (rd_hv f n) li (rd_S f n) t) r ∧ bt 38 42 σ r) (Nat.zero_le _) ⟨⟨st_eq, fun i hi => absurd hi (Nat.not_lt_zero i)⟩, bt.rf.st (by omega)⟩ ?_ ?_
  · intro t r ag _ ht hI hag
    have hR' := hR.bt hI.2 (by omega) r2
    rw [hR'.2.2.1]
    refine ⟨fun q => absurd ((le_nI (by omega) (by omega)).mp q) (by omega), fun _ => ?_⟩
    refine s_linkStem hn hli ht hR' hI.1 (fun r' hK' hb' => ?_)
    rintro y rfl
    rw [nI_1]
    exact hag _ ⟨hK', hI.2.tr hb'⟩
  · intro r ag hI
    have hR' := hR.bt hI.2 (by omega) r2
    rw [hR'.2.2.1]
    exact ⟨fun _ => h r hI.1 hI.2, fun q => absurd ((le_nI (by omega) (by omega)).mpr (Nat.le_refl _)) q⟩
/-! the reference's chains -/
def MK (C : chS) (σ : tzS) : Prop := σ.1 133 22 = nI C.1 ∧ ∀ i, i < C.1 → σ.1 144 i = nI (C.2 i).1 ∧ σ.1 145 i = nI (C.2 i).2.1 ∧ σ.1 146 i = nI (C.2 i).2.2.1 ∧ σ.1 147 i = nI (C.2 i).2.2.2
/-- what finding chains may change behind the reading -/
def mk2 (σ σ' : tzS) : Prop := (∀ a, (a ≠ 133 ∧ (a < 144 ∨ 147 < a)) → σ'.1 a = σ.1 a) ∧ (∀ j, j ≠ 22 → σ'.1 133 j = σ.1 133 j) ∧ σ'.2 = σ.2
theorem mk2.rf {σ : tzS} : mk2 σ σ := ⟨fun _ _ => rfl, fun _ _ => rfl, rfl⟩
theorem mk2.tr {σ σ' σ'' : tzS} (h : mk2 σ σ') (h2 : mk2 σ' σ'') : mk2 σ σ'' := ⟨fun a ha => (h2.1 a ha).trans (h.1 a ha), fun j hj => (h2.2.1 j hj).trans (h.2.1 j hj), h2.2.2.trans h.2.2⟩
theorem mk2.st3 {σ σ' : tzS} {v : Int32} (h : mk2 σ σ') : mk2 σ (tz_st σ' 133 22 v) := ⟨fun a ha => by rw [st_ne ha.1]; exact h.1 a ha, fun j hj => by rw [st_nj hj]; exact h.2.1 j hj, h.2.2⟩
theorem mk2.st {σ σ' : tzS} {k j : Nat} {v : Int32} (h : mk2 σ σ') (hk : 144 ≤ k ∧ k ≤ 147) : mk2 σ (tz_st σ' k j v) := ⟨fun a ha => by rw [st_ne (by omega)]; exact h.1 a ha, fun j hj => by rw [st_ne (by omega)]; exact h.2.1 j hj, h.2.2⟩
theorem s_ends {C : chS} {t a b w : Nat} {x y : Int32} (hw : w < 1000) (hC : C.1 < 110) (hx : 2 ≤ w → x = nI a ∧ y = nI b) {σ : tzS} (hL : MK C σ) {Q : tzS → Prop} (h : ∀ σ', MK (ch_add (t, a, b, w) C) σ' → mk2 σ σ' → Q σ') : vc_X10_ends (nI t) x y (nI w) σ Q := by
  obtain ⟨l1, l2⟩ := id hL
  unfold vc_X10_ends
  unfold ch_add at h
  dsimp only at h
  refine ⟨fun c => ?_, fun c => ?_⟩
  · have c := (le_nI (b := 1) (by omega) (by omega)).mp c
    rw [if_pos (by omega)] at h
    exact h σ hL mk2.rf
  · have c : ¬ w ≤ 1 := fun q => c ((le_nI (b := 1) (by omega) (by omega)).mpr q)
    rw [if_neg (by omega)] at h
    obtain ⟨rfl, rfl⟩ := hx (by omega)
    rw [l1, cl_nI (by omega)]
    refine ⟨in_nI hC (by omega), ?_⟩
    intro σ3 h3
    rw [show σ3.1 133 22 = nI C.1 by rw [h3, st_ne (by decide)]; exact l1, cl_nI (by omega)]
    refine ⟨in_nI hC (by omega), ?_⟩
    intro σ5 h5
    rw [show σ5.1 133 22 = nI C.1 by rw [h5, st_ne (by decide), h3, st_ne (by decide)]; exact l1, cl_nI (by omega)]
    refine ⟨in_nI hC (by omega), ?_⟩
    intro σ7 h7
    rw [show σ7.1 133 22 = nI C.1 by rw [h7, st_ne (by decide), h5, st_ne (by decide), h3, st_ne (by decide)]; exact l1, cl_nI (by omega)]
    refine ⟨in_nI hC (by omega), ?_⟩
    intro σ9 h9
    rw [show σ9.1 133 22 = nI C.1 by rw [h9, st_ne (by decide), h7, st_ne (by decide), h5, st_ne (by decide), h3, st_ne (by decide)]; exact l1]
    intro σ11 h11
    have k3 : mk2 σ σ3 := h3 ▸ mk2.rf.st (by omega)
    have k5 : mk2 σ σ5 := h5 ▸ k3.st (by omega)
    have k7 : mk2 σ σ7 := h7 ▸ k5.st (by omega)
    have k9 : mk2 σ σ9 := h9 ▸ k7.st (by omega)
    have k11 : mk2 σ σ11 := h11 ▸ k9.st3
    refine h σ11 ⟨by rw [h11, st_eq, nI_1], fun i hi => ?_⟩ k11
    dsimp only at hi ⊢
    have q39 : σ11.1 144 = σ3.1 144 := by rw [h11, st_ne (by decide), h9, st_ne (by decide), h7, st_ne (by decide), h5, st_ne (by decide)]
    have q40 : σ11.1 145 = σ5.1 145 := by rw [h11, st_ne (by decide), h9, st_ne (by decide), h7, st_ne (by decide)]
    have q41 : σ11.1 146 = σ7.1 146 := by rw [h11, st_ne (by decide), h9, st_ne (by decide)]
    have q42 : σ11.1 147 = σ9.1 147 := by rw [h11, st_ne (by decide)]
    rw [q39, q40, q41, q42]
    by_cases e : i = C.1
    · rw [if_pos e, e, h3, h5, h7, h9, st_eq, st_eq, st_eq, st_eq]
      exact ⟨rfl, rfl, rfl, rfl⟩
    · rw [if_neg e]
      obtain ⟨o1, o2, o3, o4⟩ := l2 i (by omega)
      refine ⟨?_, ?_, ?_, ?_⟩
      · rw [h3, st_nj e]; exact o1
      · rw [h5, st_nj e, h3, st_ne (by decide)]; exact o2
      · rw [h7, st_nj e, h5, st_ne (by decide), h3, st_ne (by decide)]; exact o3
      · rw [h9, st_nj e, h7, st_ne (by decide), h5, st_ne (by decide), h3, st_ne (by decide)]; exact o4
theorem MR.mk2 {f : Nat → Nat} {n : Nat} {σ σ' : tzS} (h : MR f n σ) (hk : mk2 σ σ') : MR f n σ' := by
  obtain ⟨m1, m2, m3, m4, m5, m6, m7, m8, m9, m10, m11⟩ := h
  obtain ⟨k1, k2, k3⟩ := hk
  refine ⟨by rw [k2 4 (by decide)]; exact m1, by rw [k2 5 (by decide)]; exact m2, by rw [k2 6 (by decide)]; exact m3, by rw [k2 7 (by decide)]; exact m4, by rw [k2 8 (by decide)]; exact m5, by rw [k2 9 (by decide)]; exact m6, by rw [k2 18 (by decide)]; exact m7, fun k hk => ?_, fun t ht => ?_, fun s hs => ?_, fun s t hs ht => ?_⟩
  · rw [k1 136 (by omega), k1 137 (by omega), k1 138 (by omega), k1 139 (by omega)]; exact m8 k hk
  · rw [k1 140 (by omega), k1 141 (by omega)]; exact m9 t ht
  · rw [k1 142 (by omega)]; exact m10 s hs
  · rw [k1 143 (by omega)]; exact m11 s t hs ht
theorem s_findsChains {f : Nat → Nat} {n li : Nat} {σ : tzS} (hT : MT f n σ) (hli : li ≤ 4) (hl : σ.1 135 2 = nI li) {Q : tzS → Prop} (h : ∀ σ1 σ', MR f n σ1 → mk1 σ σ1 → MR f n σ' → MK (rd_ch f n li) σ' → mk2 σ1 σ' → Q σ') : vc_X10_findsChains σ Q := by
  have hn := hT.1
  obtain ⟨r1, r2, r3, r4, r5, r6⟩ := rd_ok (f := f) hn
  unfold vc_X10_findsChains
  refine s_reads hT (fun σ1 hM hk => ?_)
  rintro σ2 rfl
  refine for1 0 (rd_K f n) (fun t r => MK (ch_all (rd_hv f n) li (rd_S f n) t) r ∧ mk2 σ1 r) (Nat.zero_le _) ⟨⟨st_eq, fun i hi => absurd hi (Nat.not_lt_zero i)⟩, mk2.rf.st3⟩ ?_ ?_
  · intro t r ag _ ht hI hag
    have hM' := hM.mk2 hI.2
    have p := rd_first hn ht
    rw [hM'.2.2.2.2.2.1]
    refine ⟨fun q => absurd ((le_nI (by omega) (by omega)).mp q) (by omega), fun _ => ?_⟩
    refine for4d 0 (rd_S f n) (fun s x2 x3 x4 r' => MK (ch_s (fun s => rd_hv f n s t) li t (ch_all (rd_hv f n) li (rd_S f n) t) s).2 r' ∧ mk2 σ1 r' ∧ x4 = nI (ch_s (fun s => rd_hv f n s t) li t (ch_all (rd_hv f n) li (rd_S f n) t) s).1.2.2 ∧ (((ch_s (fun s => rd_hv f n s t) li t (ch_all (rd_hv f n) li (rd_S f n) t) s).1.2.2 = 0 ∧ x2 = -1) ∨ ((ch_s (fun s => rd_hv f n s t) li t (ch_all (rd_hv f n) li (rd_S f n) t) s).1.2.2 ≠ 0 ∧ x2 = nI (ch_s (fun s => rd_hv f n s t) li t (ch_all (rd_hv f n) li (rd_S f n) t) s).1.1 ∧ x3 = nI (ch_s (fun s => rd_hv f n s t) li t (ch_all (rd_hv f n) li (rd_S f n) t) s).1.2.1))) (Nat.zero_le _) ⟨hI.1, hI.2, rfl, Or.inl ⟨rfl, rfl⟩⟩ ?_ ?_
    · intro s x2 x3 x4 r' ag2 _ hs hI2 hag2
      obtain ⟨hK, hk2, rfl, hx⟩ := hI2
      have hM2 := hM.mk2 hk2
      have bd := rd_ch_bd (f := f) (li := li) (s := s) hn ht (by omega)
      have ok := ch_s_ok (g := fun s => rd_hv f n s t) (li := li) (t := t) (C := ch_all (rd_hv f n) li (rd_S f n) t) s
      have hg := rd_hv_le (f := f) (n := n) (s := s) (t := t) hn
      have hix : (110 : Int32) * nI s + nI t = nI (110 * s + t) := by
        show nI 110 * nI s + nI t = _
        rw [pk_mul, nI_add]
      have h135 : r'.1 135 2 = nI li := by
        rw [hk2.1 135 (by omega), hk.1 135 (by omega)]
        exact hl
      rw [hM2.2.2.2.1, hix, cl_nI (by omega), hM2.2.2.2.2.2.2.2.2.2.2 s t (by omega) (by omega), h135]
      refine ⟨fun q => absurd ((le_nI (by omega) (by omega)).mp q) (by omega), fun _ => ⟨in_nI (by omega) (by omega), ?_⟩⟩
      rintro x6 rfl
      refine ⟨fun c => ?_, fun c => ?_⟩
      · have c : rd_hv f n s t = 0 := by have := (le_nI (b := 0) (by omega) (by omega)).mp c; omega
        have st := ch_s_0 (g := fun s => rd_hv f n s t) (li := li) (t := t) (C := ch_all (rd_hv f n) li (rd_S f n) t) (s := s) c
        rintro y rfl
        rw [nI_1]
        refine hag2 _ _ _ _ ?_
        rw [st]
        exact ⟨hK, hk2, rfl, hx⟩
      · have c : ¬ rd_hv f n s t = 0 := fun q => c ((le_nI (b := 0) (by omega) (by omega)).mpr (by omega))
        refine ⟨fun y2 y4 r2 => MK (ch_s (fun s => rd_hv f n s t) li t (ch_all (rd_hv f n) li (rd_S f n) t) (s + 1)).2 r2 ∧ mk2 σ1 r2 ∧ y4 + nI (rd_hv f n s t) = nI (ch_s (fun s => rd_hv f n s t) li t (ch_all (rd_hv f n) li (rd_S f n) t) (s + 1)).1.2.2 ∧ (ch_s (fun s => rd_hv f n s t) li t (ch_all (rd_hv f n) li (rd_S f n) t) (s + 1)).1.2.2 ≠ 0 ∧ (ch_s (fun s => rd_hv f n s t) li t (ch_all (rd_hv f n) li (rd_S f n) t) (s + 1)).1.2.1 = s ∧ ((y2 = -1 ∧ (ch_s (fun s => rd_hv f n s t) li t (ch_all (rd_hv f n) li (rd_S f n) t) (s + 1)).1.1 = s) ∨ (y2 = nI (ch_s (fun s => rd_hv f n s t) li t (ch_all (rd_hv f n) li (rd_S f n) t) (s + 1)).1.1 ∧ (ch_s (fun s => rd_hv f n s t) li t (ch_all (rd_hv f n) li (rd_S f n) t) (s + 1)).1.1 < 100)), ?_, ?_, ?_⟩
        · rintro y2 y4 r2 ⟨b1, b2, b3, b4, b5, b6⟩
          refine ⟨fun c2 => ?_, fun c2 => ?_⟩
          · rintro z4 rfl z5 rfl
            rw [nI_1]
            rcases b6 with ⟨e1, e2⟩ | ⟨e1, e2⟩
            · exact absurd e1 c2
            · exact hag2 _ _ _ _ ⟨b1, b2, b3, Or.inr ⟨b4, e1, by rw [b5]⟩⟩
          · rintro z4 rfl z5 rfl
            rw [nI_1]
            rcases b6 with ⟨e1, e2⟩ | ⟨e1, e2⟩
            · exact hag2 _ _ _ _ ⟨b1, b2, b3, Or.inr ⟨b4, by rw [e2], by rw [b5]⟩⟩
            · rw [e1] at c2
              exact absurd c2 (ne_m1 (by omega))
        · intro c2
          rcases hx with ⟨e1, e2⟩ | ⟨e1, e2, e3⟩
          · have on := ch_s_on (g := fun s => rd_hv f n s t) (li := li) (t := t) (C := ch_all (rd_hv f n) li (rd_S f n) t) (s := s) c (by omega)
            rw [on]
            dsimp only
            rw [if_pos e1, nI_add]
            exact ⟨hK, hk2, rfl, by omega, rfl, Or.inl ⟨e2, rfl⟩⟩
          · rw [e2] at c2
            have := ok.2.1 e1
            exact absurd c2 (ne_m1 (by omega))
        · intro c2
          rcases hx with ⟨e1, e2⟩ | ⟨e1, rfl, rfl⟩
          · exact absurd e2 c2
          · have ok2 := ok.2.1 e1
            rw [pk_sub (by omega)]
            refine ⟨fun c3 => ?_, fun c3 => ?_⟩
            · have c3 := (le_nI (by omega) (by omega)).mp c3
              have on := ch_s_on (g := fun s => rd_hv f n s t) (li := li) (t := t) (C := ch_all (rd_hv f n) li (rd_S f n) t) (s := s) c (by omega)
              rw [on]
              dsimp only
              rw [if_neg e1, nI_add]
              exact ⟨hK, hk2, rfl, by omega, rfl, Or.inr ⟨rfl, by omega⟩⟩
            · have c3 : ¬ s - (ch_s (fun s => rd_hv f n s t) li t (ch_all (rd_hv f n) li (rd_S f n) t) s).1.2.1 ≤ li := fun q => c3 ((le_nI (by omega) (by omega)).mpr q)
              have nw := ch_s_new (g := fun s => rd_hv f n s t) (li := li) (t := t) (C := ch_all (rd_hv f n) li (rd_S f n) t) (s := s) c ⟨e1, by omega⟩
              refine s_ends (by omega) (by omega) (fun _ => ⟨rfl, rfl⟩) hK (fun r2 hK2 hk3 => ?_)
              rw [nw]
              dsimp only
              refine ⟨hK2, hk2.tr hk3, ?_, c, rfl, Or.inl ⟨rfl, rfl⟩⟩
              show nI 0 + nI _ = _
              rw [nI_add, Nat.zero_add]
    · intro x2 x3 x4 r' ag2 hI2
      obtain ⟨hK, hk2, rfl, hx⟩ := hI2
      have hM2 := hM.mk2 hk2
      have bd := rd_ch_bd (f := f) (li := li) (s := rd_S f n) hn ht (Nat.le_refl _)
      rw [hM2.2.2.2.1]
      refine ⟨fun _ => ?_, fun q => absurd ((le_nI (by omega) (by omega)).mpr (Nat.le_refl _)) q⟩
      refine s_ends (a := (ch_s (fun s => rd_hv f n s t) li t (ch_all (rd_hv f n) li (rd_S f n) t) (rd_S f n)).1.1) (b := (ch_s (fun s => rd_hv f n s t) li t (ch_all (rd_hv f n) li (rd_S f n) t) (rd_S f n)).1.2.1) (by omega) (by omega) (fun q => ?_) hK (fun r2 hK2 hk3 => ?_)
      · rcases hx with ⟨e1, e2⟩ | ⟨e1, e2, e3⟩
        · omega
        · exact ⟨e2, e3⟩
      · rintro y rfl
        rw [nI_1]
        exact hag _ ⟨hK2, hk2.tr hk3⟩
  · intro r ag hI
    have hM' := hM.mk2 hI.2
    rw [hM'.2.2.2.2.2.1]
    exact ⟨fun _ => h σ1 r hM hk hM' hI.1 hI.2, fun q => absurd ((le_nI (by omega) (by omega)).mpr (Nat.le_refl _)) q⟩
