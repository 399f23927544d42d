/-! ===== facts of a reading that later tables rest on ===== -/
theorem sm_ind (x : Nat) : ∀ K, fb_sm (fun t => if x = t then 1 else 0) K ≤ 1 ∧ (K ≤ x → fb_sm (fun t => if x = t then 1 else 0) K = 0) ∧ (x < K → fb_sm (fun t => if x = t then 1 else 0) K = 1)
  | 0 => ⟨Nat.zero_le _, fun _ => rfl, fun h => absurd h (Nat.not_lt_zero x)⟩
  | K + 1 => by
    obtain ⟨h1, h2, h3⟩ := sm_ind x K
    rw [fb_sm_succ]
    by_cases e : x = K
    · rw [if_pos e]
      have := h2 (by omega)
      exact ⟨by omega, fun q => absurd q (by omega), fun _ => by omega⟩
    · rw [if_neg e]
      exact ⟨by omega, fun q => by have := h2 (by omega); omega, fun q => by have := h3 (by omega); omega⟩
/-- summed over all values, how often each is taken -/
theorem sm_ct {P : Nat → Nat} {R : Nat → Bool} {K : Nat} : ∀ {c : Nat}, (∀ k, k < c → P k < K) → fb_sm (fun t => fb_ct (fun k => decide (P k = t) && R k) c) K = fb_ct R c
  | 0, _ => by
    show fb_sm (fun _ => 0) K = 0
    rw [fb_sm_const]
    simp
  | c + 1, h => by
    have ih := sm_ct (P := P) (R := R) (K := K) (c := c) (fun k hk => h k (by omega))
    have e : fb_sm (fun t => fb_ct (fun k => decide (P k = t) && R k) (c + 1)) K = fb_sm (fun t => fb_ct (fun k => decide (P k = t) && R k) c + (if P c = t then (if R c then 1 else 0) else 0)) K := fb_sm_cong (fun t _ => by
      rw [fb_ct_succ]
      by_cases e : P c = t
      · cases hR : R c <;> simp [e, hR]
      · simp [e])
    rw [e, fb_sm_add, ih, fb_ct_succ]
    congr 1
    cases hR : R c
    · simp
      rw [fb_sm_const]
      simp
    · simp
      exact (sm_ind (P c) K).2.2 (h c (by omega))
theorem rd_sn_lt {f : Nat → Nat} {n k : Nat} (hk : k < rd_W f n) : rd_sn f n k < rd_K f n := sp_sn_lt hk
/-- the words of a stem, sentence by sentence -/
theorem rd_ct_sum {f : Nat → Nat} {n t : Nat} (hn : n ≤ 200) : fb_sm (fun s => rd_hv f n s t) (rd_S f n) = rd_ct f n t := by
  obtain ⟨r1, r2, r3, r4, r5, r6⟩ := rd_ok (f := f) hn
  have h := sm_ct (P := sp_tN f n) (R := fun k => decide (rd_sn f n k = t)) (K := rd_S f n) (c := rd_W f n) (fun k hk => (r4 k hk).2.2.2.2)
  rw [← show rd_ct f n t = fb_ct (fun k => decide (rd_sn f n k = t)) (rd_W f n) from rfl] at h
  rw [← h]
  exact fb_sm_cong (fun s _ => by
    unfold rd_hv
    exact fb_ct_cong (fun k _ => by simp))
theorem rd_ct_all {f : Nat → Nat} {n : Nat} : fb_sm (fun t => rd_ct f n t) (rd_K f n) = rd_W f n := by
  have h := sm_ct (P := rd_sn f n) (R := fun _ => true) (K := rd_K f n) (c := rd_W f n) (fun k hk => rd_sn_lt hk)
  rw [show fb_ct (fun _ => true) (rd_W f n) = rd_W f n from fb_ct_all.mpr (fun _ _ => rfl)] at h
  rw [← h]
  exact fb_sm_cong (fun t _ => by
    unfold rd_ct
    exact fb_ct_cong (fun k _ => by simp))
theorem rd_hv_le {f : Nat → Nat} {n s t : Nat} (hn : n ≤ 200) : rd_hv f n s t ≤ 100 := by
  have := fb_ct_le (fun k => decide (sp_tN f n k = s ∧ rd_sn f n k = t)) (rd_W f n)
  have := (rd_ok (f := f) hn).1
  unfold rd_hv
  omega
/-- a stem's first word bears it -/
theorem sp_lk_rf {f : Nat → Nat} {a s : Nat} : sp_lk f a s a s = true := sp_lk_iff.mpr ⟨rfl, fun _ _ => rfl⟩
theorem sp_sn_sw (f A G : Nat → Nat) : ∀ c t, t < (sp_st f A G c).1 → sp_sn f A G ((sp_st f A G c).2 t) = t ∧ ∀ k, k < c → sp_sn f A G k = t → (sp_st f A G c).2 t ≤ k
  | 0, t, ht => absurd ht (Nat.not_lt_zero t)
  | c + 1, t, ht => by
    by_cases h : sp_sn f A G c < (sp_st f A G c).1
    · rw [sp_st_old h] at ht ⊢
      obtain ⟨i1, i2⟩ := sp_sn_sw f A G c t ht
      refine ⟨i1, fun k hk e => ?_⟩
      by_cases ek : k = c
      · rw [ek]
        exact Nat.le_of_lt ((sp_st_le f A G c).2 t ht)
      · exact i2 k (by omega) e
    · have hle := sp_sn_le f A G c
      rw [sp_st_new h] at ht ⊢
      dsimp only at ht ⊢
      by_cases e : t = (sp_st f A G c).1
      · rw [if_pos e]
        refine ⟨by omega, fun k hk e2 => ?_⟩
        by_cases ek : k = c
        · omega
        · have := sp_sn_lt (f := f) (A := A) (G := G) (show k < c by omega)
          omega
      · rw [if_neg e]
        obtain ⟨i1, i2⟩ := sp_sn_sw f A G c t (by omega)
        refine ⟨i1, fun k hk e2 => ?_⟩
        by_cases ek : k = c
        · rw [ek]
          exact Nat.le_of_lt ((sp_st_le f A G c).2 t (by omega))
        · exact i2 k (by omega) e2
theorem sp_la_ge {N sn : Nat → Nat} {t : Nat} : ∀ {c : Nat}, (∀ k k', k ≤ k' → k' < c → N k ≤ N k') → ∀ k, k < c → sn k = t → N k ≤ sp_la N sn c t ∧ ∃ k', k' < c ∧ sn k' = t ∧ N k' = sp_la N sn c t
  | 0, _, k, hk, _ => absurd hk (Nat.not_lt_zero k)
  | c + 1, hm, k, hk, e => by
    show N k ≤ (if sn c = t then N c else sp_la N sn c t) ∧ ∃ k', k' < c + 1 ∧ sn k' = t ∧ N k' = (if sn c = t then N c else sp_la N sn c t)
    by_cases ec : sn c = t
    · rw [if_pos ec]
      exact ⟨hm k c (by omega) (by omega), c, by omega, ec, rfl⟩
    · rw [if_neg ec]
      have hkc : k < c := by
        by_cases q : k = c
        · rw [q] at e
          exact absurd e ec
        · omega
      obtain ⟨i1, k', i2, i3, i4⟩ := sp_la_ge (c := c) (fun a b h1 h2 => hm a b h1 (by omega)) k hkc e
      exact ⟨i1, k', by omega, i3, i4⟩
/-- the first and the last sentence of a stem -/
theorem rd_first {f : Nat → Nat} {n t : Nat} (hn : n ≤ 200) (ht : t < rd_K f n) : 0 < rd_hv f n (sp_tN f n (rd_sw f n t)) t ∧ 0 < rd_hv f n (rd_la f n t) t ∧ sp_tN f n (rd_sw f n t) ≤ rd_la f n t ∧ rd_la f n t < rd_S f n ∧ ∀ s, 0 < rd_hv f n s t → sp_tN f n (rd_sw f n t) ≤ s ∧ s ≤ rd_la f n t := by
  obtain ⟨r1, r2, r3, r4, r5, r6⟩ := rd_ok (f := f) hn
  have hsw := sp_sn_sw f (sp_tA f n) (sp_tG f n) (rd_W f n) t ht
  have hlt := (sp_st_le f (sp_tA f n) (sp_tG f n) (rd_W f n)).2 t ht
  have hla := sp_la_ge (N := sp_tN f n) (sn := rd_sn f n) (t := t) (c := rd_W f n) r5 (rd_sw f n t) hlt hsw.1
  obtain ⟨l1, k', l2, l3, l4⟩ := hla
  have el : rd_la f n t = sp_la (sp_tN f n) (rd_sn f n) (rd_W f n) t := rfl
  refine ⟨fb_ct_pos.mpr ⟨rd_sw f n t, hlt, by simp; exact hsw.1⟩, fb_ct_pos.mpr ⟨k', l2, by simp [l3, l4, el]⟩, l1, ?_, fun s hs => ?_⟩
  · rw [el, ← l4]
    exact (r4 k' l2).2.2.2.2
  · obtain ⟨k, k1, k2⟩ := fb_ct_pos.mp hs
    simp at k2
    have k3 := hsw.2 k k1 k2.2
    have k4 := r5 _ _ k3 k1
    have k5 := (sp_la_ge (N := sp_tN f n) (sn := rd_sn f n) (t := t) (c := rd_W f n) r5 k k1 k2.2).1
    rw [k2.1] at k4 k5
    exact ⟨k4, k5⟩
/-! ===== CHAINS ===== -/
abbrev chS : Type := Nat × (Nat → Nat × Nat × Nat × Nat)
def ch_add (q : Nat × Nat × Nat × Nat) (C : chS) : chS := if q.2.2.2 < 2 then C else (C.1 + 1, fun i => if i = C.1 then q else C.2 i)
def ch_s (g : Nat → Nat) (li t : Nat) (C : chS) : Nat → (Nat × Nat × Nat) × chS
  | 0 => ((0, 0, 0), C)
  | s + 1 => if g s = 0 then ch_s g li t C s else if (ch_s g li t C s).1.2.2 ≠ 0 ∧ li < s - (ch_s g li t C s).1.2.1 then ((s, s, g s), ch_add (t, (ch_s g li t C s).1) (ch_s g li t C s).2) else (((if (ch_s g li t C s).1.2.2 = 0 then s else (ch_s g li t C s).1.1), s, (ch_s g li t C s).1.2.2 + g s), (ch_s g li t C s).2)
def ch_all (hv : Nat → Nat → Nat) (li S : Nat) : Nat → chS
  | 0 => (0, fun _ => (0, 0, 0, 0))
  | t + 1 => ch_add (t, (ch_s (fun s => hv s t) li t (ch_all hv li S t) S).1) (ch_s (fun s => hv s t) li t (ch_all hv li S t) S).2
def rd_ch (f : Nat → Nat) (n li : Nat) : chS := ch_all (rd_hv f n) li (rd_S f n) (rd_K f n)
theorem ch_add_le (q : Nat × Nat × Nat × Nat) (C : chS) : 2 * (ch_add q C).1 ≤ 2 * C.1 + q.2.2.2 := by
  unfold ch_add
  split
  · omega
  · dsimp only
    omega
theorem ch_s_le (g : Nat → Nat) (li t : Nat) (C : chS) : ∀ s, 2 * (ch_s g li t C s).2.1 + (ch_s g li t C s).1.2.2 ≤ 2 * C.1 + fb_sm g s
  | 0 => Nat.le_refl _
  | s + 1 => by
    have ih := ch_s_le g li t C s
    rw [fb_sm_succ]
    unfold ch_s
    split
    · omega
    · split
      · have := ch_add_le (t, (ch_s g li t C s).1) (ch_s g li t C s).2
        dsimp only at this ⊢
        omega
      · dsimp only
        omega
theorem ch_all_le (hv : Nat → Nat → Nat) (li S : Nat) : ∀ t, 2 * (ch_all hv li S t).1 ≤ fb_sm (fun t => fb_sm (fun s => hv s t) S) t
  | 0 => Nat.le_refl _
  | t + 1 => by
    have ih := ch_all_le hv li S t
    have h := ch_s_le (fun s => hv s t) li t (ch_all hv li S t) S
    have h2 := ch_add_le (t, (ch_s (fun s => hv s t) li t (ch_all hv li S t) S).1) (ch_s (fun s => hv s t) li t (ch_all hv li S t) S).2
    rw [fb_sm_succ]
    show 2 * (ch_add _ _).1 ≤ _
    dsimp only at h2
    omega
theorem ch_s_0 {g : Nat → Nat} {li t : Nat} {C : chS} {s : Nat} (h : g s = 0) : ch_s g li t C (s + 1) = ch_s g li t C s := by
  show (if g s = 0 then _ else _) = _
  exact if_pos h
theorem ch_s_new {g : Nat → Nat} {li t : Nat} {C : chS} {s : Nat} (h : ¬ g s = 0) (h2 : (ch_s g li t C s).1.2.2 ≠ 0 ∧ li < s - (ch_s g li t C s).1.2.1) : ch_s g li t C (s + 1) = ((s, s, g s), ch_add (t, (ch_s g li t C s).1) (ch_s g li t C s).2) := by
  show (if g s = 0 then _ else _) = _
  rw [if_neg h, if_pos h2]
theorem ch_s_on {g : Nat → Nat} {li t : Nat} {C : chS} {s : Nat} (h : ¬ g s = 0) (h2 : ¬ ((ch_s g li t C s).1.2.2 ≠ 0 ∧ li < s - (ch_s g li t C s).1.2.1)) : ch_s g li t C (s + 1) = (((if (ch_s g li t C s).1.2.2 = 0 then s else (ch_s g li t C s).1.1), s, (ch_s g li t C s).1.2.2 + g s), (ch_s g li t C s).2) := by
  show (if g s = 0 then _ else _) = _
  rw [if_neg h, if_neg h2]
/-- as long as nothing has come, nothing is open -/
theorem ch_s_pre {g : Nat → Nat} {li t : Nat} {C : chS} : ∀ {s : Nat}, (∀ i, i < s → g i = 0) → ch_s g li t C s = ((0, 0, 0), C)
  | 0, _ => rfl
  | s + 1, h => by rw [ch_s_0 (h s (by omega)), ch_s_pre (fun i hi => h i (by omega))]
theorem ch_s_post {g : Nat → Nat} {li t : Nat} {C : chS} {s : Nat} : ∀ {d : Nat}, (∀ i, s ≤ i → i < s + d → g i = 0) → ch_s g li t C (s + d) = ch_s g li t C s
  | 0, _ => rfl
  | d + 1, h => by rw [show s + (d + 1) = (s + d) + 1 from rfl, ch_s_0 (h (s + d) (by omega) (by omega)), ch_s_post (fun i h1 h2 => h i h1 (by omega))]
/-- what is open lies behind, and is small -/
theorem ch_s_ok {g : Nat → Nat} {li t : Nat} {C : chS} : ∀ s, (ch_s g li t C s).1.2.2 ≤ fb_sm g s ∧ ((ch_s g li t C s).1.2.2 ≠ 0 → (ch_s g li t C s).1.1 ≤ (ch_s g li t C s).1.2.1 ∧ (ch_s g li t C s).1.2.1 < s) ∧ ((ch_s g li t C s).1.2.2 = 0 → ∀ i, i < s → g i = 0)
  | 0 => ⟨Nat.le_refl _, fun h => absurd rfl h, fun _ i hi => absurd hi (Nat.not_lt_zero i)⟩
  | s + 1 => by
    obtain ⟨h1, h2, h3⟩ := ch_s_ok (g := g) (li := li) (t := t) (C := C) s
    rw [fb_sm_succ]
    by_cases e : g s = 0
    · rw [ch_s_0 e]
      refine ⟨by omega, fun q => ⟨(h2 q).1, by have := (h2 q).2; omega⟩, fun q i hi => ?_⟩
      by_cases ei : i = s
      · rw [ei]; exact e
      · exact h3 q i (by omega)
    · by_cases e2 : (ch_s g li t C s).1.2.2 ≠ 0 ∧ li < s - (ch_s g li t C s).1.2.1
      · rw [ch_s_new e e2]
        exact ⟨by dsimp only; omega, fun _ => ⟨Nat.le_refl _, Nat.lt_succ_self s⟩, fun q => absurd q e⟩
      · rw [ch_s_on e e2]
        dsimp only
        refine ⟨by omega, fun _ => ⟨?_, Nat.lt_succ_self s⟩, fun q => absurd q (by omega)⟩
        split
        · exact Nat.le_refl _
        · have := h2 (by assumption)
          omega
/-- all cells but those from lo to hi are as they were -/
def bt (lo hi : Nat) (σ σ' : tzS) : Prop := (∀ a, (a < lo ∨ hi < a) → σ'.1 a = σ.1 a) ∧ σ'.2 = σ.2
theorem bt.rf {lo hi : Nat} {σ : tzS} : bt lo hi σ σ := ⟨fun _ _ => rfl, rfl⟩
theorem bt.tr {lo hi : Nat} {σ σ' σ'' : tzS} (h : bt lo hi σ σ') (h2 : bt lo hi σ' σ'') : bt lo hi σ σ'' := ⟨fun a ha => (h2.1 a ha).trans (h.1 a ha), h2.2.trans h.2⟩
theorem bt.st {lo hi k j : Nat} {σ σ' : tzS} {v : Int32} (h : bt lo hi σ σ') (hk : lo ≤ k ∧ k ≤ hi) : bt lo hi σ (tz_st σ' k j v) := ⟨fun a ha => by rw [st_ne (by omega)]; exact h.1 a ha, h.2⟩
/-- the class's table of chains -/
def LK (C : chS) (σ : tzS) : Prop := σ.1 38 0 = nI C.1 ∧ ∀ i, i < C.1 → σ.1 39 i = nI (C.2 i).1 ∧ σ.1 40 i = nI (C.2 i).2.1 ∧ σ.1 41 i = nI (C.2 i).2.2.1 ∧ σ.1 42 i = nI (C.2 i).2.2.2
def LinkOK (f : Nat → Nat) (n li : Nat) (σ : tzS) : Prop := LK (rd_ch f n li) σ
theorem s_keep1 {C : chS} {t a b w : Nat} (hw : w < 1000) (hC : C.1 < 100) {σ : tzS} (hL : LK C σ) {Q : tzS → Prop} (h : ∀ σ', LK (ch_add (t, a, b, w) C) σ' → bt 38 42 σ σ' → Q σ') : vc_X1_keep (nI t) (nI a) (nI b) (nI w) σ Q := by
  obtain ⟨l1, l2⟩ := id hL
  unfold vc_X1_keep
  unfold ch_add at h
  dsimp only at h
  refine ⟨fun c => ?_, fun c => ?_⟩
  · have c := (lt_nI (b := 2) (by omega) (by omega)).mp c
    rw [if_pos c] at h
    exact h σ hL bt.rf
  · have c : ¬ w < 2 := fun q => c ((lt_nI (b := 2) (by omega) (by omega)).mpr q)
    rw [if_neg c] at h
    rw [l1, cl_nI (by omega)]
    refine ⟨fun _ => ⟨in_nI hC (by omega), ?_⟩, fun q => absurd ((lt_nI (b := 100) (by omega) (by omega)).mpr hC) q⟩
    intro σ3 h3
    rw [show σ3.1 38 0 = nI C.1 by rw [h3, st_ne (by decide)]; exact l1, cl_nI (by omega)]
    refine ⟨in_nI hC (by omega), ?_⟩
    intro σ5 h5
    rw [show σ5.1 38 0 = nI C.1 by rw [h5, st_ne (by decide), h3, st_ne (by decide)]; exact l1, cl_nI (by omega)]
    refine ⟨in_nI hC (by omega), ?_⟩
    intro σ7 h7
    rw [show σ7.1 38 0 = nI C.1 by rw [h7, st_ne (by decide), h5, st_ne (by decide), h3, st_ne (by decide)]; exact l1, cl_nI (by omega)]
    refine ⟨in_nI hC (by omega), ?_⟩
    intro σ9 h9
    rw [show σ9.1 38 0 = nI C.1 by rw [h9, st_ne (by decide), h7, st_ne (by decide), h5, st_ne (by decide), h3, st_ne (by decide)]; exact l1]
    intro σ11 h11
    have k3 : bt 38 42 σ σ3 := h3 ▸ bt.rf.st (by omega)
    have k5 : bt 38 42 σ σ5 := h5 ▸ k3.st (by omega)
    have k7 : bt 38 42 σ σ7 := h7 ▸ k5.st (by omega)
    have k9 : bt 38 42 σ σ9 := h9 ▸ k7.st (by omega)
    have k11 : bt 38 42 σ σ11 := h11 ▸ k9.st (by omega)
    refine h σ11 ⟨by rw [h11, st_eq, nI_1], fun i hi => ?_⟩ k11
    dsimp only at hi ⊢
    have q39 : σ11.1 39 = σ3.1 39 := by rw [h11, st_ne (by decide), h9, st_ne (by decide), h7, st_ne (by decide), h5, st_ne (by decide)]
    have q40 : σ11.1 40 = σ5.1 40 := by rw [h11, st_ne (by decide), h9, st_ne (by decide), h7, st_ne (by decide)]
    have q41 : σ11.1 41 = σ7.1 41 := by rw [h11, st_ne (by decide), h9, st_ne (by decide)]
    have q42 : σ11.1 42 = σ9.1 42 := by rw [h11, st_ne (by decide)]
    rw [q39, q40, q41, q42]
    by_cases e : i = C.1
    · rw [if_pos e, e, h3, h5, h7, h9, st_eq, st_eq, st_eq, st_eq]
      exact ⟨rfl, rfl, rfl, rfl⟩
    · rw [if_neg e]
      obtain ⟨o1, o2, o3, o4⟩ := l2 i (by omega)
      refine ⟨?_, ?_, ?_, ?_⟩
      · rw [h3, st_nj e]; exact o1
      · rw [h5, st_nj e, h3, st_ne (by decide)]; exact o2
      · rw [h7, st_nj e, h5, st_ne (by decide), h3, st_ne (by decide)]; exact o3
      · rw [h9, st_nj e, h7, st_ne (by decide), h5, st_ne (by decide), h3, st_ne (by decide)]; exact o4
