/-! ===== BLOCKS ===== -/
/-- the place of the x-th sentence when d is left out (none, if d is no less than how many there are) -/
def dm (d x : Nat) : Nat := if x < d then x else x + 1
def bk_c (hv : Nat → Nat → Nat) (d i j t : Nat) : Nat := fb_sm (fun y => hv (dm d (i + y)) t) (j - i)
def bk_w (hv : Nat → Nat → Nat) (K d i j : Nat) : Nat := fb_sm (fun t => bk_c hv d i j t) K
def bk_u (hv : Nat → Nat → Nat) (K d i j : Nat) : Nat := fb_ct (fun t => decide (0 < bk_c hv d i j t)) K
def bk_o (hv : Nat → Nat → Nat) (K d i j : Nat) : Nat := fb_ct (fun t => decide (bk_c hv d i j t = 1)) K
def bk_p (ru w u o : Nat) : Nat := if ru = 0 then 2 * u else if ru = 1 then u * u else if ru = 2 then w + 3 * o else 4 * u - (w - u)
def rd_cost (f : Nat → Nat) (n ru fe d i j : Nat) : Nat := bk_p ru (bk_w (rd_hv f n) (rd_K f n) d i j) (bk_u (rd_hv f n) (rd_K f n) d i j) (bk_o (rd_hv f n) (rd_K f n) d i j) + fe
/-- how many sentences are left -/
def Sd (S d : Nat) : Nat := if d < S then S - 1 else S
def pl (d x : Nat) : Nat := if d < x then x + 1 else x
/-- the block from i to ahead of j, sentence by sentence from place to place, but without d -/
theorem bk_c_eq (hv : Nat → Nat → Nat) (d i t : Nat) : ∀ e, fb_sm (fun y => if pl d i + y = d then 0 else hv (pl d i + y) t) (pl d (i + e) - pl d i) = bk_c hv d i (i + e) t
  | 0 => by
    unfold bk_c
    rw [Nat.add_zero, Nat.sub_self, Nat.sub_self]
    rfl
  | e + 1 => by
    have ih := bk_c_eq hv d i t e
    unfold bk_c at ih ⊢
    rw [show i + (e + 1) - i = (i + e - i) + 1 by omega, fb_sm_succ, ← ih]
    by_cases q : i + e = d
    · have e1 : pl d (i + (e + 1)) - pl d i = (pl d (i + e) - pl d i) + 1 + 1 := by
        unfold pl
        rw [if_pos (by omega), if_neg (by omega), if_neg (by omega)]
        omega
      have e2 : pl d i + (pl d (i + e) - pl d i) = d := by
        unfold pl
        rw [if_neg (by omega), if_neg (by omega)]
        omega
      rw [e1, fb_sm_succ, fb_sm_succ, if_pos e2, if_neg (by omega), show pl d i + (pl d (i + e) - pl d i + 1) = d + 1 by omega, show i + (i + e - i) = d by omega]
      unfold dm
      rw [if_neg (Nat.lt_irrefl d)]
      omega
    · have e1 : pl d (i + (e + 1)) - pl d i = (pl d (i + e) - pl d i) + 1 := by
        unfold pl
        repeat' split
        all_goals omega
      have e2 : pl d i + (pl d (i + e) - pl d i) = dm d (i + e) := by
        unfold pl dm
        repeat' split
        all_goals omega
      have e3 : dm d (i + e) ≠ d := by
        unfold dm
        split <;> omega
      rw [e1, fb_sm_succ, e2, if_neg e3, show i + (i + e - i) = i + e by omega]
theorem sm_le2 {g h : Nat → Nat} {n m : Nat} (h1 : ∀ y, y < n → g y ≤ h y) (h2 : n ≤ m) : fb_sm g n ≤ fb_sm h m := Nat.le_trans (fb_sm_le h1) (sm_le_of h2)
theorem sm_shift_le (h : Nat → Nat) (a : Nat) (n : Nat) : fb_sm (fun y => h (a + y)) n ≤ fb_sm h (a + n) := by
  rw [fb_sm_split h a n]
  omega
theorem bk_c_le {f : Nat → Nat} {n d i j t : Nat} (hn : n ≤ 200) (hij : i ≤ j) (hj : j ≤ Sd (rd_S f n) d) : bk_c (rd_hv f n) d i j t ≤ rd_ct f n t := by
  have e := bk_c_eq (rd_hv f n) d i t (j - i)
  rw [show i + (j - i) = j by omega] at e
  rw [← e, ← rd_ct_sum hn]
  have hp : pl d j ≤ rd_S f n ∧ pl d i ≤ pl d j := by
    unfold Sd at hj
    unfold pl
    repeat' split
    all_goals (first | omega | (split at hj <;> omega))
  refine Nat.le_trans (fb_sm_le (g := fun y => rd_hv f n (pl d i + y) t) (fun y _ => ?_)) (Nat.le_trans (sm_shift_le (fun s => rd_hv f n s t) (pl d i) _) (sm_le_of (by omega)))
  split
  · omega
  · exact Nat.le_refl _
theorem rd_ct_le {f : Nat → Nat} {n t : Nat} (hn : n ≤ 200) : rd_ct f n t ≤ 100 := by
  have := fb_ct_le (fun k => decide (rd_sn f n k = t)) (rd_W f n)
  have := (rd_ok (f := f) hn).1
  unfold rd_ct
  omega
theorem bk_bd {f : Nat → Nat} {n d i j : Nat} (hn : n ≤ 200) (hij : i ≤ j) (hj : j ≤ Sd (rd_S f n) d) : bk_w (rd_hv f n) (rd_K f n) d i j ≤ 100 ∧ bk_u (rd_hv f n) (rd_K f n) d i j ≤ bk_w (rd_hv f n) (rd_K f n) d i j ∧ bk_u (rd_hv f n) (rd_K f n) d i j ≤ 100 ∧ bk_o (rd_hv f n) (rd_K f n) d i j ≤ 100 := by
  obtain ⟨r1, r2, r3, -⟩ := rd_ok (f := f) hn
  have h1 : bk_w (rd_hv f n) (rd_K f n) d i j ≤ rd_W f n := by
    rw [← rd_ct_all]
    exact fb_sm_le (fun t _ => bk_c_le hn hij hj)
  have h2 : bk_u (rd_hv f n) (rd_K f n) d i j ≤ bk_w (rd_hv f n) (rd_K f n) d i j := by
    unfold bk_u bk_w
    generalize rd_K f n = K
    induction K with
    | zero => exact Nat.le_refl _
    | succ K ih =>
      rw [fb_ct_succ, fb_sm_succ]
      by_cases q : 0 < bk_c (rd_hv f n) d i j K
      · rw [if_pos (by simp [q])]
        omega
      · rw [if_neg (by simp; omega)]
        omega
  have h3 := fb_ct_le (fun t => decide (0 < bk_c (rd_hv f n) d i j t)) (rd_K f n)
  have h4 := fb_ct_le (fun t => decide (bk_c (rd_hv f n) d i j t = 1)) (rd_K f n)
  unfold bk_u bk_o at *
  exact ⟨by omega, h2, by omega, by omega⟩
theorem bk_p_le {ru w u o : Nat} (hw : w ≤ 100) (hu : u ≤ 100) (ho : o ≤ 100) : bk_p ru w u o ≤ 10000 := by
  unfold bk_p
  have : u * u ≤ 100 * 100 := Nat.mul_le_mul hu hu
  repeat' split
  all_goals omega
theorem rd_cost_le {f : Nat → Nat} {n ru fe d i j : Nat} (hn : n ≤ 200) (hfe : fe ≤ 40) (hij : i ≤ j) (hj : j ≤ Sd (rd_S f n) d) : rd_cost f n ru fe d i j ≤ 10040 := by
  obtain ⟨b1, b2, b3, b4⟩ := bk_bd (f := f) (d := d) hn hij hj
  have := bk_p_le (ru := ru) b1 b3 b4
  unfold rd_cost
  omega
/-! the words of a sentence lie together -/
theorem ct_pre {R : Nat → Bool} : ∀ {c : Nat}, (∀ k k', k ≤ k' → k' < c → R k' = true → R k = true) → ∀ k, k < c → (R k = true ↔ k < fb_ct R c)
  | 0, _, k, hk => absurd hk (Nat.not_lt_zero k)
  | c + 1, hm, k, hk => by
    have ih := ct_pre (R := R) (c := c) (fun a b h1 h2 => hm a b h1 (by omega))
    have hle := fb_ct_le R c
    rw [fb_ct_succ]
    by_cases hc : R c = true
    · have hall : fb_ct R c = c := fb_ct_all.mpr (fun a ha => hm a c (by omega) (by omega) hc)
      rw [if_pos hc, hall]
      exact ⟨fun _ => by omega, fun _ => hm k c (by omega) (by omega) hc⟩
    · rw [if_neg hc, Nat.add_zero]
      by_cases e : k = c
      · rw [e]
        exact ⟨fun q => absurd q hc, fun q => absurd q (by omega)⟩
      · exact ih k (by omega)
theorem rd_in {f : Nat → Nat} {n s k : Nat} (hn : n ≤ 200) (hk : k < rd_W f n) : sp_tN f n k = s ↔ (rd_fw f n s ≤ k ∧ k < rd_fw f n s + rd_wi f n s) := by
  obtain ⟨r1, r2, r3, r4, r5, r6⟩ := rd_ok (f := f) hn
  have a := ct_pre (R := fun k => decide (sp_tN f n k < s)) (c := rd_W f n) (fun x y h1 h2 h3 => by have := r5 x y h1 h2; simp at h3 ⊢; omega) k hk
  have b := ct_pre (R := fun k => decide (sp_tN f n k < s + 1)) (c := rd_W f n) (fun x y h1 h2 h3 => by have := r5 x y h1 h2; simp at h3 ⊢; omega) k hk
  have e : fb_ct (fun k => decide (sp_tN f n k < s + 1)) (rd_W f n) = rd_fw f n s + rd_wi f n s := by
    unfold rd_fw rd_wi
    rw [← fb_ct_or (fun k _ => by simp; omega)]
    exact fb_ct_cong (fun k _ => by
      by_cases q : sp_tN f n k < s + 1
      · by_cases q2 : sp_tN f n k < s
        · simp [q, q2]
        · have : sp_tN f n k = s := by omega
          simp [this]
      · have h1 : ¬ sp_tN f n k < s := by omega
        have h2 : ¬ sp_tN f n k = s := by omega
        simp [q, h1, h2])
  rw [e] at b
  have ea : fb_ct (fun k => decide (sp_tN f n k < s)) (rd_W f n) = rd_fw f n s := rfl
  rw [ea] at a
  simp only [decide_eq_true_eq] at a b
  omega
theorem rd_wi_le {f : Nat → Nat} {n s : Nat} : rd_fw f n s + rd_wi f n s ≤ rd_W f n := by
  unfold rd_fw rd_wi
  rw [← fb_ct_or (fun k _ => by simp; omega)]
  exact fb_ct_le _ _
/-- so a sentence's words of a stem are counted word by word -/
theorem rd_hv_eq {f : Nat → Nat} {n s t : Nat} (hn : n ≤ 200) : rd_hv f n s t = fb_ct (fun w => decide (rd_sn f n (rd_fw f n s + w) = t)) (rd_wi f n s) := by
  have hle := rd_wi_le (f := f) (n := n) (s := s)
  unfold rd_hv
  have e1 : rd_W f n = rd_fw f n s + (rd_wi f n s + (rd_W f n - (rd_fw f n s + rd_wi f n s))) := by omega
  have e : fb_ct (fun k => decide (sp_tN f n k = s ∧ rd_sn f n k = t)) (rd_W f n) = fb_ct (fun k => decide (sp_tN f n k = s ∧ rd_sn f n k = t)) (rd_fw f n s + (rd_wi f n s + (rd_W f n - (rd_fw f n s + rd_wi f n s)))) := by rw [← e1]
  rw [e, fb_ct_split, fb_ct_split]
  have z1 : fb_ct (fun k => decide (sp_tN f n k = s ∧ rd_sn f n k = t)) (rd_fw f n s) = 0 := fb_ct_zero.mpr (fun k hk => by
    have := (rd_in (f := f) (s := s) hn (show k < rd_W f n by omega))
    simp
    intro q
    have := this.mp q
    omega)
  have z2 : fb_ct (fun k => decide (sp_tN f n (rd_fw f n s + (rd_wi f n s + k)) = s ∧ rd_sn f n (rd_fw f n s + (rd_wi f n s + k)) = t)) (rd_W f n - (rd_fw f n s + rd_wi f n s)) = 0 := fb_ct_zero.mpr (fun k hk => by
    have := (rd_in (f := f) (s := s) hn (show rd_fw f n s + (rd_wi f n s + k) < rd_W f n by omega))
    simp
    intro q
    have := this.mp q
    omega)
  rw [z1, z2, Nat.zero_add, Nat.add_zero]
  exact fb_ct_cong (fun w hw => by
    have := (rd_in (f := f) (s := s) hn (show rd_fw f n s + w < rd_W f n by omega)).mpr (by omega)
    simp [this])
/-- a sentence has nine words at most: rd_W of a text without fault -/
theorem rd_wi9 {f : Nat → Nat} {n s : Nat} (hn : n ≤ 200) : rd_wi f n s ≤ 9 := by
  by_cases hw : sp_well f n = true
  · obtain ⟨ho, hh⟩ := sp_well_ok hw
    have eW : rd_W f n = sp_wc f n := if_pos hw
    unfold rd_wi
    rw [eW]
    have key : ∀ p, p ≤ n → fb_ct (fun k => decide (sp_tN f p k = s)) (sp_wc f p) ≤ 9 := by
      intro p
      induction p with
      | zero => intro _; exact Nat.zero_le _
      | succ p ih =>
        intro hp
        have ih := ih (by omega)
        have hop : sp_ok f p := fun q hq => ho q (by omega)
        have hop1 : sp_ok f (p + 1) := fun q hq => ho q (by omega)
        have hJ := sp_ok_J hop1
        have hWT := sp_WT_ok hop1
        by_cases hs : sp_start f p = true
        · by_cases e : s = (sp_at f (p + 1)).2.2.1
          · rw [e, ← hWT.2.2.2.1]
            unfold sp_J at hJ
            omega
          · rw [sp_wc_t hs, fb_ct_succ]
            have hL : sp_L (f p) = true := by
              simp [sp_start] at hs
              exact hs.1
            have h2 : (sp_at f p).1 ≠ 2 := by
              simp [sp_start] at hs
              exact hs.2
            have ea := sp_at_t hL h2
            rw [ea] at e
            rw [sp_tN_t hs, if_pos rfl, if_neg (by simp; exact fun z => e z.symm), Nat.add_zero, fb_ct_cong (q := fun k => decide (sp_tN f p k = s)) (fun k hk => by rw [sp_tN_t hs, if_neg (by omega)])]
            exact ih
        · have hs' : sp_start f p = false := by simpa using hs
          rw [sp_wc_n hs', fb_ct_cong (q := fun k => decide (sp_tN f p k = s)) (fun k hk => by rw [sp_tN_n hs'])]
          exact ih
    exact key n (Nat.le_refl n)
  · have eW : rd_W f n = 0 := if_neg hw
    unfold rd_wi
    rw [eW]
    exact Nat.zero_le _
/-! one word more -/
theorem sm_up {q : Nat → Nat} {t K : Nat} (ht : t < K) : fb_sm (fun k => if k = t then q t + 1 else q k) K = fb_sm q K + 1 := by
  have := fb_sm_upd q (q t + 1) ht
  omega
theorem ct_up1 {q : Nat → Nat} {t K : Nat} (ht : t < K) : fb_ct (fun k => decide (0 < (if k = t then q t + 1 else q k))) K = fb_ct (fun k => decide (0 < q k)) K + (if q t = 0 then 1 else 0) := by
  have h := fb_ct_upd (fun k => decide (0 < q k)) true ht
  have e : fb_ct (fun k => decide (0 < (if k = t then q t + 1 else q k))) K = fb_ct (fun k => if k = t then true else decide (0 < q k)) K := fb_ct_cong (fun k _ => by
    by_cases c : k = t
    · simp [c]
    · simp [c])
  rw [e]
  by_cases c : q t = 0
  · simp [c] at h ⊢
    omega
  · have c2 : 0 < q t := by omega
    simp [c, c2] at h ⊢
    omega
theorem ct_up2 {q : Nat → Nat} {t K : Nat} (ht : t < K) : fb_ct (fun k => decide ((if k = t then q t + 1 else q k) = 1)) K + (if q t = 1 then 1 else 0) = fb_ct (fun k => decide (q k = 1)) K + (if q t = 0 then 1 else 0) := by
  have h := fb_ct_upd (fun k => decide (q k = 1)) (decide (q t = 0)) ht
  have e : fb_ct (fun k => decide ((if k = t then q t + 1 else q k) = 1)) K = fb_ct (fun k => if k = t then decide (q t = 0) else decide (q k = 1)) K := fb_ct_cong (fun k _ => by
    by_cases c : k = t
    · simp [c]
    · simp [c])
  rw [e]
  simpa using h
/-- a block as the class has it: of each stem how many words -/
def BS (K a0 : Nat) (q : Nat → Nat) (σ : tzS) : Prop := σ.1 a0 2 = nI (fb_sm q K) ∧ σ.1 a0 3 = nI (fb_ct (fun t => decide (0 < q t)) K) ∧ σ.1 a0 4 = nI (fb_ct (fun t => decide (q t = 1)) K) ∧ ∀ t, t < K → σ.1 (a0 + 15) t = nI (q t)
theorem BS.cong {K a0 : Nat} {q q' : Nat → Nat} {σ : tzS} (h : BS K a0 q σ) (e : ∀ t, t < K → q' t = q t) : BS K a0 q' σ := by
  obtain ⟨h1, h2, h3, h4⟩ := h
  refine ⟨by rw [h1, fb_sm_cong e], ?_, ?_, fun t ht => by rw [h4 t ht, e t ht]⟩
  · rw [h2]
    congr 1
    exact fb_ct_cong (fun t ht => by rw [e t ht])
  · rw [h3]
    congr 1
    exact fb_ct_cong (fun t ht => by rw [e t ht])
theorem s_startBlock {K a0 : Nat} (hK : K ≤ 108) {σ : tzS} {Q : tzS → Prop} (h : ∀ σ', BS K a0 (fun _ => 0) σ' → bt a0 (a0 + 15) σ σ' → (∀ a, a0 < a → a < a0 + 15 → σ'.1 a = σ.1 a) → Q σ') : vc_X0_startBlock a0 (nI K) σ Q := by
  unfold vc_X0_startBlock
  intro σ1 h1 σ2 h2 σ3 h3
  have k1 : bt a0 (a0 + 15) σ σ1 := h1 ▸ bt.rf.st (by omega)
  have k2 : bt a0 (a0 + 15) σ σ2 := h2 ▸ k1.st (by omega)
  have k3 : bt a0 (a0 + 15) σ σ3 := h3 ▸ k2.st (by omega)
  refine for1 0 K (fun t r => (∀ i, i < t → r.1 (a0 + 15) i = 0) ∧ r.1 a0 = σ3.1 a0 ∧ bt a0 (a0 + 15) σ r ∧ (∀ a, a0 < a → a < a0 + 15 → r.1 a = σ.1 a)) (Nat.zero_le _) ⟨fun i hi => absurd hi (Nat.not_lt_zero i), rfl, k3, fun a z1 z2 => by rw [h3, st_ne (by omega), h2, st_ne (by omega), h1, st_ne (by omega)]⟩ ?_ ?_
  · intro t r ag _ ht hI hag
    obtain ⟨i1, i2, i3, i4⟩ := hI
    refine ⟨fun q => absurd ((le_nI (by omega) (by omega)).mp q) (by omega), fun _ => ⟨in_nI (by omega) (by omega), ?_⟩⟩
    rw [cl_nI (by omega)]
    rintro σ7 rfl x rfl
    rw [nI_1]
    refine hag _ ⟨fun i hi => ?_, by rw [st_ne (by omega)]; exact i2, i3.st (by omega), fun a z1 z2 => by rw [st_ne (by omega)]; exact i4 a z1 z2⟩
    by_cases e : i = t
    · rw [e, st_eq]
    · rw [st_nj e]
      exact i1 i (by omega)
  · intro r ag hI
    obtain ⟨i1, i2, i3, i4⟩ := hI
    refine ⟨fun _ => h r ⟨?_, ?_, ?_, fun t ht => i1 t ht⟩ i3 i4, fun q => absurd ((le_nI (by omega) (by omega)).mpr (Nat.le_refl _)) q⟩
    · rw [i2, h3, st_nj (by decide), h2, st_nj (by decide), h1, st_eq, fb_sm_const, Nat.mul_zero]
      rfl
    · rw [i2, h3, st_nj (by decide), h2, st_eq, fb_ct_zero.mpr (fun t _ => by simp)]
      rfl
    · rw [i2, h3, st_eq, fb_ct_zero.mpr (fun t _ => by simp)]
      rfl
theorem s_addSentence {f : Nat → Nat} {n a0 s : Nat} (hn : n ≤ 200) (ha : 43 ≤ a0) (hs : s < rd_S f n) {q : Nat → Nat} (hq : ∀ t, t < rd_K f n → q t + rd_hv f n s t ≤ 1000) {σ : tzS} (hR : ReadOK f n σ) (hB : BS (rd_K f n) a0 q σ) {Q : tzS → Prop} (h : ∀ σ', BS (rd_K f n) a0 (fun t => q t + rd_hv f n s t) σ' → bt a0 (a0 + 15) σ σ' → (∀ a, a0 < a → a < a0 + 15 → σ'.1 a = σ.1 a) → Q σ') : vc_X0_addSentence a0 (nI s) σ Q := by
  obtain ⟨r1, r2, r3, r4, r5, r6⟩ := rd_ok (f := f) hn
  have hwi := rd_wi_le (f := f) (n := n) (s := s)
  have h9 : rd_wi f n s ≤ 100 := by omega
  unfold vc_X0_addSentence
  refine for1 0 (rd_wi f n s) (fun w r => BS (rd_K f n) a0 (fun t => q t + fb_ct (fun w => decide (rd_sn f n (rd_fw f n s + w) = t)) w) r ∧ bt a0 (a0 + 15) σ r ∧ (∀ a, a0 < a → a < a0 + 15 → r.1 a = σ.1 a)) (Nat.zero_le _) ⟨hB, bt.rf, fun _ _ _ => rfl⟩ ?_ ?_
  · intro w r ag _ hw hI hag
    obtain ⟨⟨b1, b2, b3, b4⟩, hb, hm⟩ := hI
    have hR' := hR.bt hb (by omega) r2
    have hk : rd_fw f n s + w < rd_W f n := by omega
    have ht := rd_sn_lt hk
    have hw9 : w < 9 := by
      have := rd_wi9 (f := f) (s := s) hn
      omega
    rw [cl_nI (by omega), (hR'.2.2.2.1 s hs).1]
    refine ⟨in_nI (by omega) (by omega), fun z => absurd ((le_nI (by omega) (by omega)).mp z) (by omega), fun _ => ⟨in_nI hw9 (by omega), ?_⟩⟩
    rw [cl_nI (by omega), (hR'.2.2.2.1 s hs).2.2 w hw]
    rintro x4 rfl
    intro σ9 h9'
    rw [cl_nI (by omega)]
    refine ⟨in_nI (by omega) (by omega), ?_⟩
    intro σ11 h11
    generalize hg : rd_sn f n (rd_fw f n s + w) = t at *
    have hqt : q t + fb_ct (fun w => decide (rd_sn f n (rd_fw f n s + w) = t)) w + 1 ≤ 1000 := by
      have e := rd_hv_eq (f := f) (s := s) (t := t) hn
      have m := fb_ct_mono (fun w => decide (rd_sn f n (rd_fw f n s + w) = t)) (show w + 1 ≤ rd_wi f n s by omega)
      rw [fb_ct_succ, if_pos (by simp [hg])] at m
      have := hq t ht
      omega
    have k9 : bt a0 (a0 + 15) σ σ9 := h9' ▸ hb.st (by omega)
    have k11 : bt a0 (a0 + 15) σ σ11 := h11 ▸ k9.st (by omega)
    have v15 : σ11.1 (a0 + 15) t = nI (q t + fb_ct (fun w => decide (rd_sn f n (rd_fw f n s + w) = t)) w + 1) := by
      rw [h11, st_eq, h9', st_ne (by omega), b4 t ht, nI_1]
    have o15 : ∀ t', t' < rd_K f n → t' ≠ t → σ11.1 (a0 + 15) t' = nI (q t' + fb_ct (fun w => decide (rd_sn f n (rd_fw f n s + w) = t')) w) := by
      intro t' h1 h2
      rw [h11, st_nj h2, h9', st_ne (by omega), b4 t' h1]
    have v2 : σ11.1 a0 2 = nI (fb_sm (fun t => q t + fb_ct (fun w => decide (rd_sn f n (rd_fw f n s + w) = t)) w) (rd_K f n) + 1) := by
      rw [h11, st_ne (by omega), h9', st_eq, b1, nI_1]
    have v3 : σ11.1 a0 3 = nI (fb_ct (fun t' => decide (0 < q t' + fb_ct (fun w => decide (rd_sn f n (rd_fw f n s + w) = t')) w)) (rd_K f n)) := by
      rw [h11, st_ne (by omega), h9', st_nj (by decide), b2]
    have v4 : σ11.1 a0 4 = nI (fb_ct (fun t' => decide (q t' + fb_ct (fun w => decide (rd_sn f n (rd_fw f n s + w) = t')) w = 1)) (rd_K f n)) := by
      rw [h11, st_ne (by omega), h9', st_nj (by decide), b3]
    have vm : ∀ a, a0 < a → a < a0 + 15 → σ11.1 a = σ.1 a := fun a z1 z2 => by rw [h11, st_ne (by omega), h9', st_ne (by omega)]; exact hm a z1 z2
    -- the counts with this word
    have eq : ∀ t', q t' + fb_ct (fun w => decide (rd_sn f n (rd_fw f n s + w) = t')) (w + 1) = if t' = t then (q t + fb_ct (fun w => decide (rd_sn f n (rd_fw f n s + w) = t)) w) + 1 else q t' + fb_ct (fun w => decide (rd_sn f n (rd_fw f n s + w) = t')) w := by
      intro t'
      rw [fb_ct_succ]
      by_cases e : t' = t
      · rw [if_pos e, e, if_pos (by simp [hg])]
        omega
      · rw [if_neg e, if_neg (by simp [hg]; omega)]
        omega
    have u1 := sm_up (q := fun t' => q t' + fb_ct (fun w => decide (rd_sn f n (rd_fw f n s + w) = t')) w) ht
    have u2 := ct_up1 (q := fun t' => q t' + fb_ct (fun w => decide (rd_sn f n (rd_fw f n s + w) = t')) w) ht
    have u3 := ct_up2 (q := fun t' => q t' + fb_ct (fun w => decide (rd_sn f n (rd_fw f n s + w) = t')) w) ht
    have goal : ∀ r2 : tzS, r2.1 a0 2 = σ11.1 a0 2 → r2.1 (a0 + 15) = σ11.1 (a0 + 15) → r2.1 a0 3 = nI (fb_ct (fun t' => decide (0 < (if t' = t then (q t + fb_ct (fun w => decide (rd_sn f n (rd_fw f n s + w) = t)) w) + 1 else q t' + fb_ct (fun w => decide (rd_sn f n (rd_fw f n s + w) = t')) w))) (rd_K f n)) → r2.1 a0 4 = nI (fb_ct (fun t' => decide ((if t' = t then (q t + fb_ct (fun w => decide (rd_sn f n (rd_fw f n s + w) = t)) w) + 1 else q t' + fb_ct (fun w => decide (rd_sn f n (rd_fw f n s + w) = t')) w) = 1)) (rd_K f n)) → bt a0 (a0 + 15) σ r2 → (∀ a, a0 < a → a < a0 + 15 → r2.1 a = σ.1 a) → ag (nI w + 1) r2 := by
      intro r2 z1 z2 z3 z4 z5 z6
      rw [nI_1]
      refine hag _ ⟨BS.cong (q := fun t' => if t' = t then (q t + fb_ct (fun w => decide (rd_sn f n (rd_fw f n s + w) = t)) w) + 1 else q t' + fb_ct (fun w => decide (rd_sn f n (rd_fw f n s + w) = t')) w) ⟨?_, z3, z4, fun t' ht' => ?_⟩ (fun t' _ => eq t'), z5, z6⟩
      · rw [z1, v2, u1]
      · show r2.1 (a0 + 15) t' = nI (if t' = t then (q t + fb_ct (fun w => decide (rd_sn f n (rd_fw f n s + w) = t)) w) + 1 else q t' + fb_ct (fun w => decide (rd_sn f n (rd_fw f n s + w) = t')) w)
        rw [z2]
        by_cases e : t' = t
        · rw [if_pos e, e, v15]
        · rw [if_neg e]
          exact o15 t' ht' e
    rw [v15]
    refine ⟨fun c => ⟨fun c2 => ?_, fun c2 => ?_⟩, fun c => ?_⟩
    · have c : ¬ q t + fb_ct (fun w => decide (rd_sn f n (rd_fw f n s + w) = t)) w + 1 = 1 := fun z => c (by rw [z]; rfl)
      have c2 : ¬ q t + fb_ct (fun w => decide (rd_sn f n (rd_fw f n s + w) = t)) w + 1 = 2 := fun z => c2 (by rw [z]; rfl)
      rintro x rfl
      refine goal σ11 rfl rfl ?_ ?_ k11 vm
      · rw [v3, u2, if_neg (by omega), Nat.add_zero]
      · rw [if_neg (by omega), if_neg (by omega)] at u3
        rw [v4]
        congr 1
        omega
    · have c2 : q t + fb_ct (fun w => decide (rd_sn f n (rd_fw f n s + w) = t)) w + 1 = 2 := (eq_nI (b := 2) (by omega) (by omega)).mp c2
      intro σ15 h15 x hx
      subst hx
      refine goal σ15 (by rw [h15, st_nj (by decide)]) (by rw [h15, st_ne (by omega)]) ?_ ?_ (h15 ▸ k11.st (by omega)) (fun a z1 z2 => by rw [h15, st_ne (by omega)]; exact vm a z1 z2)
      · rw [h15, st_nj (by decide), v3, u2, if_neg (by omega), Nat.add_zero]
      · rw [if_pos (by omega), if_neg (by omega)] at u3
        rw [h15, st_eq, v4, nI_sub1 (by omega)]
        congr 1
        omega
    · have c : q t + fb_ct (fun w => decide (rd_sn f n (rd_fw f n s + w) = t)) w + 1 = 1 := (eq_nI (b := 1) (by omega) (by omega)).mp c
      intro σ17 h17 σ18 h18 x hx
      subst hx
      refine goal σ18 (by rw [h18, st_nj (by decide), h17, st_nj (by decide)]) (by rw [h18, st_ne (by omega), h17, st_ne (by omega)]) ?_ ?_ (h18 ▸ (h17 ▸ k11.st (by omega) : bt a0 (a0 + 15) σ σ17).st (by omega)) (fun a z1 z2 => by rw [h18, st_ne (by omega), h17, st_ne (by omega)]; exact vm a z1 z2)
      · rw [h18, st_nj (by decide), h17, st_eq, v3, u2, if_pos (by omega), nI_1]
      · rw [if_neg (by omega), if_pos (by omega)] at u3
        rw [h18, st_eq, h17, st_nj (by decide), v4, nI_1]
        congr 1
        omega
  · intro r ag hI
    obtain ⟨hB', hb, hm⟩ := hI
    have hR' := hR.bt hb (by omega) r2
    rw [cl_nI (by omega), (hR'.2.2.2.1 s hs).1]
    refine ⟨in_nI (by omega) (by omega), fun _ => h r (hB'.cong (fun t _ => by rw [rd_hv_eq hn])) hb hm, fun z => absurd ((le_nI (by omega) (by omega)).mpr (Nat.le_refl _)) z⟩
