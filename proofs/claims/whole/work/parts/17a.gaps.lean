/-! ===== GAPS ===== -/
/-- the words of stem t in the window ahead of gap g, and behind it -/
def gl (hv : Nat → Nat → Nat) (wi g t : Nat) : Nat := fb_sm (fun y => hv (g - wi + y) t) (g - (g - wi))
def gr (hv : Nat → Nat → Nat) (S wi g t : Nat) : Nat := fb_sm (fun y => hv (g + y) t) (min S (g + wi) - g)
def al (hv : Nat → Nat → Nat) (K S wi g : Nat) : Nat := fb_sm (fun t => min (gl hv wi g t) (gr hv S wi g t)) K
theorem gl_eq (hv : Nat → Nat → Nat) (g t : Nat) : ∀ wi, fb_sm (fun w => if g < w + 1 then 0 else hv (g - 1 - w) t) wi = gl hv wi g t
  | 0 => by
    unfold gl
    rw [Nat.sub_zero, Nat.sub_self]
    rfl
  | wi + 1 => by
    rw [fb_sm_succ, gl_eq hv g t wi]
    unfold gl
    by_cases c : g < wi + 1
    · rw [if_pos c, show g - (wi + 1) = g - wi by omega, Nat.add_zero]
    · rw [if_neg c, show g - (g - (wi + 1)) = 1 + (g - (g - wi)) by omega, fb_sm_split]
      have e : fb_sm (fun k => hv (g - (wi + 1) + (1 + k)) t) (g - (g - wi)) = fb_sm (fun y => hv (g - wi + y) t) (g - (g - wi)) := fb_sm_cong (fun k _ => by rw [show g - (wi + 1) + (1 + k) = g - wi + k by omega])
      rw [e]
      have e1 : fb_sm (fun y => hv (g - (wi + 1) + y) t) 1 = hv (g - 1 - wi) t := by
        rw [fb_sm_succ]
        show 0 + hv (g - (wi + 1) + 0) t = _
        rw [Nat.zero_add, show g - (wi + 1) + 0 = g - 1 - wi by omega]
      rw [e1]
      omega
theorem gr_eq (hv : Nat → Nat → Nat) {S g t : Nat} (hg : g ≤ S) : ∀ wi, fb_sm (fun w => if S ≤ g + w then 0 else hv (g + w) t) wi = gr hv S wi g t
  | 0 => by
    unfold gr
    rw [show min S (g + 0) - g = 0 by omega]
    rfl
  | wi + 1 => by
    rw [fb_sm_succ, gr_eq hv hg wi]
    unfold gr
    by_cases c : S ≤ g + wi
    · rw [if_pos c, show min S (g + (wi + 1)) - g = min S (g + wi) - g by omega, Nat.add_zero]
    · rw [if_neg c, show min S (g + (wi + 1)) - g = wi + 1 by omega, show min S (g + wi) - g = wi by omega, fb_sm_succ]
theorem gl_le {f : Nat → Nat} {n wi g t : Nat} (hn : n ≤ 200) (hg : g ≤ rd_S f n) : gl (rd_hv f n) wi g t ≤ rd_ct f n t := by
  unfold gl
  rw [← rd_ct_sum hn]
  refine Nat.le_trans (sm_shift_le (fun s => rd_hv f n s t) (g - wi) _) (sm_le_of (by omega))
theorem gr_le {f : Nat → Nat} {n wi g t : Nat} (hn : n ≤ 200) (hg : g ≤ rd_S f n) : gr (rd_hv f n) (rd_S f n) wi g t ≤ rd_ct f n t := by
  unfold gr
  rw [← rd_ct_sum hn]
  refine Nat.le_trans (sm_shift_le (fun s => rd_hv f n s t) g _) (sm_le_of (by omega))
def rd_al (f : Nat → Nat) (n wi g : Nat) : Nat := al (rd_hv f n) (rd_K f n) (rd_S f n) wi g
theorem al_le {f : Nat → Nat} {n wi g : Nat} (hn : n ≤ 200) (hg : g ≤ rd_S f n) {k : Nat} (hk : k ≤ rd_K f n) : fb_sm (fun t => min (gl (rd_hv f n) wi g t) (gr (rd_hv f n) (rd_S f n) wi g t)) k ≤ 100 := by
  have h1 := (rd_ok (f := f) hn).1
  have h2 := sm_le2 (g := fun t => min (gl (rd_hv f n) wi g t) (gr (rd_hv f n) (rd_S f n) wi g t)) (h := fun t => rd_ct f n t) (n := k) (m := rd_K f n) (fun t _ => Nat.le_trans (Nat.min_le_left _ _) (gl_le hn hg)) hk
  rw [rd_ct_all] at h2
  omega
theorem s_wordsWithin {f : Nat → Nat} {n t lo hi : Nat} (hn : n ≤ 200) (ht : t < rd_K f n) (hlo : lo ≤ hi) (hhi : hi ≤ rd_S f n) {σ : tzS} (hR : ReadOK f n σ) {Q : Int32 → tzS → Prop} (h : Q (nI (fb_sm (fun y => rd_hv f n (lo + y) t) (hi - lo))) σ) : vc_X4_wordsWithin (nI t) (nI lo) (nI hi) σ Q := by
  obtain ⟨r1, r2, r3, r4, r5, r6⟩ := rd_ok (f := f) hn
  unfold vc_X4_wordsWithin
  refine for2b lo hi (fun i a r => a = nI (fb_sm (fun y => rd_hv f n (lo + y) t) (i - lo)) ∧ r = σ) hlo ⟨by rw [Nat.sub_self]; rfl, rfl⟩ ?_ ?_
  · intro i a r ag h1 h2 hI hag
    obtain ⟨e1, e2⟩ := hI
    subst e2
    refine ⟨fun z => absurd ((le_nI (by omega) (by omega)).mp z) (by omega), fun _ => ⟨in_nI (by omega) (by omega), in_nI (by omega) (by omega), ?_⟩⟩
    rw [cl_nI (by omega), cl_nI (by omega), e1, hR.2.2.2.2.1 i t (by omega) ht, nI_add, nI_1]
    rintro x rfl y rfl
    refine hag _ _ ⟨?_, rfl⟩
    rw [show i + 1 - lo = (i - lo) + 1 by omega, fb_sm_succ, show lo + (i - lo) = i by omega]
  · intro a r ag hI
    obtain ⟨e1, e2⟩ := hI
    subst e2
    rw [e1]
    exact ⟨fun _ => h, fun z => absurd ((le_nI (by omega) (by omega)).mpr (Nat.le_refl _)) z⟩
theorem mn_nI {a b : Nat} (ha : a < 100000) (hb : b < 100000) : (if nI a < nI b then nI a else nI b) = nI (min a b) := by
  by_cases c : a < b
  · rw [if_pos ((lt_nI ha hb).mpr c), show min a b = a by omega]
  · rw [if_neg ((not_congr (lt_nI ha hb)).mpr c), show min a b = b by omega]
theorem mx_nI {a b : Nat} (ha : a < 100000) (hb : b < 100000) : (if (0 : Int32) < nI a - nI b then nI a - nI b else 0) = nI (a - b) := by
  have hs := pk_sub_toInt (a := a) (b := b) (by omega) (by omega)
  have hz : (0 : Int32) < nI a - nI b ↔ b < a := by
    rw [Int32.lt_iff_toInt_lt, hs]
    have : (0 : Int32).toInt = 0 := rfl
    omega
  by_cases c : b < a
  · rw [if_pos (hz.mpr c), pk_sub (by omega)]
  · rw [if_neg ((not_congr hz).mpr c), show a - b = 0 by omega]
    rfl
theorem s_likeness {f : Nat → Nat} {n wi g : Nat} (hn : n ≤ 200) (hwi : wi ≤ 4) (hg : g ≤ rd_S f n) {σ : tzS} (hR : ReadOK f n σ) {Q : Int32 → tzS → Prop} (h : Q (nI (rd_al f n wi g)) σ) : vc_X4_likeness (nI g) (nI wi) σ Q := by
  obtain ⟨r1, r2, r3, r4, r5, r6⟩ := rd_ok (f := f) hn
  have hS0 : σ.1 4 0 = nI (rd_S f n) := hR.1
  have hK0 : σ.1 4 2 = nI (rd_K f n) := hR.2.2.1
  unfold vc_X4_likeness
  rw [mx_nI (by omega) (by omega), hS0, nI_add, mn_nI (by omega) (by omega), Nat.min_comm]
  rintro x3 rfl x4 rfl
  refine for2b 0 (rd_K f n) (fun t a r => a = nI (fb_sm (fun t => min (gl (rd_hv f n) wi g t) (gr (rd_hv f n) (rd_S f n) wi g t)) t) ∧ r = σ) (Nat.zero_le _) ⟨rfl, rfl⟩ ?_ ?_
  · intro t a r ag _ ht hI hag
    obtain ⟨e1, e2⟩ := hI
    subst e2
    rw [hK0]
    refine ⟨fun z => absurd ((le_nI (by omega) (by omega)).mp z) (by omega), fun _ => ?_⟩
    refine s_wordsWithin hn ht (by omega) (by omega) hR ?_
    refine s_wordsWithin hn ht (by omega) (by omega) hR ?_
    have b1 := gl_le (f := f) (wi := wi) (g := g) (t := t) hn hg
    have b2 := gr_le (f := f) (wi := wi) (g := g) (t := t) hn hg
    have b3 := rd_ct_le (f := f) (t := t) hn
    show ∀ x5 : Int32, x5 = a + (if nI (gr (rd_hv f n) (rd_S f n) wi g t) < nI (gl (rd_hv f n) wi g t) then nI (gr (rd_hv f n) (rd_S f n) wi g t) else nI (gl (rd_hv f n) wi g t)) → ∀ x6 : Int32, x6 = nI t + 1 → ag x5 x6 r
    rw [mn_nI (by omega) (by omega), e1, nI_add, nI_1, Nat.min_comm]
    rintro x5 rfl x6 rfl
    exact hag _ _ ⟨rfl, rfl⟩
  · intro a r ag hI
    obtain ⟨e1, e2⟩ := hI
    subst e2
    rw [e1, hK0]
    exact ⟨fun _ => h, fun z => absurd ((le_nI (by omega) (by omega)).mpr (Nat.le_refl _)) z⟩
theorem s_alike {f : Nat → Nat} {n wi g : Nat} (hn : n ≤ 200) (hwi : wi ≤ 4) (hg1 : 1 ≤ g) (hg : g ≤ rd_S f n) {σ : tzS} (hM : MR f n σ) (hw : σ.1 135 3 = nI wi) {Q : Int32 → tzS → Prop} (h : Q (nI (rd_al f n wi g)) σ) : vc_X10_alike (nI g) σ Q := by
  obtain ⟨r1, r2, r3, r4, r5, r6⟩ := rd_ok (f := f) hn
  obtain ⟨-, -, -, h7, -, h9, -, -, -, -, hH⟩ := hM
  unfold vc_X10_alike
  refine for2b 0 (rd_K f n) (fun t a r => a = nI (fb_sm (fun t => min (gl (rd_hv f n) wi g t) (gr (rd_hv f n) (rd_S f n) wi g t)) t) ∧ r = σ) (Nat.zero_le _) ⟨rfl, rfl⟩ ?_ ?_
  · intro t a r ag _ ht hI hag
    obtain ⟨e1, e2⟩ := hI
    subst e2
    rw [h9]
    refine ⟨fun z => absurd ((le_nI (by omega) (by omega)).mp z) (by omega), fun _ => ?_⟩
    refine for3c 0 wi (fun w p q s => p = nI (fb_sm (fun w => if g < w + 1 then 0 else rd_hv f n (g - 1 - w) t) w) ∧ q = nI (fb_sm (fun w => if rd_S f n ≤ g + w then 0 else rd_hv f n (g + w) t) w) ∧ s = r) (Nat.zero_le _) ⟨rfl, rfl, rfl⟩ ?_ ?_
    · intro w p q s ag2 _ hw2 hJ hag2
      obtain ⟨j1, j2, j3⟩ := hJ
      subst j3
      rw [hw]
      refine ⟨fun z => absurd ((le_nI (by omega) (by omega)).mp z) (by omega), fun _ => ?_⟩
      have hs := pk_sub_toInt (a := g - 1) (b := w) (by omega) (by omega)
      have hz : nI (g - 1) - nI w < 0 ↔ g < w + 1 := by
        rw [Int32.lt_iff_toInt_lt, hs]
        have : (0 : Int32).toInt = 0 := rfl
        omega
      rw [nI_sub1 hg1]
      refine ⟨fun y s3 => y = nI (if g < w + 1 then 0 else rd_hv f n (g - 1 - w) t) ∧ s3 = s, ?_, ?_, ?_⟩
      · rintro y s3 ⟨y1, y2⟩
        subst y2
        rw [y1, j1, nI_add, ← fb_sm_succ (fun w => if g < w + 1 then 0 else rd_hv f n (g - 1 - w) t), nI_add, h7, nI_1]
        rintro x4 rfl
        refine ⟨fun z x5 z5 x6 z6 => ?_, fun z => ?_⟩
        · subst z5
          subst z6
          have z := (le_nI (by omega) (by omega)).mp z
          refine hag2 _ _ _ ⟨rfl, ?_, rfl⟩
          rw [j2, fb_sm_succ, if_pos z]
          exact nI_add _ 0
        · have z := (not_congr (le_nI (by omega) (by omega))).mp z
          have m1 : (110 : Int32) * nI (g + w) = nI (110 * (g + w)) := pk_mul 110 _
          rw [m1, nI_add, cl_nI (by omega), hH (g + w) t (by omega) (by omega)]
          refine ⟨in_nI (by omega) (by omega), ?_⟩
          rintro x5 rfl x6 rfl
          refine hag2 _ _ _ ⟨rfl, ?_, rfl⟩
          rw [j2, fb_sm_succ, if_neg z, nI_add]
      · intro z
        rw [if_pos (hz.mp z)]
        exact ⟨rfl, rfl⟩
      · intro z
        have z := (not_congr hz).mp z
        rw [if_neg z, pk_sub (by omega)]
        have m1 : (110 : Int32) * nI (g - 1 - w) = nI (110 * (g - 1 - w)) := pk_mul 110 _
        rw [m1, nI_add, cl_nI (by omega), hH (g - 1 - w) t (by omega) (by omega)]
        exact ⟨in_nI (by omega) (by omega), rfl, rfl⟩
    · intro p q s ag2 hJ
      obtain ⟨j1, j2, j3⟩ := hJ
      subst j3
      rw [gl_eq] at j1
      rw [gr_eq _ hg] at j2
      have b1 := gl_le (f := f) (wi := wi) (g := g) (t := t) hn hg
      have b2 := gr_le (f := f) (wi := wi) (g := g) (t := t) hn hg
      have b3 := rd_ct_le (f := f) (t := t) hn
      rw [hw]
      refine ⟨fun _ => ?_, fun z => absurd ((le_nI (by omega) (by omega)).mpr (Nat.le_refl _)) z⟩
      rw [j1, j2, e1, nI_1, nI_add, nI_add]
      refine ⟨fun z x2 z2 x3 z3 => ?_, fun z x2 z2 x3 z3 => ?_⟩
      · subst z2
        subst z3
        have z := (le_nI (by omega) (by omega)).mp z
        refine hag _ _ ⟨?_, rfl⟩
        rw [fb_sm_succ, Nat.min_eq_right z]
      · subst z2
        subst z3
        have z := (not_congr (le_nI (by omega) (by omega))).mp z
        refine hag _ _ ⟨?_, rfl⟩
        rw [fb_sm_succ, Nat.min_eq_left (by omega)]
  · intro a r ag hI
    obtain ⟨e1, e2⟩ := hI
    subst e2
    rw [e1, h9]
    exact ⟨fun _ => h, fun z => absurd ((le_nI (by omega) (by omega)).mpr (Nat.le_refl _)) z⟩
