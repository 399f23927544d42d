/-! ===== SEAMS ===== -/
/-- from block k at j back to the place where block m ends -/
def bg (c : Nat → Nat → Nat) (m : Nat) : Nat → Nat → Nat
  | 0, j => j
  | k + 1, j => if k + 1 ≤ m then j else bg c m k (pt c (k + 1) j).2
theorem bg_e {c : Nat → Nat → Nat} {m k j : Nat} (h : k ≤ m) : bg c m k j = j := by
  cases k with
  | zero => rfl
  | succ k => exact if_pos h
theorem bg_s {c : Nat → Nat → Nat} {m k j : Nat} (h : m < k) : bg c m k j = bg c m (k - 1) (pt c k j).2 := by
  cases k with
  | zero => omega
  | succ k => exact if_neg (by omega)
theorem bg_le {c : Nat → Nat → Nat} {N m : Nat} (hc : CB c N) : ∀ k j, k ≤ j → j ≤ N → bg c m k j ≤ j ∧ (m < k → bg c m k j < j)
  | 0, j, _, _ => ⟨Nat.le_refl _, fun h => by omega⟩
  | k + 1, j, h1, h2 => by
    by_cases c1 : k + 1 ≤ m
    · rw [bg_e c1]
      exact ⟨Nat.le_refl _, fun h => by omega⟩
    · rw [bg_s (by omega)]
      obtain ⟨_, p2, p3⟩ := pt_ok hc (k + 1) j (by omega) h1 h2
      have := (bg_le hc (m := m) k (pt c (k + 1) j).2 (by omega) (by omega)).1
      rw [show k + 1 - 1 = k by omega]
      exact ⟨by omega, fun _ => by omega⟩
theorem s_beginOf {c : Nat → Nat → Nat} {N a0 k m j : Nat} (hc : CB c N) (hk8 : k ≤ 8) (hmk : m ≤ k) (hkj : k ≤ j) (hj : j ≤ N) {σ : tzS} (hP : PtOK c N a0 σ) {Q : Int32 → tzS → Prop} (h : Q (nI (bg c m k j)) σ) : vc_X5_beginOf a0 (nI k) (nI m) (nI j) σ Q := by
  have hN := hc.1
  unfold vc_X5_beginOf
  refine dn2b m k (fun i x r => r = σ ∧ ∃ y, x = nI y ∧ i ≤ y ∧ y ≤ N ∧ bg c m i y = bg c m k j) hmk ⟨rfl, j, rfl, hkj, hj, rfl⟩ ?_ ?_
  · intro i x r ag i1 i2 hI hag
    obtain ⟨e1, y, e2, e3, e4, e5⟩ := hI
    subst e1
    subst e2
    refine ⟨fun z => absurd ((le_nI (by omega) (by omega)).mp z) (by omega), fun _ => ⟨in_nI (by omega) (by omega), in_nI (by omega) (by omega), ?_⟩⟩
    rw [cl_nI (by omega), cl_nI (by omega), (hP i y (by omega) (by omega) e3 e4).2, nI_m1 (by omega)]
    rintro x4 rfl x5 rfl
    obtain ⟨_, p2, p3⟩ := pt_ok hc i y (by omega) e3 e4
    exact hag _ _ ⟨rfl, (pt c i y).2, rfl, p2, by omega, by rw [← e5, bg_s i1]⟩
  · intro x r ag hI
    obtain ⟨e1, y, e2, e3, e4, e5⟩ := hI
    subst e1
    subst e2
    rw [bg_e (Nat.le_refl _)] at e5
    rw [e5]
    exact ⟨fun _ => h, fun z => absurd ((le_nI (by omega) (by omega)).mpr (Nat.le_refl _)) z⟩
theorem s_seamNow {c : Nat → Nat → Nat} {N k m : Nat} (hc : CB c N) (hk8 : k ≤ 8) (hmk : m ≤ k) (hkj : k ≤ N) {σ : tzS} (hP : PM c N σ) {Q : Int32 → tzS → Prop} (h : Q (nI (bg c m k N)) σ) : vc_X10_seamNow (nI k) (nI m) σ Q := by
  have hN := hc.1
  unfold vc_X10_seamNow
  rw [hP.1]
  rintro x3 rfl
  refine dn2b m k (fun i x r => r = σ ∧ ∃ y, x = nI y ∧ i ≤ y ∧ y ≤ N ∧ bg c m i y = bg c m k N) hmk ⟨rfl, N, rfl, hkj, Nat.le_refl _, rfl⟩ ?_ ?_
  · intro i x r ag i1 i2 hI hag
    obtain ⟨e1, y, e2, e3, e4, e5⟩ := hI
    subst e1
    subst e2
    have m1 : (13 : Int32) * nI i = nI (13 * i) := pk_mul 13 i
    rw [m1, nI_add, cl_nI (by omega), (hP.2 i y (by omega) e4).2, nI_m1 (by omega)]
    refine ⟨fun z => absurd ((le_nI (by omega) (by omega)).mp z) (by omega), fun _ => ⟨in_nI (by omega) (by omega), ?_⟩⟩
    rintro x4 rfl x5 rfl
    obtain ⟨_, p2, p3⟩ := pt_ok hc i y (by omega) e3 e4
    refine hag _ _ ⟨rfl, (pt c i y).2, ?_, p2, by omega, by rw [← e5, bg_s i1]⟩
    unfold tmB
    rw [if_neg (by omega), if_pos e3]
  · intro x r ag hI
    obtain ⟨e1, y, e2, e3, e4, e5⟩ := hI
    subst e1
    subst e2
    rw [bg_e (Nat.le_refl _)] at e5
    rw [e5]
    exact ⟨fun _ => h, fun z => absurd ((le_nI (by omega) (by omega)).mpr (Nat.le_refl _)) z⟩
/-- the inner seams as bits -/
def sbt (c : Nat → Nat → Nat) (k N : Nat) : Nat → Nat
  | 0 => 0
  | e + 1 => sbt c k N e ||| 2 ^ bg c (e + 1) k N
theorem sbt_lt {c : Nat → Nat → Nat} {k N : Nat} (hc : CB c N) (hk : k ≤ N) : ∀ e, e < k → sbt c k N e < 2 ^ 12
  | 0, _ => by
    show 0 < 2 ^ 12
    decide
  | e + 1, h => Nat.or_lt_two_pow (sbt_lt hc hk e (by omega)) (Nat.pow_lt_pow_right (by decide) (by
    have := (bg_le hc (m := e + 1) k N hk (Nat.le_refl _)).2 h
    have := hc.1
    omega))
theorem s_seamBits {c : Nat → Nat → Nat} {N a0 k : Nat} (hc : CB c N) (hk1 : 1 ≤ k) (hk8 : k ≤ 8) (hk : k ≤ N) {σ : tzS} (hP : PtOK c N a0 σ) {Q : Int32 → tzS → Prop} (h : Q (nI (sbt c k N (k - 1))) σ) : vc_X5_seamBits a0 (nI k) (nI N) σ Q := by
  have hN := hc.1
  unfold vc_X5_seamBits
  refine for2b 1 k (fun i a r => a = nI (sbt c k N (i - 1)) ∧ r = σ) hk1 ⟨rfl, rfl⟩ ?_ ?_
  · intro i a r ag i1 i2 hI hag
    obtain ⟨e1, e2⟩ := hI
    subst e2
    refine ⟨fun z => absurd ((le_nI (by omega) (by omega)).mp z) (by omega), fun _ => ?_⟩
    refine s_beginOf hc hk8 (by omega) hk (Nat.le_refl _) hP ?_
    have := (bg_le hc (m := i) k N hk (Nat.le_refl _)).1
    rw [e1, or_bit (by omega), nI_1]
    rintro x3 rfl x4 rfl
    refine hag _ _ ⟨?_, rfl⟩
    rw [show i + 1 - 1 = (i - 1) + 1 by omega]
    show _ = nI (sbt c k N (i - 1) ||| 2 ^ bg c (i - 1 + 1) k N)
    rw [show i - 1 + 1 = i by omega]
  · intro a r ag hI
    obtain ⟨e1, e2⟩ := hI
    subst e2
    rw [e1]
    exact ⟨fun _ => h, fun z => absurd ((le_nI (by omega) (by omega)).mpr (Nat.le_refl _)) z⟩
/-- where the least totals bend -/
def bnt (c : Nat → Nat → Nat) (N : Nat) : Nat → Nat
  | 0 => 0
  | e + 1 => if 2 ≤ e ∧ e < N ∧ ¬ (pt c (e - 1) N).1 + (pt c (e + 1) N).1 < 2 * (pt c e N).1 then bnt c N e ||| 2 ^ e else bnt c N e
theorem bnt_y {c : Nat → Nat → Nat} {N e : Nat} (h : 2 ≤ e ∧ e < N ∧ ¬ (pt c (e - 1) N).1 + (pt c (e + 1) N).1 < 2 * (pt c e N).1) : bnt c N (e + 1) = bnt c N e ||| 2 ^ e := if_pos h
theorem bnt_n {c : Nat → Nat → Nat} {N e : Nat} (h : ¬ (2 ≤ e ∧ e < N ∧ ¬ (pt c (e - 1) N).1 + (pt c (e + 1) N).1 < 2 * (pt c e N).1)) : bnt c N (e + 1) = bnt c N e := if_neg h
theorem bnt_stop {c : Nat → Nat → Nat} {N e : Nat} (h : N ≤ e) : ∀ d, bnt c N (e + d) = bnt c N e
  | 0 => rfl
  | d + 1 => by
    rw [show e + (d + 1) = (e + d) + 1 by omega, bnt_n (by omega)]
    exact bnt_stop h d
theorem pt_bd8 {c : Nat → Nat → Nat} {N k : Nat} (hc : CB c N) (h1 : 1 ≤ k) (h8 : k ≤ 8) (hN : k ≤ N) : (pt c k N).1 ≤ 80320 := by
  have a := (pt_ok hc k N h1 hN (Nat.le_refl _)).1
  have : k * 10040 ≤ 8 * 10040 := Nat.mul_le_mul_right _ h8
  omega
theorem s_isBent {c : Nat → Nat → Nat} {N a0 k : Nat} (hc : CB c N) (hk2 : 2 ≤ k) (hk8 : k < 8) (hk : k < N) {σ : tzS} (hP : PtOK c N a0 σ) {Q : Int32 → tzS → Prop} (h0 : (pt c (k - 1) N).1 + (pt c (k + 1) N).1 < 2 * (pt c k N).1 → Q 0 σ) (h1 : ¬ (pt c (k - 1) N).1 + (pt c (k + 1) N).1 < 2 * (pt c k N).1 → Q 1 σ) : vc_X5_isBent a0 (nI k) (nI N) σ Q := by
  have hN := hc.1
  have b1 := pt_bd8 hc (k := k - 1) (by omega) (by omega) (by omega)
  have b2 := pt_bd8 hc (k := k + 1) (by omega) (by omega) (by omega)
  have b3 := pt_bd8 hc (k := k) (by omega) (by omega) (by omega)
  unfold vc_X5_isBent
  rw [nI_sub1 (by omega), nI_1, cl_nI (show k - 1 < 100000 by omega), cl_nI (show N < 100000 by omega), cl_nI (show k + 1 < 100000 by omega), cl_nI (show k < 100000 by omega), (hP (k - 1) N (by omega) (by omega) (by omega) (Nat.le_refl _)).1, (hP (k + 1) N (by omega) (by omega) (by omega) (Nat.le_refl _)).1, (hP k N (by omega) (by omega) (by omega) (Nat.le_refl _)).1]
  have m1 : (2 : Int32) * nI (pt c k N).1 = nI (2 * (pt c k N).1) := pk_mul 2 _
  rw [m1, nI_add]
  have e := nI_ltI (a := (pt c (k - 1) N).1 + (pt c (k + 1) N).1) (b := 2 * (pt c k N).1) (by omega) (by omega)
  exact ⟨in_nI (by omega) (by omega), in_nI (by omega) (by omega), in_nI (by omega) (by omega), in_nI (by omega) (by omega), fun z => h0 (e.mp z), fun z => h1 ((not_congr e).mp z)⟩
theorem s_totalNow {c : Nat → Nat → Nat} {N k : Nat} (hN : N ≤ 12) (hk8 : k ≤ 8) {σ : tzS} (hP : PM c N σ) {Q : Int32 → tzS → Prop} (h : Q (tmT c k N) σ) : vc_X10_totalNow (nI k) σ Q := by
  unfold vc_X10_totalNow
  have m1 : (13 : Int32) * nI k = nI (13 * k) := pk_mul 13 k
  rw [hP.1, m1, nI_add, cl_nI (by omega), (hP.2 k N hk8 (Nat.le_refl _)).1]
  exact ⟨in_nI (by omega) (by omega), h⟩
theorem tmT_v {c : Nat → Nat → Nat} {k N : Nat} (h1 : 1 ≤ k) (h : k ≤ N) : tmT c k N = nI (pt c k N).1 := by
  unfold tmT
  rw [if_neg (by omega), if_pos h]
theorem tmT_n {c : Nat → Nat → Nat} {k N : Nat} (h1 : 1 ≤ k) (h : ¬ k ≤ N) : tmT c k N = -1 := by
  unfold tmT
  rw [if_neg (by omega), if_neg h]
/-! counting bits -/
def bcv (x0 : Int32) : Int32 :=
  let x1 := x0 - ((x0.toUInt32 >>> ((1 : Int32).toUInt32 &&& Int32.toUInt32 31)).toInt32 &&& 1431655765)
  let x2 := (x1 &&& 858993459) + ((x1.toUInt32 >>> ((2 : Int32).toUInt32 &&& Int32.toUInt32 31)).toInt32 &&& 858993459)
  let x3 := (x2 + (x2.toUInt32 >>> ((4 : Int32).toUInt32 &&& Int32.toUInt32 31)).toInt32) &&& 252645135
  let x4 := x3 + (x3.toUInt32 >>> ((8 : Int32).toUInt32 &&& Int32.toUInt32 31)).toInt32
  let x5 := x4 + (x4.toUInt32 >>> ((16 : Int32).toUInt32 &&& Int32.toUInt32 31)).toInt32
  x5 &&& 63
theorem bcv_ok2 : ∀ a b : Fin 64, bcv (nI (64 * a.val + b.val)) = nI (fb_ct (fun i => (64 * a.val + b.val).testBit i) 12) := by decide +kernel
theorem bcv_ok {v : Nat} (h : v < 4096) : bcv (nI v) = nI (fb_ct (fun i => v.testBit i) 12) := by
  have := bcv_ok2 ⟨v / 64, by omega⟩ ⟨v % 64, by omega⟩
  dsimp only at this
  rw [show 64 * (v / 64) + v % 64 = v by omega] at this
  exact this
theorem s_bitCount {v : Nat} (hv : v < 4096) {σ : tzS} {Q : Int32 → tzS → Prop} (h : Q (nI (fb_ct (fun i => v.testBit i) 12)) σ) : vc_J6_bitCount_0f7a4 (nI v) σ Q := by
  unfold vc_J6_bitCount_0f7a4
  rintro x1 rfl x2 rfl x3 rfl x4 rfl x5 rfl
  rw [← bcv_ok hv] at h
  exact h
/-- the bits of a from lo on, d of them -/
def cnt (a lo d : Nat) : Nat := fb_ct (fun y => a.testBit (lo + y)) d
theorem mask_cnt {a lo d : Nat} (h : lo + d ≤ 12) : fb_ct (fun i => (a &&& ((2 ^ d - 1) * 2 ^ lo)).testBit i) 12 = cnt a lo d := by
  rw [← Nat.shiftLeft_eq]
  have e : fb_ct (fun i => (a &&& ((2 ^ d - 1) <<< lo)).testBit i) 12 = fb_ct (fun i => a.testBit i && (decide (lo ≤ i) && decide (i - lo < d))) (lo + (d + (12 - (lo + d)))) := by
    rw [show lo + (d + (12 - (lo + d))) = 12 by omega]
    exact fb_ct_cong (fun i _ => by rw [Nat.testBit_and, Nat.testBit_shiftLeft, Nat.testBit_two_pow_sub_one])
  rw [e, fb_ct_split, fb_ct_split]
  have z1 : fb_ct (fun i => a.testBit i && (decide (lo ≤ i) && decide (i - lo < d))) lo = 0 := fb_ct_zero.mpr (fun i hi => by
    have : ¬ lo ≤ i := by omega
    simp [this])
  have z2 : fb_ct (fun k => a.testBit (lo + (d + k)) && (decide (lo ≤ lo + (d + k)) && decide (lo + (d + k) - lo < d))) (12 - (lo + d)) = 0 := fb_ct_zero.mpr (fun i hi => by
    have : ¬ lo + (d + i) - lo < d := by omega
    simp [this])
  rw [z1, z2, Nat.zero_add, Nat.add_zero]
  unfold cnt
  exact fb_ct_cong (fun i hi => by
    have h1 : lo ≤ lo + i := by omega
    have h2 : lo + i - lo < d := by omega
    simp [h1, hi])
/-- of how many runs of d gaps the counts differ -/
def ap (a b d : Nat) (S : Nat) : Nat := fb_ct (fun x => decide (cnt a (x + 1) d ≠ cnt b (x + 1) d)) (S - d)
