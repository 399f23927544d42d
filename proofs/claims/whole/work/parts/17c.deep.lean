/-! ===== THE DEEPEST GAPS ===== -/
def rd_dp (f : Nat → Nat) (n wi g : Nat) : Nat := dpt (rd_al f n wi) (rd_S f n) g
theorem rd_dp_le {f : Nat → Nat} {n wi g : Nat} (hn : n ≤ 200) (hg1 : 1 ≤ g) (hg : g < rd_S f n) : rd_dp f n wi g ≤ 200 := by
  have ha : ∀ i, i ≤ rd_S f n → rd_al f n wi i ≤ 100 := fun i hi => al_le hn hi (Nat.le_refl _)
  obtain ⟨l1, l2, l3⟩ := lf_ok (rd_al f n wi) g hg1
  obtain ⟨k1, k2, k3⟩ := rr_ok (a := rd_al f n wi) (S := rd_S f n) rfl hg
  have := ha (lf (rd_al f n wi) g) (by omega)
  have := ha (rr (rd_al f n wi) (rd_S f n) g) (by omega)
  unfold rd_dp dpt
  omega
def GapOK (f : Nat → Nat) (n wi : Nat) (σ : tzS) : Prop := (∀ g, 1 ≤ g → g < rd_S f n → σ.1 121 g = nI (rd_al f n wi g) ∧ σ.1 122 g = nI (rd_dp f n wi g)) ∧ ∃ A, SO (rd_dp f n wi) (rd_S f n - 1) A ∧ ∀ p, p < rd_S f n - 1 → σ.1 123 p = nI (A p)
theorem s_gapsFill {f : Nat → Nat} {n wi : Nat} (hn : n ≤ 200) (hwi : wi ≤ 4) {σ : tzS} (hR : ReadOK f n σ) {Q : tzS → Prop} (h : ∀ σ', GapOK f n wi σ' → bt 120 123 σ σ' → Q σ') : vc_X4_fill (nI wi) σ Q := by
  obtain ⟨r1, r2, r3, r4, r5, r6⟩ := rd_ok (f := f) hn
  have hS0 : σ.1 4 0 = nI (rd_S f n) := hR.1
  have ha : ∀ i, i ≤ rd_S f n → rd_al f n wi i ≤ 100 := fun i hi => al_le hn hi (Nat.le_refl _)
  unfold vc_X4_fill
  rw [hS0]
  rintro x3 rfl
  refine for1 1 (max 1 (rd_S f n)) (fun m r => (∀ g, 1 ≤ g → g < m → r.1 121 g = nI (rd_al f n wi g)) ∧ bt 120 123 σ r) (by omega) ⟨fun g g1 g2 => absurd g1 (by omega), bt.rf⟩ ?_ ?_
  · intro m r ag m1 m2 hI hag
    obtain ⟨i1, i2⟩ := hI
    refine ⟨fun z => absurd ((le_nI (by omega) (by omega)).mp z) (by omega), fun _ => ?_⟩
    refine s_likeness hn hwi (by omega) (hR.bt i2 (by omega) r2) ?_
    rw [cl_nI (by omega), nI_1]
    refine ⟨in_nI (by omega) (by omega), ?_⟩
    intro σ25 h25 x hx
    subst hx
    refine hag _ ⟨fun g g1 g2 => ?_, h25 ▸ i2.st (by omega)⟩
    by_cases e : g = m
    · rw [h25, e, st_eq]
    · rw [h25, st_nj e]
      exact i1 g g1 (by omega)
  · intro r ag hI
    obtain ⟨i1, i2⟩ := hI
    refine ⟨fun _ => ?_, fun z => absurd ((le_nI (by omega) (by omega)).mpr (by omega)) z⟩
    refine for1 1 (max 1 (rd_S f n)) (fun m q => (∀ g, 1 ≤ g → g < m → q.1 122 g = nI (rd_dp f n wi g)) ∧ q.1 121 = r.1 121 ∧ bt 120 123 σ q) (by omega) ⟨fun g g1 g2 => absurd g1 (by omega), rfl, i2⟩ ?_ ?_
    · intro m q ag2 m1 m2 hJ hag2
      obtain ⟨j1, j2, j3⟩ := hJ
      have hmS : m < rd_S f n := by omega
      refine ⟨fun z => absurd ((le_nI (by omega) (by omega)).mp z) (by omega), fun _ => ?_⟩
      refine s_leftHill (a := rd_al f n wi) m1 (by omega) (fun i _ z => ha i (by omega)) (fun i z1 z2 => by rw [j2]; exact i1 i z1 (by omega)) ?_
      refine s_rightHill (a := rd_al f n wi) hmS r2 (fun i _ z => ha i (by omega)) (fun i z1 z2 => by rw [j2]; exact i1 i (by omega) (by omega)) ?_
      obtain ⟨l1, l2, l3⟩ := lf_ok (rd_al f n wi) m m1
      obtain ⟨k1, k2, k3⟩ := rr_ok (a := rd_al f n wi) (S := rd_S f n) rfl hmS
      have m2' : (2 : Int32) * nI (rd_al f n wi m) = nI (2 * rd_al f n wi m) := pk_mul 2 _
      rw [cl_nI (by omega), j2, i1 m m1 (by omega), m2', nI_add, pk_sub (by omega), nI_1]
      refine ⟨in_nI (by omega) (by omega), ?_⟩
      intro σ21 h21 x hx
      subst hx
      refine hag2 _ ⟨fun g g1 g2 => ?_, ?_, h21 ▸ j3.st (by omega)⟩
      · by_cases e : g = m
        · rw [h21, e, st_eq]
          unfold rd_dp dpt
          congr 1
          omega
        · rw [h21, st_nj e]
          exact j1 g g1 (by omega)
      · rw [h21, st_ne (by omega)]
        exact j2
    · intro q ag2 hJ
      obtain ⟨j1, j2, j3⟩ := hJ
      refine ⟨fun _ => ?_, fun z => absurd ((le_nI (by omega) (by omega)).mpr (by omega)) z⟩
      refine for1 1 (max 1 (rd_S f n)) (fun m s => (∃ A, SO (rd_dp f n wi) (m - 1) A ∧ ∀ p, p < m - 1 → s.1 123 p = nI (A p)) ∧ s.1 121 = q.1 121 ∧ s.1 122 = q.1 122 ∧ bt 120 123 σ s) (by omega) ⟨⟨fun _ => 0, SO_0, fun p hp => absurd hp (by omega)⟩, rfl, rfl, j3⟩ ?_ ?_
      · intro m s ag3 m1 m2 hK hag3
        obtain ⟨⟨A, hA, hs⟩, k2, k3, k4⟩ := hK
        refine ⟨fun z => absurd ((le_nI (by omega) (by omega)).mp z) (by omega), fun _ => ?_⟩
        have em : m - 1 + 1 = m := by omega
        have := s_insert (D := rd_dp f n wi) (m := m - 1) (A := A) (σ := s) (Q := fun σ14 => ∀ x4 : Int32, x4 = nI m + 1 → ag3 x4 σ14) (by omega) hA (fun g g1 g2 => Nat.le_trans (rd_dp_le hn g1 (by omega)) (by omega)) (fun g g1 g2 => by rw [k3]; exact j1 g g1 (by omega)) hs ?_
        · rw [em] at this
          exact this
        · intro σ' A' hA' hs' hb x hx
          subst hx
          rw [nI_1]
          rw [em] at hA' hs'
          exact hag3 _ ⟨⟨A', by rw [show m + 1 - 1 = m by omega]; exact hA', by rw [show m + 1 - 1 = m by omega]; exact hs'⟩, by rw [hb.1 121 (by omega)]; exact k2, by rw [hb.1 122 (by omega)]; exact k3, k4.tr (hb.mn (by omega) (by omega))⟩
      · intro s ag3 hK
        obtain ⟨⟨A, hA, hs⟩, k2, k3, k4⟩ := hK
        refine ⟨fun _ => h s ⟨fun g g1 g2 => ?_, A, ?_, ?_⟩ k4, fun z => absurd ((le_nI (by omega) (by omega)).mpr (by omega)) z⟩
        · rw [k2, j2, k3]
          exact ⟨i1 g g1 (by omega), j1 g g1 (by omega)⟩
        · rw [show max 1 (rd_S f n) - 1 = rd_S f n - 1 by omega] at hA
          exact hA
        · rw [show max 1 (rd_S f n) - 1 = rd_S f n - 1 by omega] at hs
          exact hs
/-! bits -/
theorem sh31 : ∀ n, n < 32 → ((nI n &&& 31).toBitVec.smod 32).toNat = n := by decide +kernel
theorem bit_nI {a k : Nat} (ha : a < 2 ^ 31) (hk : k < 32) : ((nI a >>> (nI k &&& 31)) &&& 1) = nI (a / 2 ^ k % 2) := by
  rw [pk_shrN ha _ k (sh31 k hk), pk_andN (Nat.lt_of_le_of_lt (Nat.div_le_self _ _) (by omega)) 1 rfl]
theorem s_isIn {a k : Nat} (ha : a < 2 ^ 31) (hk : k < 32) {σ : tzS} {Q : Int32 → tzS → Prop} (h1 : a.testBit k = true → Q 1 σ) (h0 : a.testBit k = false → Q 0 σ) : vc_X10_isIn (nI a) (nI k) σ Q := by
  unfold vc_X10_isIn
  rw [bit_nI ha hk]
  have e : nI (a / 2 ^ k % 2) = 1 ↔ a / 2 ^ k % 2 = 1 := eq_nI (b := 1) (by omega) (by omega)
  rw [Nat.testBit_eq_decide_div_mod_eq] at h1 h0
  refine ⟨fun z => h0 ?_, fun z => h1 ?_⟩
  · exact decide_eq_false ((not_congr e).mp z)
  · exact decide_eq_true (e.mp z)
theorem or_bit {u k : Nat} (hk : k < 31) : nI u ||| ((1 : Int32) <<< (nI k &&& 31)) = nI (u ||| 2 ^ k) := by
  have h2 : 2 ^ k < 2 ^ 31 := Nat.pow_lt_pow_right (by decide) hk
  have e : (1 : Int32) <<< (nI k &&& 31) = nI (1 * 2 ^ k) := pk_shlN (n := 1) _ k (sh31 k (by omega)) (by omega)
  rw [e, Nat.one_mul, fa_or]
/-- the gaps taken first, as bits -/
def ub (A : Nat → Nat) (m : Nat) : Nat → Nat
  | 0 => 0
  | r + 1 => if r < m then ub A m r ||| 2 ^ A r else ub A m r
theorem ub_lt {A : Nat → Nat} {m : Nat} (hA : ∀ p, p < m → A p < 12) : ∀ r, ub A m r < 2 ^ 12
  | 0 => by
    show 0 < 2 ^ 12
    decide
  | r + 1 => by
    have ih := ub_lt hA r
    by_cases c : r < m
    · have e : ub A m (r + 1) = ub A m r ||| 2 ^ A r := if_pos c
      rw [e]
      exact Nat.or_lt_two_pow ih (Nat.pow_lt_pow_right (by decide) (hA r c))
    · have e : ub A m (r + 1) = ub A m r := if_neg c
      rw [e]
      exact ih
theorem ub_bit {A : Nat → Nat} {m g : Nat} : ∀ r, (ub A m r).testBit g = true ↔ ∃ p, p < r ∧ p < m ∧ A p = g
  | 0 => by
    show Nat.testBit 0 g = true ↔ _
    rw [Nat.zero_testBit]
    exact ⟨fun z => absurd z (by decide), fun ⟨p, h, _⟩ => absurd h (by omega)⟩
  | r + 1 => by
    have ih := ub_bit (A := A) (m := m) (g := g) r
    by_cases c : r < m
    · have e : ub A m (r + 1) = ub A m r ||| 2 ^ A r := if_pos c
      rw [e, Nat.testBit_or, Bool.or_eq_true, ih, Nat.testBit_two_pow]
      refine ⟨fun z => ?_, fun ⟨p, h1, h2, h3⟩ => ?_⟩
      · rcases z with ⟨p, h1, h2, h3⟩ | z
        · exact ⟨p, by omega, h2, h3⟩
        · exact ⟨r, by omega, c, by simpa using z⟩
      · by_cases e2 : p = r
        · exact Or.inr (by rw [← e2, h3]; simp)
        · exact Or.inl ⟨p, by omega, h2, h3⟩
    · have e : ub A m (r + 1) = ub A m r := if_neg c
      rw [e, ih]
      exact ⟨fun ⟨p, h1, h2, h3⟩ => ⟨p, by omega, h2, h3⟩, fun ⟨p, h1, h2, h3⟩ => ⟨p, by omega, h2, h3⟩⟩
def dpA (A : Nat → Nat) (m r : Nat) : Int32 := if r < m then nI (A r) else -1
theorem s_deepOf {f : Nat → Nat} {n ru fe li wi k : Nat} (hwi : wi ≤ 4) (hk : k ≤ 10) {A : Nat → Nat} (hA : SO (rd_dp f n wi) (rd_S f n - 1) A) {σ : tzS} (hT : MT f n σ) (hS : MS ru fe li wi σ) {Q : Int32 → tzS → Prop} (h : ∀ σ', mo σ σ' → Q (dpA A (rd_S f n - 1) k) σ') : vc_X10_deepOf (nI k) σ Q := by
  have hn := hT.1
  obtain ⟨r1, r2, r3, r4, r5, r6⟩ := rd_ok (f := f) hn
  unfold vc_X10_deepOf
  refine s_reads hT (fun σ1 hR hk1 => ?_)
  have hw : σ1.1 135 3 = nI wi := (hS.mo hk1.mo).2.2.2
  have h7 : σ1.1 133 7 = nI (rd_S f n) := hR.2.2.2.1
  generalize hm : rd_S f n - 1 = m at *
  have hA12 : ∀ p, p < m → A p < 12 := fun p hp => by
    have := hA.1 p hp
    omega
  refine for3c 0 (k + 1) (fun r a b s => a = nI (ub A m r) ∧ b = (if r = 0 then -1 else dpA A m (r - 1)) ∧ s = σ1) (Nat.zero_le _) ⟨rfl, rfl, rfl⟩ ?_ ?_
  · intro r a b s ag _ hr hI hag
    obtain ⟨e1, e2, e3⟩ := hI
    subst e3
    have hu := ub_lt hA12 r
    refine ⟨fun z => absurd ((lt_nI (by omega) (by omega)).mp z) (by omega), fun _ => ?_⟩
    refine for3c 1 (max 1 (rd_S f n)) (fun g p q t => t = s ∧ ((p = -1 ∧ q = -1 ∧ ∀ h, 1 ≤ h → h < g → (ub A m r).testBit h = true) ∨ (∃ x, p = nI x ∧ q = nI (rd_dp f n wi x) ∧ 1 ≤ x ∧ x < g ∧ (ub A m r).testBit x = false ∧ (∀ h, 1 ≤ h → h < g → (ub A m r).testBit h = false → rd_dp f n wi h ≤ rd_dp f n wi x) ∧ (∀ h, 1 ≤ h → h < x → (ub A m r).testBit h = false → rd_dp f n wi h < rd_dp f n wi x)))) (by omega) ⟨rfl, Or.inl ⟨rfl, rfl, fun h h1 h2 => absurd h1 (by omega)⟩⟩ ?_ ?_
    · intro g p q t ag2 g1 g2 hJ hag2
      obtain ⟨j1, j2⟩ := hJ
      subst j1
      have hgS : g < rd_S f n := by omega
      have bd := rd_dp_le (f := f) (wi := wi) hn g1 hgS
      rw [h7, e1, nI_1]
      refine ⟨fun z => absurd ((le_nI (by omega) (by omega)).mp z) (by omega), fun _ => ?_⟩
      refine s_isIn (by omega) (by omega) (fun hb => ?_) (fun hb => ?_)
      · -- taken before
        refine ⟨fun y s3 => y = -1 ∧ s3 = t, ?_, ?_, ?_⟩
        · rintro y s3 ⟨y1, y2⟩ x7 hx7
          subst y2
          subst hx7
          rw [y1]
          have keep : ag2 p q (nI (g + 1)) s3 := by
            refine hag2 _ _ _ ⟨rfl, ?_⟩
            rcases j2 with ⟨p1, p2, p3⟩ | ⟨x, p1, p2, p3, p4, p5, p6, p7⟩
            · refine Or.inl ⟨p1, p2, fun h h1 h2 => ?_⟩
              by_cases e : h = g
              · rw [e]; exact hb
              · exact p3 h h1 (by omega)
            · refine Or.inr ⟨x, p1, p2, p3, by omega, p5, fun h h1 h2 h3 => ?_, p7⟩
              by_cases e : h = g
              · rw [e, hb] at h3
                exact absurd h3 (by decide)
              · exact p6 h h1 (by omega) h3
          refine ⟨fun _ x hx => ?_, fun z => absurd ?_ z⟩
          · subst hx
            rw [nI_1]
            exact keep
          · rcases j2 with ⟨p1, p2, p3⟩ | ⟨x, p1, p2, p3, p4, p5, p6, p7⟩
            · rw [p2]
              decide
            · have bx := rd_dp_le (f := f) (wi := wi) hn p3 (by omega)
              rw [p2, Int32.le_iff_toInt_le, nI_toInt (by omega)]
              have : (-1 : Int32).toInt = -1 := rfl
              omega
        · intro z
          exact absurd z (by decide)
        · intro _
          exact ⟨rfl, rfl⟩
      · refine ⟨fun y s3 => y = nI (rd_dp f n wi g) ∧ s3 = t, ?_, ?_, ?_⟩
        · rintro y s3 ⟨y1, y2⟩ x7 hx7
          subst y2
          subst hx7
          rw [y1]
          refine ⟨fun z x hx => ?_, fun z x hx => ?_⟩
          · subst hx
            rw [nI_1]
            refine hag2 _ _ _ ⟨rfl, ?_⟩
            rcases j2 with ⟨p1, p2, p3⟩ | ⟨x, p1, p2, p3, p4, p5, p6, p7⟩
            · exfalso
              rw [p2, Int32.le_iff_toInt_le, nI_toInt (by omega)] at z
              have : (-1 : Int32).toInt = -1 := rfl
              omega
            · have bx := rd_dp_le (f := f) (wi := wi) hn p3 (by omega)
              rw [p2] at z
              have z := (le_nI (by omega) (by omega)).mp z
              refine Or.inr ⟨x, p1, p2, p3, by omega, p5, fun h h1 h2 h3 => ?_, p7⟩
              by_cases e : h = g
              · rw [e]; exact z
              · exact p6 h h1 (by omega) h3
          · subst hx
            rw [nI_1]
            refine hag2 _ _ _ ⟨rfl, Or.inr ⟨g, rfl, rfl, g1, by omega, hb, fun h h1 h2 h3 => ?_, fun h h1 h2 h3 => ?_⟩⟩
            · by_cases e : h = g
              · rw [e]; exact Nat.le_refl _
              · rcases j2 with ⟨p1, p2, p3⟩ | ⟨x, p1, p2, p3, p4, p5, p6, p7⟩
                · rw [p3 h h1 (by omega)] at h3
                  exact absurd h3 (by decide)
                · have bx := rd_dp_le (f := f) (wi := wi) hn p3 (by omega)
                  rw [p2] at z
                  have z := (not_congr (le_nI (by omega) (by omega))).mp z
                  have := p6 h h1 (by omega) h3
                  omega
            · rcases j2 with ⟨p1, p2, p3⟩ | ⟨x, p1, p2, p3, p4, p5, p6, p7⟩
              · rw [p3 h h1 (by omega)] at h3
                exact absurd h3 (by decide)
              · have bx := rd_dp_le (f := f) (wi := wi) hn p3 (by omega)
                rw [p2] at z
                have z := (not_congr (le_nI (by omega) (by omega))).mp z
                have := p6 h h1 (by omega) h3
                omega
        · intro _
          exact s_depth hn hwi g1 hgS hR hw ⟨rfl, rfl⟩
        · intro z
          exact absurd rfl z
    · intro p q t ag2 hJ
      obtain ⟨j1, j2⟩ := hJ
      subst j1
      rw [h7, e1, nI_1]
      refine ⟨fun _ => ?_, fun z => absurd ((le_nI (by omega) (by omega)).mpr (by omega)) z⟩
      rcases j2 with ⟨p1, p2, p3⟩ | ⟨x, p1, p2, p3, p4, p5, p6, p7⟩
      · -- none is left
        have hrm : ¬ r < m := by
          intro c
          have a := hA.1 r c
          have b := p3 (A r) a.1 (by omega)
          obtain ⟨p', b1, b2, b3⟩ := (ub_bit (A := A) (m := m) (g := A r) r).mp b
          have d := hA.2.1 p' r b1 c
          unfold bf at d
          rw [b3] at d
          omega
        refine ⟨fun z => absurd p1 z, fun _ x2 hx2 x4 hx4 => ?_⟩
        subst hx2
        subst hx4
        refine hag _ _ _ ⟨?_, ?_, rfl⟩
        · have e : ub A m (r + 1) = ub A m r := if_neg hrm
          have : nI (ub A m r) ||| 0 = nI (ub A m r ||| 0) := fa_or _ 0
          rw [this, Nat.or_zero, e]
        · rw [if_neg (by omega), show r + 1 - 1 = r by omega, p1]
          unfold dpA
          rw [if_neg hrm]
      · -- the next
        have hx : r < m ∧ A r = x := by
          obtain ⟨q', q1, q2⟩ := hA.2.2 x p3 (by omega)
          have hqr : ¬ q' < r := by
            intro c
            have : (ub A m r).testBit x = true := (ub_bit r).mpr ⟨q', c, q1, q2⟩
            rw [this] at p5
            exact absurd p5 (by decide)
          by_cases e : q' = r
          · exact ⟨by omega, by rw [← e, q2]⟩
          · exfalso
            have hr' : r < q' := by omega
            have d := hA.2.1 r q' hr' q1
            rw [q2] at d
            have a := hA.1 r (by omega)
            have un : (ub A m r).testBit (A r) = false := by
              cases hc : (ub A m r).testBit (A r) with
              | false => rfl
              | true =>
                obtain ⟨p', b1, b2, b3⟩ := (ub_bit (A := A) (m := m) (g := A r) r).mp hc
                have d := hA.2.1 p' r b1 (by omega)
                unfold bf at d
                rw [b3] at d
                omega
            have d1 := p6 (A r) a.1 (by omega) un
            unfold bf at d
            rcases d with d | ⟨d, d2⟩
            · omega
            · have := p7 (A r) a.1 d2 un
              omega
        rw [p1]
        refine ⟨fun _ x2 hx2 x4 hx4 => ?_, fun z => absurd z (ne_m1 (by omega))⟩
        subst hx2
        subst hx4
        refine hag _ _ _ ⟨?_, ?_, rfl⟩
        · have e : ub A m (r + 1) = ub A m r ||| 2 ^ A r := if_pos hx.1
          rw [or_bit (by omega), e, hx.2]
        · rw [if_neg (by omega), show r + 1 - 1 = r by omega]
          unfold dpA
          rw [if_pos hx.1, hx.2]
  · intro a b s ag hI
    obtain ⟨e1, e2, e3⟩ := hI
    subst e3
    rw [if_neg (by omega), show k + 1 - 1 = k by omega] at e2
    rw [e2]
    exact ⟨fun _ => h s hk1.mo, fun z => absurd ((lt_nI (by omega) (by omega)).mpr (by omega)) z⟩
