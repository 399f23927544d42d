/-! ===== DROPS ===== -/
theorem bt.mn {lo hi lo' hi' : Nat} {σ σ' : tzS} (h : bt lo hi σ σ') (h1 : lo' ≤ lo) (h2 : hi ≤ hi') : bt lo' hi' σ σ' := ⟨fun a ha => h.1 a (by omega), h.2⟩
/-- which sentence is best left out of the first x, of k blocks, and the total without it -/
def dr (C : Nat → Nat → Nat → Nat) (S k x : Nat) : Int32 × Int32 := if x = 0 ∨ k = 0 ∨ S ≤ k then (-1, -1) else (nI (am (fun d => (pt (C d) k (S - 1)).1) 0 (x - 1)).2, nI (am (fun d => (pt (C d) k (S - 1)).1) 0 (x - 1)).1)
theorem dr_no {C : Nat → Nat → Nat → Nat} {S k x : Nat} (h : k = 0 ∨ S ≤ k) : dr C S k x = (-1, -1) := by
  unfold dr
  rw [if_pos (Or.inr h)]
theorem dr_0 {C : Nat → Nat → Nat → Nat} {S k : Nat} : dr C S k 0 = (-1, -1) := by
  unfold dr
  rw [if_pos (Or.inl rfl)]
theorem dr_1 {C : Nat → Nat → Nat → Nat} {S k : Nat} (hk : 1 ≤ k) (hS : k < S) : dr C S k 1 = (nI 0, nI (pt (C 0) k (S - 1)).1) := by
  unfold dr
  rw [if_neg (by omega)]
  rfl
theorem dr_s {C : Nat → Nat → Nat → Nat} {S k x : Nat} (hk : 1 ≤ k) (hS : k < S) (hx : 1 ≤ x) : dr C S k x = (nI (am (fun d => (pt (C d) k (S - 1)).1) 0 (x - 1)).2, nI (am (fun d => (pt (C d) k (S - 1)).1) 0 (x - 1)).1) := by
  unfold dr
  rw [if_neg (by omega)]
def DB (C : Nat → Nat → Nat → Nat) (S : Nat) : Prop := S ≤ 12 ∧ ∀ d, d < S → CB (C d) (S - 1)
theorem dr_bd {C : Nat → Nat → Nat → Nat} {S k x : Nat} (h : DB C S) (hk : 1 ≤ k) (hk8 : k ≤ 8) (hS : k < S) : (am (fun d => (pt (C d) k (S - 1)).1) 0 (x - 1)).1 ≤ 80320 := by
  have a := (am_ok (fun d => (pt (C d) k (S - 1)).1) 0 (x - 1)).1
  have b := (pt_ok (h.2 0 (by omega)) k (S - 1) hk (by omega) (Nat.le_refl _)).1
  have : k * 10040 ≤ 8 * 10040 := Nat.mul_le_mul_right _ hk8
  exact Nat.le_trans a (by omega)
theorem pt_bd {C : Nat → Nat → Nat → Nat} {S k d : Nat} (h : DB C S) (hk : 1 ≤ k) (hk8 : k ≤ 8) (hS : k < S) (hd : d < S) : (pt (C d) k (S - 1)).1 ≤ 80320 := by
  have b := (pt_ok (h.2 d hd) k (S - 1) hk (by omega) (Nat.le_refl _)).1
  have : k * 10040 ≤ 8 * 10040 := Nat.mul_le_mul_right _ hk8
  omega
theorem dr_take {C : Nat → Nat → Nat → Nat} {S k x : Nat} (hk : 1 ≤ k) (hS : k < S) (hx : 1 ≤ x) (h : (pt (C x) k (S - 1)).1 < (am (fun d => (pt (C d) k (S - 1)).1) 0 (x - 1)).1) : dr C S k (x + 1) = (nI x, nI (pt (C x) k (S - 1)).1) := by
  rw [dr_s hk hS (by omega), show x + 1 - 1 = (x - 1) + 1 by omega]
  have e : 0 + (x - 1 + 1) = x := by omega
  rw [am_lt (by rw [e]; exact h), e]
theorem dr_keep {C : Nat → Nat → Nat → Nat} {S k x : Nat} (hk : 1 ≤ k) (hS : k < S) (hx : 1 ≤ x) (h : ¬ (pt (C x) k (S - 1)).1 < (am (fun d => (pt (C d) k (S - 1)).1) 0 (x - 1)).1) : dr C S k (x + 1) = dr C S k x := by
  rw [dr_s hk hS (by omega), dr_s hk hS hx, show x + 1 - 1 = (x - 1) + 1 by omega]
  have e : 0 + (x - 1 + 1) = x := by omega
  rw [am_ge (by rw [e]; exact h)]
theorem s_weigh {C : Nat → Nat → Nat → Nat} {S k x : Nat} (hD : DB C S) (hk : 1 ≤ k) (hk8 : k ≤ 8) (hS : k < S) (hx : x < S) {σ : tzS} (h1 : σ.1 81 k = (dr C S k x).1) (h2 : σ.1 82 k = (dr C S k x).2) {Q : tzS → Prop} (h : ∀ σ', σ'.1 81 k = (dr C S k (x + 1)).1 → σ'.1 82 k = (dr C S k (x + 1)).2 → (∀ i, i ≠ k → σ'.1 81 i = σ.1 81 i ∧ σ'.1 82 i = σ.1 82 i) → bt 81 82 σ σ' → Q σ') : vc_X2_weigh (nI k) (nI x) (nI (pt (C x) k (S - 1)).1) σ Q := by
  have hS12 := hD.1
  have b1 := dr_bd (x := x) hD hk hk8 hS
  have b2 := pt_bd hD hk hk8 hS hx
  unfold vc_X2_weigh
  rw [cl_nI (by omega), h1, h2]
  have fin : ∀ σ4 : tzS, σ4 = tz_st (tz_st σ 81 k (nI x)) 82 k (nI (pt (C x) k (S - 1)).1) → dr C S k (x + 1) = (nI x, nI (pt (C x) k (S - 1)).1) → Q σ4 := by
    intro σ4 h4 e
    refine h σ4 ?_ ?_ (fun i hi => ⟨?_, ?_⟩) (h4 ▸ (bt.rf.st (by omega)).st (by omega))
    · rw [h4, st_ne (by decide), st_eq, e]
    · rw [h4, st_eq, e]
    · rw [h4, st_ne (by decide), st_nj hi]
    · rw [h4, st_nj hi, st_ne (by decide)]
  refine ⟨in_nI (by omega) (by omega), fun z => ?_, fun z => ⟨fun z2 => ?_, fun z2 => ?_⟩⟩
  · rintro σ3 rfl σ4 h4
    by_cases x0 : x = 0
    · subst x0
      exact fin σ4 h4 (dr_1 hk hS)
    · rw [dr_s hk hS (by omega)] at z
      have := (am_ok (fun d => (pt (C d) k (S - 1)).1) 0 (x - 1)).2.2
      exact absurd z (ne_m1 (by omega))
  · rintro σ3 rfl σ4 h4
    by_cases x0 : x = 0
    · subst x0
      rw [dr_0] at z
      exact absurd rfl z
    · rw [dr_s hk hS (by omega)] at z2
      have z2 := (lt_nI (by omega) (by omega)).mp z2
      exact fin σ4 h4 (dr_take hk hS (by omega) z2)
  · by_cases x0 : x = 0
    · subst x0
      rw [dr_0] at z
      exact absurd rfl z
    · rw [dr_s hk hS (by omega)] at z2
      have z2 := (not_congr (lt_nI (by omega) (by omega))).mp z2
      have e := dr_keep (C := C) hk hS (by omega) z2
      refine h σ ?_ ?_ (fun _ _ => ⟨rfl, rfl⟩) bt.rf
      · rw [e, h1]
      · rw [e, h2]
def rd_C (f : Nat → Nat) (n ru fe : Nat) (d : Nat) : Nat → Nat → Nat := rd_cost f n ru fe d
theorem rd_CB {f : Nat → Nat} {n ru fe d : Nat} (hn : n ≤ 200) (hfe : fe ≤ 40) : CB (rd_cost f n ru fe d) (Sd (rd_S f n) d) := ⟨Nat.le_trans Sd_le (rd_ok (f := f) hn).2.1, fun i j h1 h2 => rd_cost_le hn hfe (by omega) h2⟩
theorem rd_DB {f : Nat → Nat} {n ru fe : Nat} (hn : n ≤ 200) (hfe : fe ≤ 40) : DB (rd_C f n ru fe) (rd_S f n) := ⟨(rd_ok (f := f) hn).2.1, fun d hd => by
  have h := rd_CB (f := f) (ru := ru) (d := d) hn hfe
  unfold Sd at h
  rw [if_pos hd] at h
  exact h⟩
def DropOK (f : Nat → Nat) (n ru fe : Nat) (σ : tzS) : Prop := ∀ k, k ≤ 8 → σ.1 81 k = (dr (rd_C f n ru fe) (rd_S f n) k (rd_S f n)).1 ∧ σ.1 82 k = (dr (rd_C f n ru fe) (rd_S f n) k (rd_S f n)).2
theorem s_dropFill {f : Nat → Nat} {n ru fe : Nat} (hn : n ≤ 200) (hru : ru ≤ 3) (hfe : fe ≤ 40) {σ : tzS} (hR : ReadOK f n σ) {Q : tzS → Prop} (h : ∀ σ', DropOK f n ru fe σ' → bt 80 119 σ σ' → Q σ') : vc_X2_fill (nI ru) (nI fe) σ Q := by
  obtain ⟨r1, r2, r3, r4, r5, r6⟩ := rd_ok (f := f) hn
  have hD := rd_DB (f := f) (ru := ru) hn hfe
  have hS0 : ∀ r : tzS, bt 80 119 σ r → r.1 4 0 = nI (rd_S f n) := fun r hb => by rw [hb.1 4 (by omega)]; exact hR.1
  unfold vc_X2_fill
  refine for1 0 9 (fun m r => (∀ k, k < m → r.1 81 k = -1 ∧ r.1 82 k = -1) ∧ bt 80 119 σ r) (by omega) ⟨fun k z => absurd z (Nat.not_lt_zero _), bt.rf⟩ ?_ ?_
  · intro m r ag _ h2 hI hag
    obtain ⟨i1, i2⟩ := hI
    refine ⟨fun z => absurd ((lt_nI (a := 8) (by omega) (by omega)).mp z) (by omega), fun _ => ⟨in_nI (by omega) (by omega), ?_⟩⟩
    rw [cl_nI (by omega), nI_1]
    intro σ23 h23 σ25 h25 x hx
    subst hx
    have k23 : bt 80 119 σ σ23 := h23 ▸ i2.st (by omega)
    refine hag _ ⟨fun k hk => ?_, h25 ▸ k23.st (by omega)⟩
    by_cases e : k = m
    · rw [h25, st_ne (by decide), h23, e, st_eq, st_eq]
      exact ⟨rfl, rfl⟩
    · rw [h25, st_ne (by decide), h23, st_nj e, st_nj e, st_ne (by decide)]
      exact i1 k (by omega)
  · intro r ag hI
    obtain ⟨i1, i2⟩ := hI
    refine ⟨fun _ => ?_, fun z => absurd ((lt_nI (a := 8) (by omega) (by omega)).mpr (by omega)) z⟩
    rw [hS0 r i2]
    intro x4 hx4
    refine for1 0 (rd_S f n) (fun x q => (∀ k, k ≤ 8 → q.1 81 k = (dr (rd_C f n ru fe) (rd_S f n) k x).1 ∧ q.1 82 k = (dr (rd_C f n ru fe) (rd_S f n) k x).2) ∧ bt 80 119 σ q) (Nat.zero_le _) ⟨fun k hk => by rw [dr_0]; exact i1 k (by omega), i2⟩ ?_ ?_
    · intro x q ag2 _ hx hJ hag2
      obtain ⟨j1, j2⟩ := hJ
      rw [hS0 q j2]
      rw [nI_sub1 (by omega)] at hx4
      subst hx4
      refine ⟨fun z => absurd ((le_nI (by omega) (by omega)).mp z) (by omega), fun _ => ?_⟩
      refine s_blocksFill hn (by omega) hru hfe (d := x) (Or.inr ⟨rfl, hx⟩) (hR.bt j2 (by omega) r2) (fun q2 hB hb => ?_)
      have esd : Sd (rd_S f n) x = rd_S f n - 1 := by
        unfold Sd
        rw [if_pos hx]
      have hb2 : bt 80 119 σ q2 := j2.tr (hb.mn (by omega) (by omega))
      refine s_partsFill (c := rd_cost f n ru fe x) (N := rd_S f n - 1) (hD.2 x hx) (by omega) (fun i j z1 z2 => ?_) (fun q3 hP hb3 => ?_)
      · have := hB i j z1 (by omega)
        rw [show 83 + 2 + i = 84 + 1 + i by omega] at this
        exact this
      have hb3' : bt 80 119 σ q3 := hb2.tr (hb3.mn (by omega) (by omega))
      have c3 : ∀ k, k ≤ 8 → q3.1 81 k = (dr (rd_C f n ru fe) (rd_S f n) k x).1 ∧ q3.1 82 k = (dr (rd_C f n ru fe) (rd_S f n) k x).2 := fun k hk => by
        rw [hb3.1 81 (by omega), hb3.1 82 (by omega), hb.1 81 (by omega), hb.1 82 (by omega)]
        exact j1 k hk
      -- of each number of blocks
      refine for1w 1 (min 9 (max 1 (rd_S f n))) (fun m s => (∀ k, k ≤ 8 → s.1 81 k = (dr (rd_C f n ru fe) (rd_S f n) k (if k < m then x + 1 else x)).1 ∧ s.1 82 k = (dr (rd_C f n ru fe) (rd_S f n) k (if k < m then x + 1 else x)).2) ∧ (∀ a, a ≠ 81 → a ≠ 82 → s.1 a = q3.1 a) ∧ bt 80 119 σ s) (by omega) ⟨fun k hk => ?_, fun _ _ _ => rfl, hb3'⟩ ?_
      · by_cases e : k < 1
        · rw [if_pos e, dr_no (Or.inl (by omega))]
          have := c3 k hk
          rw [dr_no (Or.inl (by omega))] at this
          exact this
        · rw [if_neg e]
          exact c3 k hk
      · intro m s ag3 m1 m2 hM hag3
        obtain ⟨s1, s2, s3⟩ := hM
        have fin : rd_S f n ≤ m ∨ 9 ≤ m → ag2 (nI x + 1) s := by
          intro w
          rw [nI_1]
          refine hag2 s ⟨fun k hk => ?_, s3⟩
          by_cases e : k < m
          · have := s1 k hk
            rw [if_pos e] at this
            exact this
          · have := s1 k hk
            rw [if_neg e, dr_no (Or.inr (by omega))] at this
            rw [dr_no (Or.inr (by omega))]
            exact this
        refine ⟨fun z y hy => ?_, fun z => ⟨fun z2 y hy => ?_, fun z2 => ?_⟩⟩
        · subst hy
          have z := (lt_nI (a := 8) (by omega) (by omega)).mp z
          exact fin (by omega)
        · subst hy
          have z2 := (lt_nI (by omega) (by omega)).mp z2
          exact fin (by omega)
        · have z := (not_congr (lt_nI (a := 8) (by omega) (by omega))).mp z
          have z2 := (not_congr (lt_nI (by omega) (by omega))).mp z2
          have hmS : m < rd_S f n := by omega
          have hval : s.1 (99 + 2 + m) (rd_S f n - 1) = nI (pt (rd_cost f n ru fe x) m (rd_S f n - 1)).1 := by
            rw [s2 _ (by omega) (by omega)]
            exact (hP m (rd_S f n - 1) m1 (by omega) (by omega) (Nat.le_refl _)).1
          unfold vc_X5_totalOf
          rw [cl_nI (by omega), cl_nI (by omega), hval]
          refine ⟨in_nI (by omega) (by omega), in_nI (by omega) (by omega), ?_⟩
          have e1 := s1 m (by omega)
          rw [if_neg (by omega)] at e1
          refine s_weigh (C := rd_C f n ru fe) hD m1 (by omega) hmS hx e1.1 e1.2 (fun s' w1 w2 w3 w4 => ?_)
          rintro y rfl
          rw [nI_1]
          refine hag3 (by omega) s' ⟨fun k hk => ?_, fun a a1 a2 => ?_, s3.tr (w4.mn (by omega) (by omega))⟩
          · by_cases e : k = m
            · subst e
              rw [if_pos (by omega)]
              exact ⟨w1, w2⟩
            · rw [(w3 k e).1, (w3 k e).2]
              have := s1 k hk
              by_cases e2 : k < m
              · rw [if_pos e2] at this
                rw [if_pos (by omega)]
                exact this
              · rw [if_neg e2] at this
                rw [if_neg (by omega)]
                exact this
          · rw [w4.1 a (by omega)]
            exact s2 a a1 a2
    · intro q ag2 hJ
      obtain ⟨j1, j2⟩ := hJ
      rw [hS0 q j2]
      exact ⟨fun _ => h q j1 j2, fun z => absurd ((le_nI (by omega) (by omega)).mpr (Nat.le_refl _)) z⟩
/-! the reference -/
/-- what an operation of the reference leaves as it was -/
def mo (σ σ' : tzS) : Prop := (∀ a, (a < 133 ∨ a = 134 ∨ a = 135 ∨ 151 ≤ a) → σ'.1 a = σ.1 a) ∧ (∀ j, (j < 4 ∨ j = 36) → σ'.1 133 j = σ.1 133 j) ∧ σ'.2 = σ.2
theorem mo.rf {σ : tzS} : mo σ σ := ⟨fun _ _ => rfl, fun _ _ => rfl, rfl⟩
theorem mo.tr {σ σ' σ'' : tzS} (h : mo σ σ') (h2 : mo σ' σ'') : mo σ σ'' := ⟨fun a ha => (h2.1 a ha).trans (h.1 a ha), fun j hj => (h2.2.1 j hj).trans (h.2.1 j hj), h2.2.2.trans h.2.2⟩
theorem mk1.mo {σ σ' : tzS} (h : mk1 σ σ') : mo σ σ' := ⟨fun a ha => h.1 a (by omega), fun j hj => h.2.1 j (by omega), h.2.2⟩
theorem mk2.mo {σ σ' : tzS} (h : mk2 σ σ') : mo σ σ' := ⟨fun a ha => h.1 a (by omega), fun j hj => h.2.1 j (by omega), h.2.2⟩
theorem mk3.mo {σ σ' : tzS} (h : mk3 σ σ') : mo σ σ' := ⟨fun a ha => h.1 a (by omega), fun j hj => h.2.1 j (by omega), h.2.2⟩
theorem mk4.mo {σ σ' : tzS} (h : mk4 σ σ') : mo σ σ' := ⟨fun a ha => h.1 a (by omega) (by omega), fun j hj => h.2.1 j (by omega), h.2.2⟩
theorem mo.st3 {σ σ' : tzS} {j : Nat} {v : Int32} (h : mo σ σ') (hj : 4 ≤ j ∧ j ≠ 36) : mo σ (tz_st σ' 133 j v) := ⟨fun a ha => by rw [st_ne (by omega)]; exact h.1 a ha, fun i hi => by rw [st_nj (by omega)]; exact h.2.1 i hi, h.2.2⟩
theorem MT.mo {f : Nat → Nat} {n : Nat} {σ σ' : tzS} (h : MT f n σ) (hk : mo σ σ') : MT f n σ' := ⟨h.1, by rw [hk.2.1 0 (by omega)]; exact h.2.1, fun i hi => ⟨(h.2.2 i hi).1, by rw [hk.1 134 (by omega)]; exact (h.2.2 i hi).2⟩⟩
def MS (ru fe li wi : Nat) (σ : tzS) : Prop := σ.1 135 0 = nI ru ∧ σ.1 135 1 = nI fe ∧ σ.1 135 2 = nI li ∧ σ.1 135 3 = nI wi
theorem MS.mo {ru fe li wi : Nat} {σ σ' : tzS} (h : MS ru fe li wi σ) (hk : mo σ σ') : MS ru fe li wi σ' := by
  unfold MS at *
  rw [hk.1 135 (by omega)]
  exact h
/-- what stays of the reading while the reference parts -/
def ML (f : Nat → Nat) (n ru fe : Nat) (σ : tzS) : Prop := σ.1 133 7 = nI (rd_S f n) ∧ σ.1 133 9 = nI (rd_K f n) ∧ (∀ s t, s < 12 → t < 110 → σ.1 143 (110 * s + t) = nI (rd_hv f n s t)) ∧ σ.1 135 0 = nI ru ∧ σ.1 135 1 = nI fe
theorem ML.mk4 {f : Nat → Nat} {n ru fe : Nat} {σ σ' : tzS} (h : ML f n ru fe σ) (hk : mk4 σ σ') : ML f n ru fe σ' := by
  obtain ⟨h1, h2, h3, h4, h5⟩ := h
  exact ⟨by rw [hk.2.1 7 (by omega)]; exact h1, by rw [hk.2.1 9 (by omega)]; exact h2, fun s t z1 z2 => by rw [hk.1 143 (by omega) (by omega)]; exact h3 s t z1 z2, by rw [hk.1 135 (by omega) (by omega)]; exact h4, by rw [hk.1 135 (by omega) (by omega)]; exact h5⟩
theorem ML.st18 {f : Nat → Nat} {n ru fe : Nat} {σ : tzS} {v : Int32} (h : ML f n ru fe σ) : ML f n ru fe (tz_st σ 133 18 v) := by
  obtain ⟨h1, h2, h3, h4, h5⟩ := h
  exact ⟨by rw [st_nj (by decide)]; exact h1, by rw [st_nj (by decide)]; exact h2, fun s t z1 z2 => by rw [st_ne (by decide)]; exact h3 s t z1 z2, by rw [st_ne (by decide)]; exact h4, by rw [st_ne (by decide)]; exact h5⟩
theorem MR.ML {f : Nat → Nat} {n ru fe li wi : Nat} {σ : tzS} (h : MR f n σ) (hs : MS ru fe li wi σ) : ML f n ru fe σ := ⟨h.2.2.2.1, h.2.2.2.2.2.1, h.2.2.2.2.2.2.2.2.2.2, hs.1, hs.2.1⟩
theorem s_dropOf {f : Nat → Nat} {n ru fe li wi k w : Nat} (hru : ru ≤ 3) (hfe : fe ≤ 40) (hk : 1 ≤ k) (hk8 : k ≤ 8) (hw : w ≤ 1) {σ : tzS} (hT : MT f n σ) (hS : MS ru fe li wi σ) {Q : Int32 → tzS → Prop} (h : ∀ σ', mo σ σ' → Q (if w = 0 then (dr (rd_C f n ru fe) (rd_S f n) k (rd_S f n)).1 else (dr (rd_C f n ru fe) (rd_S f n) k (rd_S f n)).2) σ') : vc_X10_dropOf (nI k) (nI w) σ Q := by
  have hn := hT.1
  obtain ⟨r1, r2, r3, r4, r5, r6⟩ := rd_ok (f := f) hn
  have hD := rd_DB (f := f) (ru := ru) hn hfe
  unfold vc_X10_dropOf
  refine s_reads hT (fun σ1 hR hk1 => ?_)
  have hL : ML f n ru fe σ1 := hR.ML (hS.mo hk1.mo)
  refine for3c 0 (rd_S f n) (fun x a b r => a = (dr (rd_C f n ru fe) (rd_S f n) k x).1 ∧ b = (dr (rd_C f n ru fe) (rd_S f n) k x).2 ∧ ML f n ru fe r ∧ mo σ r) (Nat.zero_le _) ⟨by rw [dr_0], by rw [dr_0], hL, hk1.mo⟩ ?_ ?_
  · intro x a b r ag _ hx hI hag
    obtain ⟨e1, e2, hLr, hmr⟩ := hI
    rw [hLr.1]
    refine ⟨fun z => absurd ((le_nI (by omega) (by omega)).mp z) (by omega), fun _ => ?_⟩
    intro σ10 h10
    have hL10 : ML f n ru fe σ10 := h10 ▸ hLr.st18
    have e18 : σ10.1 133 18 = nI x := by rw [h10, st_eq]
    have hm10 : mo σ σ10 := h10 ▸ hmr.st3 (by omega)
    refine s_parts (d := x) hn hru hfe hL10.1 hL10.2.1 (by rw [e18]; exact Or.inr ⟨rfl, hx⟩) hL10.2.2.1 hL10.2.2.2.1 hL10.2.2.2.2 (fun σ11 hP hk11 => ?_)
    have esd : Sd (rd_S f n) x = rd_S f n - 1 := by
      unfold Sd
      rw [if_pos hx]
    rw [esd] at hP
    have hL11 := hL10.mk4 hk11
    have hm11 := hm10.tr hk11.mo
    unfold vc_X10_totalNow
    have m1 : (13 : Int32) * nI k = nI (13 * k) := pk_mul 13 k
    rw [hP.1, m1, nI_add, cl_nI (by omega), (hP.2 k (rd_S f n - 1) hk8 (Nat.le_refl _)).1, nI_1]
    refine ⟨in_nI (by omega) (by omega), ?_⟩
    generalize hr13 : tmT (rd_cost f n ru fe x) k (rd_S f n - 1) = r13
    refine ⟨fun y s3 => s3 = σ11 ∧ ((y = 0 ∧ dr (rd_C f n ru fe) (rd_S f n) k (x + 1) = dr (rd_C f n ru fe) (rd_S f n) k x) ∨ (y = 1 ∧ dr (rd_C f n ru fe) (rd_S f n) k (x + 1) = (nI x, r13))), ?_, ?_⟩
    · rintro y s3 ⟨e3, e4⟩ x8 e8
      subst e3
      subst e8
      refine ⟨fun z x' hx' => ?_, fun z x' hx' => ?_⟩
      · subst hx'
        refine hag _ _ _ ?_
        rcases e4 with ⟨_, e4⟩ | ⟨e4, _⟩
        · rw [e4]
          exact ⟨e1, e2, hL11, hm11⟩
        · rw [e4] at z
          exact absurd z (by decide)
      · subst hx'
        refine hag _ _ _ ?_
        rcases e4 with ⟨e4, _⟩ | ⟨_, e4⟩
        · exact absurd e4 z
        · rw [e4]
          exact ⟨rfl, rfl, hL11, hm11⟩
    · unfold tmT at hr13
      have k0 : ¬ k = 0 := by omega
      rw [if_neg k0] at hr13
      refine ⟨fun s3 => s3 = σ11 ∧ dr (rd_C f n ru fe) (rd_S f n) k (x + 1) = dr (rd_C f n ru fe) (rd_S f n) k x, ?_, ?_, ?_⟩
      · rintro s3 ⟨e3, e4⟩
        exact ⟨e3, Or.inl ⟨rfl, e4⟩⟩
      · intro z
        refine ⟨rfl, ?_⟩
        by_cases c : k ≤ rd_S f n - 1
        · rw [if_pos c] at hr13
          rw [← hr13] at z
          have := pt_bd hD hk hk8 (by omega) hx
          unfold rd_C at this
          exact absurd z (ne_m1 (by omega))
        · rw [dr_no (Or.inr (by omega)), dr_no (Or.inr (by omega))]
      · intro z
        have c : k ≤ rd_S f n - 1 := by
          by_cases c : k ≤ rd_S f n - 1
          · exact c
          · rw [if_neg c] at hr13
            exact absurd hr13.symm z
        have hS : k < rd_S f n := by omega
        rw [if_pos c] at hr13
        have b1 := dr_bd (x := x) hD hk hk8 hS
        have b2 := pt_bd hD hk hk8 hS hx
        refine ⟨fun s3 => s3 = σ11 ∧ dr (rd_C f n ru fe) (rd_S f n) k (x + 1) = (nI x, r13), ?_, ?_, ?_⟩
        · rintro s3 ⟨e3, e4⟩
          exact ⟨e3, Or.inr ⟨rfl, e4⟩⟩
        · intro zb
          refine ⟨rfl, ?_⟩
          by_cases x0 : x = 0
          · subst x0
            rw [dr_1 hk hS, ← hr13]
            rfl
          · rw [e1, dr_s hk hS (by omega)] at zb
            have := (am_ok (fun d => (pt (rd_C f n ru fe d) k (rd_S f n - 1)).1) 0 (x - 1)).2.2
            exact absurd zb (ne_m1 (by omega))
        · intro zb
          have x0 : ¬ x = 0 := by
            intro x0
            apply zb
            rw [e1, x0, dr_0]
          rw [e2, dr_s hk hS (by omega), ← hr13]
          refine ⟨fun zc => ⟨rfl, ?_⟩, fun zc => ⟨rfl, ?_⟩⟩
          · have zc := (le_nI (by omega) (Nat.lt_of_le_of_lt b2 (by omega))).mp zc
            rw [dr_keep hk hS (by omega) (by omega), dr_s hk hS (by omega)]
          · have zc := (not_congr (le_nI (by omega) (Nat.lt_of_le_of_lt b2 (by omega)))).mp zc
            rw [dr_take hk hS (by omega) (by omega)]
            rfl
  · intro a b r ag hI
    obtain ⟨e1, e2, hLr, hmr⟩ := hI
    rw [hLr.1]
    refine ⟨fun _ => ?_, fun z => absurd ((le_nI (by omega) (by omega)).mpr (Nat.le_refl _)) z⟩
    intro σ8 h8
    have h := h σ8 (h8 ▸ hmr.st3 (by omega))
    have cw : nI w = 0 ↔ w = 0 := eq_nI (b := 0) (by omega) (by omega)
    refine ⟨fun z => ?_, fun z => ?_⟩
    · rw [if_neg ((not_congr cw).mp z)] at h
      rw [e2]
      exact h
    · rw [if_pos (cw.mp z)] at h
      rw [e1]
      exact h
