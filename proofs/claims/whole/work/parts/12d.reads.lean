/-! the reference's stems -/
theorem fa_first_is {p : Nat → Bool} {n t : Nat} (ht : t ≤ n) (hno : ∀ k, k < t → p k = false) (hy : t < n → p t = true) : fa_first p n = t := by
  have h1 := fa_first_le p n
  rcases Nat.lt_trichotomy (fa_first p n) t with q | q | q
  · have h2 := fa_first_yes p n (by omega)
    rw [hno _ q] at h2
    exact absurd h2 (by decide)
  · exact q
  · have h2 := fa_first_no p n t q
    rw [hy (by omega)] at h2
    exact absurd h2 (by decide)
theorem s_endsWith {f : Nat → Nat} {n : Nat} {σ : tzS} (hT : MT f n σ) {k a g j b : Nat} (hk : k < 110) (ha : σ.1 136 k = nI a) (hg : σ.1 137 k = nI g) (hag : a + g ≤ n) (hj : j ≤ g) (hj1 : 1 ≤ j) (hb : b < 256) {Q : Int32 → tzS → Prop} (h1 : f (a + g - j) = b → Q 1 σ) (h0 : f (a + g - j) ≠ b → Q 0 σ) : vc_X10_endsWith (nI k) (nI j) (nI b) σ Q := by
  have hn := hT.1
  have hx := hT.2.2 (a + g - j) (by omega)
  unfold vc_X10_endsWith
  rw [cl_nI (by omega), ha, hg, nI_add, pk_sub (by omega), cl_nI (by omega), hx.2]
  refine ⟨in_nI hk (by omega), in_nI (by omega) (by omega), fun c => h0 (fun q => c (by rw [q])), fun c => h1 ((eq_nI (by omega) (by omega)).mp c)⟩
theorem s_longOf {f : Nat → Nat} {n : Nat} {σ : tzS} (hT : MT f n σ) {k a g : Nat} (hk : k < 110) (ha : σ.1 136 k = nI a) (hg : σ.1 137 k = nI g) (hag : a + g ≤ n) {Q : Int32 → tzS → Prop} (h : Q (nI (sp_sl f a g)) σ) : vc_X10_longOf (nI k) σ Q := by
  have hn := hT.1
  unfold vc_X10_longOf
  rw [cl_nI (by omega), hg]
  refine ⟨in_nI hk (by omega), ?_⟩
  rintro x2 rfl
  unfold sp_sl at h
  have lt6 : nI g < 6 ↔ g < 6 := lt_nI (b := 6) (by omega) (by omega)
  have lt5 : nI g < 5 ↔ g < 5 := lt_nI (b := 5) (by omega) (by omega)
  have lt4 : nI g < 4 ↔ g < 4 := lt_nI (b := 4) (by omega) (by omega)
  refine ⟨fun s => s = σ ∧ ¬ (6 ≤ g ∧ f (a + g - 3) = 105 ∧ f (a + g - 2) = 110 ∧ f (a + g - 1) = 103), ?_, ?_, ?_⟩
  · rintro s ⟨rfl, n1⟩
    rw [if_neg n1] at h
    refine ⟨fun s' => s' = s ∧ ¬ (5 ≤ g ∧ f (a + g - 2) = 101 ∧ f (a + g - 1) = 100), ?_, ?_, ?_⟩
    · rintro s' ⟨rfl, n2⟩
      rw [if_neg n2] at h
      rw [lt4]
      refine ⟨fun c => ?_, fun c => ?_⟩
      · rw [if_neg (by omega)] at h
        exact h
      · refine s_endsWith (j := 1) (b := 115) hT hk ha hg hag (by omega) (by omega) (by omega) (fun e => ?_) (fun e => ?_)
        · refine ⟨fun z => absurd z (by decide), fun _ => ?_⟩
          refine s_endsWith (j := 2) (b := 115) hT hk ha hg hag (by omega) (by omega) (by omega) (fun e2 => ?_) (fun e2 => ?_)
          · rw [if_neg (fun q => q.2.2 e2)] at h
            exact ⟨fun _ => h, fun z => absurd z (by decide)⟩
          · rw [if_pos ⟨by omega, e, e2⟩] at h
            rw [show nI g - 1 = nI (g - 1) from nI_sub1 (by omega)]
            exact ⟨fun z => absurd rfl z, fun _ => h⟩
        · rw [if_neg (fun q => e q.2.1)] at h
          exact ⟨fun _ => h, fun z => absurd rfl z⟩
    · rw [lt5]
      exact fun c => ⟨rfl, by omega⟩
    · rw [lt5]
      intro c
      refine s_endsWith (j := 2) (b := 101) hT hk ha hg hag (by omega) (by omega) (by omega) (fun e => ?_) (fun e => ?_)
      · refine ⟨fun z => absurd z (by decide), fun _ => ?_⟩
        refine s_endsWith (j := 1) (b := 100) hT hk ha hg hag (by omega) (by omega) (by omega) (fun e2 => ?_) (fun e2 => ?_)
        · rw [if_pos ⟨by omega, e, e2⟩] at h
          rw [show nI g - 2 = nI (g - 2) from pk_sub (b := 2) (by omega)]
          exact ⟨fun z => absurd z (by decide), fun _ => h⟩
        · exact ⟨fun _ => ⟨rfl, fun q => e2 q.2.2⟩, fun z => absurd rfl z⟩
      · exact ⟨fun _ => ⟨rfl, fun q => e q.2.1⟩, fun z => absurd rfl z⟩
  · rw [lt6]
    exact fun c => ⟨rfl, by omega⟩
  · rw [lt6]
    intro c
    refine s_endsWith (j := 3) (b := 105) hT hk ha hg hag (by omega) (by omega) (by omega) (fun e => ?_) (fun e => ?_)
    · refine ⟨fun z => absurd z (by decide), fun _ => ?_⟩
      refine s_endsWith (j := 2) (b := 110) hT hk ha hg hag (by omega) (by omega) (by omega) (fun e2 => ?_) (fun e2 => ?_)
      · refine ⟨fun z => absurd z (by decide), fun _ => ?_⟩
        refine s_endsWith (j := 1) (b := 103) hT hk ha hg hag (by omega) (by omega) (by omega) (fun e3 => ?_) (fun e3 => ?_)
        · rw [if_pos ⟨by omega, e, e2, e3⟩] at h
          rw [show nI g - 3 = nI (g - 3) from pk_sub (b := 3) (by omega)]
          exact ⟨fun z => absurd z (by decide), fun _ => h⟩
        · exact ⟨fun _ => ⟨rfl, fun q => e3 q.2.2.2⟩, fun z => absurd rfl z⟩
      · exact ⟨fun _ => ⟨rfl, fun q => e2 q.2.2.1⟩, fun z => absurd rfl z⟩
    · exact ⟨fun _ => ⟨rfl, fun q => e q.2.1⟩, fun z => absurd rfl z⟩
theorem sp_lk_iff {f : Nat → Nat} {a s a' s' : Nat} : sp_lk f a s a' s' = true ↔ (s = s' ∧ ∀ i, i < s → f (a + i) = f (a' + i)) := by simp [sp_lk]
theorem s_isLike {f : Nat → Nat} {n : Nat} {σ : tzS} (hT : MT f n σ) {k t a a' s s' : Nat} (hk : k < 110) (ht : t < 110) (ha : σ.1 136 k = nI a) (ha' : σ.1 140 t = nI a') (hs' : σ.1 141 t = nI s') (h1 : a + s ≤ n) (h2 : a' + s' ≤ n) {Q : Int32 → tzS → Prop} (y1 : sp_lk f a s a' s' = true → Q 1 σ) (y0 : ¬ sp_lk f a s a' s' = true → Q 0 σ) : vc_X10_isLike (nI k) (nI s) (nI t) σ Q := by
  have hn := hT.1
  unfold vc_X10_isLike
  rw [cl_nI (j := t) (by omega), cl_nI (j := k) (by omega), hs']
  refine ⟨in_nI ht (by omega), fun y r => r = σ ∧ ((y = 1 ∧ s = s') ∨ (y = 0 ∧ s ≠ s')), ?_, ?_, ?_⟩
  · rintro y r ⟨rfl, hy⟩ x4 rfl
    refine for2b 0 s (fun j x4 r' => r' = r ∧ ((x4 = 1 ∧ s = s' ∧ ∀ i, i < j → f (a + i) = f (a' + i)) ∨ (x4 = 0 ∧ ¬ sp_lk f a s a' s' = true))) (Nat.zero_le _) ?_ ?_ ?_
    · refine ⟨rfl, ?_⟩
      rcases hy with ⟨e1, e2⟩ | ⟨e1, e2⟩
      · exact Or.inl ⟨e1, e2, fun i hi => absurd hi (Nat.not_lt_zero i)⟩
      · exact Or.inr ⟨e1, fun q => e2 (sp_lk_iff.mp q).1⟩
    · rintro j x4 r' ag _ hj ⟨rfl, hx⟩ hag
      refine ⟨fun c => absurd ((le_nI (by omega) (by omega)).mp c) (by omega), fun _ => ⟨fun c => ?_, fun c => ?_⟩⟩
      · rcases hx with ⟨e1, -⟩ | ⟨e1, e2⟩
        · rw [e1] at c
          exact absurd c (by decide)
        · rw [e1]
          exact ⟨Or.inl rfl, y0 e2⟩
      · rcases hx with ⟨e1, e2, e3⟩ | ⟨e1, e2⟩
        · rw [ha, ha', nI_add, nI_add, cl_nI (by omega), cl_nI (by omega)]
          refine ⟨in_nI hk (by omega), in_nI (by omega) (by omega), in_nI (by omega) (by omega), ?_⟩
          have b1 := hT.2.2 (a + j) (by omega)
          have b2 := hT.2.2 (a' + j) (by omega)
          rw [b1.2, b2.2]
          refine ⟨fun c => ?_, fun c => ?_⟩
          · rintro x5 rfl
            rw [nI_1]
            refine hag _ _ ⟨rfl, Or.inr ⟨rfl, fun q => c ?_⟩⟩
            rw [(sp_lk_iff.mp q).2 j hj]
          · rintro x5 rfl
            rw [nI_1]
            refine hag _ _ ⟨rfl, Or.inl ⟨rfl, e2, fun i hi => ?_⟩⟩
            by_cases e : i = j
            · rw [e]
              exact (eq_nI (by omega) (by omega)).mp c
            · exact e3 i (by omega)
        · exact absurd e1 c
    · rintro x4 r' ag ⟨rfl, hx⟩
      refine ⟨fun _ => ?_, fun c => absurd ((le_nI (by omega) (by omega)).mpr (Nat.le_refl s)) c⟩
      rcases hx with ⟨e1, e2, e3⟩ | ⟨e1, e2⟩
      · rw [e1]
        exact ⟨Or.inr rfl, y1 (sp_lk_iff.mpr ⟨e2, e3⟩)⟩
      · rw [e1]
        exact ⟨Or.inl rfl, y0 e2⟩
  · exact fun c => ⟨rfl, Or.inr ⟨rfl, fun q => c (by rw [q])⟩⟩
  · exact fun c => ⟨rfl, Or.inl ⟨rfl, ((eq_nI (by omega) (by omega)).mp c).symm⟩⟩
/-! stems: plain facts -/
theorem sp_st_le (f A G : Nat → Nat) : ∀ c, (sp_st f A G c).1 ≤ c ∧ ∀ t, t < (sp_st f A G c).1 → (sp_st f A G c).2 t < c
  | 0 => ⟨Nat.le_refl _, fun t ht => absurd ht (Nat.not_lt_zero t)⟩
  | c + 1 => by
    obtain ⟨h1, h2⟩ := sp_st_le f A G c
    unfold sp_st
    split
    · exact ⟨by omega, fun t ht => Nat.lt_succ_of_lt (h2 t ht)⟩
    · refine ⟨by dsimp only; omega, fun t ht => ?_⟩
      dsimp only at ht ⊢
      split
      · omega
      · exact Nat.lt_succ_of_lt (h2 t (by omega))
theorem sp_st_old {f A G : Nat → Nat} {c : Nat} (h : sp_sn f A G c < (sp_st f A G c).1) : sp_st f A G (c + 1) = sp_st f A G c := by
  show (if _ then _ else _) = _
  exact if_pos h
theorem sp_st_new {f A G : Nat → Nat} {c : Nat} (h : ¬ sp_sn f A G c < (sp_st f A G c).1) : sp_st f A G (c + 1) = ((sp_st f A G c).1 + 1, fun j => if j = (sp_st f A G c).1 then c else (sp_st f A G c).2 j) := by
  show (if _ then _ else _) = _
  exact if_neg h
theorem sp_sn_le (f A G : Nat → Nat) (c : Nat) : sp_sn f A G c ≤ (sp_st f A G c).1 := fa_first_le _ _
/-- stems that are there stay, with their words -/
theorem sp_st_keep (f A G : Nat → Nat) (c : Nat) : ∀ d, (sp_st f A G c).1 ≤ (sp_st f A G (c + d)).1 ∧ ∀ t, t < (sp_st f A G c).1 → (sp_st f A G (c + d)).2 t = (sp_st f A G c).2 t
  | 0 => ⟨Nat.le_refl _, fun _ _ => rfl⟩
  | d + 1 => by
    obtain ⟨h1, h2⟩ := sp_st_keep f A G c d
    by_cases h : sp_sn f A G (c + d) < (sp_st f A G (c + d)).1
    · rw [show c + (d + 1) = (c + d) + 1 from rfl, sp_st_old h]
      exact ⟨h1, h2⟩
    · rw [show c + (d + 1) = (c + d) + 1 from rfl, sp_st_new h]
      refine ⟨by dsimp only; omega, fun t ht => ?_⟩
      dsimp only
      rw [if_neg (by omega)]
      exact h2 t ht
theorem sp_sn_lt {f A G : Nat → Nat} {c c' : Nat} (h : c < c') : sp_sn f A G c < (sp_st f A G c').1 := by
  have h1 := (sp_st_keep f A G (c + 1) (c' - (c + 1))).1
  rw [show c + 1 + (c' - (c + 1)) = c' by omega] at h1
  have h2 := sp_sn_le f A G c
  by_cases q : sp_sn f A G c < (sp_st f A G c).1
  · rw [sp_st_old q] at h1
    omega
  · rw [sp_st_new q] at h1
    dsimp only at h1
    omega
/-- what the reference has once it has read -/
def MR (f : Nat → Nat) (n : Nat) (σ : tzS) : Prop := σ.1 133 4 = sp_pl f n ∧ σ.1 133 5 = sp_wy f n ∧ σ.1 133 6 = sp_se f n ∧ σ.1 133 7 = nI (rd_S f n) ∧ σ.1 133 8 = nI (rd_W f n) ∧ σ.1 133 9 = nI (rd_K f n) ∧ σ.1 133 18 = -1 ∧ (∀ k, k < rd_W f n → σ.1 136 k = nI (sp_tA f n k) ∧ σ.1 137 k = nI (sp_tG f n k) ∧ σ.1 138 k = nI (sp_tN f n k) ∧ σ.1 139 k = nI (rd_sn f n k)) ∧ (∀ t, t < rd_K f n → σ.1 140 t = nI (sp_tA f n (rd_sw f n t)) ∧ σ.1 141 t = nI (rd_sl f n t)) ∧ (∀ s, s ≤ rd_S f n → σ.1 142 s = nI (rd_fw f n s)) ∧ ∀ s t, s < 12 → t < 110 → σ.1 143 (110 * s + t) = nI (rd_hv f n s t)
theorem sp_sl_le (f : Nat → Nat) (a g : Nat) : sp_sl f a g ≤ g := by
  unfold sp_sl
  repeat' split
  all_goals omega
/-- plain facts of a reading -/
theorem rd_ok {f : Nat → Nat} {n : Nat} (hn : n ≤ 200) : rd_W f n ≤ 100 ∧ rd_S f n ≤ 12 ∧ rd_K f n ≤ rd_W f n ∧ (∀ k, k < rd_W f n → sp_tA f n k + sp_tG f n k ≤ n ∧ 1 ≤ sp_tG f n k ∧ sp_tG f n k ≤ 10 ∧ (∀ j, j < sp_tG f n k → sp_L (f (sp_tA f n k + j)) = true) ∧ sp_tN f n k < rd_S f n) ∧ (∀ k k', k ≤ k' → k' < rd_W f n → sp_tN f n k ≤ sp_tN f n k') ∧ (∀ s, s < rd_S f n → ∃ k, k < rd_W f n ∧ sp_tN f n k = s) := by
  have hK : rd_K f n ≤ rd_W f n := (sp_st_le f _ _ (rd_W f n)).1
  by_cases hw : sp_well f n = true
  · obtain ⟨ho, h1⟩ := sp_well_ok hw
    have hJ := sp_ok_J ho
    have hWT := sp_WT_ok ho
    have hc := (sp_wc_le f n).2 (by omega)
    have eW : rd_W f n = sp_wc f n := if_pos hw
    have eS : rd_S f n = (sp_at f n).2.2.1 := if_pos hw
    rw [eW] at hK
    rw [eW, eS]
    have hi : (sp_at f n).2.1 = 0 ∧ (sp_at f n).2.2.1 ≤ 12 := by
      unfold sp_J at hJ
      omega
    refine ⟨by omega, hi.2, hK, fun k hk => ?_, hWT.2.2.1, hWT.2.2.2.2⟩
    obtain ⟨a1, a2, a3, a4, a5, a6⟩ := hWT.1 k hk
    refine ⟨a1, a2, a3, a4, ?_⟩
    have k2 := hWT.2.2.2.1
    rw [hi.1] at k2
    have k3 := fb_ct_zero.mp k2.symm k hk
    simp at k3
    omega
  · have eW : rd_W f n = 0 := if_neg hw
    have eS : rd_S f n = 0 := if_neg hw
    rw [eW] at hK
    rw [eW, eS]
    exact ⟨by omega, by omega, hK, fun k hk => absurd hk (Nat.not_lt_zero k), fun k k' _ hk => absurd hk (Nat.not_lt_zero k'), fun s hs => absurd hs (Nat.not_lt_zero s)⟩
/-- a loop that counts up and may end early -/
theorem for1w {B : Int32 → tzS → (Int32 → tzS → Prop) → Prop} {σ : tzS} (lo hi : Nat) (I : Nat → tzS → Prop) (hle : lo ≤ hi) (h0 : I lo σ) (step : ∀ i σ ag, lo ≤ i → i ≤ hi → I i σ → (i < hi → ∀ σ', I (i + 1) σ' → ag (nI (i + 1)) σ') → B (nI i) σ ag) : tz_loop1 B (nI lo) σ := by
  refine ⟨fun n x s => ∃ i, x = nI i ∧ lo ≤ i ∧ i ≤ hi ∧ n = hi - i ∧ I i s, ⟨hi - lo, lo, rfl, Nat.le_refl _, hle, rfl, h0⟩, ?_⟩
  rintro n x s ⟨i, rfl, h1, h2, rfl, hI⟩
  exact step i s _ h1 h2 hI (fun hi' σ' h' => ⟨hi - (i + 1), by omega, i + 1, rfl, by omega, by omega, rfl, h'⟩)
theorem s_reads {f : Nat → Nat} {n : Nat} {σ : tzS} (hT : MT f n σ) {Q : tzS → Prop} (h : ∀ σ', MR f n σ' → mk1 σ σ' → Q σ') : vc_X10_reads σ Q := by
  have hn := hT.1
  obtain ⟨r1, r2, r3, r4, r5, r6⟩ := rd_ok (f := f) hn
  unfold vc_X10_reads
  refine s_readsText hT (fun σ1 f4 f5 f6 fW fk => ?_)
  refine ⟨fun s0 => mk1 σ s0 ∧ s0.1 133 4 = sp_pl f n ∧ s0.1 133 5 = sp_wy f n ∧ s0.1 133 6 = sp_se f n ∧ s0.1 133 7 = nI (rd_S f n) ∧ s0.1 133 8 = nI (rd_W f n) ∧ (∀ k, k < rd_W f n → s0.1 136 k = nI (sp_tA f n k) ∧ s0.1 137 k = nI (sp_tG f n k) ∧ s0.1 138 k = nI (sp_tN f n k)) ∧ (∀ s, s < rd_S f n → s0.1 142 s = nI (rd_fw f n s)), ?_, ?_, ?_⟩
  rotate_left
  · intro c
    have hw : sp_well f n = true := by
      by_cases q : sp_well f n = true
      · exact q
      · exfalso
        rw [f4] at c
        unfold sp_pl at c
        have hle := sp_f_le (f := f) (n := n)
        by_cases q1 : sp_f f n < n
        · rw [if_pos q1] at c
          exact ne_m1 (by omega) c
        · by_cases q2 : 1 < (sp_at f n).1
          · rw [if_neg q1, if_pos q2] at c
            exact ne_m1 (by omega) c
          · apply q
            simp [sp_well]
            omega
    have hW := fW hw
    have eW : rd_W f n = sp_wc f n := if_pos hw
    have eS : rd_S f n = (sp_at f n).2.2.1 := if_pos hw
    refine ⟨fk, f4, f5, f6, by rw [eS]; exact hW.1, by rw [eW]; exact hW.2.1, fun k hk => hW.2.2.1 k (by omega), fun s hs => ?_⟩
    rw [hW.2.2.2 s (by omega)]
    unfold rd_fw
    rw [eW]
  · intro c
    have hw : ¬ sp_well f n = true := by
      intro q
      apply c
      rw [f4]
      have q2 := sp_well_ok q
      unfold sp_pl
      rw [sp_f_end q2.1, if_neg (Nat.lt_irrefl n), if_neg (by omega)]
    have eW : rd_W f n = 0 := if_neg hw
    have eS : rd_S f n = 0 := if_neg hw
    rintro σ2 rfl σ3 rfl
    refine ⟨(fk.st3 (by omega)).st3 (by omega), ?_, ?_, ?_, ?_, ?_, fun k hk => absurd hk (by omega), fun s hs => absurd hs (by omega)⟩
    · rw [st_nj (by decide), st_nj (by decide)]; exact f4
    · rw [st_nj (by decide), st_nj (by decide)]; exact f5
    · rw [st_nj (by decide), st_nj (by decide)]; exact f6
    · rw [st_nj (by decide), st_eq, eS]; rfl
    · rw [st_eq, eW]; rfl
  rintro s0 ⟨hk0, e4, e5, e6, e7, e8, hwd, hfw⟩ σ4 rfl
  -- the counts are emptied
  refine for1 0 1320 (fun j s => (∀ i, i < j → s.1 143 i = 0) ∧ s.1 133 9 = 0 ∧ (∀ a, a ≠ 143 → a ≠ 133 → s.1 a = s0.1 a) ∧ (∀ j, j ≠ 9 → s.1 133 j = s0.1 133 j) ∧ s.2 = s0.2) (Nat.zero_le _) ?_ ?_ ?_
  · exact ⟨fun i hi => absurd hi (Nat.not_lt_zero i), st_eq, fun a _ h2 => st_ne h2, fun j hj => st_nj hj, rfl⟩
  · intro j s ag _ hj hI hag
    obtain ⟨i1, i2, i3, i4, i5⟩ := hI
    refine ⟨fun c => absurd ((le_nI (a := 1320) (by omega) (by omega)).mp c) (by omega), fun _ => ⟨in_nI hj (by omega), ?_⟩⟩
    rw [cl_nI (by omega)]
    rintro σ5 rfl x rfl
    rw [nI_1]
    refine hag _ ⟨fun i hi => ?_, by rw [st_ne (by decide)]; exact i2, fun a h1 h2 => by rw [st_ne h1]; exact i3 a h1 h2, fun j hj => by rw [st_ne (by decide)]; exact i4 j hj, i5⟩
    by_cases e : i = j
    · rw [e, st_eq]
    · rw [st_nj e]
      exact i1 i (by omega)
  · intro s ag hI
    obtain ⟨i1, i2, i3, i4, i5⟩ := hI
    refine ⟨fun _ => ?_, fun c => absurd ((le_nI (a := 1320) (by omega) (by omega)).mpr (Nat.le_refl _)) c⟩
    -- word by word
    refine for1 0 (rd_W f n) (fun c r => r.1 133 9 = nI (sp_st f (sp_tA f n) (sp_tG f n) c).1 ∧ (∀ k, k < c → r.1 139 k = nI (rd_sn f n k)) ∧ (∀ t, t < (sp_st f (sp_tA f n) (sp_tG f n) c).1 → r.1 140 t = nI (sp_tA f n ((sp_st f (sp_tA f n) (sp_tG f n) c).2 t)) ∧ r.1 141 t = nI (sp_sl f (sp_tA f n ((sp_st f (sp_tA f n) (sp_tG f n) c).2 t)) (sp_tG f n ((sp_st f (sp_tA f n) (sp_tG f n) c).2 t)))) ∧ (∀ s t, s < 12 → t < 110 → r.1 143 (110 * s + t) = nI (fb_ct (fun k => decide (sp_tN f n k = s ∧ rd_sn f n k = t)) c)) ∧ (∀ a, a ≠ 143 → a ≠ 133 → a ≠ 139 → a ≠ 140 → a ≠ 141 → r.1 a = s0.1 a) ∧ (∀ j, j ≠ 9 → r.1 133 j = s0.1 133 j) ∧ r.2 = s0.2) (Nat.zero_le _) ?_ ?_ ?_
    · refine ⟨i2, fun k hk => absurd hk (Nat.not_lt_zero k), fun t ht => absurd ht (Nat.not_lt_zero t), fun s t hs ht => i1 _ (by omega), fun a h1 h2 _ _ _ => i3 a h1 h2, i4, i5⟩
    · intro c r ag _ hc hI hag
      obtain ⟨j1, j2, j3, j4, j5, j6, j7⟩ := hI
      have hkr : mk1 σ r := ⟨fun a ha => by rw [j5 a (by omega) (by omega) (by omega) (by omega) (by omega)]; exact hk0.1 a ha, fun j hj => by rw [j6 j (by omega)]; exact hk0.2.1 j hj, j7.trans hk0.2.2⟩
      have hTr := hT.mk1 hkr
      obtain ⟨a1, a2, a3, a4, a5⟩ := r4 c hc
      obtain ⟨w1, w2, w3⟩ := hwd c hc
      have q136 : r.1 136 = s0.1 136 := j5 136 (by decide) (by decide) (by decide) (by decide) (by decide)
      have q137 : r.1 137 = s0.1 137 := j5 137 (by decide) (by decide) (by decide) (by decide) (by decide)
      have q138 : r.1 138 = s0.1 138 := j5 138 (by decide) (by decide) (by decide) (by decide) (by decide)
      have hKc := (sp_st_le f (sp_tA f n) (sp_tG f n) c)
      have hsl := sp_sl_le f (sp_tA f n c) (sp_tG f n c)
      rw [j6 8 (by decide), e8]
      refine ⟨fun c2 => absurd ((le_nI (by omega) (by omega)).mp c2) (by omega), fun _ => ?_⟩
      refine s_longOf hTr (by omega) (by rw [q136]; exact w1) (by rw [q137]; exact w2) a1 ?_
      -- the stem is sought
      refine for1w 0 (sp_st f (sp_tA f n) (sp_tG f n) c).1 (fun t r' => r' = r ∧ ∀ t', t' < t → sp_lk f (sp_tA f n c) (sp_sl f (sp_tA f n c) (sp_tG f n c)) (sp_tA f n ((sp_st f (sp_tA f n) (sp_tG f n) c).2 t')) (sp_sl f (sp_tA f n ((sp_st f (sp_tA f n) (sp_tG f n) c).2 t')) (sp_tG f n ((sp_st f (sp_tA f n) (sp_tG f n) c).2 t'))) = false) (Nat.zero_le _) ⟨rfl, fun t' h' => absurd h' (Nat.not_lt_zero t')⟩ ?_
      rintro t r' ag' _ ht ⟨rfl, hno⟩ hag'
      refine ⟨fun s' => s' = r' ∧ rd_sn f n c = t, ?_, ?_, ?_⟩
      · rintro s' ⟨rfl, hsn⟩
        have hsn' : sp_sn f (sp_tA f n) (sp_tG f n) c = t := hsn
        -- the tables of stems with this word
        refine ⟨fun r2 => r2.1 133 9 = nI (sp_st f (sp_tA f n) (sp_tG f n) (c + 1)).1 ∧ (∀ t, t < (sp_st f (sp_tA f n) (sp_tG f n) (c + 1)).1 → r2.1 140 t = nI (sp_tA f n ((sp_st f (sp_tA f n) (sp_tG f n) (c + 1)).2 t)) ∧ r2.1 141 t = nI (sp_sl f (sp_tA f n ((sp_st f (sp_tA f n) (sp_tG f n) (c + 1)).2 t)) (sp_tG f n ((sp_st f (sp_tA f n) (sp_tG f n) (c + 1)).2 t)))) ∧ (∀ a, a ≠ 133 → a ≠ 140 → a ≠ 141 → r2.1 a = s'.1 a) ∧ (∀ j, j ≠ 9 → r2.1 133 j = s'.1 133 j) ∧ r2.2 = s'.2, ?_, ?_, ?_⟩
        · rintro r2 ⟨b1, b2, b3, b4, b5⟩
          rw [cl_nI (by omega)]
          refine ⟨in_nI (by omega) (by omega), ?_⟩
          rintro σ5 rfl
          have hN : (tz_st r2 139 c (nI t)).1 138 c = nI (sp_tN f n c) := by
            rw [st_ne (by decide), b3 138 (by decide) (by decide) (by decide), q138]
            exact w3
          have hix : (110 : Int32) * nI (sp_tN f n c) + nI t = nI (110 * sp_tN f n c + t) := by
            show nI 110 * nI (sp_tN f n c) + nI t = _
            rw [pk_mul, nI_add]
          rw [hN, hix, cl_nI (by omega)]
          refine ⟨in_nI (by omega) (by omega), ?_⟩
          rintro σ6 rfl x rfl
          rw [nI_1]
          refine hag _ ⟨?_, fun k hk => ?_, fun t' ht' => ?_, fun s t' hs ht' => ?_, fun a h1 h2 h3 h4 h5 => ?_, fun j hj => ?_, ?_⟩
          · rw [st_ne (by decide), st_ne (by decide)]
            exact b1
          · rw [st_ne (by decide)]
            by_cases e : k = c
            · rw [e, st_eq, hsn]
            · rw [st_nj e, b3 139 (by decide) (by decide) (by decide)]
              exact j2 k (by omega)
          · rw [st_ne (by decide), st_ne (by decide), st_ne (by decide), st_ne (by decide)]
            exact b2 t' ht'
          · rw [fb_ct_succ]
            have o1 := j4 s t' hs ht'
            by_cases e : s = sp_tN f n c ∧ t' = t
            · rw [e.1, e.2, st_eq, st_ne (by decide), b3 143 (by decide) (by decide) (by decide), ← e.1, ← e.2, o1, if_pos (by simp [e.1, e.2, hsn]), nI_1]
            · rw [st_nj (by omega), st_ne (by decide), b3 143 (by decide) (by decide) (by decide), o1, if_neg, Nat.add_zero]
              simp
              intro e1 e2
              exact e ⟨e1.symm, by rw [← hsn]; exact e2.symm⟩
          · rw [st_ne h1, st_ne h3, b3 a h2 h4 h5]
            exact j5 a h1 h2 h3 h4 h5
          · rw [st_ne (by decide), st_ne (by decide), b4 j hj]
            exact j6 j hj
          · show r2.2 = _
            rw [b5]
            exact j7
        · intro c2
          rw [j1] at c2
          have hlt : ¬ t = (sp_st f (sp_tA f n) (sp_tG f n) c).1 := fun q => c2 (by rw [q])
          have hold := sp_st_old (f := f) (A := sp_tA f n) (G := sp_tG f n) (c := c) (by rw [hsn']; omega)
          rw [hold]
          exact ⟨j1, j3, fun _ _ _ _ => rfl, fun _ _ => rfl, rfl⟩
        · intro c2
          rw [j1] at c2
          have heq : t = (sp_st f (sp_tA f n) (sp_tG f n) c).1 := (eq_nI (by omega) (by omega)).mp c2
          have hnew := sp_st_new (f := f) (A := sp_tA f n) (G := sp_tG f n) (c := c) (by rw [hsn']; omega)
          rw [j1, cl_nI (j := c) (by omega), cl_nI (by omega)]
          refine ⟨in_nI (by omega) (by omega), in_nI (by omega) (by omega), ?_⟩
          rintro σ5 rfl
          rw [st_ne (by decide), j1, cl_nI (by omega)]
          refine ⟨in_nI (by omega) (by omega), ?_⟩
          rintro σ6 rfl σ7 rfl
          rw [hnew]
          dsimp only
          refine ⟨?_, fun t' ht' => ?_, fun a h1 h2 h3 => ?_, fun j hj => ?_, rfl⟩
          · rw [st_eq, st_ne (by decide), st_ne (by decide), j1, nI_1]
          · by_cases e : t' = (sp_st f (sp_tA f n) (sp_tG f n) c).1
            · rw [e, if_pos rfl]
              refine ⟨?_, ?_⟩
              · rw [st_ne (by decide), st_ne (by decide), st_eq, q136, w1]
              · rw [st_ne (by decide), st_eq]
            · rw [if_neg e]
              refine ⟨?_, ?_⟩
              · rw [st_ne (by decide), st_ne (by decide), st_nj e]
                exact (j3 t' (by omega)).1
              · rw [st_ne (by decide), st_nj e, st_ne (by decide)]
                exact (j3 t' (by omega)).2
          · rw [st_ne h1, st_ne h3, st_ne h2]
          · rw [st_nj hj, st_ne (by decide), st_ne (by decide)]
      · intro c2
        rw [j1] at c2
        have c2 := (le_nI (by omega) (by omega)).mp c2
        exact ⟨rfl, fa_first_is ht hno (fun q => absurd q (by omega))⟩
      · intro c2
        rw [j1] at c2
        have c2 : ¬ (sp_st f (sp_tA f n) (sp_tG f n) c).1 ≤ t := fun q => c2 ((le_nI (by omega) (by omega)).mpr q)
        have hw := hKc.2 t (by omega)
        obtain ⟨b1, b2, b3, b4, b5⟩ := r4 ((sp_st f (sp_tA f n) (sp_tG f n) c).2 t) (by omega)
        have hsl2 := sp_sl_le f (sp_tA f n ((sp_st f (sp_tA f n) (sp_tG f n) c).2 t)) (sp_tG f n ((sp_st f (sp_tA f n) (sp_tG f n) c).2 t))
        refine s_isLike hTr (by omega) (by omega) (by rw [q136]; exact w1) (j3 t (by omega)).1 (j3 t (by omega)).2 (by omega) (by omega) (fun hl => ?_) (fun hl => ?_)
        · exact ⟨fun _ => ⟨rfl, fa_first_is ht hno (fun _ => hl)⟩, fun z => absurd z (by decide)⟩
        · refine ⟨fun z => absurd rfl z, fun _ => ?_⟩
          rintro x rfl
          rw [nI_1]
          refine hag' (by omega) _ ⟨rfl, fun t' ht' => ?_⟩
          by_cases e : t' = t
          · rw [e]
            simpa using hl
          · exact hno t' (by omega)
    · intro r ag hI
      obtain ⟨j1, j2, j3, j4, j5, j6, j7⟩ := hI
      rw [j6 8 (by decide), j6 7 (by decide), e8, e7, cl_nI (by omega)]
      refine ⟨fun _ => ⟨in_nI (by omega) (by omega), ?_⟩, fun c2 => absurd ((le_nI (by omega) (by omega)).mpr (Nat.le_refl _)) c2⟩
      rintro σ5 rfl σ6 rfl
      have q136 : r.1 136 = s0.1 136 := j5 136 (by decide) (by decide) (by decide) (by decide) (by decide)
      have q137 : r.1 137 = s0.1 137 := j5 137 (by decide) (by decide) (by decide) (by decide) (by decide)
      have q138 : r.1 138 = s0.1 138 := j5 138 (by decide) (by decide) (by decide) (by decide) (by decide)
      have q142 : r.1 142 = s0.1 142 := j5 142 (by decide) (by decide) (by decide) (by decide) (by decide)
      have hkr : mk1 σ r := ⟨fun a ha => by rw [j5 a (by omega) (by omega) (by omega) (by omega) (by omega)]; exact hk0.1 a ha, fun j hj => by rw [j6 j (by omega)]; exact hk0.2.1 j hj, j7.trans hk0.2.2⟩
      refine h _ ⟨?_, ?_, ?_, ?_, ?_, ?_, ?_, fun k hk => ?_, fun t ht => ?_, fun s hs => ?_, fun s t hs ht => ?_⟩ ((hkr.st (by omega)).st3 (by omega))
      · rw [st_nj (by decide), st_ne (by decide), j6 4 (by decide)]; exact e4
      · rw [st_nj (by decide), st_ne (by decide), j6 5 (by decide)]; exact e5
      · rw [st_nj (by decide), st_ne (by decide), j6 6 (by decide)]; exact e6
      · rw [st_nj (by decide), st_ne (by decide), j6 7 (by decide)]; exact e7
      · rw [st_nj (by decide), st_ne (by decide), j6 8 (by decide)]; exact e8
      · rw [st_nj (by decide), st_ne (by decide)]; exact j1
      · rw [st_eq]
      · rw [st_ne (by decide), st_ne (by decide), st_ne (by decide), st_ne (by decide), st_ne (by decide), st_ne (by decide), st_ne (by decide), st_ne (by decide), q136, q137, q138]
        exact ⟨(hwd k hk).1, (hwd k hk).2.1, (hwd k hk).2.2, j2 k hk⟩
      · rw [st_ne (by decide), st_ne (by decide), st_ne (by decide), st_ne (by decide)]
        exact j3 t ht
      · rw [st_ne (by decide)]
        by_cases e : s = rd_S f n
        · rw [e, st_eq]
          congr 1
          refine (fb_ct_all.mpr (fun k hk => ?_)).symm
          have := (r4 k hk).2.2.2.2
          simp
          exact this
        · rw [st_nj e, q142]
          exact hfw s (by omega)
      · rw [st_ne (by decide), st_ne (by decide)]
        exact j4 s t hs ht
