/-! ===== ARGUMENTS ===== -/
/-- an argument as a number: what is below nought is far too great -/
def un (x : Int32) : Nat := if x < 0 then 100000 else x.toNatClampNeg
theorem un_neg {x : Int32} (h : x < 0) : un x = 100000 := if_pos h
theorem un_nI {k : Nat} (h : k < 100000) : un (nI k) = k := by
  unfold un
  rw [if_neg (pos_nI h), cl_nI h]
theorem un_is (x : Int32) (h : ¬ x < 0) : x = nI (un x) ∧ un x < 2 ^ 31 := by
  have e : un x = x.toNatClampNeg := if_neg h
  have hp : 0 ≤ x.toInt := by
    rw [Int32.lt_iff_toInt_lt] at h
    have : (0 : Int32).toInt = 0 := rfl
    omega
  have hl := Int32.toInt_lt x
  rw [e]
  have h2 : x.toNatClampNeg < 2 ^ 31 := by
    show x.toInt.toNat < 2 ^ 31
    omega
  refine ⟨?_, h2⟩
  apply Int32.toInt_inj.mp
  rw [nI_toInt h2]
  show x.toInt = ((x.toInt.toNat : Nat) : Int)
  omega
theorem un_lt {x : Int32} (h : ¬ x < 0) {b : Nat} (hb : b < 100000) : x < nI b ↔ un x < b := by
  obtain ⟨e, h2⟩ := un_is x h
  generalize un x = k at *
  subst e
  exact nI_ltI h2 (by omega)
theorem un_le {x : Int32} (h : ¬ x < 0) {b : Nat} (hb : b < 100000) : x ≤ nI b ↔ un x ≤ b := by
  obtain ⟨e, h2⟩ := un_is x h
  generalize un x = k at *
  subst e
  exact nI_leI h2 (by omega)
theorem un_ge {x : Int32} (h : ¬ x < 0) {b : Nat} (hb : b < 100000) : nI b ≤ x ↔ b ≤ un x := by
  obtain ⟨e, h2⟩ := un_is x h
  generalize un x = k at *
  subst e
  exact nI_leI (by omega) h2
theorem un_gt {x : Int32} (h : ¬ x < 0) {b : Nat} (hb : b < 100000) : nI b < x ↔ b < un x := by
  obtain ⟨e, h2⟩ := un_is x h
  generalize un x = k at *
  subst e
  exact nI_ltI (by omega) h2
theorem un_at {x : Int32} {b : Nat} (h : un x < b) (hb : b ≤ 100000) : x = nI (un x) := by
  by_cases c : x < 0
  · rw [un_neg c] at h
    omega
  · exact (un_is x c).1
theorem un_eq {x : Int32} {b : Nat} (hb : b < 100000) : x = nI b ↔ un x = b := by
  refine ⟨fun e => by rw [e, un_nI hb], fun e => ?_⟩
  have := un_at (x := x) (b := b + 1) (by omega) (by omega)
  rw [this, e]
theorem un_npos {x : Int32} {b : Nat} (h : un x < b) (hb : b ≤ 100000) : ¬ x < 0 := fun c => by
  rw [un_neg c] at h
  omega
theorem un_lt1 {x : Int32} (h : x < 1) : un x = 100000 ∨ un x = 0 := by
  by_cases c : x < 0
  · exact Or.inl (un_neg c)
  · exact Or.inr (by have := (un_lt c (b := 1) (by omega)).mp h; omega)
theorem s_inU {x : Int32} {lo hi : Nat} (hl : lo < 100000) (hh : hi < 100000) {σ : tzS} {Q : Int32 → tzS → Prop} (h1 : lo ≤ un x → un x ≤ hi → Q 1 σ) (h0 : ¬ (lo ≤ un x ∧ un x ≤ hi) → Q 0 σ) : vc_X10_in x (nI lo) (nI hi) σ Q := by
  refine s_in (fun a b => ?_) (fun a => ?_)
  · by_cases c : x < 0
    · exfalso
      rw [Int32.lt_iff_toInt_lt] at c
      rw [Int32.le_iff_toInt_le, nI_toInt (by omega)] at a
      have : (0 : Int32).toInt = 0 := rfl
      omega
    · exact h1 ((un_ge c hl).mp a) ((un_le c hh).mp b)
  · refine h0 (fun w => a ?_)
    have c := un_npos (x := x) (b := hi + 1) (by omega) (by omega)
    exact ⟨(un_ge c hl).mpr w.1, (un_le c hh).mpr w.2⟩
theorem s_inM {x : Int32} {lo S : Nat} (hl : lo < 100000) (hS : S < 100000) {σ : tzS} {Q : Int32 → tzS → Prop} (h1 : lo ≤ un x → un x < S → Q 1 σ) (h0 : ¬ (lo ≤ un x ∧ un x < S) → Q 0 σ) : vc_X10_in x (nI lo) (nI S - 1) σ Q := by
  by_cases s0 : S = 0
  · subst s0
    refine s_in (fun a b => ?_) (fun _ => h0 (by omega))
    exfalso
    rw [Int32.le_iff_toInt_le] at a b
    rw [nI_toInt (by omega)] at a
    have : (nI 0 - 1).toInt = -1 := rfl
    omega
  · rw [nI_sub1 (by omega)]
    exact s_inU hl (by omega) (fun a b => h1 a (by omega)) (fun a => h0 (by omega))
/-! ===== THE STATE ===== -/
def CS (ru fe li wi td : Nat) (σ : tzS) : Prop := ru ≤ 3 ∧ fe ≤ 40 ∧ li ≤ 4 ∧ wi ≤ 4 ∧ td < 4096 ∧ σ.1 132 0 = nI ru ∧ σ.1 132 1 = nI fe ∧ σ.1 132 2 = nI li ∧ σ.1 132 3 = nI wi ∧ σ.1 0 10 = nI td
def PartOK (f : Nat → Nat) (n ru fe : Nat) (σ : tzS) : Prop := BlkOK f n ru fe (rd_S f n) 43 σ ∧ PtOK (rd_cost f n ru fe (rd_S f n)) (rd_S f n) 59 σ
def CF (f : Nat → Nat) (n ru fe li wi : Nat) (σ : tzS) : Prop := (¬ σ.1 0 12 = 0 → FlawOK f n σ ∧ ReadOK f n σ) ∧ (¬ σ.1 0 13 = 0 → LinkOK f n li σ) ∧ (¬ σ.1 0 14 = 0 → PartOK f n ru fe σ) ∧ (¬ σ.1 0 15 = 0 → DropOK f n ru fe σ) ∧ (¬ σ.1 0 16 = 0 → GapOK f n wi σ)
def CI (f : Nat → Nat) (n ru fe li wi td : Nat) (σ : tzS) : Prop := CT f n σ ∧ CS ru fe li wi td σ ∧ CF f n ru fe li wi σ
/-- what a question to the class leaves as it was -/
def qf (σ σ' : tzS) : Prop := (∀ a, (a = 1 ∨ a = 2 ∨ 124 ≤ a) → σ'.1 a = σ.1 a) ∧ (∀ j, j < 12 → σ'.1 0 j = σ.1 0 j) ∧ (¬ σ.1 0 12 = 0 → ¬ σ'.1 0 12 = 0)
theorem qf.rf {σ : tzS} : qf σ σ := ⟨fun _ _ => rfl, fun _ _ => rfl, fun z => z⟩
theorem qf.tr {σ σ' σ'' : tzS} (h : qf σ σ') (h2 : qf σ' σ'') : qf σ σ'' := ⟨fun a ha => (h2.1 a ha).trans (h.1 a ha), fun j hj => (h2.2.1 j hj).trans (h.2.1 j hj), fun z => h2.2.2 (h.2.2 z)⟩
theorem qf.st0 {σ σ' : tzS} {j : Nat} {v : Int32} (h : qf σ σ') (hj : 13 ≤ j) : qf σ (tz_st σ' 0 j v) := ⟨fun a ha => by rw [st_ne (by omega)]; exact h.1 a ha, fun i hi => by rw [st_nj (by omega)]; exact h.2.1 i hi, fun z => by rw [st_nj (by omega)]; exact h.2.2 z⟩
theorem bt.qf {lo hi : Nat} {σ σ' : tzS} (h : bt lo hi σ σ') (h1 : 3 ≤ lo) (h2 : hi ≤ 123) : qf σ σ' := ⟨fun a ha => h.1 a (by omega), fun j hj => by rw [h.1 0 (by omega)], fun z => by rw [h.1 0 (by omega)]; exact z⟩
theorem CT.qf {f : Nat → Nat} {n : Nat} {σ σ' : tzS} (h : CT f n σ) (hk : qf σ σ') : CT f n σ' := ⟨h.1, by rw [hk.1 1 (by omega)]; exact h.2.1, fun i hi => ⟨(h.2.2 i hi).1, by rw [hk.1 2 (by omega)]; exact (h.2.2 i hi).2⟩⟩
theorem CS.qf {ru fe li wi td : Nat} {σ σ' : tzS} (h : CS ru fe li wi td σ) (hk : qf σ σ') : CS ru fe li wi td σ' := by
  unfold CS at *
  rw [hk.1 132 (by omega), hk.2.1 10 (by omega)]
  exact h
theorem FlawOK.cg {f : Nat → Nat} {n : Nat} {σ σ' : tzS} (h : FlawOK f n σ) (e : σ'.1 3 = σ.1 3) : FlawOK f n σ' := by
  unfold FlawOK at *
  rw [e]
  exact h
theorem ReadOK.cg {f : Nat → Nat} {n : Nat} {σ σ' : tzS} (h : ReadOK f n σ) (hS : rd_S f n ≤ 12) (e : ∀ a, 4 ≤ a → a ≤ 36 → σ'.1 a = σ.1 a) (e2 : σ'.2 = σ.2) : ReadOK f n σ' := by
  obtain ⟨h1, h2, h3, h4, h5, h6⟩ := h
  refine ⟨?_, ?_, ?_, fun s hs => ?_, fun s t hs ht => ?_, fun t ht => ?_⟩
  · rw [e 4 (by omega) (by omega)]; exact h1
  · rw [e 4 (by omega) (by omega)]; exact h2
  · rw [e 4 (by omega) (by omega)]; exact h3
  · rw [e 6 (by omega) (by omega), e 5 (by omega) (by omega), e (8 + s) (by omega) (by omega)]; exact h4 s hs
  · rw [e (21 + s) (by omega) (by omega)]; exact h5 s t hs ht
  · rw [e 33 (by omega) (by omega), e 34 (by omega) (by omega), e 35 (by omega) (by omega), e 36 (by omega) (by omega), e2]; exact h6 t ht
theorem LinkOK.cg {f : Nat → Nat} {n li : Nat} {σ σ' : tzS} (h : LinkOK f n li σ) (e : ∀ a, 38 ≤ a → a ≤ 42 → σ'.1 a = σ.1 a) : LinkOK f n li σ' := by
  unfold LinkOK LK at *
  rw [e 38 (by omega) (by omega), e 39 (by omega) (by omega), e 40 (by omega) (by omega), e 41 (by omega) (by omega), e 42 (by omega) (by omega)]
  exact h
theorem PartOK.cg {f : Nat → Nat} {n ru fe : Nat} {σ σ' : tzS} (h : PartOK f n ru fe σ) (hS : rd_S f n ≤ 12) (e : ∀ a, 43 ≤ a → a ≤ 79 → σ'.1 a = σ.1 a) : PartOK f n ru fe σ' := by
  have := Sd_le (S := rd_S f n) (d := rd_S f n)
  refine ⟨fun i j h1 h2 => ?_, fun k j h1 h2 h3 h4 => ?_⟩
  · rw [e _ (by omega) (by omega)]; exact h.1 i j h1 h2
  · rw [e _ (by omega) (by omega), e _ (by omega) (by omega)]; exact h.2 k j h1 h2 h3 h4
theorem DropOK.cg {f : Nat → Nat} {n ru fe : Nat} {σ σ' : tzS} (h : DropOK f n ru fe σ) (e1 : σ'.1 81 = σ.1 81) (e2 : σ'.1 82 = σ.1 82) : DropOK f n ru fe σ' := by
  unfold DropOK at *
  rw [e1, e2]
  exact h
theorem GapOK.cg {f : Nat → Nat} {n wi : Nat} {σ σ' : tzS} (h : GapOK f n wi σ) (e : ∀ a, 121 ≤ a → a ≤ 123 → σ'.1 a = σ.1 a) : GapOK f n wi σ' := by
  unfold GapOK at *
  rw [e 121 (by omega) (by omega), e 122 (by omega) (by omega), e 123 (by omega) (by omega)]
  exact h
theorem c_read {f : Nat → Nat} {n ru fe li wi td : Nat} {σ : tzS} (hC : CI f n ru fe li wi td σ) {Q : tzS → Prop} (h : ∀ σ', CI f n ru fe li wi td σ' → FlawOK f n σ' → ReadOK f n σ' → ¬ σ'.1 0 12 = 0 → qf σ σ' → Q σ') : vc_X9_readText σ Q := by
  obtain ⟨hT, hS, c1, c2, c3, c4, c5⟩ := hC
  have hS12 := (rd_ok (f := f) hT.1).2.1
  unfold vc_X9_readText
  refine ⟨fun z => ?_, fun z => h σ ⟨hT, hS, c1, c2, c3, c4, c5⟩ (c1 z).1 (c1 z).2 z qf.rf⟩
  refine s_seek hT (fun σ2 hF hb => ?_)
  have hT2 : CT f n σ2 := ⟨hT.1, by rw [hb.1 1 (by omega)]; exact hT.2.1, fun i hi => ⟨(hT.2.2 i hi).1, by rw [hb.1 2 (by omega)]; exact (hT.2.2 i hi).2⟩⟩
  have fin : ∀ σ4 σ5 : tzS, ReadOK f n σ4 → ck1 σ2 σ4 → σ5 = tz_st σ4 0 12 1 → Q σ5 := by
    intro σ4 σ5 hR hk h5
    have e5 : ∀ a, a ≠ 0 → σ5.1 a = σ4.1 a := fun a ha => by rw [h5, st_ne ha]
    have e4 : ∀ a, (a < 3 ∨ 37 ≤ a) → σ4.1 a = σ.1 a := fun a ha => by rw [hk.1 a (by omega), hb.1 a (by omega)]
    have ef : ∀ j, j ≠ 12 → σ5.1 0 j = σ.1 0 j := fun j hj => by rw [h5, st_nj hj, e4 0 (by omega)]
    have hq : qf σ σ5 := ⟨fun a ha => by rw [e5 a (by omega), e4 a (by omega)], fun j hj => ef j (by omega), fun _ => by rw [h5, st_eq]; decide⟩
    have hF5 : FlawOK f n σ5 := (hF.cg (hk.1 3 (by omega))).cg (e5 3 (by omega))
    have hR5 : ReadOK f n σ5 := hR.cg hS12 (fun a h1 h2 => e5 a (by omega)) (by rw [h5]; rfl)
    refine h σ5 ⟨hT.qf hq, hS.qf hq, fun _ => ⟨hF5, hR5⟩, ?_, ?_, ?_, ?_⟩ hF5 hR5 (by rw [h5, st_eq]; decide) hq
    · rw [ef 13 (by omega)]
      exact fun z => (c2 z).cg (fun a h1 h2 => by rw [e5 a (by omega), e4 a (by omega)])
    · rw [ef 14 (by omega)]
      exact fun z => (c3 z).cg hS12 (fun a h1 h2 => by rw [e5 a (by omega), e4 a (by omega)])
    · rw [ef 15 (by omega)]
      exact fun z => (c4 z).cg (by rw [e5 81 (by omega), e4 81 (by omega)]) (by rw [e5 82 (by omega), e4 82 (by omega)])
    · rw [ef 16 (by omega)]
      exact fun z => (c5 z).cg (fun a h1 h2 => by rw [e5 a (by omega), e4 a (by omega)])
  have hw : σ2.1 3 1 = -1 ↔ sp_well f n = true := by
    rw [hF.2.1]
    unfold sp_wy sp_well
    have hle := sp_f_le (f := f) (n := n)
    by_cases d1 : sp_f f n < n
    · rw [if_pos d1]
      have hy : sp_why (f (sp_f f n)) (sp_at f (sp_f f n)) < 100000 := by
        unfold sp_why
        repeat' split
        all_goals omega
      refine ⟨fun z => absurd z (ne_m1 hy), fun z => ?_⟩
      have := of_decide_eq_true z
      omega
    · rw [if_neg d1]
      by_cases d2 : 1 < (sp_at f n).1
      · rw [if_pos d2]
        refine ⟨fun z => absurd z (by decide), fun z => ?_⟩
        have := of_decide_eq_true z
        omega
      · rw [if_neg d2]
        exact ⟨fun _ => decide_eq_true ⟨by omega, by omega⟩, fun _ => rfl⟩
  refine ⟨fun z2 => ?_, fun z2 => ?_⟩
  · refine s_fill hT2 (by rw [if_neg ((not_congr hw).mp z2)]) (fun σ4 hR hk => ?_)
    exact fun σ5 h5 => fin σ4 σ5 hR hk h5
  · refine s_fill hT2 (by rw [if_pos (hw.mp z2)]) (fun σ4 hR hk => ?_)
    exact fun σ5 h5 => fin σ4 σ5 hR hk h5
theorem c_link {f : Nat → Nat} {n ru fe li wi td : Nat} {σ : tzS} (hC : CI f n ru fe li wi td σ) (hR : ReadOK f n σ) {Q : tzS → Prop} (h : ∀ σ', CI f n ru fe li wi td σ' → ReadOK f n σ' → LinkOK f n li σ' → qf σ σ' → Q σ') : vc_X9_linkChains σ Q := by
  obtain ⟨hT, hS, c1, c2, c3, c4, c5⟩ := hC
  have hS12 := (rd_ok (f := f) hT.1).2.1
  unfold vc_X9_linkChains
  refine ⟨fun z => ?_, fun z => h σ ⟨hT, hS, c1, c2, c3, c4, c5⟩ hR (c2 z) qf.rf⟩
  rw [hS.2.2.2.2.2.2.2.1]
  refine s_linkFill hT.1 hS.2.2.1 hR (fun σ2 hL hb => ?_)
  intro σ3 h3
  have e3 : ∀ a, a ≠ 0 → σ3.1 a = σ2.1 a := fun a ha => by rw [h3, st_ne ha]
  have e2 : ∀ a, (a < 38 ∨ 42 < a) → a ≠ 0 → σ3.1 a = σ.1 a := fun a ha h0 => by rw [e3 a h0, hb.1 a ha]
  have ef : ∀ j, j ≠ 13 → σ3.1 0 j = σ.1 0 j := fun j hj => by rw [h3, st_nj hj, hb.1 0 (by omega)]
  have hq : qf σ σ3 := h3 ▸ (hb.qf (by omega) (by omega)).st0 (by omega)
  have hs : σ3.2 = σ.2 := by rw [h3, st_2, hb.2]
  have hL3 : LinkOK f n li σ3 := hL.cg (fun a h1 h2 => e3 a (by omega))
  refine h σ3 ⟨hT.qf hq, hS.qf hq, ?_, fun _ => hL3, ?_, ?_, ?_⟩ (hR.cg hS12 (fun a h1 h2 => e2 a (by omega) (by omega)) hs) hL3 hq
  · rw [ef 12 (by omega)]
    exact fun z => ⟨(c1 z).1.cg (e2 3 (by omega) (by omega)), (c1 z).2.cg hS12 (fun a h1 h2 => e2 a (by omega) (by omega)) hs⟩
  · rw [ef 14 (by omega)]
    exact fun z => (c3 z).cg hS12 (fun a h1 h2 => e2 a (by omega) (by omega))
  · rw [ef 15 (by omega)]
    exact fun z => (c4 z).cg (e2 81 (by omega) (by omega)) (e2 82 (by omega) (by omega))
  · rw [ef 16 (by omega)]
    exact fun z => (c5 z).cg (fun a h1 h2 => e2 a (by omega) (by omega))
theorem Sd_self {S : Nat} : Sd S S = S := by
  unfold Sd
  rw [if_neg (Nat.lt_irrefl _)]
theorem c_part {f : Nat → Nat} {n ru fe li wi td : Nat} {σ : tzS} (hC : CI f n ru fe li wi td σ) (hR : ReadOK f n σ) {Q : tzS → Prop} (h : ∀ σ', CI f n ru fe li wi td σ' → ReadOK f n σ' → PartOK f n ru fe σ' → qf σ σ' → Q σ') : vc_X9_partText σ Q := by
  obtain ⟨hT, hS, c1, c2, c3, c4, c5⟩ := hC
  have hS12 := (rd_ok (f := f) hT.1).2.1
  have hCB := rd_CB (f := f) (ru := ru) (d := rd_S f n) hT.1 hS.2.1
  unfold vc_X9_partText
  refine ⟨fun z => ?_, fun z => h σ ⟨hT, hS, c1, c2, c3, c4, c5⟩ hR (c3 z) qf.rf⟩
  rw [hS.2.2.2.2.2.1, hS.2.2.2.2.2.2.1]
  refine s_blocksFill hT.1 (by omega) hS.1 hS.2.1 (d := rd_S f n) (Or.inl ⟨rfl, rfl⟩) hR (fun σ2 hB hb => ?_)
  have hR2 := hR.bt hb (by omega) hS12
  have e40 : σ2.1 4 0 = nI (rd_S f n) := hR2.1
  rw [e40]
  rw [Sd_self] at hCB
  refine s_partsFill (c := rd_cost f n ru fe (rd_S f n)) hCB (by omega) (fun i j h1 h2 => by
    have := hB i j h1 (by rw [Sd_self]; exact h2)
    rw [show 43 + 2 + i = 44 + 1 + i by omega] at this
    exact this) (fun σ3 hP hb3 => ?_)
  intro σ4 h4
  have e4 : ∀ a, a ≠ 0 → σ4.1 a = σ3.1 a := fun a ha => by rw [h4, st_ne ha]
  have e2 : ∀ a, (a < 43 ∨ 79 < a) → a ≠ 0 → σ4.1 a = σ.1 a := fun a ha h0 => by rw [e4 a h0, hb3.1 a (by omega), hb.1 a (by omega)]
  have ef : ∀ j, j ≠ 14 → σ4.1 0 j = σ.1 0 j := fun j hj => by rw [h4, st_nj hj, hb3.1 0 (by omega), hb.1 0 (by omega)]
  have hq : qf σ σ4 := h4 ▸ ((hb.qf (by omega) (by omega)).tr (hb3.qf (by omega) (by omega))).st0 (by omega)
  have hs : σ4.2 = σ.2 := by rw [h4, st_2, hb3.2, hb.2]
  have hP4 : PartOK f n ru fe σ4 := by
    refine ⟨fun i j h1 h2 => ?_, fun k j h1 h2 h3 h5 => ?_⟩
    · rw [Sd_self] at h2
      rw [e4 _ (by omega), hb3.1 _ (by omega)]
      exact hB i j h1 (by rw [Sd_self]; exact h2)
    · rw [e4 _ (by omega), e4 _ (by omega)]
      exact hP k j h1 h2 h3 h5
  refine h σ4 ⟨hT.qf hq, hS.qf hq, ?_, ?_, fun _ => hP4, ?_, ?_⟩ (hR.cg hS12 (fun a h1 h2 => e2 a (by omega) (by omega)) hs) hP4 hq
  · rw [ef 12 (by omega)]
    exact fun z => ⟨(c1 z).1.cg (e2 3 (by omega) (by omega)), (c1 z).2.cg hS12 (fun a h1 h2 => e2 a (by omega) (by omega)) hs⟩
  · rw [ef 13 (by omega)]
    exact fun z => (c2 z).cg (fun a h1 h2 => e2 a (by omega) (by omega))
  · rw [ef 15 (by omega)]
    exact fun z => (c4 z).cg (e2 81 (by omega) (by omega)) (e2 82 (by omega) (by omega))
  · rw [ef 16 (by omega)]
    exact fun z => (c5 z).cg (fun a h1 h2 => e2 a (by omega) (by omega))
theorem c_dropS {f : Nat → Nat} {n ru fe li wi td : Nat} {σ : tzS} (hC : CI f n ru fe li wi td σ) (hR : ReadOK f n σ) {Q : tzS → Prop} (h : ∀ σ', CI f n ru fe li wi td σ' → ReadOK f n σ' → DropOK f n ru fe σ' → qf σ σ' → Q σ') : vc_X9_dropSentences σ Q := by
  obtain ⟨hT, hS, c1, c2, c3, c4, c5⟩ := hC
  have hS12 := (rd_ok (f := f) hT.1).2.1
  unfold vc_X9_dropSentences
  refine ⟨fun z => ?_, fun z => h σ ⟨hT, hS, c1, c2, c3, c4, c5⟩ hR (c4 z) qf.rf⟩
  rw [hS.2.2.2.2.2.1, hS.2.2.2.2.2.2.1]
  refine s_dropFill hT.1 hS.1 hS.2.1 hR (fun σ2 hL hb => ?_)
  intro σ3 h3
  have e3 : ∀ a, a ≠ 0 → σ3.1 a = σ2.1 a := fun a ha => by rw [h3, st_ne ha]
  have e2 : ∀ a, (a < 80 ∨ 119 < a) → a ≠ 0 → σ3.1 a = σ.1 a := fun a ha h0 => by rw [e3 a h0, hb.1 a ha]
  have ef : ∀ j, j ≠ 15 → σ3.1 0 j = σ.1 0 j := fun j hj => by rw [h3, st_nj hj, hb.1 0 (by omega)]
  have hq : qf σ σ3 := h3 ▸ (hb.qf (by omega) (by omega)).st0 (by omega)
  have hs : σ3.2 = σ.2 := by rw [h3, st_2, hb.2]
  have hL3 : DropOK f n ru fe σ3 := hL.cg (e3 81 (by omega)) (e3 82 (by omega))
  refine h σ3 ⟨hT.qf hq, hS.qf hq, ?_, ?_, ?_, fun _ => hL3, ?_⟩ (hR.cg hS12 (fun a h1 h2 => e2 a (by omega) (by omega)) hs) hL3 hq
  · rw [ef 12 (by omega)]
    exact fun z => ⟨(c1 z).1.cg (e2 3 (by omega) (by omega)), (c1 z).2.cg hS12 (fun a h1 h2 => e2 a (by omega) (by omega)) hs⟩
  · rw [ef 13 (by omega)]
    exact fun z => (c2 z).cg (fun a h1 h2 => e2 a (by omega) (by omega))
  · rw [ef 14 (by omega)]
    exact fun z => (c3 z).cg hS12 (fun a h1 h2 => e2 a (by omega) (by omega))
  · rw [ef 16 (by omega)]
    exact fun z => (c5 z).cg (fun a h1 h2 => e2 a (by omega) (by omega))
theorem c_gaps {f : Nat → Nat} {n ru fe li wi td : Nat} {σ : tzS} (hC : CI f n ru fe li wi td σ) (hR : ReadOK f n σ) {Q : tzS → Prop} (h : ∀ σ', CI f n ru fe li wi td σ' → ReadOK f n σ' → GapOK f n wi σ' → qf σ σ' → Q σ') : vc_X9_weighGaps σ Q := by
  obtain ⟨hT, hS, c1, c2, c3, c4, c5⟩ := hC
  have hS12 := (rd_ok (f := f) hT.1).2.1
  unfold vc_X9_weighGaps
  refine ⟨fun z => ?_, fun z => h σ ⟨hT, hS, c1, c2, c3, c4, c5⟩ hR (c5 z) qf.rf⟩
  rw [hS.2.2.2.2.2.2.2.2.1]
  refine s_gapsFill hT.1 hS.2.2.2.1 hR (fun σ2 hL hb => ?_)
  intro σ3 h3
  have e3 : ∀ a, a ≠ 0 → σ3.1 a = σ2.1 a := fun a ha => by rw [h3, st_ne ha]
  have e2 : ∀ a, (a < 120 ∨ 123 < a) → a ≠ 0 → σ3.1 a = σ.1 a := fun a ha h0 => by rw [e3 a h0, hb.1 a ha]
  have ef : ∀ j, j ≠ 16 → σ3.1 0 j = σ.1 0 j := fun j hj => by rw [h3, st_nj hj, hb.1 0 (by omega)]
  have hq : qf σ σ3 := h3 ▸ (hb.qf (by omega) (by omega)).st0 (by omega)
  have hs : σ3.2 = σ.2 := by rw [h3, st_2, hb.2]
  have hL3 : GapOK f n wi σ3 := hL.cg (fun a h1 h2 => e3 a (by omega))
  refine h σ3 ⟨hT.qf hq, hS.qf hq, ?_, ?_, ?_, ?_, fun _ => hL3⟩ (hR.cg hS12 (fun a h1 h2 => e2 a (by omega) (by omega)) hs) hL3 hq
  · rw [ef 12 (by omega)]
    exact fun z => ⟨(c1 z).1.cg (e2 3 (by omega) (by omega)), (c1 z).2.cg hS12 (fun a h1 h2 => e2 a (by omega) (by omega)) hs⟩
  · rw [ef 13 (by omega)]
    exact fun z => (c2 z).cg (fun a h1 h2 => e2 a (by omega) (by omega))
  · rw [ef 14 (by omega)]
    exact fun z => (c3 z).cg hS12 (fun a h1 h2 => e2 a (by omega) (by omega))
  · rw [ef 15 (by omega)]
    exact fun z => (c4 z).cg (e2 81 (by omega) (by omega)) (e2 82 (by omega) (by omega))
/-! the reference's -/
def MI (f : Nat → Nat) (n ru fe li wi td : Nat) (σ : tzS) : Prop := MT f n σ ∧ MS ru fe li wi σ ∧ ru ≤ 3 ∧ fe ≤ 40 ∧ li ≤ 4 ∧ wi ≤ 4 ∧ td < 4096 ∧ σ.1 133 3 = nI td
theorem MI.mo {f : Nat → Nat} {n ru fe li wi td : Nat} {σ σ' : tzS} (h : MI f n ru fe li wi td σ) (hk : mo σ σ') : MI f n ru fe li wi td σ' := by
  obtain ⟨h1, h2, h3, h4, h5, h6, h7, h8⟩ := h
  exact ⟨h1.mo hk, h2.mo hk, h3, h4, h5, h6, h7, by rw [hk.2.1 3 (by omega)]; exact h8⟩
