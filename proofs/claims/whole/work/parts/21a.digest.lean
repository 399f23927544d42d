/-! ===== DIGEST ===== -/
def mx (d : Int64) (r : Int32) : Int64 := (31 * d) + r.toInt64
def fo (g : Nat → Int64 → Int64) (d : Int64) : Nat → Int64
  | 0 => d
  | i + 1 => g i (fo g d i)
def dg_sen (f : Nat → Nat) (n li wi : Nat) (A : Nat → Nat) (s : Nat) (d : Int64) : Int64 :=
  mx (mx (mx (mx (mx (mx (mx (fo (fun j e => mx e (a_sentence f n (nI s) (nI j))) d 4) (a_word f n (nI s) 0)) (a_word f n (nI s) 2)) (a_gap f n wi (nI s) 0)) (a_gap f n wi (nI s) 1)) (a_over f n li (nI s) 0)) (a_over f n li (nI s) 1)) (a_deep A (rd_S f n - 1) (nI s))
def dg_stm (f : Nat → Nat) (n : Nat) (t : Nat) (d : Int64) : Int64 :=
  mx (mx (fo (fun j e => mx e (a_stem f n (nI t) (nI j))) d 4) (a_letter f n (nI t) 0)) (a_letter f n (nI t) 3)
def dg_par (f : Nat → Nat) (n ru fe td : Nat) (k : Nat) (d : Int64) : Int64 :=
  mx (mx (mx (mx (fo (fun j e => mx e (a_seam f n ru fe (nI k) (nI j))) (mx d (a_best f n ru fe (nI k))) 8) (a_drop f n ru fe (nI k) 0)) (a_drop f n ru fe (nI k) 1)) (a_apart f n ru fe td (nI k) 1)) (a_apart f n ru fe td (nI k) 3)
def dg_chn (f : Nat → Nat) (n li : Nat) (i : Nat) (d : Int64) : Int64 := fo (fun j e => mx e (a_chain f n li (nI i) (nI j))) d 5
def dg_cst (f : Nat → Nat) (n ru fe : Nat) (i : Nat) (d : Int64) : Int64 := mx (mx d (a_cost f n ru fe 0 (nI i))) (a_cost f n ru fe (nI i) (nI (rd_S f n)))
def dg1 (f : Nat → Nat) (n ru fe li td : Nat) : Int64 := fo (fun j e => mx e (a_fault f n (nI j))) (fo (fun j e => mx e (a_count f n ru fe li td 0 (nI j))) 17 8) 3
def dg2 (f : Nat → Nat) (n ru fe li wi td : Nat) (A : Nat → Nat) : Int64 := fo (fun i e => dg_chn f n li i e) (fo (fun t e => dg_stm f n t e) (fo (fun s e => dg_sen f n li wi A s e) (dg1 f n ru fe li td) 12) (rd_K f n)) 10
def dg (f : Nat → Nat) (n ru fe li wi td : Nat) (A : Nat → Nat) : Int64 := mx (fo (fun k e => dg_par f n ru fe td (k + 1) e) (fo (fun i e => dg_cst f n ru fe i e) (dg2 f n ru fe li wi td A) (rd_S f n)) 8) (nI (bnt (cst f n ru fe) (rd_S f n) 8))
/-- the class when it has read -/
def CR (f : Nat → Nat) (n ru fe li wi td : Nat) (σ0 σ : tzS) : Prop := CI f n ru fe li wi td σ ∧ qf σ0 σ ∧ ¬ σ.1 0 12 = 0
theorem CR.rd {f : Nat → Nat} {n ru fe li wi td : Nat} {σ0 σ : tzS} (h : CR f n ru fe li wi td σ0 σ) : ReadOK f n σ := (h.1.2.2.1 h.2.2).2
theorem CR.q {f : Nat → Nat} {n ru fe li wi td : Nat} {σ0 σ σ' : tzS} (h : CR f n ru fe li wi td σ0 σ) (hC : CI f n ru fe li wi td σ') (hq : qf σ σ') : CR f n ru fe li wi td σ0 σ' := ⟨hC, h.2.1.tr hq, hq.2.2 h.2.2⟩
def MC (f : Nat → Nat) (n ru fe li wi td : Nat) (σ0 σ : tzS) : Prop := MI f n ru fe li wi td σ ∧ mo σ0 σ
theorem MC.q {f : Nat → Nat} {n ru fe li wi td : Nat} {σ0 σ σ' : tzS} (h : MC f n ru fe li wi td σ0 σ) (hM : MI f n ru fe li wi td σ') (hq : mo σ σ') : MC f n ru fe li wi td σ0 σ' := ⟨hM, h.2.tr hq⟩
theorem cs_sen {f : Nat → Nat} {n ru fe li wi td : Nat} {A : Nat → Nat} (hA : SO (rd_dp f n wi) (rd_S f n - 1) A) {σ0 σ : tzS} {d : Int64} {s : Nat} (hC : CR f n ru fe li wi td σ0 σ) {Q : Int64 → tzS → Prop} (h : ∀ σ', CR f n ru fe li wi td σ0 σ' → Q (dg_sen f n li wi A s d) σ') : vc_X9_mixSentence d (nI s) σ Q := by
  unfold vc_X9_mixSentence
  refine for2b 0 4 (fun i e r => e = fo (fun j e => mx e (a_sentence f n (nI s) (nI j))) d i ∧ CR f n ru fe li wi td σ0 r) (by omega) ⟨rfl, hC⟩ ?_ ?_
  · intro i e r ag _ hi hI hag
    obtain ⟨e1, hr⟩ := hI
    refine ⟨fun z => absurd ((lt_nI (a := 3) (by omega) (by omega)).mp z) (by omega), fun _ => ?_⟩
    refine c_sentence hr.1 (fun σ' hC' hq' => ?_)
    rintro x4 rfl x6 rfl
    rw [nI_1, e1]
    exact hag _ _ ⟨rfl, hr.q hC' hq'⟩
  · intro e r ag hI
    obtain ⟨e1, hr⟩ := hI
    refine ⟨fun _ => ?_, fun z => absurd ((lt_nI (a := 3) (by omega) (by omega)).mpr (by omega)) z⟩
    subst e1
    refine c_word hr.1 (fun r1 k1 q1 => ?_)
    replace hr := hr.q k1 q1
    rintro _ rfl
    refine c_word hr.1 (fun r1 k1 q1 => ?_)
    replace hr := hr.q k1 q1
    rintro _ rfl
    refine c_gap hr.1 (fun r1 k1 q1 => ?_)
    replace hr := hr.q k1 q1
    rintro _ rfl
    refine c_gap hr.1 (fun r1 k1 q1 => ?_)
    replace hr := hr.q k1 q1
    rintro _ rfl
    refine c_over hr.1 (fun r1 k1 q1 => ?_)
    replace hr := hr.q k1 q1
    rintro _ rfl
    refine c_over hr.1 (fun r1 k1 q1 => ?_)
    replace hr := hr.q k1 q1
    rintro _ rfl
    refine c_deep hA hr.1 (fun r1 k1 q1 => ?_)
    replace hr := hr.q k1 q1
    exact h r1 hr
theorem cm_sen {f : Nat → Nat} {n ru fe li wi td : Nat} {A : Nat → Nat} (hA : SO (rd_dp f n wi) (rd_S f n - 1) A) {σ0 σ : tzS} {d : Int64} {s : Nat} (hC : MC f n ru fe li wi td σ0 σ) {Q : Int64 → tzS → Prop} (h : ∀ σ', MC f n ru fe li wi td σ0 σ' → Q (dg_sen f n li wi A s d) σ') : vc_X10_sentenceDigest d (nI s) σ Q := by
  unfold vc_X10_sentenceDigest
  refine for2b 0 4 (fun i e r => e = fo (fun j e => mx e (a_sentence f n (nI s) (nI j))) d i ∧ MC f n ru fe li wi td σ0 r) (by omega) ⟨rfl, hC⟩ ?_ ?_
  · intro i e r ag _ hi hI hag
    obtain ⟨e1, hr⟩ := hI
    refine ⟨fun z => absurd ((le_nI (a := 4) (by omega) (by omega)).mp z) (by omega), fun _ => ?_⟩
    refine m_sentence hr.1 (fun σ' hC' hq' => ?_)
    rintro x4 rfl x6 rfl
    rw [nI_1, e1]
    exact hag _ _ ⟨rfl, hr.q hC' hq'⟩
  · intro e r ag hI
    obtain ⟨e1, hr⟩ := hI
    refine ⟨fun _ => ?_, fun z => absurd ((le_nI (a := 4) (by omega) (by omega)).mpr (by omega)) z⟩
    subst e1
    refine m_word hr.1 (fun r1 k1 q1 => ?_)
    replace hr := hr.q k1 q1
    rintro _ rfl
    refine m_word hr.1 (fun r1 k1 q1 => ?_)
    replace hr := hr.q k1 q1
    rintro _ rfl
    refine m_gap hr.1 (fun r1 k1 q1 => ?_)
    replace hr := hr.q k1 q1
    rintro _ rfl
    refine m_gap hr.1 (fun r1 k1 q1 => ?_)
    replace hr := hr.q k1 q1
    rintro _ rfl
    refine m_over hr.1 (fun r1 k1 q1 => ?_)
    replace hr := hr.q k1 q1
    rintro _ rfl
    refine m_over hr.1 (fun r1 k1 q1 => ?_)
    replace hr := hr.q k1 q1
    rintro _ rfl
    refine m_deep hA hr.1 (fun r1 k1 q1 => ?_)
    replace hr := hr.q k1 q1
    exact h r1 hr
theorem cs_stm {f : Nat → Nat} {n ru fe li wi td : Nat} {σ0 σ : tzS} {d : Int64} {t : Nat} (hC : CR f n ru fe li wi td σ0 σ) {Q : Int64 → tzS → Prop} (h : ∀ σ', CR f n ru fe li wi td σ0 σ' → Q (dg_stm f n t d) σ') : vc_X9_mixStem d (nI t) σ Q := by
  unfold vc_X9_mixStem
  refine for2b 0 4 (fun i e r => e = fo (fun j e => mx e (a_stem f n (nI t) (nI j))) d i ∧ CR f n ru fe li wi td σ0 r) (by omega) ⟨rfl, hC⟩ ?_ ?_
  · intro i e r ag _ hi hI hag
    obtain ⟨e1, hr⟩ := hI
    refine ⟨fun z => absurd ((lt_nI (a := 3) (by omega) (by omega)).mp z) (by omega), fun _ => ?_⟩
    refine c_stem hr.1 (fun σ' hC' hq' => ?_)
    rintro x4 rfl x6 rfl
    rw [nI_1, e1]
    exact hag _ _ ⟨rfl, hr.q hC' hq'⟩
  · intro e r ag hI
    obtain ⟨e1, hr⟩ := hI
    refine ⟨fun _ => ?_, fun z => absurd ((lt_nI (a := 3) (by omega) (by omega)).mpr (by omega)) z⟩
    subst e1
    refine c_letter hr.1 (fun r1 k1 q1 => ?_)
    replace hr := hr.q k1 q1
    rintro _ rfl
    refine c_letter hr.1 (fun r1 k1 q1 => ?_)
    exact h r1 (hr.q k1 q1)
/-- the reference's stems: it reads once ahead of them -/
theorem cm_stm {f : Nat → Nat} {n : Nat} {σ : tzS} {d : Int64} {t : Nat} (hT : MT f n σ) (hR : MR f n σ) (ht : t < rd_K f n) {Q : Int64 → tzS → Prop} (h : Q (dg_stm f n t d) σ) : vc_X10_stemDigest d (nI t) σ Q := by
  have hn := hT.1
  obtain ⟨r1, r2, r3, -⟩ := rd_ok (f := f) hn
  have hu : un (nI t) < rd_K f n := by rw [un_nI (by omega)]; exact ht
  unfold vc_X10_stemDigest
  refine for2b 0 4 (fun i e r => e = fo (fun j e => mx e (a_stem f n (nI t) (nI j))) d i ∧ r = σ) (by omega) ⟨rfl, rfl⟩ ?_ ?_
  · intro i e r ag _ hi hI hag
    obtain ⟨e1, hr⟩ := hI
    subst hr
    refine ⟨fun z => absurd ((le_nI (a := 4) (by omega) (by omega)).mp z) (by omega), fun _ => ?_⟩
    refine m_stemOf hn hR hu (by rw [un_nI (by omega)]; omega) ?_
    rintro x4 rfl x6 rfl
    rw [nI_1, e1]
    exact hag _ _ ⟨rfl, rfl⟩
  · intro e r ag hI
    obtain ⟨e1, hr⟩ := hI
    subst hr
    refine ⟨fun _ => ?_, fun z => absurd ((le_nI (a := 4) (by omega) (by omega)).mpr (by omega)) z⟩
    subst e1
    refine m_letterOf hT hR hu ?_
    rintro _ rfl
    exact m_letterOf hT hR hu h
