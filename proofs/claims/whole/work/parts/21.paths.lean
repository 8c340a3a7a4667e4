/-! places of class and reference, and the paths that callers give -/
def r6_n : Nat → Nat → Nat
  | 0, _ => 0
  | n + 1, p => if p = 0 then 0 else 6 * r6_n n ((p - 1) / 5) + ((p - 1) % 5 + 1)
def r6_p (p : Nat) : Nat := r6_n 4 p
def p5_n : Nat → Nat → Nat
  | 0, _ => 0
  | n + 1, q => if q = 0 then 0 else 5 * p5_n n (q / 6) + q % 6
def p5_q (q : Nat) : Nat := p5_n 4 q
def ip_n : Nat → Nat → Bool
  | 0, _ => true
  | n + 1, q => if q = 0 then true else (q % 6 != 0) && ip_n n (q / 6)
def ip_q (q : Nat) : Bool := ip_n 4 q
theorem al_N {N : Nat} {P : Nat → Bool} (h : (List.range N).all P = true) {i : Nat} (hi : i < N) : P i = true := List.all_eq_true.mp h i (List.mem_range.mpr hi)
theorem r6_all {p : Nat} (hp : p < 781) : (decide (r6_p p < 1296) && (p5_q (r6_p p) == p) && (r6_p p / 6 == r6_p ((p - 1) / 5)) && (dp_q (r6_p p) == dp_p p) && ip_q (r6_p p)) = true := al_N (N := 781) (P := fun p => decide (r6_p p < 1296) && (p5_q (r6_p p) == p) && (r6_p p / 6 == r6_p ((p - 1) / 5)) && (dp_q (r6_p p) == dp_p p) && ip_q (r6_p p)) (by decide +kernel) hp
theorem r6_ch0 {k : Nat} (hk : k < 780) : (r6_p (k + 1) == 6 * r6_p (k / 5) + (k % 5 + 1)) = true := al_N (N := 780) (P := fun k => r6_p (k + 1) == 6 * r6_p (k / 5) + (k % 5 + 1)) (by decide +kernel) hk
theorem p5_all {q : Nat} (hq : q < 1296) : (!ip_q q || (decide (p5_q q < 781) && (r6_p (p5_q q) == q))) = true := al_N (N := 1296) (P := fun q => !ip_q q || (decide (p5_q q < 781) && (r6_p (p5_q q) == q))) (by decide +kernel) hq
theorem r6_list : (List.range 1296).filter ip_q = (List.range 781).map r6_p := by decide +kernel
theorem r6_lt {p : Nat} (hp : p < 781) : r6_p p < 1296 := by
  have := r6_all hp; simp only [Bool.and_eq_true, decide_eq_true_eq, beq_iff_eq] at this; omega
theorem r6_inv {p : Nat} (hp : p < 781) : p5_q (r6_p p) = p := by
  have := r6_all hp; simp only [Bool.and_eq_true, decide_eq_true_eq, beq_iff_eq] at this; omega
theorem r6_dv {p : Nat} (hp : p < 781) : r6_p p / 6 = r6_p ((p - 1) / 5) := by
  have := r6_all hp; simp only [Bool.and_eq_true, decide_eq_true_eq, beq_iff_eq] at this; omega
theorem r6_dp {p : Nat} (hp : p < 781) : dp_q (r6_p p) = dp_p p := by
  have := r6_all hp; simp only [Bool.and_eq_true, decide_eq_true_eq, beq_iff_eq] at this; omega
theorem r6_ip {p : Nat} (hp : p < 781) : ip_q (r6_p p) = true := by
  have := r6_all hp; simp only [Bool.and_eq_true, decide_eq_true_eq, beq_iff_eq] at this; exact this.2
theorem r6_ch {p d : Nat} (hp : p < 156) (h1 : 1 ≤ d) (h5 : d ≤ 5) : r6_p (5 * p + d) = 6 * r6_p p + d := by
  have := r6_ch0 (k := 5 * p + d - 1) (by omega)
  simp only [beq_iff_eq] at this
  rw [show 5 * p + d - 1 + 1 = 5 * p + d by omega, show (5 * p + d - 1) / 5 = p by omega, show (5 * p + d - 1) % 5 + 1 = d by omega] at this
  exact this
theorem p5_lt {q : Nat} (hq : q < 1296) (h : ip_q q = true) : p5_q q < 781 := by
  have := p5_all hq; simp only [h, Bool.not_true, Bool.false_or, Bool.and_eq_true, decide_eq_true_eq, beq_iff_eq] at this; exact this.1
theorem p5_inv {q : Nat} (hq : q < 1296) (h : ip_q q = true) : r6_p (p5_q q) = q := by
  have := p5_all hq; simp only [h, Bool.not_true, Bool.false_or, Bool.and_eq_true, decide_eq_true_eq, beq_iff_eq] at this; exact this.2
theorem r6_0 : r6_p 0 = 0 := rfl
theorem r6_pos {p : Nat} (hp : p < 781) (h : 0 < p) : 0 < r6_p p := by
  rcases Nat.eq_zero_or_pos (r6_p p) with h0 | h0
  · have := r6_inv hp
    rw [h0] at this
    have h1 : p5_q 0 = 0 := rfl
    omega
  · exact h0
theorem r6_inj {p p' : Nat} (hp : p < 781) (hp' : p' < 781) (h : r6_p p = r6_p p') : p = p' := by
  rw [← r6_inv hp, h, r6_inv hp']
theorem dp_par {p : Nat} (h : 0 < p) (hp : p < 781) : dp_p p = dp_p ((p - 1) / 5) + 1 := by
  unfold dp_p
  repeat' split
  all_goals omega
def pa_n (n D : Nat) (o : Option Nat) : Option Nat := o.bind fun p => if n < D then some p else if n / D % 10 < 1 then none else if n / D % 10 ≤ 5 then some (5 * p + n / D % 10) else none
def qa_n (n D : Nat) (o : Option Nat) : Option Nat := o.bind fun q => if n < D then some (6 * q) else if n / D % 10 < 1 then none else if n / D % 10 ≤ 5 then some (6 * q + n / D % 10) else none
def pl_n (n : Nat) : Option Nat := pa_n n 1 (pa_n n 10 (pa_n n 100 (pa_n n 1000 (some 0))))
def ql_n (n : Nat) : Option Nat := qa_n n 1 (qa_n n 10 (qa_n n 100 (qa_n n 1000 (some 0))))
theorem pl_all {n : Nat} (hn : n < 10000) : ((if n ≤ 5555 then ql_n n else none) == (pl_n n).map r6_p && ((pl_n n).all fun p => decide (p < 781))) = true := al_N (N := 10000) (P := fun n => (if n ≤ 5555 then ql_n n else none) == (pl_n n).map r6_p && ((pl_n n).all fun p => decide (p < 781))) (by decide +kernel) hn
def po_x (x : Int32) : Option Nat := if x < 0 then none else if x < 10000 then pl_n x.toNatClampNeg else none
def pv_5 (o : Option Nat) : Int32 := match o with
  | none => -1
  | some p => nI p
def pv_6 (o : Option Nat) : Int32 := match o with
  | none => -1
  | some p => nI (r6_p p)
theorem op_st {n D k p : Nat} (hn : n < 2 ^ 30) (hD : 0 < D) (hD2 : D < 2 ^ 30) : fp_ofPath_19 (nI n) (k + 1) (nI p) (nI D) = match pa_n n D (some p) with
    | none => some (-1)
    | some p' => fp_ofPath_19 (nI n) k (nI p') (nI (D / 10)) := by
  rw [fp_ofPath_19.eq_2]
  dsimp only
  have hq : n / D < 2 ^ 30 := Nat.lt_of_le_of_lt (Nat.div_le_self _ _) hn
  rw [if_neg (nI_nle hD (by omega))]
  simp only [pa_n, Option.bind_some, fp_ofPath_53]
  rw [nl_10, pk_div (a := D) (by omega) (by omega) (by omega)]
  by_cases h : n < D
  · rw [if_pos h, if_pos (nI_lt h (by omega))]
  · rw [if_neg h, if_neg (nI_nlt (by omega) (by omega)), ck_n (nI_ne0 hD (by omega)), pk_div (a := n) (by omega) hD (by omega), pk_rem (by omega) (by omega) (by omega), nl_1, nl_5, pc_ch]
    by_cases h1 : n / D % 10 < 1
    · rw [if_pos h1, if_pos (nI_lt h1 (by omega))]
    · rw [if_neg h1, if_neg (nI_nlt (by omega) (by omega))]
      by_cases h5 : n / D % 10 ≤ 5
      · rw [if_pos h5, if_pos (nI_le h5 (by omega))]; rfl
      · rw [if_neg h5, if_neg (nI_ge (by omega) (by omega))]
theorem oq_st {n D k p : Nat} (hn : n < 2 ^ 30) (hD : 0 < D) (hD2 : D < 2 ^ 30) : fq_placeOf_19 (nI n) (k + 1) (nI p) (nI D) = match qa_n n D (some p) with
    | none => some (-1)
    | some p' => fq_placeOf_19 (nI n) k (nI p') (nI (D / 10)) := by
  rw [fq_placeOf_19.eq_2]
  dsimp only
  have hq : n / D < 2 ^ 30 := Nat.lt_of_le_of_lt (Nat.div_le_self _ _) hn
  rw [if_neg (nI_nle hD (by omega)), ck_n (nI_ne0 hD (by omega))]
  simp only [qa_n, Option.bind_some, fq_placeOf_47]
  rw [nl_10, nl_6, pk_div (a := D) (by omega) (by omega) (by omega), pk_div (a := n) (by omega) hD (by omega), pk_rem (by omega) (by omega) (by omega), pk_mul, nI_add]
  by_cases h : n < D
  · rw [if_pos h, if_pos (nI_lt h (by omega)), Nat.div_eq_of_lt h, Nat.zero_mod, Nat.add_zero]
  · rw [if_neg h, if_neg (nI_nlt (by omega) (by omega)), nl_1, nl_5]
    by_cases h1 : n / D % 10 < 1
    · rw [if_pos h1, if_pos (nI_lt h1 (by omega))]
    · rw [if_neg h1, if_neg (nI_nlt (by omega) (by omega))]
      by_cases h5 : n / D % 10 ≤ 5
      · rw [if_pos h5, if_pos (nI_le h5 (by omega))]
      · rw [if_neg h5, if_neg (nI_ge (by omega) (by omega))]
theorem op_0 {x : Int32} {k p : Nat} : fp_ofPath_19 x (k + 1) (nI p) (nI 0) = some (nI p) := by
  rw [fp_ofPath_19.eq_2]; dsimp only; rw [if_pos (by decide)]
theorem oq_0 {x : Int32} {k p : Nat} : fq_placeOf_19 x (k + 1) (nI p) (nI 0) = some (nI p) := by
  rw [fq_placeOf_19.eq_2]; dsimp only; rw [if_pos (by decide)]
theorem pa_none (n D : Nat) : pa_n n D none = none := rfl
theorem qa_none (n D : Nat) : qa_n n D none = none := rfl
theorem op_n {n : Nat} (hn : n < 10000) : fp_ofPath_19 (nI n) fu_n 0 1000 = some (pv_5 (pl_n n)) := by
  show fp_ofPath_19 (nI n) (5994 + 1 + 1 + 1 + 1 + 1 + 1) (nI 0) (nI 1000) = _
  rw [op_st (by omega) (by omega) (by omega)]
  unfold pl_n
  cases pa_n n 1000 (some 0) with
  | none => simp only [pa_none]; rfl
  | some p1 =>
    dsimp only
    rw [op_st (by omega) (by omega) (by omega)]
    cases pa_n n 100 (some p1) with
    | none => simp only [pa_none]; rfl
    | some p2 =>
      dsimp only
      rw [op_st (by omega) (by omega) (by omega)]
      cases pa_n n 10 (some p2) with
      | none => simp only [pa_none]; rfl
      | some p3 =>
        dsimp only
        rw [op_st (by omega) (by omega) (by omega)]
        cases pa_n n 1 (some p3) with
        | none => rfl
        | some p4 => exact op_0
theorem oq_n {n : Nat} (hn : n < 10000) : fq_placeOf_19 (nI n) fu_n 0 1000 = some (match ql_n n with | none => -1 | some q => nI q) := by
  show fq_placeOf_19 (nI n) (5994 + 1 + 1 + 1 + 1 + 1 + 1) (nI 0) (nI 1000) = _
  rw [oq_st (by omega) (by omega) (by omega)]
  unfold ql_n
  cases qa_n n 1000 (some 0) with
  | none => simp only [qa_none]
  | some p1 =>
    dsimp only
    rw [oq_st (by omega) (by omega) (by omega)]
    cases qa_n n 100 (some p1) with
    | none => simp only [qa_none]
    | some p2 =>
      dsimp only
      rw [oq_st (by omega) (by omega) (by omega)]
      cases qa_n n 10 (some p2) with
      | none => simp only [qa_none]
      | some p3 =>
        dsimp only
        rw [oq_st (by omega) (by omega) (by omega)]
        cases qa_n n 1 (some p3) with
        | none => rfl
        | some p4 => exact oq_0
theorem pc_of (x : Int32) : fp_ofPath x = some (pv_5 (po_x x)) := by
  unfold fp_ofPath po_x
  by_cases h0 : x < 0
  · rw [if_pos h0, if_pos h0]; rfl
  · rw [if_neg h0, if_neg h0]
    obtain ⟨n, hn, rfl⟩ := nI_of h0
    by_cases h1 : nI n < 10000
    · rw [if_pos h1, if_pos h1, nI_clamp hn]
      exact op_n ((nI_ltI hn (by omega)).mp h1)
    · rw [if_neg h1, if_neg h1]; rfl
theorem qc_of (x : Int32) : fq_placeOf x = some (pv_6 (po_x x)) := by
  unfold fq_placeOf po_x
  rw [nl_5555]
  by_cases h0 : x < 0
  · rw [if_pos h0, if_pos h0]; rfl
  · rw [if_neg h0, if_neg h0]
    obtain ⟨n, hn, rfl⟩ := nI_of h0
    by_cases h1 : nI n < 10000
    · have hn1 : n < 10000 := (nI_ltI hn (by omega)).mp h1
      have ha := pl_all hn1
      simp only [Bool.and_eq_true, beq_iff_eq] at ha
      rw [if_pos h1, nI_clamp hn]
      by_cases h5 : n ≤ 5555
      · rw [if_pos (nI_le h5 (by omega) : nI n ≤ nI 5555), oq_n hn1]
        have h2 := ha.1
        rw [if_pos h5] at h2
        rw [h2]
        cases pl_n n <;> rfl
      · rw [if_neg (nI_ge (by omega) hn : ¬ nI n ≤ nI 5555)]
        have h2 := ha.1
        rw [if_neg h5] at h2
        cases hp : pl_n n with
        | none => rfl
        | some p => rw [hp] at h2; cases h2
    · rw [if_neg h1]
      have hn1 : ¬ n < 10000 := fun z => h1 (nI_lt (b := 10000) z (by omega))
      rw [if_neg (nI_ge (by omega) hn : ¬ nI n ≤ nI 5555)]
      rfl
theorem po_lt {x : Int32} {p : Nat} (h : po_x x = some p) : p < 781 := by
  unfold po_x at h
  by_cases h0 : x < 0
  · rw [if_pos h0] at h; cases h
  · rw [if_neg h0] at h
    obtain ⟨n, hn, rfl⟩ := nI_of h0
    by_cases h1 : nI n < 10000
    · rw [if_pos h1, nI_clamp hn] at h
      have ha := pl_all ((nI_ltI hn (by omega)).mp h1)
      simp only [Bool.and_eq_true, h, Option.all_some, decide_eq_true_eq] at ha
      exact ha.2
    · rw [if_neg h1] at h; cases h
