/-! numbers: Int32 literals as nI, and the places' arithmetic -/
theorem nl_0 : (0 : Int32) = nI 0 := rfl
theorem nl_1 : (1 : Int32) = nI 1 := rfl
theorem nl_2 : (2 : Int32) = nI 2 := rfl
theorem nl_3 : (3 : Int32) = nI 3 := rfl
theorem nl_4 : (4 : Int32) = nI 4 := rfl
theorem nl_5 : (5 : Int32) = nI 5 := rfl
theorem nl_6 : (6 : Int32) = nI 6 := rfl
theorem nl_10 : (10 : Int32) = nI 10 := rfl
theorem nl_30 : (30 : Int32) = nI 30 := rfl
theorem nl_36 : (36 : Int32) = nI 36 := rfl
theorem nl_60 : (60 : Int32) = nI 60 := rfl
theorem nl_100 : (100 : Int32) = nI 100 := rfl
theorem nl_156 : (156 : Int32) = nI 156 := rfl
theorem nl_216 : (216 : Int32) = nI 216 := rfl
theorem nl_781 : (781 : Int32) = nI 781 := rfl
theorem nl_1000 : (1000 : Int32) = nI 1000 := rfl
theorem nl_1296 : (1296 : Int32) = nI 1296 := rfl
theorem nl_5555 : (5555 : Int32) = nI 5555 := rfl
theorem nl_10000 : (10000 : Int32) = nI 10000 := rfl
theorem nn_lt0 {n : Nat} (h : n < 2 ^ 31) : ¬ nI n < 0 := nI_pos h
theorem nn_ck {n N : Nat} (hN : N < 2 ^ 31) (h : n < N) : ¬ (nI n < 0 ∨ N ≤ (nI n).toNatClampNeg) := nI_in h hN
theorem fu_s (k : Nat) (h : k ≤ 6000) : fu_n = (6000 - k) + k := by unfold fu_n; omega
def fF_n (u : Nat) : Nat := match u with
  | 0 => 0
  | 1 => 1
  | 2 => 6
  | 3 => 31
  | _ => 156
def fN_n (u : Nat) : Nat := match u with
  | 0 => 1
  | 1 => 5
  | 2 => 25
  | 3 => 125
  | _ => 625
theorem ft_1e (u : Nat) : ft_1 u = nI (fF_n u) := match u with
  | 0 => rfl
  | 1 => rfl
  | 2 => rfl
  | 3 => rfl
  | _ + 4 => rfl
theorem ft_2e (u : Nat) : ft_2 u = nI (fN_n u) := match u with
  | 0 => rfl
  | 1 => rfl
  | 2 => rfl
  | 3 => rfl
  | _ + 4 => rfl
theorem fF_lt (u : Nat) : fF_n u < 157 := by unfold fF_n; split <;> omega
theorem fN_pos (u : Nat) : 0 < fN_n u := by unfold fN_n; split <;> omega
theorem fN_lt (u : Nat) : fN_n u < 626 := by unfold fN_n; split <;> omega
def dp_p (p : Nat) : Nat := if p < 1 then 0 else if p < 6 then 1 else if p < 31 then 2 else if p < 156 then 3 else 4
def dp_q (q : Nat) : Nat := if q = 0 then 0 else if q < 6 then 1 else if q < 36 then 2 else if q < 216 then 3 else 4
theorem pc_ch (p d : Nat) : fp_child (nI p) (nI d) = some (nI (5 * p + d)) := by
  show some (nI p * nI 5 + nI d) = _
  rw [pk_mul, nI_add, Nat.mul_comm]
theorem pd_st {p n k : Nat} (hp : p < 2 ^ 30) (h1 : 1 ≤ k) (h4 : k ≤ 4) : fp_depth_2 (nI p) (n + 1) (nI k) = if fF_n k ≤ p then some (nI k) else fp_depth_2 (nI p) n (nI (k - 1)) := by
  rw [fp_depth_2.eq_2]
  dsimp only
  have hF := fF_lt k
  rw [if_neg (nI_nle (by omega) (by omega)), ck_n (nn_ck (by omega) (by omega)), nI_clamp (by omega), ft_1e, sb_m1 (by omega)]
  by_cases h : fF_n k ≤ p
  · rw [if_pos h, if_pos (nI_le h (by omega))]
  · rw [if_neg h, if_neg (nI_ge (by omega) (by omega))]
theorem pd_0 {p n : Nat} : fp_depth_2 (nI p) (n + 1) (nI 0) = some (nI 0) := by
  rw [fp_depth_2.eq_2]
  dsimp only
  rw [if_pos (by decide)]
theorem pc_dp {p : Nat} (hp : p < 2 ^ 30) : fp_depth (nI p) = some (nI (dp_p p)) := by
  show fp_depth_2 (nI p) (5995 + 1 + 1 + 1 + 1 + 1) (nI 4) = _
  rw [pd_st hp (by omega) (by omega), pd_st hp (by omega) (by omega), pd_st hp (by omega) (by omega), pd_st hp (by omega) (by omega), pd_0]
  unfold dp_p
  simp only [fF_n]
  repeat' split
  all_goals first | rfl | omega
def up_p : Nat → Nat → Nat
  | 0, p => p
  | u + 1, p => up_p u ((p - 1) / 5)
theorem up_e {u p : Nat} (hu : u ≤ 4) (h : fF_n u ≤ p) : (p - fF_n u) / fN_n u = up_p u p := by
  rcases (by omega : u = 0 ∨ u = 1 ∨ u = 2 ∨ u = 3 ∨ u = 4) with h | h | h | h | h <;> subst h <;> simp only [fF_n, fN_n, up_p] at * <;> omega
theorem pc_ab {p u : Nat} (hp : p < 2 ^ 30) (hu : u ≤ 4) (h : fF_n u ≤ p) : fp_above (nI p) (nI u) = some (nI (up_p u p)) := by
  have hF := fF_lt u
  have hN := fN_pos u
  have hN2 := fN_lt u
  unfold fp_above
  rw [ck_n (nn_ck (by omega) (by omega)), ck_n (nn_ck (by omega) (by omega)), nI_clamp (by omega), ft_1e, ft_2e, ck_n (nI_ne0 hN (by omega)), pk_sub h, pk_div (by omega) hN (by omega), up_e hu h]
theorem pc_pa {p : Nat} (hp : p < 2 ^ 30) (h : 1 ≤ p) : fp_parent (nI p) = some (nI ((p - 1) / 5)) := by
  unfold fp_parent
  rw [show (1 : Int32) = nI 1 from rfl, pc_ab hp (by omega) (by simp only [fF_n]; omega)]
  rfl
theorem pc_be {b i : Nat} (hi : i < 2 ^ 30) : fp_below (nI b) (nI i) = some (nI (b * fN_n (dp_p i) + i)) := by
  have h4 : dp_p i ≤ 4 := by unfold dp_p; (repeat' split) <;> omega
  unfold fp_below
  rw [pc_dp hi]
  show ck_d _ _ = _
  rw [ck_n (nn_ck (by omega) (by omega)), nI_clamp (by omega), ft_2e, pk_mul, nI_add]
theorem dp_le (p : Nat) : dp_p p ≤ 4 := by unfold dp_p; (repeat' split) <;> omega
theorem dp_F {u p : Nat} (h : u ≤ dp_p p) : fF_n u ≤ p := by
  unfold dp_p at h
  have : u = 0 ∨ u = 1 ∨ u = 2 ∨ u = 3 ∨ u = 4 := by
    repeat' split at h
    all_goals omega
  rcases this with h' | h' | h' | h' | h' <;> subst h' <;> simp only [fF_n] <;> repeat' split at h
  all_goals omega
theorem pc_ib {p b : Nat} (hp : p < 2 ^ 30) (hb : b < 2 ^ 30) : fp_isBelow (nI p) (nI b) = some (if dp_p b < dp_p p ∧ up_p (dp_p p - dp_p b) p = b then 1 else 0) := by
  have h1 := dp_le p
  have h2 := dp_le b
  unfold fp_isBelow
  rw [pc_dp hp]
  show (fp_depth (nI b)).bind _ = _
  rw [pc_dp hb]
  show (if nI (dp_p p) - nI (dp_p b) ≤ 0 then _ else _) = _
  by_cases h : dp_p b < dp_p p
  · rw [pk_sub (by omega), if_neg (nI_nle (by omega) (by omega)), pc_ab hp (by omega) (dp_F (by omega))]
    show (if nI _ = nI b then some 1 else some 0) = _
    have hl : up_p (dp_p p - dp_p b) p < 2 ^ 30 := by
      rw [← up_e (by omega) (dp_F (by omega))]
      exact Nat.lt_of_le_of_lt (Nat.div_le_self _ _) (by omega)
    by_cases he : up_p (dp_p p - dp_p b) p = b
    · rw [if_pos (by rw [he]), if_pos ⟨h, he⟩]
    · rw [if_neg (fun z => he ((nI_eq (by omega) (by omega)).mp z)), if_neg (fun z => he z.2)]
  · have : nI (dp_p p) - nI (dp_p b) ≤ 0 := by
      rcases Nat.lt_or_eq_of_le (Nat.not_lt.mp h) with h' | h'
      · exact Int32.le_of_lt (pk_sneg (by omega) h')
      · rw [h', pk_sub (Nat.le_refl _), Nat.sub_self]; decide
    rw [if_pos this, if_neg (fun z => h z.1)]
