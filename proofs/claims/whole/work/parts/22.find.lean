/-! the reference's places; what is found at a place: one word for class and reference -/
theorem qc_dp {q : Nat} (hq : q < 2 ^ 30) : fq_depth (nI q) = some (nI (dp_q q)) := by
  unfold fq_depth dp_q
  rw [nl_6, nl_36, nl_216]
  by_cases h0 : q = 0
  · rw [if_pos h0, if_pos (by rw [h0]; rfl)]; rfl
  · rw [if_neg h0, if_neg (nI_ne0 (by omega) (by omega))]
    by_cases h1 : q < 6
    · rw [if_pos h1, if_neg (nI_ge h1 (by omega))]; rfl
    · rw [if_neg h1, if_pos (nI_le (by omega) (by omega))]
      by_cases h2 : q < 36
      · rw [if_pos h2, if_neg (nI_ge h2 (by omega))]; rfl
      · rw [if_neg h2, if_pos (nI_le (by omega) (by omega))]
        by_cases h3 : q < 216
        · rw [if_pos h3, if_neg (nI_ge h3 (by omega))]; rfl
        · rw [if_neg h3, if_pos (nI_le (by omega) (by omega))]; rfl
def dv_q : Nat → Nat → Nat
  | 0, q => q
  | k + 1, q => dv_q k (q / 6)
theorem qw_st {x : Int32} {k n q j : Nat} (hq : q < 2 ^ 31) (hk : k < 2 ^ 30) (hj : j < 2 ^ 30) : fq_without_4 x (nI k) (n + 1) (nI q) (nI j) = if k ≤ j then some (nI q) else fq_without_4 x (nI k) n (nI (q / 6)) (nI (j + 1)) := by
  rw [fq_without_4.eq_2]
  dsimp only
  rw [nl_6, nl_1, pk_div hq (by omega) (by omega), nI_add]
  by_cases h : k ≤ j
  · rw [if_pos h, if_pos (nI_le h (by omega))]
  · rw [if_neg h, if_neg (nI_ge (by omega) (by omega))]
theorem qw_n {x : Int32} {k : Nat} (hk : k < 2 ^ 30) : ∀ (d n q j : Nat), q < 2 ^ 31 → j + d = k → d < n → fq_without_4 x (nI k) n (nI q) (nI j) = some (nI (dv_q d q))
  | 0, 0, q, j, _, _, h => absurd h (by omega)
  | 0, n + 1, q, j, hq, hd, _ => by rw [qw_st hq hk (by omega), if_pos (by omega)]; rfl
  | d + 1, 0, q, j, _, _, h => absurd h (by omega)
  | d + 1, n + 1, q, j, hq, hd, hn => by
    rw [qw_st hq hk (by omega), if_neg (by omega)]
    exact qw_n hk d n (q / 6) (j + 1) (by omega) (by omega) (by omega)
theorem qc_wi {q k : Nat} (hq : q < 2 ^ 31) (hk : k ≤ 100) : fq_without (nI q) (nI k) = some (nI (dv_q k q)) := qw_n (by omega) k fu_n q 0 hq (by omega) (by unfold fu_n; omega)
theorem qp_0 {x : Int32} : ∀ (m n q : Nat), q < 6 ^ m → q < 1296 → m < n → fq_isPath_12 x n (nI 0) (nI q) = some (nI 0)
  | 0, 0, q, _, _, h => absurd h (by omega)
  | 0, n + 1, q, hq, _, _ => by
    have h0 : q = 0 := by simpa using hq
    subst h0
    rw [fq_isPath_12.eq_2]; dsimp only; rw [if_pos (by decide), ck_n (by decide)]
  | m + 1, 0, q, _, _, h => absurd h (by omega)
  | m + 1, n + 1, q, hq, hb, hn => by
    rw [fq_isPath_12.eq_2]; dsimp only
    by_cases h : q = 0
    · subst h; rw [if_pos (by decide), ck_n (by decide)]
    · rw [if_neg (nI_nle (by omega) (by omega)), if_pos (by decide)]
      unfold fq_isPath_31 fq_isPath_32
      rw [nl_6, pk_div (by omega) (by omega) (by omega)]
      exact qp_0 m n (q / 6) (by rw [Nat.pow_succ] at hq; omega) (by omega) (by omega)
theorem qp_1 {x : Int32} : ∀ (m n q : Nat), q < 6 ^ m → q < 1296 → m < n → fq_isPath_12 x n (nI 1) (nI q) = some (nI (if ip_n m q = true then 1 else 0))
  | 0, 0, q, _, _, h => absurd h (by omega)
  | 0, n + 1, q, hq, _, _ => by
    have h0 : q = 0 := by simpa using hq
    subst h0
    rw [fq_isPath_12.eq_2]; dsimp only; rw [if_pos (by decide), ck_n (by decide)]; rfl
  | m + 1, 0, q, _, _, h => absurd h (by omega)
  | m + 1, n + 1, q, hq, hb, hn => by
    rw [fq_isPath_12.eq_2]; dsimp only
    unfold ip_n
    by_cases h : q = 0
    · subst h; rw [if_pos (by decide), ck_n (by decide)]; rfl
    · rw [if_neg (nI_nle (by omega) (by omega)), if_neg (by decide), if_neg h, nl_6, pk_rem (by omega) (by omega) (by omega)]
      unfold fq_isPath_31 fq_isPath_32
      rw [nl_6, pk_div (by omega) (by omega) (by omega)]
      have h6 : q / 6 < 6 ^ m := by rw [Nat.pow_succ] at hq; omega
      by_cases hr : q % 6 = 0
      · rw [if_pos (by rw [hr]; decide), show (0 : Int32) = nI 0 from rfl, qp_0 m n (q / 6) h6 (by omega) (by omega)]
        simp [hr]
      · rw [if_neg (nI_nle (by omega) (by omega)), show (1 : Int32) = nI 1 from rfl, qp_1 m n (q / 6) h6 (by omega) (by omega)]
        simp [hr]
theorem qc_ip {q : Nat} (hq : q < 1296) : fq_isPath (nI q) = some (if 0 < q ∧ ip_q q = true then 1 else 0) := by
  unfold fq_isPath fq_isPath_9
  by_cases h : 0 < q
  · rw [if_neg (nI_nle h (by omega)), show (1 : Int32) = nI 1 from rfl, qp_1 4 fu_n q (by omega) hq (by unfold fu_n; omega)]
    unfold ip_q
    by_cases h2 : ip_n 4 q = true
    · rw [if_pos h2, if_pos ⟨h, h2⟩]; try rfl
    · rw [if_neg h2, if_neg (fun z => h2 z.2)]; try rfl
  · have h0 : q = 0 := by omega
    subst h0
    rw [if_pos (by decide), show (0 : Int32) = nI 0 from rfl, qp_0 4 fu_n 0 (by omega) (by omega) (by unfold fu_n; omega), if_neg (by simp)]; try rfl
theorem dq_le (q : Nat) : dp_q q ≤ 4 := by unfold dp_q; (repeat' split) <;> omega
theorem dv_le : ∀ (k q : Nat), dv_q k q ≤ q
  | 0, q => Nat.le_refl q
  | k + 1, q => Nat.le_trans (dv_le k (q / 6)) (Nat.div_le_self _ _)
theorem qc_ib {q p : Nat} (hq : q < 2 ^ 30) (hp : p < 2 ^ 30) : fq_isBelow (nI q) (nI p) = some (if dp_q p < dp_q q ∧ dv_q (dp_q q - dp_q p) q = p then 1 else 0) := by
  have h1 := dq_le q
  have h2 := dq_le p
  unfold fq_isBelow
  rw [qc_dp hq]
  show (fq_depth (nI p)).bind _ = _
  rw [qc_dp hp]
  show (if nI (dp_q q) - nI (dp_q p) ≤ 0 then _ else _) = _
  by_cases h : dp_q p < dp_q q
  · rw [pk_sub (by omega), if_neg (nI_nle (by omega) (by omega)), qc_wi (by omega) (by omega)]
    show (if nI _ = nI p then some 1 else some 0) = _
    have hl := dv_le (dp_q q - dp_q p) q
    by_cases he : dv_q (dp_q q - dp_q p) q = p
    · rw [if_pos (by rw [he]), if_pos ⟨h, he⟩]
    · rw [if_neg (fun z => he ((nI_eq (by omega) (by omega)).mp z)), if_neg (fun z => he z.2)]
  · have : nI (dp_q q) - nI (dp_q p) ≤ 0 := by
      rcases Nat.lt_or_eq_of_le (Nat.not_lt.mp h) with h' | h'
      · exact Int32.le_of_lt (pk_sneg (by omega) h')
      · rw [h', pk_sub (Nat.le_refl _), Nat.sub_self]; decide
    rw [if_pos this, if_neg (fun z => h z.1)]
theorem up_lt : ∀ (k p : Nat), up_p k p ≤ p
  | 0, p => Nat.le_refl p
  | k + 1, p => Nat.le_trans (up_lt k ((p - 1) / 5)) (by omega)
theorem dv_up : ∀ (k p : Nat), p < 781 → dv_q k (r6_p p) = r6_p (up_p k p)
  | 0, p, _ => rfl
  | k + 1, p, hp => by
    show dv_q k (r6_p p / 6) = _
    rw [r6_dv hp]
    exact dv_up k _ (by omega)
/-- the kind at a place of a layer -/
def ka_f (f : Nat → Int32) (p : Nat) : Int32 := if p < 781 then (if 0 ≤ f p then f p else 1) else 0
theorem yc_ka {f : Nat → Int32} {p : Nat} (hp : p < 2 ^ 30) : fy_kindAt f (nI p) = some (ka_f f p) := by
  unfold fy_kindAt ka_f
  rw [if_neg (nI_pos (by omega)), nl_781]
  by_cases h : p < 781
  · rw [if_pos h, if_pos (nI_lt h (by omega)), ck_n (nn_ck (by omega) h), ck_n (nn_ck (by omega) h), nI_clamp (by omega)]
    by_cases h0 : 0 ≤ f p
    · rw [if_pos h0, if_pos h0]
    · rw [if_neg h0, if_neg h0]
  · rw [if_neg h, if_neg (nI_nlt (by omega) (by omega))]
theorem yc_va {f : Nat → Int32} {p : Nat} (hp : p < 2 ^ 30) : fy_valueAt f (nI p) = some (if ka_f f p = 1 then f p ^^^ (-1) else 0) := by
  unfold fy_valueAt
  rw [yc_ka hp]
  show (if ka_f f p = 1 then _ else _) = _
  by_cases h : ka_f f p = 1
  · rw [if_pos h, if_pos h]
    have h7 : p < 781 := by
      unfold ka_f at h
      by_cases h7 : p < 781
      · exact h7
      · rw [if_neg h7] at h; exact absurd h (by decide)
    rw [ck_n (nn_ck (by omega) h7), nI_clamp (by omega)]
  · rw [if_neg h, if_neg h]
theorem sh_l : ∀ n, n < 32 → ((nI n &&& 31).toBitVec.smod 32).toNat = n := by decide +kernel
theorem nx_or (a b : Nat) : nI a ||| nI b = nI (a ||| b) := by
  apply Int32.toBitVec_inj.1
  show BitVec.ofNat 32 a ||| BitVec.ofNat 32 b = BitVec.ofNat 32 (a ||| b)
  apply BitVec.eq_of_getLsbD_eq
  intro i hi
  simp [hi]
theorem or_add {n a : Nat} : 2 ^ (n + 1) * a ||| 2 ^ n = 2 ^ (n + 1) * a + 2 ^ n := by
  have h := Nat.two_pow_add_eq_or_of_lt (i := n + 1) (b := 2 ^ n) (Nat.pow_lt_pow_right (by omega) (by omega)) a
  omega
theorem xc_po {l : Nat} (hl : l < 30) : fx_partOf (nI l) = some (nI (2 ^ l)) := by
  have h2 : 2 ^ l < 2 ^ 30 := Nat.pow_lt_pow_right (by omega) hl
  show some (nI 1 <<< (nI l &&& 31)) = _
  rw [pk_shlN (n := 1) _ l (sh_l l (by omega)) (by omega), Nat.one_mul]
theorem xb_bit {M l : Nat} (hM : M < 2 ^ 30) (hl : l < 30) : ((nI M >>> (nI l &&& 31)) &&& 1) = nI (M / 2 ^ l % 2) := by
  have h2 : M / 2 ^ l ≤ M := Nat.div_le_self _ _
  rw [pk_shrN (by omega) _ l (sh_l l (by omega)), pk_andN (by omega) 1 (by decide)]
theorem xc_ip {M l : Nat} (hM : M < 2 ^ 30) (hl : l < 30) : fx_isPart (nI l) (nI M) = some (if M / 2 ^ l % 2 = 1 then 1 else 0) := by
  unfold fx_isPart
  rw [xb_bit hM hl, nl_1]
  by_cases h : M / 2 ^ l % 2 = 1
  · rw [if_pos h, if_pos (by rw [h])]
  · rw [if_neg h, if_neg (fun z => h ((nI_eq (by omega) (by omega)).mp z))]
/-- what the layers below n give at a place, K being the kinds there, M the parts of the parent, acc what was found above -/
def fa_s (K : Nat → Int32) (M : Nat) : Nat → Nat → Int32
  | 0, acc => nI acc
  | n + 1, acc => if M / 2 ^ n % 2 = 1 then
      (if K n = 1 then (if acc = 0 then nI n ^^^ (-1) else nI acc) else if K n = 4 then nI acc else if K n = 3 then nI (acc + 2 ^ n) else if K n = 2 then fa_s K M n (acc + 2 ^ n) else fa_s K M n acc)
    else fa_s K M n acc
theorem xf_l {top : Nat} {c : Nat → ls_T} {M p : Nat} (hM : M < 2 ^ 30) (hp : p < 2 ^ 30) (ht : top < 30) : ∀ (n m a : Nat), n ≤ top + 1 → n < m → 2 ^ n * a < 2 ^ 30 → fx_findAmong_8 top c (nI M) (nI p) m (nI (2 ^ n * a)) (nI n + (-1)) = some (fa_s (fun l => ka_f (c l).1 p) M n (2 ^ n * a))
  | 0, 0, a, _, h, _ => absurd h (by omega)
  | 0, m + 1, a, _, _, _ => by
    rw [fx_findAmong_8.eq_2]; dsimp only
    rw [if_pos (by decide)]; rfl
  | n + 1, 0, a, _, h, _ => absurd h (by omega)
  | n + 1, m + 1, a, hn, hm, ha => by
    rw [fx_findAmong_8.eq_2]; dsimp only
    have e1 : 2 ^ (n + 1) * a = 2 ^ n * (2 * a) := by rw [Nat.pow_succ, Nat.mul_assoc]
    have hp2 : 2 ^ n < 2 ^ 30 := Nat.pow_lt_pow_right (by omega) (by omega)
    have e2 : 2 ^ (n + 1) * a + 2 ^ n = 2 ^ n * (2 * a + 1) := by rw [e1, Nat.mul_add, Nat.mul_one]
    have h2 : 2 ^ (n + 1) * a + 2 ^ n < 2 ^ 30 := by
      have h3 : 2 ^ (n + 1) = 2 * 2 ^ n := by rw [Nat.pow_succ, Nat.mul_comm]
      have h4 : 2 ^ 30 = 2 ^ (n + 1) * 2 ^ (29 - n) := by rw [← Nat.pow_add]; congr 1; omega
      have h5 : a < 2 ^ (29 - n) := by
        rw [h4] at ha
        exact Nat.lt_of_mul_lt_mul_left ha
      have h6 : 2 ^ (n + 1) * (a + 1) ≤ 2 ^ 30 := by rw [h4]; exact Nat.mul_le_mul_left _ h5
      have h7 : 0 < 2 ^ n := Nat.two_pow_pos n
      rw [Nat.mul_add, Nat.mul_one] at h6
      omega
    have ihA := fun (a' : Nat) (h : 2 ^ n * a' < 2 ^ 30) => xf_l (c := c) hM hp ht n m a' (by omega) (by omega) h
    unfold fa_s
    rw [pk_m1, if_neg (nI_pos (by omega)), xc_ip hM (by omega)]
    show (if (if M / 2 ^ n % 2 = 1 then (1 : Int32) else 0) = 0 then _ else _) = _
    by_cases hb : M / 2 ^ n % 2 = 1
    · rw [if_pos hb, if_pos hb, if_neg (by decide), ck_n (nn_ck (by omega) (by omega)), nI_clamp (by omega), yc_ka hp]
      show (if ka_f (c n).1 p = 1 then _ else _) = _
      by_cases k1 : ka_f (c n).1 p = 1
      · rw [if_pos k1, if_pos k1]
        by_cases h0 : 2 ^ (n + 1) * a = 0
        · rw [if_pos h0, if_pos (by rw [h0]; rfl)]; rfl
        · rw [if_neg h0, if_neg (nI_ne0 (by omega) (by omega))]
      · rw [if_neg k1, if_neg k1]
        by_cases k4 : ka_f (c n).1 p = 4
        · rw [if_pos k4, if_pos k4]
        · rw [if_neg k4, if_neg k4]
          by_cases k3 : ka_f (c n).1 p = 3
          · rw [if_pos k3, if_pos k3, xc_po (by omega)]
            show some (nI _ ||| nI _) = _
            rw [nx_or, or_add]
          · rw [if_neg k3, if_neg k3]
            by_cases k2 : ka_f (c n).1 p = 2
            · rw [if_pos k2, if_pos k2, xc_po (by omega)]
              show fx_findAmong_91 top c (nI M) (nI p) _ (nI _ ||| nI _) (nI n) = _
              rw [nx_or, or_add]
              unfold fx_findAmong_91
              rw [e2]
              exact ihA _ (by rw [← e2]; exact h2)
            · rw [if_neg k2, if_neg k2]
              unfold fx_findAmong_91
              rw [e1]
              exact ihA _ (by rw [← e1]; exact ha)
    · rw [if_neg hb, if_neg hb, if_pos rfl]
      unfold fx_findAmong_91
      rw [e1]
      exact ihA _ (by rw [← e1]; exact ha)
theorem xc_fa {top : Nat} {c : Nat → ls_T} {M p : Nat} (hM : M < 2 ^ 30) (hp : p < 2 ^ 30) (ht : top < 30) : fx_findAmong top c (nI M) (nI p) = some (fa_s (fun l => ka_f (c l).1 p) M (top + 1) 0) := by
  have h := xf_l (c := c) hM hp ht (top + 1) fu_n 0 (Nat.le_refl _) (by unfold fu_n; omega) (by omega)
  rw [pk_m1, Nat.mul_zero] at h
  exact h
