/-! objects: the class counts by descent, the reference by all numbers -/
section OBJ
variable {top : Nat} {c : Nat → ls_T} {kn vl : Nat → Int32}
def ci_n (P : Nat → Bool) (a : Nat) : Nat → Nat
  | 0 => 0
  | n + 1 => ci_n P a n + (if P (a + n) = true then 1 else 0)
theorem ci_add (P : Nat → Bool) (a m : Nat) : ∀ n, ci_n P a (m + n) = ci_n P a m + ci_n P (a + m) n
  | 0 => rfl
  | n + 1 => by
    show ci_n P a (m + n) + _ = ci_n P a m + (ci_n P (a + m) n + _)
    rw [ci_add P a m n, Nat.add_assoc, Nat.add_assoc a m n]; rfl
theorem ci_cs (P : Nat → Bool) : ∀ n, cs_n P n = ci_n P 0 n
  | 0 => rfl
  | n + 1 => by
    show cs_n P n + _ = ci_n P 0 n + _
    rw [ci_cs P n, Nat.zero_add]
theorem ci_1 (P : Nat → Bool) (a : Nat) : ci_n P a 1 = if P a = true then 1 else 0 := by
  show 0 + _ = _
  rw [Nat.zero_add]; rfl
/-- five stretches beside each other -/
theorem ci_5 (P : Nat → Bool) (a n : Nat) : ci_n P a n + (ci_n P (a + n) n + (ci_n P (a + 2 * n) n + (ci_n P (a + 3 * n) n + ci_n P (a + 4 * n) n))) = ci_n P a (5 * n) := by
  rw [show 5 * n = n + (n + (n + (n + n))) by omega, ci_add, ci_add, ci_add, ci_add, show a + n + n = a + 2 * n by omega, show a + 2 * n + n = a + 3 * n by omega, show a + 3 * n + n = a + 4 * n by omega]
def s5_g (w : Nat → Nat) : Nat → Nat
  | 0 => 0
  | j + 1 => w (5 - j) + s5_g w j
theorem s5_e (w : Nat → Nat) : s5_g w 5 = w 1 + (w 2 + (w 3 + (w 4 + w 5))) := by
  show w 1 + (w 2 + (w 3 + (w 4 + (w 5 + 0)))) = _
  rw [Nat.add_zero]
/-- objects below p, k levels of them -/
def bw_n (P : Nat → Bool) : Nat → Nat → Nat
  | 0, _ => 0
  | k + 1, p => s5_g (fun d => (if P (5 * p + d) = true then 1 else 0) + bw_n P k (5 * p + d)) 5
theorem ci_s (P : Nat → Bool) (p : Nat) : (if P (5 * p + 1) = true then 1 else 0) + ((if P (5 * p + 2) = true then 1 else 0) + ((if P (5 * p + 3) = true then 1 else 0) + ((if P (5 * p + 4) = true then 1 else 0) + (if P (5 * p + 5) = true then 1 else 0)))) = ci_n P (5 * p + 1) 5 := by
  have h := ci_5 P (5 * p + 1) 1
  simp only [ci_1, Nat.mul_one] at h
  exact h
theorem bw_1 (P : Nat → Bool) (p : Nat) : bw_n P 1 p = ci_n P (5 * p + 1) 5 := by
  show s5_g _ 5 = _
  rw [s5_e]
  have h := ci_5 P (5 * p + 1) 1
  simp only [ci_1, Nat.mul_one] at h
  simp only [bw_n, Nat.add_zero]
  rw [← h]
theorem bw_2 (P : Nat → Bool) (p : Nat) : bw_n P 2 p = ci_n P (5 * p + 1) 5 + ci_n P (25 * p + 6) 25 := by
  show s5_g _ 5 = _
  rw [s5_e]
  have h := ci_s P p
  have h2 := ci_5 P (25 * p + 6) 5
  simp only [bw_1]
  rw [← h, ← h2, show 5 * (5 * p + 1) + 1 = 25 * p + 6 by omega, show 5 * (5 * p + 2) + 1 = 25 * p + 6 + 5 by omega, show 5 * (5 * p + 3) + 1 = 25 * p + 6 + 2 * 5 by omega, show 5 * (5 * p + 4) + 1 = 25 * p + 6 + 3 * 5 by omega, show 5 * (5 * p + 5) + 1 = 25 * p + 6 + 4 * 5 by omega]
  omega
theorem bw_3 (P : Nat → Bool) (p : Nat) : bw_n P 3 p = ci_n P (5 * p + 1) 5 + ci_n P (25 * p + 6) 25 + ci_n P (125 * p + 31) 125 := by
  show s5_g _ 5 = _
  rw [s5_e]
  have h := ci_s P p
  have h2 := ci_5 P (25 * p + 6) 5
  have h3 := ci_5 P (125 * p + 31) 25
  simp only [bw_2]
  rw [← h, ← h2, ← h3, show 5 * (5 * p + 1) + 1 = 25 * p + 6 by omega, show 5 * (5 * p + 2) + 1 = 25 * p + 6 + 5 by omega, show 5 * (5 * p + 3) + 1 = 25 * p + 6 + 2 * 5 by omega, show 5 * (5 * p + 4) + 1 = 25 * p + 6 + 3 * 5 by omega, show 5 * (5 * p + 5) + 1 = 25 * p + 6 + 4 * 5 by omega, show 25 * (5 * p + 1) + 6 = 125 * p + 31 by omega, show 25 * (5 * p + 2) + 6 = 125 * p + 31 + 25 by omega, show 25 * (5 * p + 3) + 6 = 125 * p + 31 + 2 * 25 by omega, show 25 * (5 * p + 4) + 6 = 125 * p + 31 + 3 * 25 by omega, show 25 * (5 * p + 5) + 6 = 125 * p + 31 + 4 * 25 by omega]
  omega
theorem bw_4 (P : Nat → Bool) : bw_n P 4 0 = ci_n P 1 780 := by
  show s5_g _ 5 = _
  rw [s5_e]
  have h := ci_5 P 1 1
  have h2 := ci_5 P 6 5
  have h3 := ci_5 P 31 25
  have h4 := ci_5 P 156 125
  simp only [ci_1, Nat.mul_one, Nat.reduceAdd, Nat.reduceMul] at h h2 h3 h4
  rw [show 780 = 5 + (25 + (125 + 625)) by omega, ci_add, ci_add, ci_add]
  simp only [bw_3, Nat.mul_zero, Nat.zero_add, Nat.reduceAdd, Nat.reduceMul]
  rw [← h, ← h2, ← h3, ← h4]
  omega
/-- what is found at a place, and not -/
def pf_b (top : Nat) (c : Nat → ls_T) (p : Nat) : Bool := decide (¬ fd_f top c p = 0)
theorem fd_dd {p d : Nat} (hp : p < 156) (h1 : 1 ≤ d) (h5 : d ≤ 5) (h : ¬ 0 < fd_f top c p) : fd_f top c (5 * p + d) = 0 := by
  unfold fd_f at h ⊢
  rw [show dp_p (5 * p + d) = dp_p p + 1 from by unfold dp_p; (repeat' split) <;> omega]
  unfold fd_s
  rw [show (5 * p + d - 1) / 5 = p by omega, if_neg h]
theorem dp_156 {p : Nat} : dp_p p ≤ 3 ↔ p < 156 := by
  unfold dp_p
  (repeat' split) <;> omega
theorem dp_ch {p d : Nat} (hp : p < 156) (h1 : 1 ≤ d) (h5 : d ≤ 5) : dp_p (5 * p + d) = dp_p p + 1 := by
  unfold dp_p
  (repeat' split) <;> omega
theorem bw_dd : ∀ (k p : Nat), dp_p p + k ≤ 4 → ¬ 0 < fd_f top c p → bw_n (pf_b top c) k p = 0
  | 0, _, _, _ => rfl
  | k + 1, p, hk, h => by
    have hp : p < 156 := dp_156.mp (by omega)
    show s5_g _ 5 = 0
    rw [s5_e]
    have e : ∀ d, 1 ≤ d → d ≤ 5 → (if pf_b top c (5 * p + d) = true then 1 else 0) + bw_n (pf_b top c) k (5 * p + d) = 0 := by
      intro d h1 h5
      have h0 := fd_dd (c := c) hp h1 h5 h
      rw [bw_dd k (5 * p + d) (by rw [dp_ch hp h1 h5]; omega) (by rw [h0]; decide), if_neg (by unfold pf_b; rw [h0]; decide)]
    rw [e 1 (by omega) (by omega), e 2 (by omega) (by omega), e 3 (by omega) (by omega), e 4 (by omega) (by omega), e 5 (by omega) (by omega)]
theorem xb_l (ht : top ≤ 3) {p M k : Nat} {rc : Int32 → Int32 → Option Int32} (hp : p < 156) (hM : 0 < M) (hM2 : M < 2 ^ 30) (hf : fd_f top c p = nI M) (hk : dp_p p + (k + 1) ≤ 4) (hrc : ∀ d, 1 ≤ d → d ≤ 5 → 0 < fd_f top c (5 * p + d) → rc (nI (5 * p + d)) (fd_f top c (5 * p + d)) = some (nI (bw_n (pf_b top c) k (5 * p + d)))) : ∀ (j m acc : Nat), j ≤ 5 → j < m → fx_countBelow_15 top c rc (nI p) (nI M) m (nI acc) (nI (6 - j)) = some (nI (acc + s5_g (fun d => (if pf_b top c (5 * p + d) = true then 1 else 0) + bw_n (pf_b top c) k (5 * p + d)) j))
  | 0, 0, _, _, h => absurd h (by omega)
  | 0, m + 1, acc, _, _ => by
    rw [fx_countBelow_15.eq_2]; dsimp only
    rw [if_pos (by decide)]; rfl
  | j + 1, 0, _, _, h => absurd h (by omega)
  | j + 1, m + 1, acc, hj, hm => by
    have hfd := fd_ch (c := c) ht hp (d := 5 - j) (by omega) (by omega) hM hM2 hf
    rw [fx_countBelow_15.eq_2]; dsimp only
    rw [nl_5, if_neg (nI_nlt (by omega) (by omega)), pc_ch, Option.bind_some, xc_fa hM2 (by omega) (by omega), Option.bind_some, show 6 - (j + 1) = 5 - j by omega, ← hfd]
    unfold fx_countBelow_46 fx_countBelow_65
    rw [xc_id, Option.bind_some, Option.bind_some, nI_1, nI_1, show 5 - j + 1 = 6 - j by omega]
    show _ = some (nI (acc + (((if pf_b top c (5 * p + (5 - j)) = true then 1 else 0) + bw_n (pf_b top c) k (5 * p + (5 - j))) + s5_g _ j)))
    rcases r3_c (fd_f top c (5 * p + (5 - j))) with ⟨f1, f2⟩ | ⟨f1, f2⟩ | ⟨f1, f2⟩
    · rw [if_pos f1, if_pos (show (if fd_f top c (5 * p + (5 - j)) ≤ 0 then (0 : Int32) else 1) = 0 from by rw [if_pos (by rw [f1]; decide)]), xb_l ht hp hM hM2 hf hk hrc j m acc (by omega) (by omega), if_neg (show ¬ pf_b top c (5 * p + (5 - j)) = true from by unfold pf_b; rw [f1]; decide), bw_dd k _ (by rw [dp_ch hp (by omega) (by omega)]; omega) (by rw [f1]; decide), Nat.add_zero, Nat.zero_add]
    · rw [if_neg (lt_ne f1), if_neg (show ¬ (if fd_f top c (5 * p + (5 - j)) ≤ 0 then (0 : Int32) else 1) = 0 from by rw [if_neg (lt_nle f1)]; decide), hrc (5 - j) (by omega) (by omega) f1, Option.bind_some, nI_add, xb_l ht hp hM hM2 hf hk hrc j m _ (by omega) (by omega), if_pos (show pf_b top c (5 * p + (5 - j)) = true from by unfold pf_b; exact decide_eq_true (lt_ne f1))]
      simp only [Nat.add_assoc]
    · rw [if_neg (lt_ne' f1), if_pos (show (if fd_f top c (5 * p + (5 - j)) ≤ 0 then (0 : Int32) else 1) = 0 from by rw [if_pos (lt_le f1)]), xb_l ht hp hM hM2 hf hk hrc j m _ (by omega) (by omega), if_pos (show pf_b top c (5 * p + (5 - j)) = true from by unfold pf_b; exact decide_eq_true (lt_ne' f1)), bw_dd k _ (by rw [dp_ch hp (by omega) (by omega)]; omega) (fun z => absurd (Int32.lt_trans z f1) (by decide)), Nat.add_zero, Nat.add_assoc]
theorem xc_cb (ht : top ≤ 3) : ∀ (n p : Nat), p < 781 → 4 - dp_p p < n → 0 < fd_f top c p → fx_countBelow top c n (nI p) (fd_f top c p) = some (nI (bw_n (pf_b top c) (4 - dp_p p) p))
  | 0, _, _, h, _ => absurd h (by omega)
  | n + 1, p, hp, hn, hf => by
    have h4 := dp_le p
    obtain ⟨M, m1, m2, m3⟩ := fd_pos (by omega) _ _ hf
    have m3' : fd_f top c p = nI M := m3
    have h30 : 2 ^ (top + 1) ≤ 2 ^ 4 := Nat.pow_le_pow_right (by omega) (by omega)
    rw [fx_countBelow.eq_2]; dsimp only
    unfold fx_countBelow_B
    rw [pc_dp (by omega), Option.bind_some, nl_4]
    by_cases h : dp_p p < 4
    · have hp' : p < 156 := dp_156.mp (by omega)
      rw [if_pos (nI_lt h (by omega)), m3', show 4 - dp_p p = (3 - dp_p p) + 1 by omega]
      have := xb_l (c := c) ht (p := p) (M := M) (k := 3 - dp_p p) (rc := fx_countBelow top c n) hp' m1 (by omega) m3' (by omega) (fun d a b z => by
        have := xc_cb ht n (5 * p + d) (by omega) (by rw [dp_ch hp' a b]; omega) z
        rw [dp_ch hp' a b, show 4 - (dp_p p + 1) = 3 - dp_p p by omega] at this
        exact this) 5 fu_n 0 (by omega) (by unfold fu_n; omega)
      rw [Nat.zero_add] at this
      exact this
    · rw [if_neg (nI_nlt (by omega) (by omega)), show 4 - dp_p p = 0 by omega]
      rfl
theorem qo_l (h : re_K top c kn vl) (h1 : 1 ≤ top) (ht : top ≤ 3) {md : Int32} : ∀ (d m q : Nat) (fo pa fi va : Int32), q + d = 1296 → d < m → ∃ R : q4_T, fq_objects_13 top md kn vl m (nI (cs_n (fun q => decide (0 < q ∧ ip_q q = true ∧ ¬ fd_f top c (p5_q q) = 0)) q)) (nI q) fo pa fi va = some (nI (cs_n (fun q => decide (0 < q ∧ ip_q q = true ∧ ¬ fd_f top c (p5_q q) = 0)) 1296), R)
  | 0, 0, q, _, _, _, _, _, h => absurd h (by omega)
  | 0, m + 1, q, fo, pa, fi, va, hq, _ => by
    have : q = 1296 := by omega
    subst this
    rw [fq_objects_13.eq_2]; dsimp only
    rw [if_pos (by decide)]
    exact ⟨_, rfl⟩
  | d + 1, 0, q, _, _, _, _, _, h => absurd h (by omega)
  | d + 1, m + 1, q, fo, pa, fi, va, hq, hm => by
    rw [fq_objects_13.eq_2]; dsimp only
    rw [if_neg (show ¬ (1296 : Int32) ≤ nI q from nI_ge (a := q) (b := 1296) (by omega) (by omega)), qc_ip (by omega), Option.bind_some]
    have ih := fun fo pa fi va => qo_l h h1 ht (md := md) d m (q + 1) fo pa fi va (by omega) (by omega)
    have e : cs_n (fun q => decide (0 < q ∧ ip_q q = true ∧ ¬ fd_f top c (p5_q q) = 0)) (q + 1) = cs_n (fun q => decide (0 < q ∧ ip_q q = true ∧ ¬ fd_f top c (p5_q q) = 0)) q + (if 0 < q ∧ ip_q q = true ∧ ¬ fd_f top c (p5_q q) = 0 then 1 else 0) := by
      show _ + _ = _
      simp only [decide_eq_true_eq]
    rw [e] at ih
    unfold fq_objects_34 fq_objects_50 fq_objects_51
    by_cases hi : 0 < q ∧ ip_q q = true
    · have h7 := p5_lt (q := q) (by omega) hi.2
      have hr := p5_inv (q := q) (by omega) hi.2
      obtain ⟨R, g1, g2, -, -⟩ := qc_lo h h1 ht h7 (fo := fo) (pa := pa) (fi := fi) (va := va)
      rw [hr] at g1
      have z1 : ¬ (if 0 < q ∧ ip_q q = true then (1 : Int32) else 0) = 0 := by rw [if_pos hi]; decide
      rw [if_neg z1, g1, Option.bind_some, if_neg z1]
      by_cases hf : fd_f top c (p5_q q) = 0
      · rw [if_pos (show R.1 ≤ 0 from by rw [g2]; exact cd_pos.mpr hf), show nI (cs_n (fun q => decide (0 < q ∧ ip_q q = true ∧ ¬ fd_f top c (p5_q q) = 0)) q) + 0 = nI (cs_n (fun q => decide (0 < q ∧ ip_q q = true ∧ ¬ fd_f top c (p5_q q) = 0)) q) from Int32.add_zero _, nI_1]
        rw [if_neg (fun z => z.2.2 hf), Nat.add_zero] at ih
        exact ih _ _ _ _
      · rw [if_neg (show ¬ R.1 ≤ 0 from by rw [g2]; exact fun z => hf (cd_pos.mp z)), nI_1, nI_1]
        rw [if_pos ⟨hi.1, hi.2, hf⟩] at ih
        exact ih _ _ _ _
    · have z1 : (if 0 < q ∧ ip_q q = true then (1 : Int32) else 0) = 0 := by rw [if_neg hi]
      rw [if_pos z1, if_pos z1, show nI (cs_n (fun q => decide (0 < q ∧ ip_q q = true ∧ ¬ fd_f top c (p5_q q) = 0)) q) + 0 = nI (cs_n (fun q => decide (0 < q ∧ ip_q q = true ∧ ¬ fd_f top c (p5_q q) = 0)) q) from Int32.add_zero _, nI_1]
      rw [if_neg (fun z => hi ⟨z.1, z.2.1⟩), Nat.add_zero] at ih
      exact ih _ _ _ _
theorem pp_ob (h : re_K top c kn vl) (h1 : 1 ≤ top) (ht : top ≤ 3) {md fo pa fi va : Int32} : ∃ (v : Int32) (R : q4_T), fx_objects top c md = some v ∧ fq_objects top md kn vl fo pa fi va = some (v, R) := by
  unfold fx_objects fq_objects
  by_cases hm : md = 0
  · rw [if_pos hm, if_pos hm]; exact ⟨_, _, rfl, rfl⟩
  · rw [if_neg hm, if_neg hm]
    have h2 : 2 ≤ 2 ^ (top + 1) := by rw [Nat.pow_succ]; have := Nat.two_pow_pos top; omega
    have h30 : 2 ^ (top + 1) ≤ 2 ^ 4 := Nat.pow_le_pow_right (by omega) (by omega)
    have hp0 : 0 < fd_f top c 0 := by
      show 0 < nI (2 ^ (top + 1) - 1)
      rw [nl_0]; exact nI_lt (by omega) (by omega)
    have e1 := xc_fd (c := c) (top := top) (p := 0) (by omega) (by omega)
    have e2 := xc_cb (c := c) ht 6 0 (by omega) (by omega) hp0
    obtain ⟨R, e3⟩ := qo_l h h1 ht (md := md) 1295 fu_n 1 fo pa fi va (by omega) (by unfold fu_n; omega)
    have e4 : cs_n (fun q => decide (0 < q ∧ ip_q q = true ∧ ¬ fd_f top c (p5_q q) = 0)) 1 = 0 := by
      show 0 + _ = 0
      simp
    have e5 : cs_n (fun q => decide (0 < q ∧ ip_q q = true ∧ ¬ fd_f top c (p5_q q) = 0)) 1296 = bw_n (pf_b top c) 4 0 := by
      rw [cq_cs (fun q hq z => (of_decide_eq_true z).2.1), bw_4, ci_cs, show 781 = 1 + 780 from rfl, ci_add, ci_1, if_neg (by simp [r6_0])]
      rw [Nat.zero_add, Nat.zero_add]
      have : ∀ n, n ≤ 780 → ci_n (fun p => decide (0 < r6_p p ∧ ip_q (r6_p p) = true ∧ ¬ fd_f top c (p5_q (r6_p p)) = 0)) 1 n = ci_n (pf_b top c) 1 n := by
        intro n
        induction n with
        | zero => intro _; rfl
        | succ n ih =>
          intro hn
          show ci_n _ 1 n + _ = ci_n _ 1 n + _
          rw [ih (by omega)]
          congr 1
          have a := r6_pos (p := 1 + n) (by omega) (by omega)
          have b := r6_ip (p := 1 + n) (by omega)
          have d := r6_inv (p := 1 + n) (by omega)
          unfold pf_b
          simp only [a, b, d, true_and]
      exact this 780 (by omega)
    rw [e4, e5] at e3
    have e1' : fx_find top c 0 = some (fd_f top c 0) := e1
    have e2' : fx_countBelow top c 6 0 (fd_f top c 0) = some (nI (bw_n (pf_b top c) 4 0)) := e2
    rw [e1', Option.bind_some, e2', Option.bind_some]
    exact ⟨_, R, rfl, e3⟩
end OBJ
