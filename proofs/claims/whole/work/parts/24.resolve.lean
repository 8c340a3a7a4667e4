/-! resolve() and look() of the reference say what find() of the class says -/
def cd_r (r : Int32) : Int32 := if 0 < r then 2 else if r < 0 then 1 else 0
def ps_r (r : Int32) : Int32 := if 0 < r then r else 0
abbrev q4_T : Type := Int32 × Int32 × Int32 × Int32
/-- what the reference's four fields say of r -/
def rr_R (V : Nat → Int32) (n : Nat) (r : Int32) (R : q4_T) : Prop := R.1 = cd_r r ∧ R.2.1 = ps_r r ∧ (r < 0 → ∃ l, l < n ∧ r = nI l ^^^ (-1) ∧ R.2.2.1 = nI l ∧ R.2.2.2 = V l) ∧ (0 < r → R.2.2.2 = 0 ∧ ∃ l t, l < n ∧ t < 2 ^ l ∧ r = nI (2 ^ l + t) ∧ R.2.2.1 = nI l)
section RES
variable {kn vl : Nat → Int32} {q M : Nat} {x3 : Int32}
theorem qr_k0 {x1 x2 x4 fo pa fi va : Int32} {k : Int32 → Int32 → Int32 → Int32 → Int32 → Option q4_T} : fq_resolve_57 kn vl x1 x2 x3 k x4 0 fo pa fi va = k (x4 + (-1)) fo pa fi va := by
  unfold fq_resolve_57 fq_resolve_129 fq_resolve_154
  rw [if_pos (by decide), if_neg (by decide), if_neg (by decide), if_neg (by decide), if_pos (by decide)]
theorem qr_B1 {x1 x2 x4 fo pa va : Int32} {l0 : Nat} (hl : l0 < 30) {k : Int32 → Int32 → Int32 → Int32 → Int32 → Option q4_T} : fq_resolve_57 kn vl x1 x2 x3 k x4 1 fo pa (nI l0) va = some (fo, pa, nI l0, va) := by
  unfold fq_resolve_57 fq_resolve_129 fq_resolve_154
  rw [if_neg (by decide), if_pos (nI_pos' (by omega)), if_neg (by decide), if_neg (by decide), if_pos rfl]
theorem qr_B4 {x1 x2 x4 fo pa va : Int32} {l0 : Nat} (hl : l0 < 30) {k : Int32 → Int32 → Int32 → Int32 → Int32 → Option q4_T} : fq_resolve_57 kn vl x1 x2 x3 k x4 4 fo pa (nI l0) va = some (fo, pa, nI l0, va) := by
  unfold fq_resolve_57 fq_resolve_129 fq_resolve_154
  rw [if_neg (by decide), if_pos (nI_pos' (by omega)), if_neg (by decide), if_neg (by decide), if_neg (by decide), if_neg (by decide)]
theorem qr_B3 {x1 x2 x4 fo pa va : Int32} {l0 : Nat} (hl : l0 < 30) {k : Int32 → Int32 → Int32 → Int32 → Int32 → Option q4_T} : fq_resolve_57 kn vl x1 x2 x3 k x4 3 fo pa (nI l0) va = some (fo, pa ||| (1 <<< (x4 &&& 31)), nI l0, va) := by
  unfold fq_resolve_57 fq_resolve_129 fq_resolve_141 fq_resolve_154
  rw [if_neg (by decide), if_pos (nI_pos' (by omega)), if_neg (by decide), if_pos rfl, if_neg (by decide), if_neg (by decide)]
theorem qr_B2 {x1 x2 x4 fo pa va : Int32} {l0 : Nat} (hl : l0 < 30) {k : Int32 → Int32 → Int32 → Int32 → Int32 → Option q4_T} : fq_resolve_57 kn vl x1 x2 x3 k x4 2 fo pa (nI l0) va = k (x4 + (-1)) fo (pa ||| (1 <<< (x4 &&& 31))) (nI l0) va := by
  unfold fq_resolve_57 fq_resolve_129 fq_resolve_141 fq_resolve_154
  rw [if_neg (by decide), if_pos (nI_pos' (by omega)), if_pos rfl, if_neg (by decide), if_pos (by decide)]
theorem qr_A1 {x1 x2 x4 : Int32} (hb : ¬ (((1296 * x4) + x1) < 0 ∨ 5184 ≤ ((1296 * x4) + x1).toNatClampNeg)) {k : Int32 → Int32 → Int32 → Int32 → Int32 → Option q4_T} : fq_resolve_57 kn vl x1 x2 x3 k x4 1 0 0 (-1) 0 = some (1, 0, x4, vl ((1296 * x4) + x1).toNatClampNeg) := by
  unfold fq_resolve_57 fq_resolve_99
  rw [if_neg (by decide), if_neg (by decide), if_pos rfl, if_pos rfl, ck_n hb]
  unfold fq_resolve_126 fq_resolve_129 fq_resolve_154
  rw [if_neg (by decide), if_neg (by decide), if_pos rfl]
theorem qr_A4 {x1 x2 x4 : Int32} {k : Int32 → Int32 → Int32 → Int32 → Int32 → Option q4_T} : fq_resolve_57 kn vl x1 x2 x3 k x4 4 0 0 (-1) 0 = some (0, 0, x4, 0) := by
  unfold fq_resolve_57 fq_resolve_99
  rw [if_neg (by decide), if_neg (by decide), if_neg (by decide), if_pos rfl, if_neg (by decide)]
  unfold fq_resolve_126 fq_resolve_129 fq_resolve_154
  rw [if_neg (by decide), if_neg (by decide), if_neg (by decide), if_neg (by decide)]
theorem qr_A3 {x1 x2 x4 : Int32} {k : Int32 → Int32 → Int32 → Int32 → Int32 → Option q4_T} : fq_resolve_57 kn vl x1 x2 x3 k x4 3 0 0 (-1) 0 = some (((2 : Int32), (0 : Int32) ||| (1 <<< (x4 &&& 31)), x4, (0 : Int32)) : q4_T) := by
  unfold fq_resolve_57 fq_resolve_99
  rw [if_neg (by decide), if_neg (by decide), if_neg (by decide), if_neg (by decide), if_neg (by decide)]
  unfold fq_resolve_126 fq_resolve_129 fq_resolve_141 fq_resolve_154
  rw [if_neg (by decide), if_pos rfl, if_neg (by decide), if_neg (by decide)]
theorem qr_A2 {x1 x2 x4 : Int32} {k : Int32 → Int32 → Int32 → Int32 → Int32 → Option q4_T} : fq_resolve_57 kn vl x1 x2 x3 k x4 2 0 0 (-1) 0 = k (x4 + (-1)) 2 ((0 : Int32) ||| (1 <<< (x4 &&& 31))) x4 0 := by
  unfold fq_resolve_57 fq_resolve_99
  rw [if_neg (by decide), if_neg (by decide), if_neg (by decide), if_neg (by decide), if_neg (by decide)]
  unfold fq_resolve_126 fq_resolve_129 fq_resolve_141 fq_resolve_154
  rw [if_pos rfl, if_neg (by decide), if_pos (by decide)]
theorem sh_1 {l : Nat} (hl : l < 30) : (1 : Int32) <<< (nI l &&& 31) = nI (2 ^ l) := Option.some.inj (xc_po hl)
theorem ix_n {n q : Nat} : (1296 * nI n) + nI q = nI (1296 * n + q) := by rw [nl_1296, pk_mul, nI_add]
/-- one step of the loop, over a kind k of 0..4 that stands in the layer (0 where the parent has no part there) -/
theorem qr_st {m n : Nat} {fo pa fi va : Int32} (hM : M < 2 ^ 30) (hn : n < 4) (hq : q < 1296) : fq_resolve_25 kn vl (nI q) (nI M) x3 (m + 1) (nI (n + 1) + (-1)) fo pa fi va = fq_resolve_57 kn vl (nI q) (nI M) x3 (fq_resolve_25 kn vl (nI q) (nI M) x3 m) (nI n) (if M / 2 ^ n % 2 = 1 then kn (1296 * n + q) else 0) fo pa fi va := by
  rw [fq_resolve_25.eq_2]; dsimp only
  rw [pk_m1, if_neg (nI_pos (by omega)), xb_bit hM (by omega), ix_n, ck_n (nn_ck (by omega) (by omega)), nI_clamp (by omega), nl_1]
  by_cases hb : M / 2 ^ n % 2 = 1
  · rw [if_pos hb, if_pos (by rw [hb])]
  · rw [if_neg hb, if_neg (fun z => hb ((nI_eq (by omega) (by omega)).mp z))]
theorem qr_e {m : Nat} {fo pa fi va : Int32} : fq_resolve_25 kn vl (nI q) (nI M) x3 (m + 1) (nI 0 + (-1)) fo pa fi va = some (fo, pa, fi, va) := by
  rw [fq_resolve_25.eq_2]; dsimp only
  rw [if_pos (by decide)]
theorem k5_c {x : Int32} (h : ∃ j, j ≤ 4 ∧ x = nI j) : x = 0 ∨ x = 1 ∨ x = 2 ∨ x = 3 ∨ x = 4 := by
  obtain ⟨j, h1, h2⟩ := h
  rcases (by omega : j = 0 ∨ j = 1 ∨ j = 2 ∨ j = 3 ∨ j = 4) with h | h | h | h | h <;> subst h
  · exact Or.inl h2
  · exact Or.inr (Or.inl h2)
  · exact Or.inr (Or.inr (Or.inl h2))
  · exact Or.inr (Or.inr (Or.inr (Or.inl h2)))
  · exact Or.inr (Or.inr (Or.inr (Or.inr h2)))
theorem fa_k0 {K : Nat → Int32} {n acc : Nat} (h : (if M / 2 ^ n % 2 = 1 then K n else 0) = 0) : fa_s K M (n + 1) acc = fa_s K M n acc := by
  show (if M / 2 ^ n % 2 = 1 then _ else _) = _
  by_cases hb : M / 2 ^ n % 2 = 1
  · rw [if_pos hb] at h
    rw [if_pos hb, h, if_neg (by decide), if_neg (by decide), if_neg (by decide), if_neg (by decide)]
  · rw [if_neg hb]
theorem fa_kp {K : Nat → Int32} {n acc : Nat} {j : Int32} (hj : ¬ j = 0) (h : (if M / 2 ^ n % 2 = 1 then K n else 0) = j) : fa_s K M (n + 1) acc = (if j = 1 then (if acc = 0 then nI n ^^^ (-1) else nI acc) else if j = 4 then nI acc else if j = 3 then nI (acc + 2 ^ n) else if j = 2 then fa_s K M n (acc + 2 ^ n) else fa_s K M n acc) := by
  have hb : M / 2 ^ n % 2 = 1 := by
    by_cases hb : M / 2 ^ n % 2 = 1
    · exact hb
    · rw [if_neg hb] at h; exact absurd h.symm hj
  rw [if_pos hb] at h
  show (if M / 2 ^ n % 2 = 1 then _ else _) = _
  rw [if_pos hb, h]
theorem m5_c {K : Nat → Int32} {n : Nat} (h : ∃ j, j ≤ 4 ∧ K n = nI j) : ∃ j, j ≤ 4 ∧ (if M / 2 ^ n % 2 = 1 then K n else 0) = nI j := by
  by_cases hb : M / 2 ^ n % 2 = 1
  · rw [if_pos hb]; exact h
  · rw [if_neg hb]; exact ⟨0, by omega, rfl⟩
theorem qr_B (hM : M < 2 ^ 30) (hq : q < 1296) (hK : ∀ l, l < 4 → ∃ j, j ≤ 4 ∧ kn (1296 * l + q) = nI j) {l0 : Nat} (hl : l0 < 30) : ∀ (n m a : Nat), n ≤ 4 → n < m → a ≠ 0 → 2 ^ n * a < 2 ^ 29 → fq_resolve_25 kn vl (nI q) (nI M) x3 m (nI n + (-1)) 2 (nI (2 ^ n * a)) (nI l0) 0 = some (2, fa_s (fun l => kn (1296 * l + q)) M n (2 ^ n * a), nI l0, 0)
  | 0, 0, a, _, h, _, _ => absurd h (by omega)
  | 0, m + 1, a, _, _, _, _ => qr_e
  | n + 1, 0, a, _, h, _, _ => absurd h (by omega)
  | n + 1, m + 1, a, hn, hm, ha, hb => by
    have e1 : 2 ^ (n + 1) * a = 2 ^ n * (2 * a) := by rw [Nat.pow_succ, Nat.mul_assoc]
    have e2 : 2 ^ (n + 1) * a + 2 ^ n = 2 ^ n * (2 * a + 1) := by rw [e1, Nat.mul_add, Nat.mul_one]
    have hne : 2 ^ (n + 1) * a ≠ 0 := Nat.mul_ne_zero (by have := Nat.two_pow_pos (n + 1); omega) ha
    have h8 : 2 ^ (n + 1) * a + 2 ^ n < 2 ^ 29 := by
      have h4 : 2 ^ 29 = 2 ^ (n + 1) * 2 ^ (28 - n) := by rw [← Nat.pow_add]; congr 1; omega
      have h5 : a < 2 ^ (28 - n) := by
        rw [h4] at hb
        exact Nat.lt_of_mul_lt_mul_left hb
      have h6 : 2 ^ (n + 1) * (a + 1) ≤ 2 ^ 29 := by rw [h4]; exact Nat.mul_le_mul_left _ h5
      have h7 : 0 < 2 ^ n := Nat.two_pow_pos n
      have h9 : 2 ^ (n + 1) = 2 * 2 ^ n := by rw [Nat.pow_succ, Nat.mul_comm]
      rw [Nat.mul_add, Nat.mul_one] at h6
      omega
    have ih := fun (a' : Nat) (h0 : a' ≠ 0) (h : 2 ^ n * a' < 2 ^ 29) => qr_B hM hq hK hl n m a' (by omega) (by omega) h0 h
    have hor : nI (2 ^ (n + 1) * a) ||| (1 <<< (nI n &&& 31)) = nI (2 ^ (n + 1) * a + 2 ^ n) := by rw [sh_1 (by omega), nx_or, or_add]
    rw [qr_st hM (by omega) hq]
    rcases k5_c (m5_c (M := M) (K := fun l => kn (1296 * l + q)) (hK n (by omega))) with h | h | h | h | h
    · rw [show (if M / 2 ^ n % 2 = 1 then kn (1296 * n + q) else 0) = 0 from h, qr_k0, fa_k0 h, e1]
      exact ih (2 * a) (by omega) (by rw [← e1]; exact hb)
    · rw [show (if M / 2 ^ n % 2 = 1 then kn (1296 * n + q) else 0) = 1 from h, qr_B1 hl, fa_kp (by decide) h, if_pos rfl, if_neg hne]
    · rw [show (if M / 2 ^ n % 2 = 1 then kn (1296 * n + q) else 0) = 2 from h, qr_B2 hl, fa_kp (by decide) h, if_neg (by decide), if_neg (by decide), if_neg (by decide), if_pos rfl, hor, e2]
      exact ih (2 * a + 1) (by omega) (by rw [← e2]; exact h8)
    · rw [show (if M / 2 ^ n % 2 = 1 then kn (1296 * n + q) else 0) = 3 from h, qr_B3 hl, fa_kp (by decide) h, if_neg (by decide), if_neg (by decide), if_pos rfl, hor]
    · rw [show (if M / 2 ^ n % 2 = 1 then kn (1296 * n + q) else 0) = 4 from h, qr_B4 hl, fa_kp (by decide) h, if_neg (by decide), if_pos rfl]
theorem rr_up {V : Nat → Int32} {n : Nat} {r : Int32} {R : q4_T} (h : rr_R V n r R) : rr_R V (n + 1) r R := by
  obtain ⟨h1, h2, h3, h4⟩ := h
  refine ⟨h1, h2, fun z => ?_, fun z => ?_⟩
  · obtain ⟨l, a, b⟩ := h3 z
    exact ⟨l, by omega, b⟩
  · obtain ⟨w, l, t, a, b⟩ := h4 z
    exact ⟨w, l, t, by omega, b⟩
theorem rr_0 {V : Nat → Int32} {n : Nat} {a b : Int32} : rr_R V n 0 (0, 0, a, b) := ⟨show (0 : Int32) = cd_r 0 by decide, show (0 : Int32) = ps_r 0 by decide, fun z => absurd z (by decide), fun z => absurd z (by decide)⟩
theorem rr_d {V : Nat → Int32} {n l t : Nat} (hn : n ≤ 30) (hl : l < n) (ht : t < 2 ^ l) : rr_R V n (nI (2 ^ l + t)) (2, nI (2 ^ l + t), nI l, 0) := by
  have h4 := p2_lt hl ht
  have h5 : 2 ^ n ≤ 2 ^ 30 := Nat.pow_le_pow_right (by omega) hn
  have hp : 0 < nI (2 ^ l + t) := by rw [nl_0]; exact nI_lt h4.1 (by omega)
  refine ⟨?_, ?_, fun z => absurd z (nI_pos (by omega)), fun _ => ⟨rfl, l, t, hl, ht, rfl, rfl⟩⟩
  · unfold cd_r; rw [if_pos hp]
  · unfold ps_r; rw [if_pos hp]
theorem qr_A (hM : M < 2 ^ 30) (hq : q < 1296) (hK : ∀ l, l < 4 → ∃ j, j ≤ 4 ∧ kn (1296 * l + q) = nI j) : ∀ (n m : Nat), n ≤ 4 → n < m → ∃ R, fq_resolve_25 kn vl (nI q) (nI M) x3 m (nI n + (-1)) 0 0 (-1) 0 = some R ∧ rr_R (fun l => vl (1296 * l + q)) n (fa_s (fun l => kn (1296 * l + q)) M n 0) R
  | 0, 0, _, h => absurd h (by omega)
  | 0, m + 1, _, _ => ⟨_, qr_e, rr_0⟩
  | n + 1, 0, _, h => absurd h (by omega)
  | n + 1, m + 1, hn, hm => by
    have h7 : 0 < 2 ^ n := Nat.two_pow_pos n
    have h30 : 2 ^ n < 2 ^ 29 := Nat.pow_lt_pow_right (by omega) (by omega)
    rw [qr_st hM (by omega) hq]
    rcases k5_c (m5_c (M := M) (K := fun l => kn (1296 * l + q)) (hK n (by omega))) with h | h | h | h | h
    · rw [show (if M / 2 ^ n % 2 = 1 then kn (1296 * n + q) else 0) = 0 from h, qr_k0, fa_k0 h]
      obtain ⟨R, h1, h2⟩ := qr_A hM hq hK n m (by omega) (by omega)
      exact ⟨R, h1, rr_up h2⟩
    · rw [show (if M / 2 ^ n % 2 = 1 then kn (1296 * n + q) else 0) = 1 from h, qr_A1 (by rw [ix_n]; exact nn_ck (by omega) (by omega)), fa_kp (by decide) h, if_pos rfl, if_pos rfl, ix_n, nI_clamp (by omega)]
      have hx := xr_neg (l := n) (by omega)
      have hx2 : ¬ 0 < nI n ^^^ (-1) := fun z => absurd (Int32.lt_trans z hx) (by decide)
      refine ⟨_, rfl, ?_, ?_, fun _ => ⟨n, by omega, rfl, rfl, rfl⟩, fun z => absurd z hx2⟩
      · unfold cd_r; rw [if_neg hx2, if_pos hx]
      · unfold ps_r; rw [if_neg hx2]
    · rw [show (if M / 2 ^ n % 2 = 1 then kn (1296 * n + q) else 0) = 2 from h, qr_A2, fa_kp (by decide) h, if_neg (by decide), if_neg (by decide), if_neg (by decide), if_pos rfl, sh_1 (by omega), nl_0, nx_or, Nat.zero_or, Nat.zero_add]
      have hB := qr_B (vl := vl) (x3 := x3) hM hq hK (l0 := n) (by omega) n m 1 (by omega) (by omega) (by omega) (by omega)
      rw [Nat.mul_one, nl_0] at hB
      rw [hB]
      obtain ⟨t, l1, e1⟩ := fa_pos (K := fun l => kn (1296 * l + q)) (M := M) n (2 ^ n) (by omega)
      rw [e1]
      exact ⟨_, rfl, rr_d (by omega) (by omega) l1⟩
    · rw [show (if M / 2 ^ n % 2 = 1 then kn (1296 * n + q) else 0) = 3 from h, qr_A3, fa_kp (by decide) h, if_neg (by decide), if_neg (by decide), if_pos rfl, sh_1 (by omega), nl_0, nx_or, Nat.zero_or, Nat.zero_add]
      have := rr_d (V := fun l => vl (1296 * l + q)) (n := n + 1) (l := n) (t := 0) (by omega) (by omega) h7
      rw [Nat.add_zero] at this
      exact ⟨_, rfl, this⟩
    · rw [show (if M / 2 ^ n % 2 = 1 then kn (1296 * n + q) else 0) = 4 from h, qr_A4, fa_kp (by decide) h, if_neg (by decide), if_pos rfl]
      exact ⟨_, rfl, rr_0⟩
theorem qc_re {n : Nat} {fo pa fi va : Int32} (hM : M < 2 ^ 30) (hq : q < 1296) (hn : n ≤ 4) (hK : ∀ l, l < 4 → ∃ j, j ≤ 4 ∧ kn (1296 * l + q) = nI j) : ∃ R, fq_resolve kn vl fo pa fi va (nI q) (nI M) (nI n) = some R ∧ rr_R (fun l => vl (1296 * l + q)) n (fa_s (fun l => kn (1296 * l + q)) M n 0) R := by
  unfold fq_resolve
  rw [Int32.sub_eq_add_neg]
  exact qr_A hM hq hK n fu_n hn (by unfold fu_n; omega)
end RES
