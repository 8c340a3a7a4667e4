/-! find() of the class and look() of the reference -/
theorem xr_neg {l : Nat} (hl : l < 30) : nI l ^^^ (-1) < 0 := by
  have : ∀ l, l < 30 → nI l ^^^ (-1) < 0 := by decide +kernel
  exact this l hl
theorem xr_inv {l : Nat} (hl : l < 30) : (nI l ^^^ (-1)) ^^^ (-1) = nI l := by
  have : ∀ l, l < 30 → (nI l ^^^ (-1)) ^^^ (-1) = nI l := by decide +kernel
  exact this l hl
/-- with something found above, the rest only adds lower parts -/
theorem fa_pos {K : Nat → Int32} {M : Nat} : ∀ (n acc : Nat), acc ≠ 0 → ∃ t, t < 2 ^ n ∧ fa_s K M n acc = nI (acc + t)
  | 0, acc, _ => ⟨0, by omega, rfl⟩
  | n + 1, acc, h => by
    have h2 : 2 ^ (n + 1) = 2 * 2 ^ n := by rw [Nat.pow_succ, Nat.mul_comm]
    have h3 : 0 < 2 ^ n := Nat.two_pow_pos n
    have i1 := fa_pos (K := K) (M := M) n acc h
    have i2 := fa_pos (K := K) (M := M) n (acc + 2 ^ n) (by omega)
    obtain ⟨t1, l1, e1⟩ := i1
    obtain ⟨t2, l2, e2⟩ := i2
    unfold fa_s
    by_cases hb : M / 2 ^ n % 2 = 1
    · rw [if_pos hb]
      by_cases k1 : K n = 1
      · rw [if_pos k1, if_neg h]; exact ⟨0, by omega, rfl⟩
      · rw [if_neg k1]
        by_cases k4 : K n = 4
        · rw [if_pos k4]; exact ⟨0, by omega, rfl⟩
        · rw [if_neg k4]
          by_cases k3 : K n = 3
          · rw [if_pos k3]; exact ⟨2 ^ n, by omega, rfl⟩
          · rw [if_neg k3]
            by_cases k2 : K n = 2
            · rw [if_pos k2, e2]; exact ⟨2 ^ n + t2, by omega, by rw [Nat.add_assoc]⟩
            · rw [if_neg k2, e1]; exact ⟨t1, by omega, rfl⟩
    · rw [if_neg hb, e1]; exact ⟨t1, by omega, rfl⟩
/-- what is found: nothing, a directory with its highest part l, a file of layer l -/
def fr_k (K : Nat → Int32) (n : Nat) (r : Int32) : Prop := r = 0 ∨ (∃ l t, l < n ∧ t < 2 ^ l ∧ r = nI (2 ^ l + t)) ∨ ∃ l, l < n ∧ K l = 1 ∧ r = nI l ^^^ (-1)
theorem fa_k {K : Nat → Int32} {M : Nat} : ∀ (n : Nat), fr_k K n (fa_s K M n 0)
  | 0 => Or.inl rfl
  | n + 1 => by
    have i1 := fa_k (K := K) (M := M) n
    have hup : ∀ r, fr_k K n r → fr_k K (n + 1) r := by
      intro r h
      rcases h with h | ⟨l, t, h1, h2, h3⟩ | ⟨l, h1, h2, h3⟩
      · exact Or.inl h
      · exact Or.inr (Or.inl ⟨l, t, by omega, h2, h3⟩)
      · exact Or.inr (Or.inr ⟨l, by omega, h2, h3⟩)
    have h3 : 0 < 2 ^ n := Nat.two_pow_pos n
    unfold fa_s
    by_cases hb : M / 2 ^ n % 2 = 1
    · rw [if_pos hb]
      by_cases k1 : K n = 1
      · rw [if_pos k1, if_pos rfl]; exact Or.inr (Or.inr ⟨n, by omega, k1, rfl⟩)
      · rw [if_neg k1]
        by_cases k4 : K n = 4
        · rw [if_pos k4]; exact Or.inl rfl
        · rw [if_neg k4]
          by_cases k3 : K n = 3
          · rw [if_pos k3]; exact Or.inr (Or.inl ⟨n, 0, by omega, h3, by rw [Nat.zero_add, Nat.add_zero]⟩)
          · rw [if_neg k3]
            by_cases k2 : K n = 2
            · rw [if_pos k2, Nat.zero_add]
              obtain ⟨t, l1, e1⟩ := fa_pos (K := K) (M := M) n (2 ^ n) (by omega)
              exact Or.inr (Or.inl ⟨n, t, by omega, l1, e1⟩)
            · rw [if_neg k2]; exact hup _ i1
    · rw [if_neg hb]; exact hup _ i1
theorem fa_M0 {K : Nat → Int32} : ∀ (n acc : Nat), fa_s K 0 n acc = nI acc
  | 0, acc => rfl
  | n + 1, acc => by
    unfold fa_s
    rw [Nat.zero_div, if_neg (by decide)]
    exact fa_M0 n acc
theorem p2_lt {l t n : Nat} (hl : l < n) (ht : t < 2 ^ l) : 0 < 2 ^ l + t ∧ 2 ^ l + t < 2 ^ n := by
  have h1 : 2 ^ (l + 1) ≤ 2 ^ n := Nat.pow_le_pow_right (by omega) hl
  have h2 : 2 ^ (l + 1) = 2 * 2 ^ l := by rw [Nat.pow_succ, Nat.mul_comm]
  have h3 : 0 < 2 ^ l := Nat.two_pow_pos l
  omega
theorem fr_pos {K : Nat → Int32} {n : Nat} {r : Int32} (hn : n ≤ 30) (h : fr_k K n r) (hp : 0 < r) : ∃ l t, l < n ∧ t < 2 ^ l ∧ r = nI (2 ^ l + t) := by
  rcases h with h | h | ⟨l, h1, h2, h3⟩
  · rw [h] at hp; exact absurd hp (by decide)
  · exact h
  · have := xr_neg (l := l) (by omega)
    rw [h3] at hp
    exact absurd (Int32.lt_trans hp this) (by decide)
theorem fr_neg {K : Nat → Int32} {n : Nat} {r : Int32} (hn : n ≤ 30) (h : fr_k K n r) (hp : r < 0) : ∃ l, l < n ∧ K l = 1 ∧ r = nI l ^^^ (-1) := by
  rcases h with h | ⟨l, t, h1, h2, h3⟩ | h
  · rw [h] at hp; exact absurd hp (by decide)
  · have h4 := p2_lt h1 h2
    have h5 : 2 ^ n ≤ 2 ^ 30 := Nat.pow_le_pow_right (by omega) hn
    rw [h3] at hp
    exact absurd hp (nI_pos (by omega))
  · exact h
/-- the class's find: by the depth and the place -/
def fd_s (top : Nat) (c : Nat → ls_T) : Nat → Nat → Int32
  | 0, _ => nI (2 ^ (top + 1) - 1)
  | d + 1, p => if 0 < fd_s top c d ((p - 1) / 5) then fa_s (fun l => ka_f (c l).1 p) (fd_s top c d ((p - 1) / 5)).toNatClampNeg (top + 1) 0 else 0
def fd_f (top : Nat) (c : Nat → ls_T) (p : Nat) : Int32 := fd_s top c (dp_p p) p
theorem fd_pos {top : Nat} {c : Nat → ls_T} (ht : top < 29) : ∀ (d p : Nat), 0 < fd_s top c d p → ∃ M, 0 < M ∧ M < 2 ^ (top + 1) ∧ fd_s top c d p = nI M
  | 0, p, _ => by
    have h1 : 2 ≤ 2 ^ (top + 1) := by rw [Nat.pow_succ]; have := Nat.two_pow_pos top; omega
    exact ⟨2 ^ (top + 1) - 1, by omega, by omega, rfl⟩
  | d + 1, p, h => by
    unfold fd_s at h ⊢
    by_cases h0 : 0 < fd_s top c d ((p - 1) / 5)
    · rw [if_pos h0] at h ⊢
      obtain ⟨l, t, h1, h2, h3⟩ := fr_pos (by omega) (fa_k (K := fun l => ka_f (c l).1 p) (top + 1)) h
      have h4 := p2_lt h1 h2
      exact ⟨2 ^ l + t, h4.1, h4.2, h3⟩
    · rw [if_neg h0] at h; exact absurd h (by decide)
theorem up_c : ∀ (k p : Nat), (up_p k p - 1) / 5 = up_p (k + 1) p
  | 0, p => rfl
  | k + 1, p => up_c k ((p - 1) / 5)
theorem fd_dead {top : Nat} {c : Nat → ls_T} : ∀ (j m p : Nat), ¬ 0 < fd_s top c m (up_p (j + 1) p) → fd_s top c (m + (j + 1)) p = 0
  | 0, m, p, h => by
    show fd_s top c (m + 1) p = 0
    unfold fd_s
    rw [if_neg (show ¬ 0 < fd_s top c m ((p - 1) / 5) from h)]
  | j + 1, m, p, h => by
    have := fd_dead j m ((p - 1) / 5) h
    show fd_s top c (m + (j + 1) + 1) p = 0
    unfold fd_s
    rw [if_neg (by rw [this]; decide)]
theorem xi_l {top : Nat} {c : Nat → ls_T} {p : Nat} (hp : p < 2 ^ 29) (ht : top < 29) : ∀ (k m : Nat), k ≤ dp_p p → k < m → fx_find_12 top c (nI p) m (fd_s top c (dp_p p - k) (up_p k p)) (nI k + (-1)) = some (fd_s top c (dp_p p) p)
  | 0, 0, _, h => absurd h (by omega)
  | 0, m + 1, _, _ => by
    rw [fx_find_12.eq_2]; dsimp only
    rw [if_pos (by decide)]; rfl
  | k + 1, 0, _, h => absurd h (by omega)
  | k + 1, m + 1, hk, hm => by
    rw [fx_find_12.eq_2]; dsimp only
    have h4 := dp_le p
    rw [pk_m1, if_neg (nI_pos (by omega))]
    unfold fx_isDirectory
    by_cases h0 : 0 < fd_s top c (dp_p p - (k + 1)) (up_p (k + 1) p)
    · obtain ⟨M, hM1, hM2, hM3⟩ := fd_pos ht _ _ h0
      have h30 : 2 ^ (top + 1) ≤ 2 ^ 30 := Nat.pow_le_pow_right (by omega) (by omega)
      have hu := up_lt k p
      have ih := xi_l (c := c) hp ht k m (by omega) (by omega)
      rw [hM3, if_neg (nI_nle hM1 (by omega))]
      show (fp_above (nI p) (nI k)).bind _ = _
      rw [pc_ab (by omega) (by omega) (dp_F (by omega))]
      show (fx_findAmong top c (nI M) (nI (up_p k p))).bind _ = _
      rw [xc_fa (by omega) (by omega) (by omega)]
      show fx_find_12 top c (nI p) m (fa_s _ M (top + 1) 0) (nI k + (-1)) = _
      have e : fd_s top c (dp_p p - k) (up_p k p) = fa_s (fun l => ka_f (c l).1 (up_p k p)) M (top + 1) 0 := by
        rw [show dp_p p - k = (dp_p p - (k + 1)) + 1 by omega]
        unfold fd_s
        rw [up_c, if_pos h0, hM3, nI_clamp (by omega)]
      rw [← e]
      exact ih
    · rw [if_pos (Int32.not_lt.mp h0)]
      show some 0 = _
      have := fd_dead k (dp_p p - (k + 1)) p h0
      rw [show dp_p p - (k + 1) + (k + 1) = dp_p p by omega] at this
      rw [this]
theorem xc_al {top : Nat} (ht : top < 29) : fx_allParts top = some (nI (2 ^ (top + 1) - 1)) := by
  have h2 : 0 < 2 ^ (top + 1) := Nat.two_pow_pos _
  unfold fx_allParts
  rw [nl_1, nI_add, xc_po (by omega), Option.bind_some, pk_sub (by omega)]
theorem xc_fd {top : Nat} {c : Nat → ls_T} {p : Nat} (hp : p < 2 ^ 29) (ht : top < 29) : fx_find top c (nI p) = some (fd_f top c p) := by
  have h4 := dp_le p
  have h := xi_l (c := c) hp ht (dp_p p) fu_n (Nat.le_refl _) (by unfold fu_n; omega)
  rw [Nat.sub_self, show fd_s top c 0 (up_p (dp_p p) p) = nI (2 ^ (top + 1) - 1) from rfl] at h
  unfold fx_find fd_f
  rw [xc_al ht, Option.bind_some, pc_dp (by omega), Option.bind_some, Int32.sub_eq_add_neg, h]
