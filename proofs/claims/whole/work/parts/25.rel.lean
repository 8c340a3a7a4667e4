/-! the relation between the class's cells and the reference's; look() of the reference -/
/-- the class's cell of a kind and a value -/
def ce_f (k v : Int32) : Int32 := if k = 1 then v ^^^ (-1) else k
def re_K (top : Nat) (c : Nat → ls_T) (kn vl : Nat → Int32) : Prop :=
  (∀ i, i < 5184 → ∃ j, j ≤ 4 ∧ kn i = nI j) ∧ (∀ l, l ≤ top → ∀ p, p < 781 → (c l).1 p = ce_f (kn (1296 * l + r6_p p)) (vl (1296 * l + r6_p p)) ∧ (kn (1296 * l + r6_p p) = 1 → 0 ≤ vl (1296 * l + r6_p p))) ∧ (∀ l, l ≤ top → ∀ q, q < 1296 → ip_q q = false → kn (1296 * l + q) = 0) ∧ ∀ l, l ≤ top → kn (1296 * l) = 0
theorem xo_inv (v : Int32) : (v ^^^ (-1)) ^^^ (-1) = v := by rw [Int32.xor_assoc, Int32.xor_self, Int32.xor_zero]
theorem xo_neg {v : Int32} (h : 0 ≤ v) : v ^^^ (-1) < 0 := by
  have h2 : (0 : Int) ≤ v.toInt := Int32.le_iff_toInt_le.mp h
  have hm : v.toBitVec.msb = false := by
    rw [BitVec.msb_eq_toInt]
    exact decide_eq_false (Int.not_lt.mpr h2)
  have hx : (v ^^^ (-1)).toBitVec.msb = true := by
    show (v.toBitVec ^^^ (-1 : Int32).toBitVec).msb = true
    rw [BitVec.msb_xor, hm]
    decide
  rw [BitVec.msb_eq_toInt] at hx
  exact Int32.lt_iff_toInt_lt.mpr (of_decide_eq_true hx)
theorem nm_1 {n : Nat} (h : 0 < n) : nI n - 1 = nI (n - 1) := by
  have := nI_pred (n - 1)
  rw [show n - 1 + 1 = n by omega] at this
  exact this
theorem fa_cg {K K' : Nat → Int32} {M : Nat} : ∀ (n acc : Nat), (∀ l, l < n → K l = K' l) → fa_s K M n acc = fa_s K' M n acc
  | 0, acc, _ => rfl
  | n + 1, acc, h => by
    unfold fa_s
    rw [h n (by omega), fa_cg n acc (fun l hl => h l (by omega)), fa_cg n (acc + 2 ^ n) (fun l hl => h l (by omega))]
theorem ce_ka {f : Nat → Int32} {p : Nat} {k v : Int32} (hp : p < 781) (hk : ∃ j, j ≤ 4 ∧ k = nI j) (h : f p = ce_f k v) (hv : k = 1 → 0 ≤ v) : ka_f f p = k := by
  unfold ka_f
  rw [if_pos hp, h]
  unfold ce_f
  by_cases h1 : k = 1
  · rw [if_pos h1, if_neg (Int32.not_le.mpr (xo_neg (hv h1))), h1]
  · obtain ⟨j, hj, e⟩ := hk
    rw [if_neg h1, if_pos (by rw [e]; exact nI_pos' (by omega))]
section REL
variable {top : Nat} {c : Nat → ls_T} {kn vl : Nat → Int32}
theorem re_ka (h : re_K top c kn vl) (ht : top ≤ 3) {l p : Nat} (hl : l ≤ top) (hp : p < 781) : ka_f (c l).1 p = kn (1296 * l + r6_p p) := by
  have h6 := r6_lt hp
  exact ce_ka hp (h.1 _ (by omega)) (h.2.1 l hl p hp).1 (h.2.1 l hl p hp).2
theorem re_k5 (h : re_K top c kn vl) {q : Nat} (hq : q < 1296) : ∀ l, l < 4 → ∃ j, j ≤ 4 ∧ kn (1296 * l + q) = nI j := fun l hl => h.1 _ (by omega)
theorem re_fa (h : re_K top c kn vl) (ht : top ≤ 3) {n M p acc : Nat} (hn : n ≤ top + 1) (hp : p < 781) : fa_s (fun l => kn (1296 * l + r6_p p)) M n acc = fa_s (fun l => ka_f (c l).1 p) M n acc := fa_cg n acc (fun l hl => (re_ka h ht (by omega) hp).symm)
theorem cd_two {r : Int32} : cd_r r = 2 ↔ 0 < r := by
  unfold cd_r
  by_cases h : 0 < r
  · rw [if_pos h]; exact ⟨fun _ => h, fun _ => rfl⟩
  · rw [if_neg h]
    by_cases h2 : r < 0
    · rw [if_pos h2]; exact ⟨fun z => absurd z (by decide), fun z => absurd z h⟩
    · rw [if_neg h2]; exact ⟨fun z => absurd z (by decide), fun z => absurd z h⟩
theorem ql_l (h : re_K top c kn vl) (h1 : 1 ≤ top) (ht : top ≤ 3) {p : Nat} (hp : p < 781) : ∀ (k m : Nat) (fi va : Int32), k ≤ dp_p p → k < m → ∃ R, fq_look_31 top kn vl (nI (r6_p p)) m (nI k + (-1)) (cd_r (fd_s top c (dp_p p - k) (up_p k p))) (ps_r (fd_s top c (dp_p p - k) (up_p k p))) fi va = some R ∧ R.1 = cd_r (fd_f top c p) ∧ R.2.1 = ps_r (fd_f top c p) ∧ (0 < k → rr_R (fun l => vl (1296 * l + r6_p p)) (top + 1) (fd_f top c p) R) ∧ (k = 0 → R.2.2.1 = fi ∧ R.2.2.2 = va)
  | 0, 0, _, _, _, h => absurd h (by omega)
  | 0, m + 1, fi, va, _, _ => by
    rw [fq_look_31.eq_2]; dsimp only
    rw [if_pos (by decide)]
    exact ⟨_, rfl, rfl, rfl, fun z => absurd z (by omega), fun _ => ⟨rfl, rfl⟩⟩
  | k + 1, 0, _, _, _, h => absurd h (by omega)
  | k + 1, m + 1, fi, va, hk, hm => by
    have h4 := dp_le p
    have hu := up_lt k p
    have h6 := r6_lt (p := up_p k p) (by omega)
    have h6' := r6_lt hp
    have hstep : ∀ (M : Nat), M < 2 ^ 30 → fa_s (fun l => ka_f (c l).1 (up_p k p)) M (top + 1) 0 = fd_s top c (dp_p p - k) (up_p k p) → ∃ R, fq_look_51 top kn vl (nI (r6_p p)) (fq_look_31 top kn vl (nI (r6_p p)) m) (nI k) (nI M) (cd_r (fd_s top c (dp_p p - (k + 1)) (up_p (k + 1) p))) (ps_r (fd_s top c (dp_p p - (k + 1)) (up_p (k + 1) p))) fi va = some R ∧ R.1 = cd_r (fd_f top c p) ∧ R.2.1 = ps_r (fd_f top c p) ∧ (0 < k + 1 → rr_R (fun l => vl (1296 * l + r6_p p)) (top + 1) (fd_f top c p) R) ∧ (k + 1 = 0 → R.2.2.1 = fi ∧ R.2.2.2 = va) := by
      intro M hM hf
      unfold fq_look_51
      rw [qc_wi (by omega) (by omega), Option.bind_some, dv_up k p hp, nI_1]
      obtain ⟨R, e1, e2⟩ := qc_re (kn := kn) (vl := vl) (q := r6_p (up_p k p)) (M := M) (n := top + 1) (fo := cd_r (fd_s top c (dp_p p - (k + 1)) (up_p (k + 1) p))) (pa := ps_r (fd_s top c (dp_p p - (k + 1)) (up_p (k + 1) p))) (fi := fi) (va := va) hM h6 (by omega) (re_k5 h h6)
      rw [e1, Option.bind_some]
      rw [re_fa h ht (Nat.le_refl _) (by omega), hf] at e2
      obtain ⟨R2, g1, g2, g3, g4, g5⟩ := ql_l h h1 ht hp k m R.2.2.1 R.2.2.2 (by omega) (by omega)
      rw [e2.1, e2.2.1, g1]
      refine ⟨R2, rfl, g2, g3, fun _ => ?_, fun z => absurd z (by omega)⟩
      by_cases hk0 : k = 0
      · subst hk0
        have hR : R2 = R := by
          obtain ⟨a, b⟩ := g5 rfl
          have e3 : R2.1 = R.1 := by rw [g2, e2.1]; rfl
          have e4 : R2.2.1 = R.2.1 := by rw [g3, e2.2.1]; rfl
          obtain ⟨r1, r2, r3, r4⟩ := R
          obtain ⟨s1, s2, s3, s4⟩ := R2
          simp only at a b e3 e4
          rw [a, b, e3, e4]
        rw [hR]
        exact e2
      · exact g4 (by omega)
    rw [fq_look_31.eq_2]; dsimp only
    rw [pk_m1, if_neg (nI_pos (by omega))]
    have efd : fd_s top c (dp_p p - k) (up_p k p) = if 0 < fd_s top c (dp_p p - (k + 1)) (up_p (k + 1) p) then fa_s (fun l => ka_f (c l).1 (up_p k p)) (fd_s top c (dp_p p - (k + 1)) (up_p (k + 1) p)).toNatClampNeg (top + 1) 0 else 0 := by
      rw [show dp_p p - k = (dp_p p - (k + 1)) + 1 by omega]
      show (if 0 < fd_s top c (dp_p p - (k + 1)) ((up_p k p - 1) / 5) then _ else _) = _
      rw [up_c]
    by_cases h0 : 0 < fd_s top c (dp_p p - (k + 1)) (up_p (k + 1) p)
    · obtain ⟨M, hM1, hM2, hM3⟩ := fd_pos (by omega) _ _ h0
      have h30 : 2 ^ (top + 1) ≤ 2 ^ 4 := Nat.pow_le_pow_right (by omega) (by omega)
      rw [if_pos (cd_two.mpr h0)]
      have := hstep M (by omega) (by rw [efd, if_pos h0, hM3, nI_clamp (by omega)])
      rw [show nI M = ps_r (fd_s top c (dp_p p - (k + 1)) (up_p (k + 1) p)) from by unfold ps_r; rw [if_pos h0, hM3]] at this
      exact this
    · rw [if_neg (fun z => h0 (cd_two.mp z))]
      have := hstep 0 (by omega) (by rw [efd, if_neg h0, fa_M0]; rfl)
      exact this
/-- look() of the reference, at the class's place p -/
theorem qc_lo (h : re_K top c kn vl) (h1 : 1 ≤ top) (ht : top ≤ 3) {p : Nat} (hp : p < 781) {fo pa fi va : Int32} : ∃ R, fq_look top kn vl fo pa fi va (nI (r6_p p)) = some R ∧ R.1 = cd_r (fd_f top c p) ∧ R.2.1 = ps_r (fd_f top c p) ∧ (0 < p → rr_R (fun l => vl (1296 * l + r6_p p)) (top + 1) (fd_f top c p) R) := by
  have h6 := r6_lt hp
  have h4 := dp_le p
  obtain ⟨R, g1, g2, g3, g4, g5⟩ := ql_l h h1 ht hp (dp_p p) fu_n (-1) va (Nat.le_refl _) (by unfold fu_n; omega)
  have e0 : fd_s top c (dp_p p - dp_p p) (up_p (dp_p p) p) = nI (2 ^ (top + 1) - 1) := by rw [Nat.sub_self]; rfl
  have h2 : 2 ≤ 2 ^ (top + 1) := by rw [Nat.pow_succ]; have := Nat.two_pow_pos top; omega
  have h30 : 2 ^ (top + 1) ≤ 2 ^ 4 := Nat.pow_le_pow_right (by omega) (by omega)
  have hp0 : 0 < nI (2 ^ (top + 1) - 1) := by rw [nl_0]; exact nI_lt (by omega) (by omega)
  refine ⟨R, ?_, g2, g3, fun z => g4 ?_⟩
  · unfold fq_look
    rw [qc_dp (by omega), Option.bind_some, r6_dp hp, nI_1, sh_1 (by omega), nm_1 (n := 2 ^ (top + 1)) (by omega), Int32.sub_eq_add_neg]
    rw [e0] at g1
    rw [show cd_r (nI (2 ^ (top + 1) - 1)) = 2 from cd_two.mpr hp0, show ps_r (nI (2 ^ (top + 1) - 1)) = nI (2 ^ (top + 1) - 1) from by unfold ps_r; rw [if_pos hp0]] at g1
    exact g1
  · unfold dp_p
    (repeat' split) <;> omega
end REL
