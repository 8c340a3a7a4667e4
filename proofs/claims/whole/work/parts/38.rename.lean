/-! rename: alike -/
section REN
variable {top : Nat} {c : Nat → ls_T} {kn vl : Nat → Int32}
abbrev zr_T : Type := Int32 × Int32 × (Nat → Int32) × (Nat → Int32) × (Nat → Int32) × (Nat → Int32) × Int32 × Int32 × Int32 × Int32 × (Nat → Int32) × (Nat → Int32) × (Nat → Int32) × Int32
theorem q2_l {md x1 x2 x3 x4 x5 x6 x7 x8 x9 x10 cu fo pa fi va no : Int32} {kn vl ok ov nd nk nv : Nat → Int32} {K : Int32 → Int32 → Int32 → Int32 → Int32 → Int32 → Int32 → Int32 → (Nat → Int32) → (Nat → Int32) → (Nat → Int32) → (Nat → Int32) → Int32 → Int32 → Int32 → Int32 → (Nat → Int32) → (Nat → Int32) → (Nat → Int32) → Int32 → Option zr_T} : ∀ (k m b sc : Nat), k < m → k ≤ 4 → fq_rename_223 top md x1 x2 K m x3 x4 x5 x6 x7 x8 x9 x10 (nI b) (nI sc) (nI k) cu kn vl ok ov fo pa fi va nd nk nv no = ck_d (x9 < 0 ∨ 96 ≤ x9.toNatClampNeg) (ck_d (x9 < 0 ∨ 96 ≤ x9.toNatClampNeg) ((fq_make top cu kn vl fo pa fi va ((nI (b * 6 ^ k) + x10) - (x3 * nI (sc * 6 ^ k))) (nk x9.toNatClampNeg) (nv x9.toNatClampNeg)).bind fun r1 => K x3 x4 x5 x6 x7 x8 (x9 + 1) r1.1 r1.2.1 r1.2.2.1 ok ov r1.2.2.2.1 r1.2.2.2.2.1 r1.2.2.2.2.2.1 r1.2.2.2.2.2.2 nd nk nv no))
  | k, 0, _, _, h, _ => absurd h (by omega)
  | 0, m + 1, b, sc, _, _ => by
    rw [fq_rename_223.eq_2]; dsimp only
    rw [if_pos (by decide), Nat.pow_zero, Nat.mul_one, Nat.mul_one]
  | k + 1, m + 1, b, sc, h, h4 => by
    rw [fq_rename_223.eq_2]; dsimp only
    rw [if_neg (nI_nle (by omega) (by omega)), nl_6, pk_mul, pk_mul, pk_m1, q2_l k m (b * 6) (sc * 6) (by omega) (by omega), Nat.mul_assoc, Nat.mul_assoc, ← Nat.pow_succ']
/-- the rest of the reference's rename, once all is made -/
def rs_T (top s : Nat) (x8 cu : Int32) (kn vl ok ov : Nat → Int32) (R : q4_T) (nd nk nv : Nat → Int32) (no : Int32) : Option zr_T := (fq_unmake top cu kn vl R.1 R.2.1 R.2.2.1 R.2.2.2 (nI (r6_p s))).bind fun r3 => ((fq_end top r3.1 r3.2.1 r3.2.2.1 ok ov x8).bind fun r5 => (some (r5.1, r5.2.1, r5.2.2.1, r5.2.2.2, ok, ov, r3.2.2.2.1, r3.2.2.2.2.1, r3.2.2.2.2.2.1, r3.2.2.2.2.2.2, nd, nk, nv, no)))
theorem jn_l (hl : 1 ≤ top) (ht : top ≤ 3) {c0 : Nat → ls_T} {kn0 vl0 : Nat → Int32} (h00 : re_K top c0 kn0 vl0) {s t : Nat} (hs0 : 0 < s) (hs : s < 781) (ht0 : 0 < t) (ht7 : t < 781) {nf nd nk nv ok ov : Nat → Int32} {md x1 x2 x5 x6 x7 x8 : Int32} (hnf : ∀ j, j < 156 → nf j = oc_s top c0 (be_p s j)) (hnt : nt_R top c0 vl0 (((List.range 156).filter (pn_b top c0 s)).map (be_p s)) nd nk nv) (hdeep : ∀ j, j < 156 → pn_b top c0 s j = true → dp_p t + dp_p j ≤ 4) (hlen : cs_n (pn_b top c0 s) 156 ≤ 90) : ∀ (d m1 m2 i : Nat) (c : Nat → ls_T) (cu : Int32) (kn vl : Nat → Int32) (R : q4_T), i + d = 156 → d < m1 → d < m2 → re_K top c kn vl → re_C top c → ∃ c' cu' kn' vl' R', fx_makeNotedAt_2 top nf (nI t) m1 (nI i) c cu = some (c', cu') ∧ fq_rename_181 top md x1 x2 m2 (nI (r6_p s)) (nI (r6_p t)) x5 x6 x7 x8 (nI (cs_n (pn_b top c0 s) i)) cu kn vl ok ov R.1 R.2.1 R.2.2.1 R.2.2.2 nd nk nv (nI (cs_n (pn_b top c0 s) 156)) = rs_T top s x8 cu' kn' vl' ok ov R' nd nk nv (nI (cs_n (pn_b top c0 s) 156)) ∧ re_K top c' kn' vl' ∧ re_C top c' ∧ ∀ l, l < top → c' l = c l
  | 0, 0, _, _, _, _, _, _, _, _, h, _, _, _ => absurd h (by omega)
  | 0, _, 0, _, _, _, _, _, _, _, _, h, _, _ => absurd h (by omega)
  | 0, m1 + 1, m2 + 1, i, c, cu, kn, vl, R, hi, _, _, h1, h2 => by
    have : i = 156 := by omega
    subst this
    rw [fx_makeNotedAt_2.eq_2, fq_rename_181.eq_2]; dsimp only
    rw [if_pos (by decide), if_pos (Int32.le_refl _)]
    exact ⟨c, cu, kn, vl, R, rfl, rfl, h1, h2, fun _ _ => rfl⟩
  | d + 1, 0, _, _, _, _, _, _, _, _, h, _, _, _ => absurd h (by omega)
  | d + 1, m1 + 1, 0, _, _, _, _, _, _, _, _, h, _, _ => absurd h (by omega)
  | d + 1, m1 + 1, m2 + 1, i, c, cu, kn, vl, R, hi, hm1, hm2, h1, h2 => by
    rw [fx_makeNotedAt_2.eq_2]; dsimp only
    rw [if_neg (show ¬ (156 : Int32) ≤ nI i from nI_ge (a := i) (b := 156) (by omega) (by omega)), ck_n (nn_ck (by omega) (by omega)), nI_clamp (by omega), hnf i (by omega)]
    unfold fx_makeNotedAt_35
    by_cases hP : pn_b top c0 s i = true
    · obtain ⟨a, b⟩ := of_decide_eq_true hP
      obtain ⟨g1, g2, g3⟩ := fl_gd (P := pn_b top c0 s) (f := be_p s) (N := 156) (i := i) (by omega) hP
      obtain ⟨n1, n2, n3⟩ := hnt (cs_n (pn_b top c0 s) i) (by rw [g2]; exact g1)
      rw [g3] at n1 n2 n3
      obtain ⟨o1, o2, o3, o4⟩ := oc_ce h00 ht a b
      have hd := hdeep i (by omega) hP
      have hbt := be_ok (i + 1) i t (by omega) (by omega) ht7 hd
      have hbt0 := be_lt t i
      have h6 := r6_lt hbt
      have h6s := r6_lt a
      have hrt := be_r6 (i + 1) i t (by omega) (by omega) hbt
      have hrs := be_r6 (i + 1) i s (by omega) (by omega) a
      have hds := be_dp (i + 1) i s (by omega) hs0 (by omega) a
      have h4 := dp_le i
      have h6s' := r6_lt hs
      have h4s := dp_le (be_p s i)
      obtain ⟨c1, cu1, kn1, vl1, R1, m1', m2', m3', m4', m5'⟩ := jm_k hl ht (p := be_p t i) (by omega) hbt (k := cd_r (fd_f top c0 (be_p s i))) (v := ov_s top c0 vl0 (be_p s i)) (cu := cu) (fo := R.1) (pa := R.2.1) (fi := R.2.2.1) (va := R.2.2.2) o4 o2 o3 h1 h2
      rw [← o1] at m1'
      obtain ⟨c', cu', kn', vl', R', e1, e2, e3, e4, e5⟩ := jn_l hl ht h00 hs0 hs ht0 ht7 (md := md) (x1 := x1) (x2 := x2) (x5 := x5) (x6 := x6) (x7 := x7) (x8 := x8) (ok := ok) (ov := ov) hnf hnt hdeep hlen d m1 m2 (i + 1) c1 cu1 kn1 vl1 R1 (by omega) (by omega) (by omega) m3' m4'
      have ecs : cs_n (pn_b top c0 s) (i + 1) = cs_n (pn_b top c0 s) i + 1 := by
        show _ + _ = _
        rw [if_pos hP]
      rw [ecs] at e2
      rw [if_neg (fun z => (oc_0 ht h00).mp z ⟨a, b⟩), pc_be (by omega), Option.bind_some, ck_n (show ¬ (nI i < 0 ∨ 156 ≤ i) from fun z => z.elim (nI_pos (by omega)) (fun w => absurd w (by omega))), show nI (t * fN_n (dp_p i) + i) = nI (be_p t i) from rfl, m1', Option.bind_some, nI_1]
      rw [fq_rename_181.eq_2]; dsimp only
      rw [if_neg (nI_ge g1 (by omega)), ck_n (nn_ck (by omega) (by omega)), ck_n (nn_ck (by omega) (by omega)), nI_clamp (by omega), n1, qc_dp (by omega), Option.bind_some, qc_dp (by omega), Option.bind_some, r6_dp a, r6_dp hs, hds, pk_sub (by omega), Nat.add_sub_cancel_left, nl_1, q2_l (dp_p i) fu_n (r6_p t) 1 (by unfold fu_n; omega) (by omega), ck_n (nn_ck (by omega) (by omega)), ck_n (nn_ck (by omega) (by omega)), nI_clamp (by omega), n2, n3, Nat.one_mul, pk_mul, nI_add, pk_sub (by rw [hrs]; omega), show r6_p t * 6 ^ dp_p i + r6_p (be_p s i) - r6_p s * 6 ^ dp_p i = r6_p (be_p t i) from by rw [hrs, hrt]; omega, m2', Option.bind_some]
      dsimp only
      rw [nI_1]
      exact ⟨c', cu', kn', vl', R', e1, e2, e3, e4, fun l hl => (e5 l hl).trans (m5' l hl)⟩
    · have hz : oc_s top c0 (be_p s i) = 0 := (oc_0 ht h00).mpr (fun w => hP (decide_eq_true w))
      have ecs : cs_n (pn_b top c0 s) (i + 1) = cs_n (pn_b top c0 s) i := by
        show _ + _ = _
        rw [if_neg hP, Nat.add_zero]
      rw [if_pos hz, nI_1]
      have := jn_l hl ht h00 hs0 hs ht0 ht7 (md := md) (x1 := x1) (x2 := x2) (x5 := x5) (x6 := x6) (x7 := x7) (x8 := x8) (ok := ok) (ov := ov) hnf hnt hdeep hlen d m1 (m2 + 1) (i + 1) c cu kn vl R (by omega) (by omega) (by omega) h1 h2
      rw [ecs] at this
      exact this
end REN
