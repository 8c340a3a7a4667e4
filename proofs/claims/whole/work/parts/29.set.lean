/-! set, raise, isCovered on both sides -/
/-- one layer: the class's cells beside the reference's kinds and values -/
def la_R (f k v : Nat → Int32) : Prop := (∀ q, q < 1296 → ∃ j, j ≤ 4 ∧ k q = nI j) ∧ (∀ p, p < 781 → f p = ce_f (k (r6_p p)) (v (r6_p p)) ∧ (k (r6_p p) = 1 → 0 ≤ v (r6_p p))) ∧ (∀ q, q < 1296 → ip_q q = false → k q = 0) ∧ k 0 = 0
section STS
variable {top : Nat} {c : Nat → ls_T} {kn vl : Nat → Int32}
theorem re_la (h : re_K top c kn vl) (ht : top ≤ 3) {l : Nat} (hl : l ≤ top) : la_R (c l).1 (fun q => kn (1296 * l + q)) (fun q => vl (1296 * l + q)) := ⟨fun q hq => h.1 _ (by omega), h.2.1 l hl, h.2.2.1 l hl, h.2.2.2 l hl⟩
theorem la_re (h0 : ∀ i, i < 5184 → ∃ j, j ≤ 4 ∧ kn i = nI j) (h : ∀ l, l ≤ top → la_R (c l).1 (fun q => kn (1296 * l + q)) (fun q => vl (1296 * l + q))) : re_K top c kn vl := ⟨h0, fun l hl => (h l hl).2.1, fun l hl => (h l hl).2.2.1, fun l hl => (h l hl).2.2.2⟩
theorem la_cg {f f' k k' v v' : Nat → Int32} (h : la_R f k v) (hf : ∀ p, p < 781 → f' p = f p) (hk : ∀ q, q < 1296 → k' q = k q) (hv : ∀ q, q < 1296 → v' q = v q) : la_R f' k' v' := by
  obtain ⟨h1, h2, h3, h4⟩ := h
  refine ⟨fun q hq => by rw [hk q hq]; exact h1 q hq, fun p hp => ?_, fun q hq hi => by rw [hk q hq]; exact h3 q hq hi, by rw [hk 0 (by omega)]; exact h4⟩
  have h6 := r6_lt hp
  rw [hf p hp, hk _ h6, hv _ h6]
  exact h2 p hp
/-- the state of the class behind a set -/
def st_c (c : Nat → ls_T) (l p : Nat) (v : Int32) : Nat → ls_T := va_up c l (upd (c l).1 p v, nI (cn_f (upd (c l).1 p v)), nI (cw_f (upd (c l).1 p v)))
theorem st_C {l p : Nat} {v : Int32} (h : re_C top c) : re_C top (st_c c l p v) := by
  intro i hi
  unfold st_c
  by_cases e : i = l
  · subst e; rw [va_up_self]; exact ⟨rfl, rfl⟩
  · rw [va_up_ne _ _ e]; exact h i hi
theorem st_ne {l p i : Nat} {v : Int32} (e : i ≠ l) : st_c c l p v i = c i := by unfold st_c; rw [va_up_ne _ _ e]
theorem st_se {l p : Nat} {v : Int32} : (st_c c l p v l).1 = upd (c l).1 p v := by unfold st_c; rw [va_up_self]
theorem st_K {l p : Nat} {k v : Int32} (h : re_K top c kn vl) (ht : top ≤ 3) (hl : l ≤ top) (h0 : 0 < p) (hp : p < 781) (hk : ∃ j, j ≤ 4 ∧ k = nI j) (hv : k = 1 → 0 ≤ v) : re_K top (st_c c l p (ce_f k v)) (upd kn (1296 * l + r6_p p) k) (upd vl (1296 * l + r6_p p) v) := by
  have h6 := r6_lt hp
  refine la_re (fun i hi => ?_) (fun i hi => ?_)
  · by_cases e : i = 1296 * l + r6_p p
    · rw [e, pk_us]; exact hk
    · rw [pk_un e]; exact h.1 i hi
  · by_cases e : i = l
    · subst e
      rw [st_se]
      obtain ⟨a1, a2, a3, a4⟩ := re_la h ht hi
      refine ⟨fun q hq => ?_, fun p' hp' => ?_, fun q hq hi' => ?_, ?_⟩
      · by_cases e : 1296 * i + q = 1296 * i + r6_p p
        · dsimp only; rw [e, pk_us]; exact hk
        · dsimp only; rw [pk_un e]; exact a1 q hq
      · by_cases e : p' = p
        · subst e
          dsimp only
          rw [pk_us, pk_us, pk_us]
          exact ⟨rfl, hv⟩
        · have e2 : 1296 * i + r6_p p' ≠ 1296 * i + r6_p p := fun z => e (r6_inj hp' hp (by omega))
          dsimp only
          rw [pk_un e, pk_un e2, pk_un e2]
          exact a2 p' hp'
      · have e : 1296 * i + q ≠ 1296 * i + r6_p p := fun z => by
          have : q = r6_p p := by omega
          rw [this, r6_ip hp] at hi'
          cases hi'
        dsimp only
        rw [pk_un e]
        exact a3 q hq hi'
      · have := r6_pos hp h0
        dsimp only
        rw [pk_un (by omega)]
        exact a4
    · rw [st_ne e]
      refine la_cg (re_la h ht hi) (fun _ _ => rfl) (fun q hq => ?_) (fun q hq => ?_)
      · exact pk_un (by omega)
      · exact pk_un (by omega)
/-- set, called on a layer -/
theorem xs_st {l p : Nat} {v : Int32} (hc : re_C top c) (hl : l ≤ top) (h0 : 0 < p) (hp : p < 781) : fy_set (c l).1 (c l).2.1 (c l).2.2 (nI p) v = some ((st_c c l p v l).1, (st_c c l p v l).2.1, (st_c c l p v l).2.2) := by
  rw [(hc l hl).1, (hc l hl).2, yc_st h0 hp]
  unfold st_c
  rw [va_up_self]
theorem xs_up {l p : Nat} {v : Int32} : va_up c l ((st_c c l p v l).1, (st_c c l p v l).2.1, (st_c c l p v l).2.2) = st_c c l p v := by
  unfold st_c
  rw [va_up_self]
theorem qs_st {q : Nat} {k v : Int32} (ht : top ≤ 3) (hq : q < 1296) : fq_set top kn vl (nI q) k v = some (upd kn (1296 * top + q) k, upd vl (1296 * top + q) v) := by
  unfold fq_set
  rw [ix_n, ck_n (nn_ck (by omega) (by omega)), ck_n (nn_ck (by omega) (by omega)), nI_clamp (by omega)]
theorem up_pos {k p : Nat} (h : k < dp_p p) : 0 < up_p k p := by
  have h4 := dp_le p
  have h1 := dp_F (u := k + 1) (p := p) (by omega)
  have h2 := dp_F (u := k) (p := p) (by omega)
  rw [← up_e (by omega) h2]
  have hN := fN_pos k
  apply Nat.div_pos _ hN
  rcases (by omega : k = 0 ∨ k = 1 ∨ k = 2 ∨ k = 3) with e | e | e | e <;> subst e <;> simp only [fF_n, fN_n] at * <;> omega
theorem jr_l (ht : top ≤ 3) {p : Nat} (hp : p < 781) : ∀ (k m : Nat) (c : Nat → ls_T) (kn vl : Nat → Int32) (cu : Int32), k ≤ dp_p p → k < m → re_K top c kn vl → re_C top c → ∃ c' cu' kn' vl', fx_raise_7 top (nI p) m (nI k + (-1)) c cu = some (c', cu') ∧ fq_raise_7 top (nI (r6_p p)) m (nI k + (-1)) cu kn vl = some (cu', kn', vl') ∧ re_K top c' kn' vl' ∧ re_C top c' ∧ ∀ l, l < top → c' l = c l
  | 0, 0, _, _, _, _, _, h, _, _ => absurd h (by omega)
  | 0, m + 1, c, kn, vl, cu, _, _, h1, h2 => by
    rw [fx_raise_7.eq_2, fq_raise_7.eq_2]; dsimp only
    rw [if_pos (by decide), if_pos (by decide)]
    exact ⟨c, cu, kn, vl, rfl, rfl, h1, h2, fun _ _ => rfl⟩
  | k + 1, 0, _, _, _, _, _, h, _, _ => absurd h (by omega)
  | k + 1, m + 1, c, kn, vl, cu, hk, hm, h1, h2 => by
    have h4 := dp_le p
    have hu := up_lt k p
    have hpos := up_pos (k := k) (p := p) (by omega)
    have h6 := r6_lt (p := up_p k p) (by omega)
    have h6' := r6_lt hp
    rw [fx_raise_7.eq_2, fq_raise_7.eq_2]; dsimp only
    rw [pk_m1, if_neg (nI_pos (by omega)), if_neg (nI_pos (by omega)), pc_ab (by omega) (by omega) (dp_F (by omega)), Option.bind_some, yc_ka (by omega), Option.bind_some, qc_wi (by omega) (by omega), Option.bind_some, dv_up k p hp, qc_up ht h6, Option.bind_some]
    unfold fx_raise_47 fq_raise_42
    have hka := re_ka h1 ht (Nat.le_refl top) (p := up_p k p) (by omega)
    by_cases h0 : ka_f (c top).1 (up_p k p) = 0
    · have hk' := st_K (p := up_p k p) (k := 2) (v := 0) h1 ht (Nat.le_refl top) hpos (by omega) ⟨2, by omega, rfl⟩ (fun z => absurd z (by decide))
      rw [show ce_f 2 0 = 2 from by decide] at hk'
      rw [if_pos h0, if_pos (hka.symm.trans h0), xs_st h2 (Nat.le_refl _) hpos (by omega), Option.bind_some, qs_st ht h6, Option.bind_some]
      dsimp only
      rw [xs_up]
      obtain ⟨c', cu', kn', vl', e1, e2, e3, e4, e5⟩ := jr_l ht hp k m _ _ _ (cu + 1) (by omega) (by omega) hk' (st_C h2)
      exact ⟨c', cu', kn', vl', e1, e2, e3, e4, fun l hl => (e5 l hl).trans (st_ne (by omega))⟩
    · rw [if_neg h0, if_neg (fun z => h0 (hka.trans z))]
      exact jr_l ht hp k m c kn vl cu (by omega) (by omega) h1 h2
theorem jr_r (ht : top ≤ 3) {p : Nat} (hp : p < 781) {cu : Int32} (h1 : re_K top c kn vl) (h2 : re_C top c) : ∃ c' cu' kn' vl', fx_raise top c cu (nI p) = some (c', cu') ∧ fq_raise top cu kn vl (nI (r6_p p)) = some (cu', kn', vl') ∧ re_K top c' kn' vl' ∧ re_C top c' ∧ ∀ l, l < top → c' l = c l := by
  have h4 := dp_le p
  have h6 := r6_lt hp
  unfold fx_raise fq_raise
  rw [pc_dp (by omega), Option.bind_some, qc_dp (by omega), Option.bind_some, r6_dp hp, Int32.sub_eq_add_neg]
  exact jr_l ht hp (dp_p p) fu_n c kn vl cu (Nat.le_refl _) (by unfold fu_n; omega) h1 h2
/-- covered: what the lower layers give in the parts of the parent -/
def cv_s (top : Nat) (c : Nat → ls_T) (p : Nat) : Prop := 0 < fd_f top c ((p - 1) / 5) ∧ ¬ fa_s (fun l => ka_f (c l).1 p) (fd_f top c ((p - 1) / 5)).toNatClampNeg top 0 = 0
theorem mk_c : ∀ t, t < 4 → ∀ M, M < 16 → M < 2 ^ (t + 1) → nI M &&& (nI (2 ^ t) ^^^ (-1)) = nI (M % 2 ^ t) := by decide +kernel
theorem mk_b : ∀ t, t < 4 → ∀ M, M < 16 → ∀ l, l < t → M % 2 ^ t / 2 ^ l % 2 = M / 2 ^ l % 2 := by decide +kernel
theorem fa_mk {K : Nat → Int32} {M M' : Nat} : ∀ (n acc : Nat), (∀ l, l < n → M' / 2 ^ l % 2 = M / 2 ^ l % 2) → fa_s K M' n acc = fa_s K M n acc
  | 0, acc, _ => rfl
  | n + 1, acc, h => by
    unfold fa_s
    rw [h n (by omega), fa_mk n acc (fun l hl => h l (by omega)), fa_mk n (acc + 2 ^ n) (fun l hl => h l (by omega))]
theorem xc_cv (ht : top ≤ 3) {p : Nat} (h0 : 0 < p) (hp : p < 781) : (cv_s top c p ∧ fx_isCovered top c (nI p) = some 1) ∨ (¬ cv_s top c p ∧ fx_isCovered top c (nI p) = some 0) := by
  unfold fx_isCovered cv_s
  rw [pc_pa (by omega) h0, Option.bind_some, xc_fd (by omega) (by omega), Option.bind_some, xc_id, Option.bind_some]
  by_cases hd : 0 < fd_f top c ((p - 1) / 5)
  · obtain ⟨M, m1, m2, m3⟩ := fd_pos (by omega) _ _ hd
    have m3' : fd_f top c ((p - 1) / 5) = nI M := m3
    have h30 : 2 ^ (top + 1) ≤ 2 ^ 4 := Nat.pow_le_pow_right (by omega) (by omega)
    have hmod : M % 2 ^ top < 2 ^ top := Nat.mod_lt _ (Nat.two_pow_pos top)
    have hml : M % 2 ^ top ≤ M := Nat.mod_le _ _
    have e1 : fa_s (fun l => ka_f (c l).1 p) (M % 2 ^ top) (top + 1) 0 = fa_s (fun l => ka_f (c l).1 p) M top 0 := by
      rw [fa_k0 (by rw [if_neg (by rw [Nat.div_eq_of_lt hmod]; decide)])]
      exact fa_mk top 0 (fun l hl => mk_b top (by omega) M (by omega) l hl)
    rw [if_neg (by rw [if_neg (lt_nle hd)]; decide), xc_po (by omega), Option.bind_some, m3', mk_c top (by omega) M (by omega) m2, xc_fa (by omega) (by omega) (by omega), Option.bind_some, e1, nI_clamp (by omega)]
    by_cases hf : fa_s (fun l => ka_f (c l).1 p) M top 0 = 0
    · rw [if_pos hf]; exact Or.inr ⟨fun z => z.2 hf, rfl⟩
    · rw [if_neg hf]; exact Or.inl ⟨⟨by rw [← m3']; exact hd, hf⟩, rfl⟩
  · rw [if_pos (by rw [if_pos (Int32.not_lt.mp hd)])]
    exact Or.inr ⟨fun z => hd z.1, rfl⟩
theorem qc_cv (h : re_K top c kn vl) (h1 : 1 ≤ top) (ht : top ≤ 3) {p : Nat} (h0 : 0 < p) (hp : p < 781) {fo pa fi va : Int32} : (cv_s top c p → ∃ R : q4_T, fq_isCovered top kn vl fo pa fi va (nI (r6_p p)) = some (1, R)) ∧ (¬ cv_s top c p → ∃ R : q4_T, fq_isCovered top kn vl fo pa fi va (nI (r6_p p)) = some (0, R)) := by
  have h6 := r6_lt hp
  unfold fq_isCovered cv_s
  rw [nl_6, pk_div (by omega) (by omega) (by omega), r6_dv hp]
  obtain ⟨R, g1, g2, g3, -⟩ := qc_lo h h1 ht (p := (p - 1) / 5) (by omega) (fo := fo) (pa := pa) (fi := fi) (va := va)
  rw [g1, Option.bind_some]
  have key : ∀ M, M < 2 ^ 30 → ∃ R2 : q4_T, fq_isCovered_24 top kn vl (nI (r6_p p)) (nI M) R.1 R.2.1 R.2.2.1 R.2.2.2 = (if fa_s (fun l => ka_f (c l).1 p) M top 0 = 0 then some (0, R2) else some (1, R2)) := by
    intro M hM
    unfold fq_isCovered_24
    obtain ⟨R2, e1, e2⟩ := qc_re (kn := kn) (vl := vl) (q := r6_p p) (M := M) (n := top) (fo := R.1) (pa := R.2.1) (fi := R.2.2.1) (va := R.2.2.2) hM h6 (by omega) (re_k5 h h6)
    rw [re_fa h ht (by omega) hp] at e2
    rw [e1, Option.bind_some]
    refine ⟨R2, ?_⟩
    by_cases hf : fa_s (fun l => ka_f (c l).1 p) M top 0 = 0
    · rw [if_pos hf, if_pos (by rw [e2.1]; exact cd_pos.mpr hf)]
    · rw [if_neg hf, if_neg (by rw [e2.1]; exact fun z => hf (cd_pos.mp z))]
  by_cases hd : 0 < fd_f top c ((p - 1) / 5)
  · obtain ⟨M, m1, m2, m3⟩ := fd_pos (by omega) _ _ hd
    have m3' : fd_f top c ((p - 1) / 5) = nI M := m3
    have h30 : 2 ^ (top + 1) ≤ 2 ^ 4 := Nat.pow_le_pow_right (by omega) (by omega)
    have e3 : R.2.1 = nI M := by rw [g3]; unfold ps_r; rw [if_pos hd, m3']
    obtain ⟨R2, e4⟩ := key M (by omega)
    rw [if_pos (by rw [g2]; exact cd_two.mpr hd)]
    rw [← e3] at e4
    rw [e4, m3', nI_clamp (by omega)]
    constructor
    · intro z; rw [if_neg z.2]; exact ⟨_, rfl⟩
    · intro z
      have : fa_s (fun l => ka_f (c l).1 p) M top 0 = 0 := by
        by_cases hf : fa_s (fun l => ka_f (c l).1 p) M top 0 = 0
        · exact hf
        · exact absurd ⟨by rw [← m3']; exact hd, hf⟩ z
      rw [if_pos this]; exact ⟨_, rfl⟩
  · obtain ⟨R2, e4⟩ := key 0 (by omega)
    rw [fa_M0, if_pos (show nI 0 = 0 from rfl)] at e4
    rw [if_neg (by rw [g2]; exact fun z => hd (cd_two.mp z))]
    exact ⟨fun z => absurd z.1 hd, fun _ => ⟨R2, e4⟩⟩
end STS
