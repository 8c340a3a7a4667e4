/-! make, unmake, keep and settle on both sides -/
theorem dp_mo {x y : Nat} (h : x ≤ y) : dp_p x ≤ dp_p y := by
  unfold dp_p
  (repeat' split) <;> omega
section MKS
variable {top : Nat} {c : Nat → ls_T} {kn vl : Nat → Int32}
theorem fd_cg {c' : Nat → ls_T} : ∀ (d q : Nat), (∀ j, j < d → ∀ l, l ≤ top → ka_f (c' l).1 (up_p j q) = ka_f (c l).1 (up_p j q)) → fd_s top c' d q = fd_s top c d q
  | 0, _, _ => rfl
  | d + 1, q, h => by
    have ih := fd_cg (c' := c') d ((q - 1) / 5) (fun j hj l hl => h (j + 1) (by omega) l hl)
    show (if 0 < fd_s top c' d ((q - 1) / 5) then _ else _) = (if 0 < fd_s top c d ((q - 1) / 5) then _ else _)
    rw [ih, fa_cg (K := fun l => ka_f (c' l).1 q) (K' := fun l => ka_f (c l).1 q) (top + 1) 0 (fun l hl => h 0 (by omega) l (by omega))]
theorem bz_no {p x : Nat} (h0 : 0 < p) (hx : x ≤ (p - 1) / 5) : ¬ bz_p p x := by
  intro z
  rcases z with z | ⟨z, -⟩
  · omega
  · have := dp_mo (x := x) (y := p) (by omega)
    omega
theorem cv_cg {f : Nat → Int32} {a b : Int32} {p : Nat} (h0 : 0 < p) (hp : p < 781) (hf : ∀ q, q < 781 → ¬ bz_p p q → f q = (c top).1 q) : cv_s top (va_up c top (f, a, b)) p ↔ cv_s top c p := by
  have e1 : fd_f top (va_up c top (f, a, b)) ((p - 1) / 5) = fd_f top c ((p - 1) / 5) := by
    refine fd_cg _ _ (fun j hj l hl => ?_)
    by_cases e : l = top
    · subst e
      rw [va_up_self]
      have hu := up_lt j ((p - 1) / 5)
      show ka_f f _ = ka_f (c l).1 _
      unfold ka_f
      rw [hf _ (by omega) (bz_no h0 hu)]
    · rw [va_up_ne _ _ e]
  unfold cv_s
  rw [e1, fa_cg (K := fun l => ka_f (va_up c top (f, a, b) l).1 p) (K' := fun l => ka_f (c l).1 p) top 0 (fun l hl => by rw [va_up_ne _ _ (by omega)])]
theorem bz_pos {p q : Nat} (h0 : 0 < p) (h : bz_p p q) : 0 < q := by
  rcases h with h | ⟨h, -⟩
  · omega
  · rcases Nat.eq_zero_or_pos q with z | z
    · subst z; unfold dp_p at h; simp at h
    · exact z
theorem jc_c (ht : top ≤ 3) {p : Nat} (h0 : 0 < p) (hp : p < 781) (h1 : re_K top c kn vl) (h2 : re_C top c) : ∃ f' kn' vl', fy_clearFrom (c top).1 (c top).2.1 (c top).2.2 (nI p) = some (f', nI (cn_f f'), nI (cw_f f')) ∧ fq_strip top kn vl (nI (r6_p p)) = some (kn', vl') ∧ re_K top (va_up c top (f', nI (cn_f f'), nI (cw_f f'))) kn' vl' ∧ ∀ q, q < 781 → ¬ bz_p p q → f' q = (c top).1 q := by
  have h6 := r6_lt hp
  obtain ⟨f', e1, e2⟩ := yc_cl (f := (c top).1) h0 hp
  obtain ⟨kn', vl', e3, e4⟩ := qs_l ht h6 1295 fu_n 1 kn vl (by omega) (by unfold fu_n; omega)
  rw [(h2 top (Nat.le_refl _)).1, (h2 top (Nat.le_refl _)).2]
  refine ⟨f', kn', vl', e1, e3, la_re (fun i hi => ?_) (fun l hl => ?_), fun q hq => (e2 q hq).2⟩
  · by_cases z : 1296 * top + 1 ≤ i ∧ i < 1296 * top + 1296 ∧ bz_q (r6_p p) (i - 1296 * top)
    · rw [((e4 i).1 z).1]; exact ⟨0, by omega, rfl⟩
    · rw [((e4 i).2 z).1]; exact h1.1 i hi
  · by_cases e : l = top
    · subst e
      rw [va_up_self]
      obtain ⟨a1, a2, a3, a4⟩ := re_la h1 ht (Nat.le_refl l)
      have hk : ∀ q, q < 1296 → (1 ≤ q ∧ bz_q (r6_p p) q → kn' (1296 * l + q) = 0 ∧ vl' (1296 * l + q) = 0) ∧ (¬ (1 ≤ q ∧ bz_q (r6_p p) q) → kn' (1296 * l + q) = kn (1296 * l + q) ∧ vl' (1296 * l + q) = vl (1296 * l + q)) := by
        intro q hq
        have e5 := e4 (1296 * l + q)
        rw [Nat.add_sub_cancel_left] at e5
        exact ⟨fun z => e5.1 ⟨by omega, by omega, z.2⟩, fun z => e5.2 (fun w => z ⟨by omega, w.2.2⟩)⟩
      refine ⟨fun q hq => ?_, fun p' hp' => ?_, fun q hq hi => ?_, ?_⟩
      · dsimp only
        by_cases z : 1 ≤ q ∧ bz_q (r6_p p) q
        · rw [((hk q hq).1 z).1]; exact ⟨0, by omega, rfl⟩
        · rw [((hk q hq).2 z).1]; exact a1 q hq
      · have h6' := r6_lt hp'
        dsimp only
        by_cases z : bz_p p p'
        · have z2 : 1 ≤ r6_p p' ∧ bz_q (r6_p p) (r6_p p') := ⟨r6_pos hp' (bz_pos h0 z), (bz_r hp hp').mpr z⟩
          rw [((hk _ h6').1 z2).1, ((hk _ h6').1 z2).2, (e2 p' hp').1 z]
          exact ⟨by decide, fun w => absurd w (by decide)⟩
        · have z2 : ¬ (1 ≤ r6_p p' ∧ bz_q (r6_p p) (r6_p p')) := fun w => z ((bz_r hp hp').mp w.2)
          rw [((hk _ h6').2 z2).1, ((hk _ h6').2 z2).2, (e2 p' hp').2 z]
          exact a2 p' hp'
      · dsimp only
        by_cases z : 1 ≤ q ∧ bz_q (r6_p p) q
        · rw [((hk q hq).1 z).1]
        · rw [((hk q hq).2 z).1]; exact a3 q hq hi
      · dsimp only
        rw [((hk 0 (by omega)).2 (fun z => absurd z.1 (by omega))).1]
        exact a4
    · rw [va_up_ne _ _ e]
      refine la_cg (re_la h1 ht hl) (fun _ _ => rfl) (fun q hq => ?_) (fun q hq => ?_)
      · exact ((e4 (1296 * l + q)).2 (fun z => absurd z.1 (by omega))).1
      · exact ((e4 (1296 * l + q)).2 (fun z => absurd z.1 (by omega))).2
theorem cl_C {f' : Nat → Int32} (h : re_C top c) : re_C top (va_up c top (f', nI (cn_f f'), nI (cw_f f'))) := by
  intro i hi
  by_cases e : i = top
  · subst e; rw [va_up_self]; exact ⟨rfl, rfl⟩
  · rw [va_up_ne _ _ e]; exact h i hi
theorem ce_2 {k v : Int32} (hv : k = 1 → 0 ≤ v) : ce_f k v = 2 ↔ k = 2 := by
  unfold ce_f
  by_cases h : k = 1
  · rw [if_pos h, h]
    exact ⟨fun z => absurd (xo_neg (hv h)) (by rw [z]; decide), fun z => absurd z (by decide)⟩
  · rw [if_neg h]
/-- make -/
theorem jm_k (hl : 1 ≤ top) (ht : top ≤ 3) {p : Nat} (h0 : 0 < p) (hp : p < 781) {k v cu fo pa fi va : Int32} (hk : k = 1 ∨ k = 2) (hv : k = 1 → 0 ≤ v) (hv2 : k = 2 → v = 0) (h1 : re_K top c kn vl) (h2 : re_C top c) : ∃ c' cu' kn' vl' R, fx_makeAt top c cu (nI p) (ce_f k v) = some (c', cu') ∧ fq_make top cu kn vl fo pa fi va (nI (r6_p p)) k v = some (cu', kn', vl', (R : q4_T)) ∧ re_K top c' kn' vl' ∧ re_C top c' ∧ ∀ l, l < top → c' l = c l := by
  have h6 := r6_lt hp
  unfold fx_makeAt fq_make
  rw [pc_pa (by omega) h0, Option.bind_some, nl_6, pk_div (by omega) (by omega) (by omega), r6_dv hp]
  obtain ⟨c1, cu1, kn1, vl1, a1, a2, a3, a4, a5⟩ := jr_r (c := c) (kn := kn) (vl := vl) ht (p := (p - 1) / 5) (by omega) (cu := cu) h1 h2
  rw [a1, a2, Option.bind_some, Option.bind_some]
  dsimp only
  obtain ⟨f2, kn2, vl2, b1, b2, b3, b4⟩ := jc_c (c := c1) (kn := kn1) (vl := vl1) ht h0 hp a3 a4
  rw [b1, Option.bind_some]
  dsimp only
  obtain ⟨q1, q2⟩ := qc_cv (c := c1) a3 hl ht h0 hp (fo := fo) (pa := pa) (fi := fi) (va := va)
  have hcv := cv_cg (c := c1) (top := top) (a := nI (cn_f f2)) (b := nI (cw_f f2)) h0 hp b4
  have hfin : ∀ (k' : Int32) (R : q4_T), (∃ j, j ≤ 4 ∧ k' = nI j) → (k' = 1 → 0 ≤ v) → ∃ c' cu' kn' vl' R', fx_makeAt_39 top (nI p) (ce_f k v) (ce_f k' v) (nI p) (va_up c1 top (f2, nI (cn_f f2), nI (cw_f f2))) cu1 = some (c', cu') ∧ (fq_set top kn2 vl2 (nI (r6_p p)) k' v).bind (fun r1 => some (cu1, r1.1, r1.2, R)) = some (cu', kn', vl', (R' : q4_T)) ∧ re_K top c' kn' vl' ∧ re_C top c' ∧ ∀ l, l < top → c' l = c l := by
    intro k' R hk' hv'
    have hC := cl_C (f' := f2) a4
    unfold fx_makeAt_39
    rw [xs_st hC (Nat.le_refl _) h0 hp, Option.bind_some]
    dsimp only
    rw [xs_up, qs_st ht h6, Option.bind_some]
    refine ⟨_, _, _, _, R, rfl, rfl, st_K b3 ht (Nat.le_refl _) h0 hp hk' hv', st_C hC, fun l hl => ?_⟩
    rw [st_ne (by omega), va_up_ne _ _ (by omega), a5 l hl]
  by_cases e2 : k = 2
  · have hc2 : ce_f k v = 2 := (ce_2 hv).mpr e2
    rw [if_pos hc2]
    rcases xc_cv (c := va_up c1 top (f2, nI (cn_f f2), nI (cw_f f2))) ht h0 hp with ⟨w, x1⟩ | ⟨w, x1⟩
    · obtain ⟨R, g⟩ := q1 (hcv.mp w)
      have := hfin 3 R ⟨3, by omega, rfl⟩ (fun z => absurd z (by decide))
      rw [show ce_f 3 v = 3 from by unfold ce_f; rw [if_neg (by decide)]] at this
      rw [x1, Option.bind_some, if_neg (by decide), g, Option.bind_some, b2, Option.bind_some, if_pos e2]
      dsimp only
      rw [if_neg (by decide)]
      unfold fq_make_37
      exact this
    · obtain ⟨R, g⟩ := q2 (fun z => w (hcv.mpr z))
      have := hfin k R ⟨2, by omega, e2⟩ (fun z => absurd (z.symm.trans e2) (by decide))
      rw [x1, Option.bind_some, if_pos rfl, g, Option.bind_some, b2, Option.bind_some, if_pos e2]
      dsimp only
      rw [if_pos rfl]
      unfold fx_makeAt_38 fq_make_36 fq_make_37
      exact this
  · have hc2 : ¬ ce_f k v = 2 := fun z => e2 ((ce_2 hv).mp z)
    have e1 : k = 1 := hk.resolve_right e2
    have hg : ∃ (b : Int32) (R : q4_T), fq_isCovered top kn1 vl1 fo pa fi va (nI (r6_p p)) = some (b, R) := by
      by_cases w : cv_s top c1 p
      · obtain ⟨R, g⟩ := q1 w; exact ⟨_, R, g⟩
      · obtain ⟨R, g⟩ := q2 w; exact ⟨_, R, g⟩
    obtain ⟨b, R, g⟩ := hg
    have := hfin k R ⟨1, by omega, e1⟩ hv
    rw [if_neg hc2, g, Option.bind_some, b2, Option.bind_some, if_neg e2]
    unfold fx_makeAt_38 fq_make_36 fq_make_37
    exact this
/-- unmake -/
theorem ju_u (hl : 1 ≤ top) (ht : top ≤ 3) {p : Nat} (h0 : 0 < p) (hp : p < 781) {cu fo pa fi va : Int32} (h1 : re_K top c kn vl) (h2 : re_C top c) : ∃ c' cu' kn' vl' R, fx_unmakeAt top c cu (nI p) = some (c', cu') ∧ fq_unmake top cu kn vl fo pa fi va (nI (r6_p p)) = some (cu', kn', vl', (R : q4_T)) ∧ re_K top c' kn' vl' ∧ re_C top c' ∧ ∀ l, l < top → c' l = c l := by
  have h6 := r6_lt hp
  unfold fx_unmakeAt fq_unmake
  obtain ⟨f2, kn2, vl2, b1, b2, b3, b4⟩ := jc_c (c := c) (kn := kn) (vl := vl) ht h0 hp h1 h2
  rw [b1, Option.bind_some, b2, Option.bind_some]
  dsimp only
  have hC := cl_C (f' := f2) h2
  obtain ⟨q1, q2⟩ := qc_cv b3 hl ht h0 hp (fo := fo) (pa := pa) (fi := fi) (va := va)
  rcases xc_cv (c := va_up c top (f2, nI (cn_f f2), nI (cw_f f2))) ht h0 hp with ⟨w, x1⟩ | ⟨w, x1⟩
  · obtain ⟨R, g⟩ := q1 w
    obtain ⟨c1, cu1, kn1, vl1, a1, a2, a3, a4, a5⟩ := jr_r ht (p := (p - 1) / 5) (by omega) (cu := cu) b3 hC
    rw [x1, Option.bind_some, if_neg (by decide), pc_pa (by omega) h0, Option.bind_some, a1, Option.bind_some, g, Option.bind_some]
    dsimp only
    rw [if_neg (by decide), nl_6, pk_div (by omega) (by omega) (by omega), r6_dv hp, a2, Option.bind_some]
    dsimp only
    rw [xs_st a4 (Nat.le_refl _) h0 hp, Option.bind_some, qs_st ht h6, Option.bind_some]
    dsimp only
    rw [xs_up]
    have := st_K (p := p) (k := 4) (v := 0) a3 ht (Nat.le_refl _) h0 hp ⟨4, by omega, rfl⟩ (fun z => absurd z (by decide))
    rw [show ce_f 4 0 = 4 from by decide] at this
    refine ⟨_, _, _, _, R, rfl, rfl, this, st_C a4, fun l hl => ?_⟩
    rw [st_ne (by omega), a5 l hl, va_up_ne _ _ (by omega)]
  · obtain ⟨R, g⟩ := q2 w
    rw [x1, Option.bind_some, if_pos rfl, g, Option.bind_some]
    dsimp only
    rw [if_pos rfl]
    exact ⟨_, _, _, _, R, rfl, rfl, b3, hC, fun l hl => va_up_ne _ _ (by omega)⟩
/-- keep -/
theorem qk_l (ht : top ≤ 3) : ∀ (d m q : Nat) (ok ov : Nat → Int32), q + d = 1296 → d < m → ∃ ok' ov', fq_keep_2 top kn vl m (nI q) ok ov = some (ok', ov') ∧ (∀ i, q ≤ i → i < 1296 → ok' i = kn (1296 * top + i) ∧ ov' i = vl (1296 * top + i)) ∧ ∀ i, i < q → ok' i = ok i ∧ ov' i = ov i
  | 0, 0, q, _, _, _, h => absurd h (by omega)
  | 0, m + 1, q, ok, ov, hq, _ => by
    have : q = 1296 := by omega
    subst this
    rw [fq_keep_2.eq_2]; dsimp only
    rw [if_pos (by decide)]
    exact ⟨ok, ov, rfl, fun i a b => absurd b (by omega), fun _ _ => ⟨rfl, rfl⟩⟩
  | d + 1, 0, q, _, _, _, h => absurd h (by omega)
  | d + 1, m + 1, q, ok, ov, hq, hm => by
    rw [fq_keep_2.eq_2]; dsimp only
    rw [if_neg (show ¬ (1296 : Int32) ≤ nI q from nI_ge (a := q) (b := 1296) (by omega) (by omega)), qc_up ht (by omega), Option.bind_some, ck_n (nn_ck (by omega) (by omega)), ix_n, ck_n (nn_ck (by omega) (by omega)), ck_n (nn_ck (by omega) (by omega)), nI_clamp (by omega), nI_clamp (by omega), nI_1]
    obtain ⟨ok', ov', e1, e2, e3⟩ := qk_l ht d m (q + 1) (upd ok q (kn (1296 * top + q))) (upd ov q (vl (1296 * top + q))) (by omega) (by omega)
    refine ⟨ok', ov', e1, fun i a b => ?_, fun i a => ?_⟩
    · by_cases e : i = q
      · subst e
        have := e3 i (by omega)
        rw [this.1, this.2, pk_us, pk_us]
        exact ⟨rfl, rfl⟩
      · exact e2 i (by omega) b
    · have := e3 i (by omega)
      rw [this.1, this.2, pk_un (by omega), pk_un (by omega)]
      exact ⟨rfl, rfl⟩
theorem qk_k (ht : top ≤ 3) {ok ov : Nat → Int32} : ∃ ok' ov', fq_keep top kn vl ok ov = some (ok', ov') ∧ ∀ i, i < 1296 → ok' i = kn (1296 * top + i) ∧ ov' i = vl (1296 * top + i) := by
  obtain ⟨ok', ov', e1, e2, -⟩ := qk_l (kn := kn) (vl := vl) ht 1296 fu_n 0 ok ov (by omega) (by unfold fu_n; omega)
  exact ⟨ok', ov', e1, fun i hi => e2 i (by omega) hi⟩
theorem qe_e (ht : top ≤ 3) {ok ov : Nat → Int32} {x1 cu : Int32} : ∀ (d m q : Nat) (kn vl : Nat → Int32), q + d = 1296 → d < m → ∃ kn' vl', fq_end_17 top ok ov x1 m (nI q) cu kn vl = some (-11, x1, kn', vl') ∧ (∀ i, q ≤ i → i < 1296 → kn' (1296 * top + i) = ok i ∧ vl' (1296 * top + i) = ov i) ∧ ∀ i, (i < 1296 * top + q ∨ 1296 * top + 1296 ≤ i) → kn' i = kn i ∧ vl' i = vl i
  | 0, 0, q, _, _, _, h => absurd h (by omega)
  | 0, m + 1, q, kn, vl, hq, _ => by
    have : q = 1296 := by omega
    subst this
    rw [fq_end_17.eq_2]; dsimp only
    rw [if_pos (by decide)]
    exact ⟨kn, vl, rfl, fun i a b => absurd b (by omega), fun _ _ => ⟨rfl, rfl⟩⟩
  | d + 1, 0, q, _, _, _, h => absurd h (by omega)
  | d + 1, m + 1, q, kn, vl, hq, hm => by
    rw [fq_end_17.eq_2]; dsimp only
    rw [if_neg (show ¬ (1296 : Int32) ≤ nI q from nI_ge (a := q) (b := 1296) (by omega) (by omega)), ck_n (nn_ck (by omega) (by omega)), ck_n (nn_ck (by omega) (by omega)), nI_clamp (by omega), qs_st ht (by omega), Option.bind_some, nI_1]
    dsimp only
    obtain ⟨kn', vl', e1, e2, e3⟩ := qe_e ht d m (q + 1) (upd kn (1296 * top + q) (ok q)) (upd vl (1296 * top + q) (ov q)) (by omega) (by omega)
    refine ⟨kn', vl', e1, fun i a b => ?_, fun i a => ?_⟩
    · by_cases e : i = q
      · subst e
        have := e3 (1296 * top + i) (by omega)
        rw [this.1, this.2, pk_us, pk_us]
        exact ⟨rfl, rfl⟩
      · exact e2 i (by omega) b
    · have := e3 i (by omega)
      rw [this.1, this.2, pk_un (by omega), pk_un (by omega)]
      exact ⟨rfl, rfl⟩
/-- what is kept of the upper layer -/
def kp_R (kp : ls_T) (ok ov : Nat → Int32) : Prop := la_R kp.1 ok ov ∧ kp.2.1 = nI (cn_f kp.1) ∧ kp.2.2 = nI (cw_f kp.1) ∧ cn_f kp.1 ≤ 30
theorem cp_e {g f : Nat → Int32} {q : Nat} (h : q < 781) : va_cpy g f 0 0 781 q = g q := by
  rw [pk_cpy_in (by omega) (by omega), Nat.zero_add, Nat.sub_zero]
theorem jk_k (ht : top ≤ 3) (h1 : re_K top c kn vl) (h2 : re_C top c) (h3 : cn_f (c top).1 ≤ 30) {cu kcu : Int32} {kp : ls_T} {ok ov : Nat → Int32} : ∃ kp' ok' ov', fx_keepUpper top c cu kp kcu = some (kp', cu) ∧ fq_keep top kn vl ok ov = some (ok', ov') ∧ kp_R kp' ok' ov' := by
  obtain ⟨ok', ov', e1, e2⟩ := qk_k (kn := kn) (vl := vl) ht (ok := ok) (ov := ov)
  unfold fx_keepUpper fy_copyFrom
  rw [Option.bind_some, e1]
  have hc := cn_cg (f := va_cpy (c top).1 kp.1 0 0 781) (g := (c top).1) (fun p hp => cp_e hp)
  refine ⟨_, _, _, rfl, rfl, la_cg (re_la h1 ht (Nat.le_refl _)) (fun p hp => cp_e hp) (fun q hq => (e2 q hq).1) (fun q hq => (e2 q hq).2), ?_, ?_, ?_⟩
  · show (c top).2.1 = nI (cn_f (va_cpy (c top).1 kp.1 0 0 781))
    rw [hc.1]; exact (h2 top (Nat.le_refl _)).1
  · show (c top).2.2 = nI (cw_f (va_cpy (c top).1 kp.1 0 0 781))
    rw [hc.2]; exact (h2 top (Nat.le_refl _)).2
  · show cn_f (va_cpy (c top).1 kp.1 0 0 781) ≤ 30
    rw [hc.1]; exact h3
/-- settle and end: alike, and the bound holds again -/
theorem js_s (ht : top ≤ 3) (h1 : re_K top c kn vl) (h2 : re_C top c) {cu cu0 : Int32} {kp : ls_T} {ok ov : Nat → Int32} (hk : kp_R kp ok ov) : ∃ v c' cu' kn' vl', fx_settle top c cu kp cu0 = some (v, c', cu') ∧ fq_end top cu kn vl ok ov cu0 = some (v, cu', kn', vl') ∧ re_K top c' kn' vl' ∧ re_C top c' ∧ cn_f (c' top).1 ≤ 30 ∧ ∀ l, l < top → c' l = c l := by
  have h3 := cn_le (c top).1
  unfold fx_settle fq_end fy_entryCount
  rw [Option.bind_some, qc_es h1 ht (Nat.le_refl _), Option.bind_some, (h2 top (Nat.le_refl _)).1, nl_30]
  by_cases hb : 30 < cn_f (c top).1
  · rw [if_pos (nI_lt hb (by omega)), if_pos (nI_lt hb (by omega))]
    unfold fy_copyFrom
    rw [Option.bind_some]
    obtain ⟨kn', vl', e1, e2, e3⟩ := qe_e (x1 := cu0) (cu := cu) (ok := ok) (ov := ov) ht 1296 fu_n 0 kn vl (by omega) (by unfold fu_n; omega)
    have hc := cn_cg (f := va_cpy kp.1 (c top).1 0 0 781) (g := kp.1) (fun p hp => cp_e hp)
    obtain ⟨k1, k2, k3, k4⟩ := hk
    refine ⟨_, _, _, kn', vl', rfl, e1, la_re (fun i hi => ?_) (fun l hl => ?_), fun l hl => ?_, ?_, fun l hl => va_up_ne _ _ (by omega)⟩
    · by_cases z : i < 1296 * top ∨ 1296 * top + 1296 ≤ i
      · rw [(e3 i (by omega)).1]; exact h1.1 i hi
      · have := (e2 (i - 1296 * top) (by omega) (by omega)).1
        rw [show 1296 * top + (i - 1296 * top) = i by omega] at this
        rw [this]; exact k1.1 _ (by omega)
    · by_cases e : l = top
      · subst e
        rw [va_up_self]
        exact la_cg k1 (fun p hp => cp_e hp) (fun q hq => (e2 q (by omega) hq).1) (fun q hq => (e2 q (by omega) hq).2)
      · rw [va_up_ne _ _ e]
        exact la_cg (re_la h1 ht hl) (fun _ _ => rfl) (fun q hq => (e3 _ (by omega)).1) (fun q hq => (e3 _ (by omega)).2)
    · by_cases e : l = top
      · subst e
        rw [va_up_self]
        exact ⟨by show kp.2.1 = _; rw [k2, hc.1], by show kp.2.2 = _; rw [k3, hc.2]⟩
      · rw [va_up_ne _ _ e]; exact h2 l hl
    · rw [va_up_self]
      show cn_f (va_cpy kp.1 (c top).1 0 0 781) ≤ 30
      rw [hc.1]; exact k4
  · rw [if_neg (nI_nlt (by omega) (by omega)), if_neg (nI_nlt (by omega) (by omega))]
    exact ⟨_, _, _, _, _, rfl, rfl, h1, h2, by omega, fun _ _ => rfl⟩
end MKS
