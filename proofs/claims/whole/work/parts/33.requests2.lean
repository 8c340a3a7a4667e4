/-! makeDir, write, remove: alike -/
section RQT
variable {top : Nat} {c : Nat → ls_T} {kn vl : Nat → Int32}
abbrev z6_T : Type := (Nat → Int32) × (Nat → Int32) × q4_T
theorem qc_tg (md x : Int32) : fq_target md x = some (wp_s md x (fun p => if p = 0 then -2 else nI (r6_p p))) := by
  unfold fq_target
  rw [qc_of, Option.bind_some]
  rcases wp_c md x with ⟨hm, w⟩ | ⟨hm, hp, w⟩ | ⟨p, hm, hp, h7, w⟩
  · rw [w, if_pos hm]
  · rw [w, if_neg hm, hp, if_neg (by decide)]
  · have h6 := r6_lt h7
    rw [w, if_neg hm, hp, show pv_6 (some p) = nI (r6_p p) from rfl]
    by_cases h0 : p = 0
    · subst h0; rw [if_neg (by decide), if_pos rfl]
    · rw [if_neg h0, if_pos (by rw [nl_0]; exact nI_lt (r6_pos h7 (by omega)) (by omega))]
theorem qc_id (h : re_K top c kn vl) (h1 : 1 ≤ top) (ht : top ≤ 3) {p : Nat} (hp : p < 781) {fo pa fi va : Int32} : (0 < fd_f top c p → ∃ R : q4_T, fq_isDirectory top kn vl fo pa fi va (nI (r6_p p)) = some (1, R)) ∧ (¬ 0 < fd_f top c p → ∃ R : q4_T, fq_isDirectory top kn vl fo pa fi va (nI (r6_p p)) = some (0, R)) := by
  obtain ⟨R, g1, g2, g3, -⟩ := qc_lo h h1 ht hp (fo := fo) (pa := pa) (fi := fi) (va := va)
  unfold fq_isDirectory
  rw [g1, Option.bind_some]
  constructor
  · intro z; rw [if_pos (by rw [g2]; exact cd_two.mpr z)]; exact ⟨_, rfl⟩
  · intro z; rw [if_neg (by rw [g2]; exact fun w => z (cd_two.mp w))]; exact ⟨_, rfl⟩
theorem sh_r {x : Int32} : ∀ (m : Nat) (x2 : Int32) (c : Nat → ls_T) (cu t : Int32), fx_raise_7 top x m x2 c (cu + t) = (fx_raise_7 top x m x2 c cu).map (fun r => (r.1, r.2 + t))
  | 0, _, _, _, _ => rfl
  | m + 1, x2, c, cu, t => by
    rw [fx_raise_7.eq_2]; dsimp only
    by_cases h : x2 < 0
    · rw [if_pos h, if_pos h]; rfl
    · rw [if_neg h, if_neg h]
      cases fp_above x x2 with
      | none => rfl
      | some r1 =>
        rw [Option.bind_some, Option.bind_some]
        cases fy_kindAt (c top).1 r1 with
        | none => rfl
        | some r3 =>
          rw [Option.bind_some, Option.bind_some]
          unfold fx_raise_47
          by_cases h3 : r3 = 0
          · rw [if_pos h3, if_pos h3]
            cases fy_set (c top).1 (c top).2.1 (c top).2.2 r1 2 with
            | none => rfl
            | some r5 =>
              rw [Option.bind_some, Option.bind_some, show cu + t + 1 = cu + 1 + t from by rw [Int32.add_assoc, Int32.add_comm t 1, ← Int32.add_assoc]]
              exact sh_r m _ _ _ _
          · rw [if_neg h3, if_neg h3]
            exact sh_r m _ _ _ _
theorem sh_m {p v cu cu' t : Int32} {c' : Nat → ls_T} (h : fx_makeAt top c cu p v = some (c', cu')) : fx_makeAt top c (cu + t) p v = some (c', cu' + t) := by
  unfold fx_makeAt fx_raise at h ⊢
  cases h1 : fp_parent p with
  | none => rw [h1] at h; cases h
  | some r3 =>
    rw [h1, Option.bind_some] at h
    rw [Option.bind_some]
    cases h2 : fp_depth r3 with
    | none => rw [h2] at h; cases h
    | some r7 =>
      rw [h2, Option.bind_some] at h
      rw [Option.bind_some, sh_r]
      cases h3 : fx_raise_7 top r3 fu_n (r7 - 1) c cu with
      | none => rw [h3] at h; cases h
      | some r5 =>
        rw [h3, Option.bind_some] at h
        rw [Option.map_some, Option.bind_some]
        dsimp only
        cases h4 : fy_clearFrom (r5.1 top).1 (r5.1 top).2.1 (r5.1 top).2.2 p with
        | none => rw [h4] at h; cases h
        | some r7 =>
          rw [h4, Option.bind_some] at h
          rw [Option.bind_some]
          unfold fx_makeAt_38 fx_makeAt_39 at h ⊢
          by_cases hv : v = 2
          · rw [if_pos hv] at h ⊢
            cases h5 : fx_isCovered top (va_up r5.1 top (r7.1, r7.2.1, r7.2.2)) p with
            | none => rw [h5] at h; cases h
            | some r9 =>
              rw [h5, Option.bind_some] at h
              rw [Option.bind_some]
              by_cases h9 : r9 = 0
              · rw [if_pos h9] at h ⊢
                cases h6 : fy_set (va_up r5.1 top (r7.1, r7.2.1, r7.2.2) top).1 (va_up r5.1 top (r7.1, r7.2.1, r7.2.2) top).2.1 (va_up r5.1 top (r7.1, r7.2.1, r7.2.2) top).2.2 p v with
                | none => rw [h6] at h; cases h
                | some r1 =>
                  rw [h6, Option.bind_some] at h
                  rw [Option.bind_some]
                  cases h; rfl
              · rw [if_neg h9] at h ⊢
                cases h6 : fy_set (va_up r5.1 top (r7.1, r7.2.1, r7.2.2) top).1 (va_up r5.1 top (r7.1, r7.2.1, r7.2.2) top).2.1 (va_up r5.1 top (r7.1, r7.2.1, r7.2.2) top).2.2 p 3 with
                | none => rw [h6] at h; cases h
                | some r1 =>
                  rw [h6, Option.bind_some] at h
                  rw [Option.bind_some]
                  cases h; rfl
          · rw [if_neg hv] at h ⊢
            cases h6 : fy_set (va_up r5.1 top (r7.1, r7.2.1, r7.2.2) top).1 (va_up r5.1 top (r7.1, r7.2.1, r7.2.2) top).2.1 (va_up r5.1 top (r7.1, r7.2.1, r7.2.2) top).2.2 p v with
            | none => rw [h6] at h; cases h
            | some r1 =>
              rw [h6, Option.bind_some] at h
              rw [Option.bind_some]
              cases h; rfl
theorem xc_fi (ht : top ≤ 3) {p : Nat} (h7 : p < 781) : (0 < fd_f top c p ∧ ¬ ch_s top c p = 0 → fx_isFilledDirectory top c (nI p) (fd_f top c p) = some 1) ∧ (¬ (0 < fd_f top c p ∧ ¬ ch_s top c p = 0) → fx_isFilledDirectory top c (nI p) (fd_f top c p) = some 0) := by
  have hc := ch_le (top := top) (c := c) p
  unfold fx_isFilledDirectory
  rw [xc_id, Option.bind_some]
  by_cases h : 0 < fd_f top c p
  · rw [if_neg (show ¬ (if fd_f top c p ≤ 0 then (0 : Int32) else 1) = 0 from by rw [if_neg (lt_nle h)]; decide), xc_cs ht h7 h, Option.bind_some]
    by_cases hz : ch_s top c p = 0
    · rw [if_pos (show nI (ch_s top c p) ≤ 0 from by rw [hz]; decide)]
      exact ⟨fun z => absurd hz z.2, fun _ => rfl⟩
    · rw [if_neg (show ¬ nI (ch_s top c p) ≤ 0 from nI_nle (by omega) (by omega))]
      exact ⟨fun _ => rfl, fun z => absurd ⟨h, hz⟩ z⟩
  · rw [if_pos (show (if fd_f top c p ≤ 0 then (0 : Int32) else 1) = 0 from by rw [if_pos (Int32.not_lt.mp h)])]
    exact ⟨fun z => absurd z.1 h, fun _ => rfl⟩
theorem pp_md (h : iv_S top c kn vl) {md cu kcu fo pa fi va x : Int32} {kp : ls_T} {ok ov : Nat → Int32} : ∃ v c' cu' kp' kcu' kn' vl' Z, fx_makeDir top c md cu kp kcu x = some (v, c', cu', kp', kcu') ∧ fq_makeDir top md cu kn vl ok ov fo pa fi va x = some (v, cu', kn', vl', (Z : z6_T)) ∧ iv_S top c' kn' vl' := by
  obtain ⟨a1, a2, a3, a4, a5, a6⟩ := h
  have h : iv_S top c kn vl := ⟨a1, a2, a3, a4, a5, a6⟩
  unfold fx_makeDir fq_makeDir
  rw [xc_op, qc_tg, oj_s]
  rcases wp_c md x with ⟨hm, w⟩ | ⟨hm, hp, w⟩ | ⟨p, hm, hp, h7, w⟩
  · rw [w, w, Option.bind_some, Option.bind_some, if_neg (by decide), if_neg (by decide)]
    exact ⟨_, _, _, _, _, _, _, _, rfl, rfl, h⟩
  · rw [w, w, Option.bind_some, Option.bind_some, if_neg (by decide), if_neg (by decide)]
    exact ⟨_, _, _, _, _, _, _, _, rfl, rfl, h⟩
  · have h6 := r6_lt h7
    rw [w, w]
    by_cases h0 : p = 0
    · rw [if_pos h0, if_pos h0, Option.bind_some, Option.bind_some, if_neg (by decide), if_neg (by decide)]
      exact ⟨_, _, _, _, _, _, _, _, rfl, rfl, h⟩
    · rw [if_neg h0, if_neg h0, Option.bind_some, Option.bind_some, if_pos (nI_pos' (by omega)), if_pos (nI_pos' (by omega)), pc_pa (by omega) (by omega), Option.bind_some, xc_fd (by omega) (by omega), Option.bind_some, xc_id, Option.bind_some, nl_6, pk_div (by omega) (by omega) (by omega), r6_dv h7]
      obtain ⟨d1, d2⟩ := qc_id a3 a1 a2 (p := (p - 1) / 5) (by omega) (fo := fo) (pa := pa) (fi := fi) (va := va)
      by_cases hd : 0 < fd_f top c ((p - 1) / 5)
      · obtain ⟨R, g⟩ := d1 hd
        rw [if_neg (show ¬ (if fd_f top c ((p - 1) / 5) ≤ 0 then (0 : Int32) else 1) = 0 from by rw [if_neg (lt_nle hd)]; decide), g, Option.bind_some, if_neg (show ¬ (1 : Int32) = 0 by decide), xc_fd (by omega) (by omega), Option.bind_some]
        obtain ⟨R2, e1, e2, e3, -⟩ := qc_lo a3 a1 a2 h7 (fo := R.1) (pa := R.2.1) (fi := R.2.2.1) (va := R.2.2.2)
        rw [e1, Option.bind_some]
        by_cases hf : fd_f top c p = 0
        · obtain ⟨kp', ok', ov', k1, k2, k3⟩ := jk_k a2 a3 a4 a5 (cu := cu) (kcu := kcu) (kp := kp) (ok := ok) (ov := ov)
          obtain ⟨c1, cu1, kn1, vl1, R3, m1, m2, m3, m4, m5⟩ := jm_k a1 a2 (p := p) (by omega) h7 (k := 2) (v := 0) (cu := cu) (fo := R2.1) (pa := R2.2.1) (fi := R2.2.2.1) (va := R2.2.2.2) (Or.inr rfl) (fun z => absurd z (by decide)) (fun _ => rfl) a3 a4
          rw [show ce_f 2 0 = 2 from by decide] at m1
          obtain ⟨v, c2, cu2, kn2, vl2, s1, s2, s3, s4, s5, s6⟩ := js_s a2 m3 m4 (cu := cu1) (cu0 := cu) k3
          rw [if_pos hf, if_pos (by rw [e2]; exact cd_pos.mpr hf), k1, k2, Option.bind_some, Option.bind_some, m1, m2, Option.bind_some, Option.bind_some]
          dsimp only
          rw [s1, s2, Option.bind_some, Option.bind_some]
          exact ⟨_, _, _, _, _, _, _, (ok', ov', R3), rfl, rfl, iv_lo h s3 s4 s5 (fun l hl => (s6 l hl).trans (m5 l hl))⟩
        · rw [if_neg hf, if_neg (by rw [e2]; exact fun z => hf (cd_pos.mp z))]
          exact ⟨_, _, _, _, _, _, _, _, rfl, rfl, h⟩
      · obtain ⟨R, g⟩ := d2 hd
        rw [if_pos (show (if fd_f top c ((p - 1) / 5) ≤ 0 then (0 : Int32) else 1) = 0 from by rw [if_pos (Int32.not_lt.mp hd)]), g, Option.bind_some, if_pos rfl]
        exact ⟨_, _, _, _, _, _, _, _, rfl, rfl, h⟩
theorem pp_wr (h : iv_S top c kn vl) {md cu kcu fo pa fi va x y : Int32} {kp : ls_T} {ok ov : Nat → Int32} : ∃ v c' cu' kp' kcu' kn' vl' Z, fx_write top c md cu kp kcu x y = some (v, c', cu', kp', kcu') ∧ fq_write top md cu kn vl ok ov fo pa fi va x y = some (v, cu', kn', vl', (Z : z6_T)) ∧ iv_S top c' kn' vl' := by
  obtain ⟨a1, a2, a3, a4, a5, a6⟩ := h
  have h : iv_S top c kn vl := ⟨a1, a2, a3, a4, a5, a6⟩
  unfold fx_write fq_write fq_write_21
  rw [xc_op, qc_tg, oj_s]
  rcases wp_c md x with ⟨hm, w⟩ | ⟨hm, hp, w⟩ | ⟨p, hm, hp, h7, w⟩
  · rw [w, w, Option.bind_some, Option.bind_some, if_neg (by decide), if_pos rfl, if_pos rfl]
    exact ⟨_, _, _, _, _, _, _, _, rfl, rfl, h⟩
  · rw [w, w, Option.bind_some, Option.bind_some, if_neg (by decide), if_neg (show ¬ (-2 : Int32) = -1 by decide), if_pos rfl, if_neg (show ¬ (-2 : Int32) = -1 by decide)]
    exact ⟨_, _, _, _, _, _, _, _, rfl, rfl, h⟩
  · have h6 := r6_lt h7
    rw [w, w]
    by_cases h0 : p = 0
    · rw [if_pos h0, if_pos h0, Option.bind_some, Option.bind_some, if_neg (by decide), if_neg (show ¬ (-2 : Int32) = -1 by decide), if_pos rfl, if_neg (show ¬ (-2 : Int32) = -1 by decide)]
      exact ⟨_, _, _, _, _, _, _, _, rfl, rfl, h⟩
    · have hneg : ∀ k : Int32, k < 0 → ¬ nI (r6_p p) = k := fun k hk z => nI_pos (n := r6_p p) (by omega) (by rw [z]; exact hk)
      rw [if_neg h0, if_neg h0, Option.bind_some, Option.bind_some, if_pos (nI_pos' (by omega)), if_neg (hneg (-1) (by decide)), if_neg (hneg (-2) (by decide))]
      by_cases hy : 0 ≤ y
      · rw [if_pos hy, if_pos hy, pc_pa (by omega) (by omega), Option.bind_some, xc_fd (by omega) (by omega), Option.bind_some, xc_id, Option.bind_some, nl_6, pk_div (by omega) (by omega) (by omega), r6_dv h7]
        obtain ⟨d1, d2⟩ := qc_id a3 a1 a2 (p := (p - 1) / 5) (by omega) (fo := fo) (pa := pa) (fi := fi) (va := va)
        by_cases hd : 0 < fd_f top c ((p - 1) / 5)
        · obtain ⟨R, g⟩ := d1 hd
          rw [if_neg (show ¬ (if fd_f top c ((p - 1) / 5) ≤ 0 then (0 : Int32) else 1) = 0 from by rw [if_neg (lt_nle hd)]; decide), g, Option.bind_some, if_neg (show ¬ (1 : Int32) = 0 by decide), xc_fd (by omega) (by omega), Option.bind_some, xc_id, Option.bind_some]
          obtain ⟨R2, e1, e2, e3, e4⟩ := qc_lo a3 a1 a2 h7 (fo := R.1) (pa := R.2.1) (fi := R.2.2.1) (va := R.2.2.2)
          rw [e1, Option.bind_some]
          obtain ⟨-, -, r3, -⟩ := e4 (by omega)
          obtain ⟨kp', ok', ov', k1, k2, k3⟩ := jk_k a2 a3 a4 a5 (cu := cu) (kcu := kcu) (kp := kp) (ok := ok) (ov := ov)
          obtain ⟨c1, cu1, kn1, vl1, R3, m1, m2, m3, m4, m5⟩ := jm_k a1 a2 (p := p) (by omega) h7 (k := 1) (v := y) (cu := cu) (fo := R2.1) (pa := R2.2.1) (fi := R2.2.2.1) (va := R2.2.2.2) (Or.inl rfl) (fun _ => hy) (fun z => absurd z (by decide)) a3 a4
          rw [show ce_f 1 y = y ^^^ (-1) from by unfold ce_f; rw [if_pos rfl]] at m1
          have hA : ∃ v c' cu' kp2 kcu' kn' vl' Z, fx_write_88 top md x y (nI p) (fd_f top c p) c cu kp' cu = some (v, c', cu', kp2, kcu') ∧ fq_write_93 top md x y (nI (r6_p p)) cu 0 cu kn vl ok ov R2.1 R2.2.1 R2.2.2.1 R2.2.2.2 = some (v, cu', kn', vl', (Z : z6_T)) ∧ iv_S top c' kn' vl' := by
            obtain ⟨v, c2, cu2, kn2, vl2, s1, s2, s3, s4, s5, s6⟩ := js_s a2 m3 m4 (cu := cu1) (cu0 := cu) k3
            unfold fx_write_88 fq_write_93 fq_write_121 fy_fileCell
            rw [Option.bind_some, m1, Option.bind_some, k2, Option.bind_some, m2, Option.bind_some, if_pos rfl]
            dsimp only
            rw [Int32.add_zero, s1, s2, Option.bind_some, Option.bind_some]
            exact ⟨_, _, _, _, _, _, _, (ok', ov', R3), rfl, rfl, iv_lo h s3 s4 s5 (fun l hl => (s6 l hl).trans (m5 l hl))⟩
          have hB : ∃ v c' cu' kp2 kcu' kn' vl' Z, fx_write_88 top md x y (nI p) (fd_f top c p) c (cu + 1) kp' cu = some (v, c', cu', kp2, kcu') ∧ fq_write_93 top md x y (nI (r6_p p)) cu 1 cu kn vl ok ov R2.1 R2.2.1 R2.2.2.1 R2.2.2.2 = some (v, cu', kn', vl', (Z : z6_T)) ∧ iv_S top c' kn' vl' := by
            obtain ⟨v, c2, cu2, kn2, vl2, s1, s2, s3, s4, s5, s6⟩ := js_s a2 m3 m4 (cu := cu1 + 1) (cu0 := cu) k3
            unfold fx_write_88 fq_write_93 fq_write_121 fy_fileCell
            rw [Option.bind_some, sh_m m1, Option.bind_some, k2, Option.bind_some, m2, Option.bind_some, if_neg (by decide)]
            dsimp only
            rw [s1, s2, Option.bind_some, Option.bind_some]
            exact ⟨_, _, _, _, _, _, _, (ok', ov', R3), rfl, rfl, iv_lo h s3 s4 s5 (fun l hl => (s6 l hl).trans (m5 l hl))⟩
          unfold fq_write_92
          rcases r3_c (fd_f top c p) with ⟨f1, f2⟩ | ⟨f1, f2⟩ | ⟨f1, f2⟩
          · have z2 : ¬ R2.1 = 2 := by rw [e2, f2]; decide
            have z1 : ¬ R2.1 = 1 := by rw [e2, f2]; decide
            rw [if_pos (show (if fd_f top c p ≤ 0 then (0 : Int32) else 1) = 0 from by rw [if_pos (by rw [f1]; decide)]), k1, Option.bind_some, xc_if, Option.bind_some, if_pos (show (if 0 ≤ fd_f top c p then (0 : Int32) else 1) = 0 from by rw [if_pos (by rw [f1]; decide)]), if_neg z2, if_neg z1]
            exact hA
          · have z2 : R2.1 = 2 := by rw [e2, f2]
            rw [if_neg (show ¬ (if fd_f top c p ≤ 0 then (0 : Int32) else 1) = 0 from by rw [if_neg (lt_nle f1)]; decide), if_pos z2]
            exact ⟨_, _, _, _, _, _, _, _, rfl, rfl, h⟩
          · have z2 : ¬ R2.1 = 2 := by rw [e2, f2]; decide
            have z1 : R2.1 = 1 := by rw [e2, f2]
            obtain ⟨l, l1, l2, l3, -⟩ := r3 f1
            have x1 : fx_layerOfFile (fd_f top c p) = some (nI l) := by rw [l2]; exact xl_of
            rw [if_pos (show (if fd_f top c p ≤ 0 then (0 : Int32) else 1) = 0 from by rw [if_pos (lt_le f1)]), k1, Option.bind_some, xc_if, Option.bind_some, if_neg (show ¬ (if 0 ≤ fd_f top c p then (0 : Int32) else 1) = 0 from by rw [if_neg (lt_nle f1)]; decide), if_neg z2, if_pos z1, x1, Option.bind_some]
            by_cases hl : l = top
            · rw [if_pos (show nI l = nI top by rw [hl]), if_pos (show nI top ≤ R2.2.2.1 by rw [l3, hl]; exact Int32.le_refl _)]
              exact hA
            · rw [if_neg (fun z => hl ((nI_eq (by omega) (by omega)).mp z)), if_neg (show ¬ nI top ≤ R2.2.2.1 by rw [l3]; exact nI_ge (by omega) (by omega))]
              exact hB
        · obtain ⟨R, g⟩ := d2 hd
          rw [if_pos (show (if fd_f top c ((p - 1) / 5) ≤ 0 then (0 : Int32) else 1) = 0 from by rw [if_pos (Int32.not_lt.mp hd)]), g, Option.bind_some, if_pos rfl]
          exact ⟨_, _, _, _, _, _, _, _, rfl, rfl, h⟩
      · rw [if_neg hy, if_neg hy, if_neg (hneg (-1) (by decide))]
        exact ⟨_, _, _, _, _, _, _, _, rfl, rfl, h⟩
theorem pp_rm (h : iv_S top c kn vl) {md cu kcu fo pa fi va x : Int32} {kp : ls_T} {ok ov : Nat → Int32} : ∃ v c' cu' kp' kcu' kn' vl' Z, fx_remove top c md cu kp kcu x = some (v, c', cu', kp', kcu') ∧ fq_remove top md cu kn vl ok ov fo pa fi va x = some (v, cu', kn', vl', (Z : z6_T)) ∧ iv_S top c' kn' vl' := by
  obtain ⟨a1, a2, a3, a4, a5, a6⟩ := h
  have h : iv_S top c kn vl := ⟨a1, a2, a3, a4, a5, a6⟩
  unfold fx_remove fq_remove
  rw [xc_op, qc_tg, oj_s]
  rcases wp_c md x with ⟨hm, w⟩ | ⟨hm, hp, w⟩ | ⟨p, hm, hp, h7, w⟩
  · rw [w, w, Option.bind_some, Option.bind_some, if_neg (by decide), if_neg (by decide)]
    exact ⟨_, _, _, _, _, _, _, _, rfl, rfl, h⟩
  · rw [w, w, Option.bind_some, Option.bind_some, if_neg (by decide), if_neg (by decide)]
    exact ⟨_, _, _, _, _, _, _, _, rfl, rfl, h⟩
  · have h6 := r6_lt h7
    rw [w, w]
    by_cases h0 : p = 0
    · rw [if_pos h0, if_pos h0, Option.bind_some, Option.bind_some, if_neg (by decide), if_neg (by decide)]
      exact ⟨_, _, _, _, _, _, _, _, rfl, rfl, h⟩
    · rw [if_neg h0, if_neg h0, Option.bind_some, Option.bind_some, if_pos (nI_pos' (by omega)), if_pos (nI_pos' (by omega)), xc_fd (by omega) (by omega), Option.bind_some]
      obtain ⟨R2, e1, e2, e3, -⟩ := qc_lo a3 a1 a2 h7 (fo := fo) (pa := pa) (fi := fi) (va := va)
      rw [e1, Option.bind_some]
      have hgo : ∀ (g1 g2 g3 g4 : Int32), ∃ v c' cu' kp' kcu' kn' vl' Z, ((fx_keepUpper top c cu kp kcu).bind fun r7 => ((fx_unmakeAt top c cu (nI p)).bind fun r9 => ((fx_settle top r9.1 r9.2 r7.1 r7.2).bind fun r11 => (some (r11.1, r11.2.1, r11.2.2, r7.1, r7.2))))) = some (v, c', cu', kp', kcu') ∧ fq_remove_46 top md x (nI (r6_p p)) cu kn vl ok ov g1 g2 g3 g4 = some (v, cu', kn', vl', (Z : z6_T)) ∧ iv_S top c' kn' vl' := by
        intro g1 g2 g3 g4
        obtain ⟨kp', ok', ov', k1, k2, k3⟩ := jk_k a2 a3 a4 a5 (cu := cu) (kcu := kcu) (kp := kp) (ok := ok) (ov := ov)
        obtain ⟨c1, cu1, kn1, vl1, R3, m1, m2, m3, m4, m5⟩ := ju_u a1 a2 (p := p) (by omega) h7 (cu := cu) (fo := g1) (pa := g2) (fi := g3) (va := g4) a3 a4
        obtain ⟨v, c2, cu2, kn2, vl2, s1, s2, s3, s4, s5, s6⟩ := js_s a2 m3 m4 (cu := cu1) (cu0 := cu) k3
        unfold fq_remove_46
        rw [k1, k2, Option.bind_some, Option.bind_some, m1, m2, Option.bind_some, Option.bind_some]
        dsimp only
        rw [s1, s2, Option.bind_some, Option.bind_some]
        exact ⟨_, _, _, _, _, _, _, (ok', ov', R3), rfl, rfl, iv_lo h s3 s4 s5 (fun l hl => (s6 l hl).trans (m5 l hl))⟩
      obtain ⟨i1, i2⟩ := xc_fi (c := c) a2 h7
      have hc := ch_le (top := top) (c := c) p
      rcases r3_c (fd_f top c p) with ⟨f1, f2⟩ | ⟨f1, f2⟩ | ⟨f1, f2⟩
      · rw [if_pos f1, if_pos (show R2.1 = 0 from e2.trans f2)]
        exact ⟨_, _, _, _, _, _, _, _, rfl, rfl, h⟩
      · have z0 : ¬ R2.1 = 0 := by rw [e2, f2]; decide
        obtain ⟨R4, g4⟩ := qc_cs a3 a1 a2 h7 (fo := R2.1) (pa := R2.2.1) (fi := R2.2.2.1) (va := R2.2.2.2)
        rw [if_neg (lt_ne f1), if_neg z0, if_pos (show R2.1 = 2 from e2.trans f2), g4, Option.bind_some]
        by_cases hz : ch_s top c p = 0
        · rw [i2 (fun z => z.2 hz), Option.bind_some, if_pos rfl, if_pos (show nI (ch_s top c p) ≤ 0 from by rw [hz]; decide)]
          exact hgo _ _ _ _
        · rw [i1 ⟨f1, hz⟩, Option.bind_some, if_neg (by decide), if_neg (show ¬ nI (ch_s top c p) ≤ 0 from nI_nle (by omega) (by omega))]
          exact ⟨_, _, _, _, _, _, _, _, rfl, rfl, h⟩
      · have z0 : ¬ R2.1 = 0 := by rw [e2, f2]; decide
        have z2 : ¬ R2.1 = 2 := by rw [e2, f2]; decide
        rw [if_neg (lt_ne' f1), if_neg z0, if_neg z2, i2 (fun z => absurd (Int32.lt_trans z.1 f1) (by decide)), Option.bind_some, if_pos rfl]
        exact hgo _ _ _ _
end RQT
