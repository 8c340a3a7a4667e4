/-! rename, from its refusals to its end -/
theorem mx_cg {P P' : Nat → Bool} : ∀ n, (∀ i, i < n → P i = P' i) → mx_n P n = mx_n P' n
  | 0, _ => rfl
  | n + 1, h => by
    show (if P n = true then dp_p n else mx_n P n) = (if P' n = true then dp_p n else mx_n P' n)
    rw [mx_cg n (fun i hi => h i (by omega)), h n (by omega)]
theorem mx_ge {P : Nat → Bool} {j : Nat} (hP : P j = true) : ∀ n, j < n → dp_p j ≤ mx_n P n
  | 0, h => absurd h (by omega)
  | n + 1, h => by
    show dp_p j ≤ (if P n = true then dp_p n else mx_n P n)
    by_cases hn : P n = true
    · rw [if_pos hn]; exact dp_mo (by omega)
    · rw [if_neg hn]
      by_cases e : j = n
      · subst e; exact absurd hP hn
      · exact mx_ge hP n (by omega)
theorem mx_4 (P : Nat → Bool) (n : Nat) : mx_n P n ≤ 4 := Nat.le_trans (mx_le P n) (dp_le _)
section REO
variable {top : Nat} {c : Nat → ls_T} {kn vl : Nat → Int32}
abbrev zz_T : Type := (Nat → Int32) × (Nat → Int32) × Int32 × Int32 × Int32 × Int32 × (Nat → Int32) × (Nat → Int32) × (Nat → Int32) × Int32
theorem rn_go (h : iv_S top c kn vl) {s t : Nat} (hs0 : 0 < s) (hs : s < 781) (ht0 : 0 < t) (ht7 : t < 781) {md x1 x2 k1 k2 cu kcu fo pa fi va no : Int32} {kp : ls_T} {nf ok ov nd nk nv : Nat → Int32} : ∃ v c' cu' kp' kcu' nf' kn' vl' Z, ((fx_noteFrom top c nf (nI s)).bind fun r9 => ((fp_depth (nI t)).bind fun r11 => ((fx_depthOfNoted r9).bind fun r13 => (if (r11 + r13) ≤ 4 then ((fx_keepUpper top c cu kp kcu).bind fun r15 => ((fx_makeNotedAt top c cu r9 (nI t)).bind fun r17 => ((fx_unmakeAt top r17.1 r17.2 (nI s)).bind fun r19 => ((fx_settle top r19.1 r19.2 r15.1 r15.2).bind fun r21 => (some (r21.1, r21.2.1, r21.2.2, r15.1, r15.2, r9)))))) else (some ((-10), c, cu, kp, kcu, r9)))))) = some (v, c', cu', kp', kcu', nf') ∧ fq_rename_146 top md x1 x2 (nI (r6_p s)) (nI (r6_p t)) k1 k2 cu kn vl ok ov fo pa fi va nd nk nv no = some (v, cu', kn', vl', (Z : zz_T)) ∧ iv_S top c' kn' vl' := by
  obtain ⟨a1, a2, a3, a4, a5, a6⟩ := h
  have h : iv_S top c kn vl := ⟨a1, a2, a3, a4, a5, a6⟩
  have hr := r6_lt hs
  have hrt := r6_lt ht7
  have h4 := dp_le t
  obtain ⟨nf', n1, n2⟩ := xc_nf a3 a2 hs0 hs (nf := nf)
  obtain ⟨R, nd', nk', nv', q1, q2⟩ := qn_n a3 a1 a2 hs0 hs (nl_bd h hs0 hs) (1296 - r6_p s) fu_n 0 fo pa fi va nd nk nv (by omega) (by unfold fu_n; omega) (fun i hi => absurd hi (by show ¬ i < 0; omega))
  rw [Nat.zero_add, nl_fi hs0 hs, mm_mx hs0 hs] at q1
  rw [Nat.zero_add, nl_fi hs0 hs] at q2
  have hlen : (((List.range 156).filter (pn_b top c s)).map (be_p s)).length = cs_n (pn_b top c s) 156 := by rw [List.length_map, cs_l, List.countP_eq_length_filter]
  have hl90 : cs_n (pn_b top c s) 156 ≤ 90 := by
    have := nl_bd h hs0 hs (1296 - r6_p s) (by omega)
    rw [nl_fi hs0 hs, hlen] at this
    exact this
  rw [hlen] at q1
  have q1' : fq_note top kn vl fo pa fi va nd nk nv no (nI (r6_p s)) = _ := q1
  have hmx : mx_n (fun j => decide (¬ nf' j = 0)) 156 = mx_n (pn_b top c s) 156 := mx_cg 156 (fun i hi => by
    rw [n2 i hi]
    exact decide_eq_decide.mpr ⟨fun z => Classical.byContradiction (fun w => z ((oc_0 a2 a3).mpr w)), fun z w => (oc_0 a2 a3).mp w z⟩)
  have hm4 := mx_4 (pn_b top c s) 156
  unfold fq_rename_146
  rw [n1, Option.bind_some, pc_dp (by omega), Option.bind_some, xc_dn, Option.bind_some, hmx, nI_add, q1', Option.bind_some, qc_dp (by omega), Option.bind_some, r6_dp ht7]
  dsimp only
  rw [nI_add, nl_4]
  by_cases hd : dp_p t + mx_n (pn_b top c s) 156 ≤ 4
  · rw [if_pos (nI_le hd (by omega)), if_pos (nI_le hd (by omega))]
    obtain ⟨kp', ok', ov', k1', k2', k3'⟩ := jk_k a2 a3 a4 a5 (cu := cu) (kcu := kcu) (kp := kp) (ok := ok) (ov := ov)
    obtain ⟨c1, cu1, kn1, vl1, R1, m1, m2, m3, m4, m5⟩ := jn_l a1 a2 a3 hs0 hs ht0 ht7 (md := md) (x1 := x1) (x2 := x2) (x5 := k1) (x6 := k2) (x7 := nI (mx_n (pn_b top c s) 156)) (x8 := cu) (ok := ok') (ov := ov') n2 q2 (fun j hj hP => by have := mx_ge (P := pn_b top c s) hP 156 hj; omega) hl90 156 fu_n fu_n 0 c cu kn vl R (by omega) (by unfold fu_n; omega) (by unfold fu_n; omega) a3 a4
    obtain ⟨c2, cu2, kn2, vl2, R2, u1, u2, u3, u4, u5⟩ := ju_u a1 a2 (p := s) hs0 hs (cu := cu1) (fo := R1.1) (pa := R1.2.1) (fi := R1.2.2.1) (va := R1.2.2.2) m3 m4
    obtain ⟨v, c3, cu3, kn3, vl3, s1, s2, s3, s4, s5, s6⟩ := js_s a2 u3 u4 (cu := cu2) (cu0 := cu) k3'
    have m1' : fx_makeNotedAt top c cu nf' (nI t) = some (c1, cu1) := m1
    rw [k1', Option.bind_some, m1', Option.bind_some, k2', Option.bind_some]
    dsimp only
    rw [u1, Option.bind_some]
    dsimp only
    rw [s1, Option.bind_some]
    have m2' := m2
    rw [show cs_n (pn_b top c s) 0 = 0 from rfl] at m2'
    rw [show (0 : Int32) = nI 0 from rfl, m2']
    unfold rs_T
    rw [u2, Option.bind_some]
    dsimp only
    rw [s2, Option.bind_some]
    exact ⟨_, _, _, _, _, _, _, _, _, rfl, rfl, iv_lo h s3 s4 s5 (fun l hl => ((s6 l hl).trans (u5 l hl)).trans (m5 l hl))⟩
  · rw [if_neg (nI_ge (by omega) (by omega)), if_neg (nI_ge (by omega) (by omega))]
    exact ⟨_, _, _, _, _, _, _, _, _, rfl, rfl, h⟩
theorem pp_rn (h : iv_S top c kn vl) {md x y cu kcu fo pa fi va no : Int32} {kp : ls_T} {nf ok ov nd nk nv : Nat → Int32} : ∃ v c' cu' kp' kcu' nf' kn' vl' Z, fx_rename top c md cu kp kcu nf x y = some (v, c', cu', kp', kcu', nf') ∧ fq_rename top md cu kn vl ok ov fo pa fi va nd nk nv no x y = some (v, cu', kn', vl', (Z : zz_T)) ∧ iv_S top c' kn' vl' := by
  obtain ⟨a1, a2, a3, a4, a5, a6⟩ := h
  have h : iv_S top c kn vl := ⟨a1, a2, a3, a4, a5, a6⟩
  unfold fx_rename fq_rename fq_rename_22
  rw [xc_op, xc_op, qc_tg, qc_tg, oj_s, oj_s]
  rcases wp_c md x with ⟨hm, w⟩ | ⟨hm, hp, w⟩ | ⟨s, hm, hp, hs, w⟩
  · rw [w, w, Option.bind_some, Option.bind_some (a := (-1 : Int32))]
    rcases wp_c md y with ⟨hm', w'⟩ | ⟨hm', hp', w'⟩ | ⟨t, hm', hp', ht7, w'⟩
    · rw [w', w', Option.bind_some, Option.bind_some, if_neg (by decide), if_pos (by decide), if_pos hm]
      exact ⟨_, _, _, _, _, _, _, _, _, rfl, rfl, h⟩
    · exact absurd hm hm'
    · exact absurd hm hm'
  · rw [w, w, Option.bind_some, Option.bind_some]
    rcases wp_c md y with ⟨hm', w'⟩ | ⟨hm', hp', w'⟩ | ⟨t, hm', hp', ht7, w'⟩
    · exact absurd hm' hm
    · rw [w', w', Option.bind_some, Option.bind_some, if_neg (by decide), if_pos (by decide), if_neg hm]
      exact ⟨_, _, _, _, _, _, _, _, _, rfl, rfl, h⟩
    · rw [w', w', Option.bind_some, Option.bind_some, if_neg (by decide), if_pos (by decide), if_neg hm]
      exact ⟨_, _, _, _, _, _, _, _, _, rfl, rfl, h⟩
  · have h6 := r6_lt hs
    rw [w, w]
    by_cases hs0 : s = 0
    · rw [if_pos hs0, if_pos hs0, Option.bind_some, Option.bind_some]
      rcases wp_c md y with ⟨hm', w'⟩ | ⟨hm', hp', w'⟩ | ⟨t, hm', hp', ht7, w'⟩
      · exact absurd hm' hm
      · rw [w', w', Option.bind_some, Option.bind_some, if_neg (by decide), if_pos (by decide), if_neg hm]
        exact ⟨_, _, _, _, _, _, _, _, _, rfl, rfl, h⟩
      · rw [w', w', Option.bind_some, Option.bind_some, if_neg (by decide), if_pos (by decide), if_neg hm]
        exact ⟨_, _, _, _, _, _, _, _, _, rfl, rfl, h⟩
    · rw [if_neg hs0, if_neg hs0, Option.bind_some, Option.bind_some]
      have hsp : 0 < s := by omega
      rcases wp_c md y with ⟨hm', w'⟩ | ⟨hm', hp', w'⟩ | ⟨t, hm', hp', ht7, w'⟩
      · exact absurd hm' hm
      · rw [w', w', Option.bind_some, Option.bind_some, if_pos (nI_pos' (by omega)), if_neg (nI_pos (by omega)), if_neg (show ¬ (0 : Int32) ≤ -2 by decide), if_neg (show ¬ (0 : Int32) ≤ -2 by decide), if_neg hm]
        exact ⟨_, _, _, _, _, _, _, _, _, rfl, rfl, h⟩
      · rw [w', w']
        by_cases ht0 : t = 0
        · rw [if_pos ht0, if_pos ht0, Option.bind_some, Option.bind_some, if_pos (nI_pos' (by omega)), if_neg (nI_pos (by omega)), if_neg (show ¬ (0 : Int32) ≤ -2 by decide), if_neg (show ¬ (0 : Int32) ≤ -2 by decide), if_neg hm]
          exact ⟨_, _, _, _, _, _, _, _, _, rfl, rfl, h⟩
        · have htp : 0 < t := by omega
          have h6t := r6_lt ht7
          rw [if_neg ht0, if_neg ht0, Option.bind_some, Option.bind_some, if_pos (show 0 ≤ nI s from nI_pos' (by omega)), if_neg (show ¬ nI (r6_p s) < 0 from nI_pos (by omega)), if_pos (show 0 ≤ nI t from nI_pos' (by omega)), if_pos (show 0 ≤ nI (r6_p t) from nI_pos' (by omega)), xc_fd (by omega) (by omega), Option.bind_some]
          obtain ⟨R, e1, e2, e3, -⟩ := qc_lo a3 a1 a2 hs (fo := fo) (pa := pa) (fi := fi) (va := va)
          rw [e1, Option.bind_some]
          by_cases hf : fd_f top c s = 0
          · rw [if_pos hf, if_pos (show R.1 = 0 from by rw [e2]; exact cd_0.mpr hf)]
            exact ⟨_, _, _, _, _, _, _, _, _, rfl, rfl, h⟩
          · rw [if_neg hf, if_neg (show ¬ R.1 = 0 from by rw [e2]; exact fun z => hf (cd_0.mp z))]
            by_cases hst : s = t
            · rw [if_pos (show nI s = nI t by rw [hst]), if_pos (show nI (r6_p s) = nI (r6_p t) by rw [hst])]
              exact ⟨_, _, _, _, _, _, _, _, _, rfl, rfl, h⟩
            · rw [if_neg (fun z => hst ((nI_eq (by omega) (by omega)).mp z)), if_neg (fun z => hst (r6_inj hs ht7 ((nI_eq (by omega) (by omega)).mp z)))]
              have hrg := fun (k1 k2 : Int32) (Q : q4_T) => rn_go h hsp hs htp ht7 (md := md) (x1 := x) (x2 := y) (k1 := k1) (k2 := k2) (cu := cu) (kcu := kcu) (kp := kp) (nf := nf) (ok := ok) (ov := ov) (nd := nd) (nk := nk) (nv := nv) (no := no) (fo := Q.1) (pa := Q.2.1) (fi := Q.2.2.1) (va := Q.2.2.2)
              unfold fx_refusalOfTarget
              rw [pc_ib (by omega) (by omega), qc_ib (by omega) (by omega), Option.bind_some, Option.bind_some, r6_dp hs, r6_dp ht7, dv_up _ _ ht7]
              have hbe : (dp_p s < dp_p t ∧ r6_p (up_p (dp_p t - dp_p s) t) = r6_p s) ↔ (dp_p s < dp_p t ∧ up_p (dp_p t - dp_p s) t = s) := by
                have hu := up_lt (dp_p t - dp_p s) t
                exact ⟨fun z => ⟨z.1, r6_inj (by omega) hs z.2⟩, fun z => ⟨z.1, by rw [z.2]⟩⟩
              by_cases hb : dp_p s < dp_p t ∧ up_p (dp_p t - dp_p s) t = s
              · rw [if_neg (show ¬ (if dp_p s < dp_p t ∧ up_p (dp_p t - dp_p s) t = s then (1 : Int32) else 0) = 0 from by rw [if_pos hb]; decide), if_neg (show ¬ (if dp_p s < dp_p t ∧ r6_p (up_p (dp_p t - dp_p s) t) = r6_p s then (1 : Int32) else 0) = 0 from by rw [if_pos (hbe.mpr hb)]; decide), Option.bind_some, if_neg (show ¬ (-9 : Int32) = 0 by decide)]
                exact ⟨_, _, _, _, _, _, _, _, _, rfl, rfl, h⟩
              · rw [if_pos (show (if dp_p s < dp_p t ∧ up_p (dp_p t - dp_p s) t = s then (1 : Int32) else 0) = 0 from by rw [if_neg hb]), if_pos (show (if dp_p s < dp_p t ∧ r6_p (up_p (dp_p t - dp_p s) t) = r6_p s then (1 : Int32) else 0) = 0 from by rw [if_neg (fun z => hb (hbe.mp z))]), pc_pa (by omega) htp, Option.bind_some, xc_fd (by omega) (by omega), Option.bind_some, xc_id, Option.bind_some, nl_6, pk_div (by omega) (by omega) (by omega), r6_dv ht7]
                obtain ⟨d1, d2⟩ := qc_id a3 a1 a2 (p := (t - 1) / 5) (by omega) (fo := R.1) (pa := R.2.1) (fi := R.2.2.1) (va := R.2.2.2)
                by_cases hd : 0 < fd_f top c ((t - 1) / 5)
                · obtain ⟨R2, g⟩ := d1 hd
                  obtain ⟨R3, f1, f2, f3, -⟩ := qc_lo a3 a1 a2 ht7 (fo := R2.1) (pa := R2.2.1) (fi := R2.2.2.1) (va := R2.2.2.2)
                  obtain ⟨i1, i2⟩ := xc_fi (c := c) a2 ht7
                  rw [if_neg (show ¬ (if fd_f top c ((t - 1) / 5) ≤ 0 then (0 : Int32) else 1) = 0 from by rw [if_neg (lt_nle hd)]; decide), g, Option.bind_some, if_neg (show ¬ (1 : Int32) = 0 by decide), f1, Option.bind_some, xc_fd (by omega) (by omega), Option.bind_some, xc_fd (by omega) (by omega), Option.bind_some, xc_id, Option.bind_some, xc_if, Option.bind_some]
                  unfold fx_refusalOfTarget_59 fx_refusalOfTarget_77 fq_rename_128
                  rw [xc_if, Option.bind_some, xc_id, Option.bind_some]
                  rcases r3_c (fd_f top c t) with ⟨t1, t2⟩ | ⟨t1, t2⟩ | ⟨t1, t2⟩
                  · -- nothing there
                    have z1 : R3.1 ≤ 0 := by rw [f2]; exact cd_pos.mpr t1
                    have z2 : ¬ R3.1 = 2 := by rw [f2, t2]; decide
                    rw [if_pos (show (if fd_f top c t ≤ 0 then (0 : Int32) else 1) = 0 from by rw [if_pos (by rw [t1]; decide)]), if_pos (show (if 0 ≤ fd_f top c t then (0 : Int32) else 1) = 0 from by rw [if_pos (by rw [t1]; decide)]), i2 (fun z => absurd z.1 (by rw [t1]; decide)), Option.bind_some, if_pos rfl, Option.bind_some, if_pos rfl, if_pos z1, if_neg z2]
                    exact hrg _ _ R3
                  · -- a directory there
                    have z1 : ¬ R3.1 ≤ 0 := by rw [f2, t2]; decide
                    have z2 : R3.1 = 2 := f2.trans t2
                    rw [if_neg (show ¬ (if fd_f top c t ≤ 0 then (0 : Int32) else 1) = 0 from by rw [if_neg (lt_nle t1)]; decide), if_pos (show (if 0 ≤ fd_f top c t then (0 : Int32) else 1) = 0 from by rw [if_pos (lt_le t1)]), if_neg z1]
                    rcases r3_c (fd_f top c s) with ⟨s1, s2⟩ | ⟨s1, s2⟩ | ⟨s1, s2⟩
                    · exact absurd s1 hf
                    · have z3 : R3.1 = R.1 := by rw [f2, e2, t2, s2]
                      obtain ⟨R4, g4⟩ := qc_cs a3 a1 a2 ht7 (fo := R3.1) (pa := R3.2.1) (fi := R3.2.2.1) (va := R3.2.2.2)
                      have hc := ch_le (top := top) (c := c) t
                      rw [if_pos (show (if 0 ≤ fd_f top c s then (0 : Int32) else 1) = 0 from by rw [if_pos (lt_le s1)]), if_pos z3, if_pos z2, g4, Option.bind_some]
                      by_cases hz : ch_s top c t = 0
                      · rw [i2 (fun z => z.2 hz), Option.bind_some, if_pos rfl, Option.bind_some, if_pos rfl, if_pos (show nI (ch_s top c t) ≤ 0 from by rw [hz]; decide)]
                        exact hrg _ _ R4
                      · rw [i1 ⟨t1, hz⟩, Option.bind_some, if_neg (show ¬ (1 : Int32) = 0 by decide), Option.bind_some, if_neg (show ¬ (-8 : Int32) = 0 by decide), if_neg (show ¬ nI (ch_s top c t) ≤ 0 from nI_nle (by omega) (by omega))]
                        exact ⟨_, _, _, _, _, _, _, _, _, rfl, rfl, h⟩
                    · have z3 : ¬ R3.1 = R.1 := by rw [f2, e2, t2, s2]; decide
                      rw [if_neg (show ¬ (if 0 ≤ fd_f top c s then (0 : Int32) else 1) = 0 from by rw [if_neg (lt_nle s1)]; decide), Option.bind_some, if_neg (show ¬ (-nI 6 : Int32) = 0 by decide), if_neg z3, if_pos z2]
                      exact ⟨_, _, _, _, _, _, _, _, _, rfl, rfl, h⟩
                  · -- a file there
                    have z1 : ¬ R3.1 ≤ 0 := by rw [f2, t2]; decide
                    have z2 : ¬ R3.1 = 2 := by rw [f2, t2]; decide
                    rw [if_pos (show (if fd_f top c t ≤ 0 then (0 : Int32) else 1) = 0 from by rw [if_pos (lt_le t1)]), if_neg (show ¬ (if 0 ≤ fd_f top c t then (0 : Int32) else 1) = 0 from by rw [if_neg (lt_nle t1)]; decide), if_neg z1]
                    rcases r3_c (fd_f top c s) with ⟨s1, s2⟩ | ⟨s1, s2⟩ | ⟨s1, s2⟩
                    · exact absurd s1 hf
                    · have z3 : ¬ R3.1 = R.1 := by rw [f2, e2, t2, s2]; decide
                      rw [if_neg (show ¬ (if fd_f top c s ≤ 0 then (0 : Int32) else 1) = 0 from by rw [if_neg (lt_nle s1)]; decide), Option.bind_some, if_neg (show ¬ (-7 : Int32) = 0 by decide), if_neg z3, if_neg z2]
                      exact ⟨_, _, _, _, _, _, _, _, _, rfl, rfl, h⟩
                    · have z3 : R3.1 = R.1 := by rw [f2, e2, t2, s2]
                      rw [if_pos (show (if fd_f top c s ≤ 0 then (0 : Int32) else 1) = 0 from by rw [if_pos (lt_le s1)]), i2 (fun z => absurd (Int32.lt_trans z.1 t1) (by decide)), Option.bind_some, if_pos rfl, Option.bind_some, if_pos rfl, if_pos z3, if_neg z2]
                      exact hrg _ _ R3
                · obtain ⟨R2, g⟩ := d2 hd
                  rw [if_pos (show (if fd_f top c ((t - 1) / 5) ≤ 0 then (0 : Int32) else 1) = 0 from by rw [if_pos (Int32.not_lt.mp hd)]), g, Option.bind_some, Option.bind_some, if_neg (show ¬ (-4 : Int32) = 0 by decide), if_pos rfl]
                  exact ⟨_, _, _, _, _, _, _, _, _, rfl, rfl, h⟩
end REO
