/-! put, mount, makeDir, write, remove: alike -/
theorem yc_ch {f : Nat → Int32} {p : Nat} (hp : p < 2 ^ 30) : (fy_canHoldIn f (nI p) = some 1 ∧ (p = 0 ∨ ka_f f p = 2 ∨ ka_f f p = 3)) ∨ (fy_canHoldIn f (nI p) = some 0 ∧ ¬ (p = 0 ∨ ka_f f p = 2 ∨ ka_f f p = 3)) := by
  unfold fy_canHoldIn
  by_cases h0 : p = 0
  · rw [if_pos (by rw [h0]; rfl)]; exact Or.inl ⟨rfl, Or.inl h0⟩
  · rw [if_neg (nI_ne0 (by omega) (by omega)), yc_ka hp, Option.bind_some]
    by_cases h2 : ka_f f p = 2
    · rw [if_pos h2]; exact Or.inl ⟨rfl, Or.inr (Or.inl h2)⟩
    · rw [if_neg h2, Option.bind_some]
      by_cases h3 : ka_f f p = 3
      · rw [if_pos h3]; exact Or.inl ⟨rfl, Or.inr (Or.inr h3)⟩
      · rw [if_neg h3]
        exact Or.inr ⟨rfl, fun z => z.elim h0 (fun w => w.elim h2 h3)⟩
theorem cn_up {f : Nat → Int32} {p : Nat} {v : Int32} (hp : p < 781) : cn_f (upd f p v) ≤ cn_f f + 1 := by
  have := cs_up (P := fun p => decide (¬ f p = 0)) (P' := fun q => decide (¬ upd f p v q = 0)) (p := p) (fun i hi => by rw [pk_un hi]) 781 hp
  unfold cn_f
  split at this <;> split at this <;> omega
theorem sl_up {g g' : Nat → Nat} {l : Nat} (h : ∀ i, i ≠ l → g' i = g i) (hl : g' l ≤ g l + 1) : ∀ n, sl_n g' n ≤ sl_n g n + (if l < n then 1 else 0)
  | 0 => by simp [sl_n]
  | n + 1 => by
    have ih := sl_up h hl n
    show sl_n g' n + g' n ≤ sl_n g n + g n + _
    by_cases e : n = l
    · subst e
      rw [if_neg (by omega)] at ih
      rw [if_pos (by omega)]
      omega
    · rw [h n e]
      by_cases h2 : l < n
      · rw [if_pos h2] at ih; rw [if_pos (by omega)]; omega
      · rw [if_neg h2] at ih; rw [if_neg (by omega)]; omega
theorem sl_cg {g g' : Nat → Nat} : ∀ n, (∀ i, i < n → g' i = g i) → sl_n g' n = sl_n g n
  | 0, _ => rfl
  | n + 1, h => by
    show sl_n g' n + g' n = sl_n g n + g n
    rw [sl_cg n (fun i hi => h i (by omega)), h n (by omega)]
/-- both states, as far as answers show them -/
def iv_S (top : Nat) (c : Nat → ls_T) (kn vl : Nat → Int32) : Prop := 1 ≤ top ∧ top ≤ 3 ∧ re_K top c kn vl ∧ re_C top c ∧ cn_f (c top).1 ≤ 30 ∧ sl_n (fun l => cn_f (c l).1) top ≤ 60
theorem iv_lo {top : Nat} {c c' : Nat → ls_T} {kn vl kn' vl' : Nat → Int32} (h : iv_S top c kn vl) (h1 : re_K top c' kn' vl') (h2 : re_C top c') (h3 : cn_f (c' top).1 ≤ 30) (h4 : ∀ l, l < top → c' l = c l) : iv_S top c' kn' vl' := by
  obtain ⟨a1, a2, a3, a4, a5, a6⟩ := h
  refine ⟨a1, a2, h1, h2, h3, ?_⟩
  rw [sl_cg (g := fun l => cn_f (c l).1) top (fun i hi => by rw [h4 i hi])]
  exact a6
section RQS
variable {top : Nat} {c : Nat → ls_T} {kn vl : Nat → Int32}
theorem pp_pu (h : iv_S top c kn vl) {md x1 x2 x3 x4 : Int32} : ∃ v c' kn' vl', fx_put top c md x1 x2 x3 x4 = some (v, c') ∧ fq_put top md kn vl x1 x2 x3 x4 = some (v, kn', vl') ∧ iv_S top c' kn' vl' := by
  obtain ⟨a1, a2, a3, a4, a5, a6⟩ := h
  have h : iv_S top c kn vl := ⟨a1, a2, a3, a4, a5, a6⟩
  have hno : ∃ v c' kn' vl', (some ((0 : Int32), c) : Option (Int32 × (Nat → ls_T))) = some (v, c') ∧ (some ((0 : Int32), kn, vl) : Option (Int32 × (Nat → Int32) × (Nat → Int32))) = some (v, kn', vl') ∧ iv_S top c' kn' vl' := ⟨_, _, _, _, rfl, rfl, h⟩
  unfold fx_put fq_put
  rw [pc_of, qc_of, Option.bind_some, Option.bind_some]
  by_cases hm : md = 0
  · rw [if_pos hm, if_pos hm]
    rcases xc_il a2 x1 with ⟨a, b⟩ | ⟨l, hl, rfl, a, b⟩
    · rw [a, b, Option.bind_some, Option.bind_some, if_pos rfl, if_pos rfl]
      exact hno
    · rw [a, b, Option.bind_some, Option.bind_some, if_neg (show ¬ (1 : Int32) = 0 by decide), if_neg (show ¬ (1 : Int32) = 0 by decide)]
      cases hp : po_x x2 with
      | none =>
        rw [if_neg (by decide), if_pos (by decide)]
        exact hno
      | some p =>
        have h7 := po_lt hp
        have h6 := r6_lt h7
        rw [show pv_6 (some p) = nI (r6_p p) from rfl, show pv_5 (some p) = nI p from rfl]
        by_cases h0 : p = 0
        · subst h0
          rw [if_neg (by decide), if_pos (by decide)]
          exact hno
        · have h0' : 0 < p := by omega
          have hr0 := r6_pos h7 h0'
          rw [if_pos (by rw [nl_0]; exact nI_lt h0' (by omega)), if_neg (nI_nle hr0 (by omega))]
          by_cases hk1 : x3 < 1
          · rw [if_pos hk1, if_pos hk1]; exact hno
          · rw [if_neg hk1, if_neg hk1]
            by_cases hk4 : 4 < x3
            · rw [if_pos hk4, if_pos hk4]; exact hno
            · rw [if_neg hk4, if_neg hk4]
              have hkk : ∃ j, j ≤ 4 ∧ x3 = nI j := by
                have g0 : ¬ x3 < 0 := fun z => hk1 (Int32.lt_of_lt_of_le z (by decide))
                obtain ⟨j, hj, e⟩ := nI_of g0
                refine ⟨j, ?_, e⟩
                rw [e] at hk4
                exact Nat.not_lt.mp (fun z => hk4 (nI_lt (a := 4) z hj))
              have hkn : ¬ x3 = 0 := fun z => hk1 (by rw [z]; decide)
              have hmain : (x3 = 1 → 0 ≤ x4) → ∃ v c' kn' vl', fx_put_50 top md (nI l) x2 x3 x4 (nI p) c = some (v, c') ∧ fq_put_48 top md (nI l) x2 x3 x4 (nI (r6_p p)) kn vl = some (v, kn', vl') ∧ iv_S top c' kn' vl' := by
                intro hv
                have hk := re_ka a3 a2 hl h7
                have hkp := re_ka a3 a2 hl (p := (p - 1) / 5) (by omega)
                have h6p := r6_lt (p := (p - 1) / 5) (by omega)
                have hq0 : r6_p ((p - 1) / 5) = 0 ↔ (p - 1) / 5 = 0 := ⟨fun z => r6_inj (by omega) (by omega) (by rw [z]; rfl), fun z => by rw [z]; rfl⟩
                unfold fx_put_50 fq_put_48
                rw [ck_n (nn_ck (by omega) (by omega)), nI_clamp (by omega), yc_ka (by omega), Option.bind_some, nl_6, pk_div (by omega) (by omega) (by omega), r6_dv h7, ix_n, ck_n (nn_ck (by omega) (by omega)), nI_clamp (n := 1296 * l + r6_p ((p - 1) / 5)) (by omega)]
                -- the reference's next step, whatever is above
                have hst : ∀ z0 : Int32, (((p - 1) / 5 = 0 ∧ z0 = 2) ∨ (¬ (p - 1) / 5 = 0 ∧ z0 = ka_f (c l).1 ((p - 1) / 5))) → ∃ v c' kn' vl', (if ka_f (c l).1 p = 0 then (fp_parent (nI p)).bind fun r6 => (fy_canHoldIn (c l).1 r6).bind fun r8 => if r8 = 0 then some (0, c) else (fx_hasRoomIn top c (nI l)).bind fun r10 => if r10 = 0 then some (0, c) else if x3 = 1 then (fy_fileCell x4).bind fun r12 => fx_put_109 top md (nI l) x2 x3 x4 (nI p) r12 (nI p) c else fx_put_109 top md (nI l) x2 x3 x4 (nI p) x3 (nI p) c else some (0, c)) = some (v, c') ∧ fq_put_80 top md (nI l) x2 x3 x4 (nI (r6_p p)) (1296 * nI l) z0 kn vl = some (v, kn', vl') ∧ iv_S top c' kn' vl' := by
                  intro z0 hz
                  unfold fq_put_80
                  rw [ix_n, ck_n (nn_ck (by omega) (by omega)), nI_clamp (by omega)]
                  by_cases hf : ka_f (c l).1 p = 0
                  · rw [if_pos hf, if_neg (show ¬ 0 < kn (1296 * l + r6_p p) from by rw [← hk, hf]; decide), pc_pa (by omega) h0', Option.bind_some]
                    have hz2 : (z0 = 2 ∨ z0 = 3) ↔ ((p - 1) / 5 = 0 ∨ ka_f (c l).1 ((p - 1) / 5) = 2 ∨ ka_f (c l).1 ((p - 1) / 5) = 3) := by
                      rcases hz with ⟨e1, e2⟩ | ⟨e1, e2⟩
                      · exact ⟨fun _ => Or.inl e1, fun _ => Or.inl e2⟩
                      · rw [e2]; exact ⟨fun w => Or.inr w, fun w => w.resolve_left e1⟩
                    rcases yc_ch (f := (c l).1) (p := (p - 1) / 5) (by omega) with ⟨w1, w2⟩ | ⟨w1, w2⟩
                    · rw [w1, Option.bind_some, if_neg (show ¬ (1 : Int32) = 0 by decide)]
                      have hz3 := hz2.mpr w2
                      have hgo : (if z0 = 2 then fq_put_107 top md (nI l) x2 x3 x4 (nI (r6_p p)) (1296 * nI l) z0 kn vl else if z0 = 3 then fq_put_107 top md (nI l) x2 x3 x4 (nI (r6_p p)) (1296 * nI l) z0 kn vl else some (0, kn, vl)) = fq_put_107 top md (nI l) x2 x3 x4 (nI (r6_p p)) (1296 * nI l) z0 kn vl := by
                        rcases hz3 with e | e
                        · rw [if_pos e]
                        · by_cases e2 : z0 = 2
                          · rw [if_pos e2]
                          · rw [if_neg e2, if_pos e]
                      rw [hgo]
                      unfold fq_put_107
                      obtain ⟨r1, r2⟩ := qc_hr a3 a2 hl
                      rcases xc_hr a4 a2 hl with ⟨s1, s2⟩ | ⟨s1, s2⟩
                      · rw [s2, r1 s1, Option.bind_some, Option.bind_some, if_neg (show ¬ (1 : Int32) = 0 by decide), if_neg (show ¬ (1 : Int32) = 0 by decide), ix_n, ck_n (nn_ck (by omega) (by omega)), nI_clamp (by omega)]
                        unfold fq_put_148 fy_fileCell
                        rw [Option.bind_some, ck_n (nn_ck (by omega) (by omega)), ck_n (nn_ck (by omega) (by omega)), nI_clamp (by omega)]
                        have hset : ∀ v4 : Int32, (x3 = 1 → 0 ≤ v4) → ∃ v c' kn' vl', fx_put_109 top md (nI l) x2 x3 x4 (nI p) (ce_f x3 v4) (nI p) c = some (v, c') ∧ (some ((1 : Int32), upd kn (1296 * l + r6_p p) x3, upd vl (1296 * l + r6_p p) v4) : Option (Int32 × (Nat → Int32) × (Nat → Int32))) = some (v, kn', vl') ∧ iv_S top c' kn' vl' := by
                          intro v4 hv4
                          unfold fx_put_109
                          rw [nI_clamp (by omega), xs_st a4 hl h0' h7, Option.bind_some]
                          dsimp only
                          rw [xs_up]
                          refine ⟨_, _, _, _, rfl, rfl, a1, a2, st_K a3 a2 hl h0' h7 hkk hv4, st_C a4, ?_, ?_⟩
                          · by_cases e : top = l
                            · subst e
                              rw [st_se]
                              have := cn_up (f := (c top).1) (v := ce_f x3 v4) h7
                              unfold rm_b at s1
                              rw [if_pos rfl] at s1
                              omega
                            · rw [st_ne e]; exact a5
                          · by_cases e : l = top
                            · subst e
                              rw [sl_cg (g := fun i => cn_f (c i).1) l (fun i hi => by rw [st_ne (by omega)])]
                              exact a6
                            · unfold rm_b at s1
                              rw [if_neg e] at s1
                              have := sl_up (g := fun i => cn_f (c i).1) (g' := fun i => cn_f (st_c c l p (ce_f x3 v4) i).1) (l := l) (fun i hi => by rw [st_ne hi]) (by rw [st_se]; exact cn_up h7) top
                              rw [if_pos (by omega)] at this
                              omega
                        by_cases e1 : x3 = 1
                        · rw [if_pos e1, if_pos e1]
                          have := hset x4 hv
                          rw [show ce_f x3 x4 = x4 ^^^ (-1) from by unfold ce_f; rw [if_pos e1]] at this
                          exact this
                        · rw [if_neg e1, if_neg e1]
                          have := hset 0 (fun z => absurd z e1)
                          rw [show ce_f x3 0 = x3 from by unfold ce_f; rw [if_neg e1]] at this
                          exact this
                      · rw [s2, r2 s1, Option.bind_some, Option.bind_some, if_pos rfl, if_pos rfl]
                        exact hno
                    · have hz3 : ¬ (z0 = 2 ∨ z0 = 3) := fun w => w2 (hz2.mp w)
                      rw [w1, Option.bind_some, if_pos rfl, if_neg (fun w => hz3 (Or.inl w)), if_neg (fun w => hz3 (Or.inr w))]
                      exact hno
                  · have hpos : 0 < kn (1296 * l + r6_p p) := Int32.lt_of_le_of_ne (kk_nn a3 (by omega)) (fun z => hf (hk.trans z.symm))
                    rw [if_neg hf, if_pos hpos]
                    exact hno
                by_cases e : (p - 1) / 5 = 0
                · rw [if_pos (show nI (r6_p ((p - 1) / 5)) = 0 from by rw [hq0.mpr e]; rfl)]
                  exact hst 2 (Or.inl ⟨e, rfl⟩)
                · rw [if_neg (nI_ne0 (Nat.pos_of_ne_zero (fun z => e (hq0.mp z))) (by omega)), ← hkp]
                  exact hst _ (Or.inr ⟨e, rfl⟩)
              by_cases e1 : x3 = 1
              · rw [if_pos e1, if_pos e1]
                by_cases h4 : 0 ≤ x4
                · rw [if_pos h4, if_pos h4]; exact hmain (fun _ => h4)
                · rw [if_neg h4, if_neg h4]; exact hno
              · rw [if_neg e1, if_neg e1]; exact hmain (fun z => absurd z e1)
  · rw [if_neg hm, if_neg hm]
    exact hno
end RQS
