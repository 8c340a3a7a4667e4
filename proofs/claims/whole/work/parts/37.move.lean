/-! the moves of rename: both sides make the same objects in the same order -/
section MOV
variable {top : Nat} {c : Nat → ls_T} {kn vl : Nat → Int32}
def pn_b (top : Nat) (c : Nat → ls_T) (s i : Nat) : Bool := decide (be_p s i < 781 ∧ ¬ fd_f top c (be_p s i) = 0)
theorem nl_fi {s : Nat} (h0 : 0 < s) (hs : s < 781) : nl_L (ow_b top c s) (r6_p s) (1296 - r6_p s) = ((List.range 156).filter (pn_b top c s)).map (be_p s) := by
  have hr := r6_lt hs
  refine so_eq _ _ (nl_so (fun q hq => (of_decide_eq_true hq).2.1) _ (by omega)) ?_ (fun x => ?_)
  · refine List.pairwise_map.mpr ?_
    exact List.Pairwise.imp (fun h => be_mo h) (List.Pairwise.filter _ List.pairwise_lt_range)
  · rw [nl_me, List.mem_map]
    constructor
    · rintro ⟨q, q1, q2, q3, q4⟩
      obtain ⟨a, b, d⟩ := of_decide_eq_true q3
      have h7 := p5_lt (q := q) (by omega) b
      have hi := p5_inv (q := q) (by omega) b
      have hz : bz_p s (p5_q q) := by
        refine (bz_r hs h7).mp ?_
        rw [hi]
        exact a
      obtain ⟨i, i1, i2⟩ := (bz_iff h0 h7).mp hz
      refine ⟨i, List.mem_filter.mpr ⟨List.mem_range.mpr i1, decide_eq_true ⟨by omega, by rw [i2]; exact d⟩⟩, by rw [i2]; exact q4⟩
    · rintro ⟨i, i1, i2⟩
      obtain ⟨j1, j2⟩ := List.mem_filter.mp i1
      have hi := List.mem_range.mp j1
      obtain ⟨a, b⟩ := of_decide_eq_true j2
      rw [i2] at a b
      have hz : bz_p s x := (bz_iff h0 a).mpr ⟨i, hi, i2⟩
      have hge := be_lt s i
      have h6 := r6_lt a
      have hle : r6_p s ≤ r6_p x := by
        rcases Nat.lt_or_eq_of_le (show s ≤ x by omega) with w | w
        · exact Nat.le_of_lt (r6_mo w a)
        · rw [w]; exact Nat.le_refl _
      exact ⟨r6_p x, hle, by omega, decide_eq_true ⟨(bz_r hs a).mpr hz, r6_ip a, by rw [r6_inv a]; exact b⟩, r6_inv a⟩
theorem cs_or {P : Nat → Bool} {Q : Nat → Nat → Bool} {n : Nat} : ∀ N, (∀ p, p < N → P p = true → ∃ l, l < n ∧ Q l p = true) → cs_n P N ≤ sl_n (fun l => cs_n (Q l) N) n
  | 0, _ => Nat.zero_le _
  | N + 1, h => by
    have ih := cs_or N (fun p hp => h p (by omega))
    have e : ∀ k, sl_n (fun l => cs_n (Q l) (N + 1)) k = sl_n (fun l => cs_n (Q l) N) k + sl_n (fun l => if Q l N = true then 1 else 0) k := by
      intro k
      induction k with
      | zero => rfl
      | succ k ih =>
        show sl_n _ k + (cs_n (Q k) N + _) = sl_n _ k + _ + (sl_n _ k + _)
        rw [ih]; dsimp only; omega
    rw [e]
    show cs_n P N + _ ≤ _
    by_cases hp : P N = true
    · rw [if_pos hp]
      obtain ⟨l, l1, l2⟩ := h N (by omega) hp
      have : ∀ k, l < k → 1 ≤ sl_n (fun l => if Q l N = true then 1 else 0) k := by
        intro k
        induction k with
        | zero => intro z; omega
        | succ k ih =>
          intro z
          show 1 ≤ sl_n _ k + (if Q k N = true then 1 else 0)
          by_cases e : l = k
          · subst e; rw [if_pos l2]; omega
          · have := ih (by omega); omega
      have := this n l1
      omega
    · rw [if_neg hp]; omega
theorem fd_en {p : Nat} (h0 : 0 < p) (hf : ¬ fd_f top c p = 0) : ∃ l, l < top + 1 ∧ ¬ (c l).1 p = 0 := by
  refine Classical.byContradiction (fun hn => hf ?_)
  have hall : ∀ l, l < top + 1 → ka_f (c l).1 p = 0 := by
    intro l hl
    have : (c l).1 p = 0 := Classical.byContradiction (fun z => hn ⟨l, hl, z⟩)
    unfold ka_f
    rw [this]
    split
    · rfl
    · rfl
  unfold fd_f
  have hd : ∃ d, dp_p p = d + 1 := ⟨dp_p p - 1, by unfold dp_p; (repeat' split) <;> omega⟩
  obtain ⟨d, hd⟩ := hd
  rw [hd]
  show (if _ then _ else _) = _
  rw [fa_00 (top + 1) hall]
  split
  · rfl
  · rfl
theorem nl_bd (h : iv_S top c kn vl) {s : Nat} (h0 : 0 < s) (hs : s < 781) : ∀ n, r6_p s + n ≤ 1296 → (nl_L (ow_b top c s) (r6_p s) n).length ≤ 90 := by
  intro n hn
  obtain ⟨a1, a2, a3, a4, a5, a6⟩ := h
  have hr0 := r6_pos hs h0
  rw [nl_ln]
  have e1 : ci_n (ow_b top c s) (r6_p s) n ≤ cs_n (ow_b top c s) 1296 := by
    rw [ci_cs, show 1296 = r6_p s + (n + (1296 - r6_p s - n)) by omega, ci_add, ci_add, Nat.zero_add]
    omega
  have e2 := cq_cs (P := ow_b top c s) (fun q _ hq => (of_decide_eq_true hq).2.1)
  have e3 := cs_or (P := fun p => ow_b top c s (r6_p p)) (Q := fun l p => decide (¬ (c l).1 p = 0)) (n := top + 1) 781 (fun p hp hq => by
    obtain ⟨x1, -, x3⟩ := of_decide_eq_true hq
    rw [r6_inv hp] at x3
    have hp0 : 0 < p := by
      rcases Nat.eq_zero_or_pos p with z | z
      · subst z
        rcases x1 with w | ⟨w, -⟩
        · have : r6_p 0 = 0 := rfl
          omega
        · rw [r6_0] at w
          have : dp_q 0 = 0 := rfl
          omega
      · exact z
    obtain ⟨l, l1, l2⟩ := fd_en hp0 x3
    exact ⟨l, l1, decide_eq_true l2⟩)
  have e4 : sl_n (fun l => cs_n (fun p => decide (¬ (c l).1 p = 0)) 781) (top + 1) = sl_n (fun l => cn_f (c l).1) top + cn_f (c top).1 := rfl
  rw [e4] at e3
  omega
theorem fl_gd {P : Nat → Bool} {f : Nat → Nat} {N i : Nat} (hi : i < N) (hP : P i = true) : cs_n P i < cs_n P N ∧ (((List.range N).filter P).map f).length = cs_n P N ∧ (((List.range N).filter P).map f).getD (cs_n P i) 0 = f i := by
  have e0 : List.range N = List.range i ++ (i :: List.range' (i + 1) (N - i - 1)) := by
    rw [List.range_eq_range', List.range_eq_range', show N = i + ((N - i - 1) + 1) by omega, ← List.range'_append_1, Nat.zero_add, List.range'_succ]
    congr 3
    omega
  have el : ((List.range N).filter P).length = cs_n P N := by rw [cs_l, List.countP_eq_length_filter]
  have ei : ((List.range i).filter P).length = cs_n P i := by rw [cs_l, List.countP_eq_length_filter]
  have ef : (List.range N).filter P = (List.range i).filter P ++ (i :: (List.range' (i + 1) (N - i - 1)).filter P) := by
    rw [e0, List.filter_append, List.filter_cons_of_pos hP]
  refine ⟨?_, by rw [List.length_map, el], ?_⟩
  · rw [← el, ef, List.length_append, ei, List.length_cons]; omega
  · rw [ef, List.map_append, List.map_cons, List.getD_eq_getElem?_getD, ← ei, ← List.length_map (f := f), List.getElem?_append_right (Nat.le_refl _), Nat.sub_self]
    rfl
theorem mm_mx {s : Nat} (h0 : 0 < s) (hs : s < 781) : mm_L s (((List.range 156).filter (pn_b top c s)).map (be_p s)) = mx_n (pn_b top c s) 156 := by
  unfold mm_L
  rw [List.foldl_map]
  have : ∀ n, n ≤ 156 → ((List.range n).filter (pn_b top c s)).foldl (fun a i => max a (dp_p (be_p s i) - dp_p s)) 0 = mx_n (pn_b top c s) n := by
    intro n
    induction n with
    | zero => intro _; rfl
    | succ n ih =>
      intro hn
      rw [List.range_succ, List.filter_append, List.foldl_append, ih (by omega)]
      show _ = (if pn_b top c s n = true then dp_p n else mx_n (pn_b top c s) n)
      by_cases hp : pn_b top c s n = true
      · have h7 := (of_decide_eq_true hp).1
        have hd := be_dp (n + 1) n s (by omega) h0 (by omega) h7
        have hm := mx_le (pn_b top c s) n
        have hm2 := dp_mo (x := n - 1) (y := n) (by omega)
        rw [if_pos hp, List.filter_cons_of_pos hp]
        show max (mx_n (pn_b top c s) n) (dp_p (be_p s n) - dp_p s) = _
        rw [hd, Nat.add_sub_cancel_left]
        exact Nat.max_eq_right (by omega)
      · rw [if_neg hp, List.filter_cons_of_neg hp]
        rfl
  exact this 156 (Nat.le_refl _)
end MOV
