/-! what rename notes: the reference's side -/
theorem r6_mo {i j : Nat} (h : i < j) (hj : j < 781) : r6_p i < r6_p j := by
  have h1 : ((List.range 781).map r6_p).Pairwise (· < ·) := by
    rw [← r6_list]
    exact List.Pairwise.filter _ List.pairwise_lt_range
  have h2 := List.pairwise_map.mp h1
  have h3 := List.pairwise_iff_getElem.mp h2 i j (by rw [List.length_range]; omega) (by rw [List.length_range]; omega) h
  simpa using h3
theorem p5_mo {q q' : Nat} (h : q < q') (hq : q' < 1296) (h1 : ip_q q = true) (h2 : ip_q q' = true) : p5_q q < p5_q q' := by
  rcases Nat.lt_or_ge (p5_q q) (p5_q q') with z | z
  · exact z
  · have a := p5_inv (q := q) (by omega) h1
    have b := p5_inv (q := q') hq h2
    rcases Nat.lt_or_eq_of_le z with w | w
    · have := r6_mo w (p5_lt (by omega) h1)
      omega
    · rw [← w, b] at a
      omega
/-- the noted places among the numbers a .. a + n - 1 -/
def nl_L (O : Nat → Bool) (a : Nat) : Nat → List Nat
  | 0 => []
  | n + 1 => nl_L O a n ++ (if O (a + n) = true then [p5_q (a + n)] else [])
theorem nl_me {O : Nat → Bool} {a x : Nat} : ∀ n, x ∈ nl_L O a n ↔ ∃ q, a ≤ q ∧ q < a + n ∧ O q = true ∧ p5_q q = x
  | 0 => ⟨fun z => absurd z List.not_mem_nil, fun ⟨q, h1, h2, _⟩ => absurd h2 (by omega)⟩
  | n + 1 => by
    show x ∈ nl_L O a n ++ _ ↔ _
    rw [List.mem_append, nl_me n]
    constructor
    · rintro (⟨q, h1, h2, h3⟩ | h)
      · exact ⟨q, h1, by omega, h3⟩
      · by_cases hO : O (a + n) = true
        · rw [if_pos hO] at h
          exact ⟨a + n, by omega, by omega, hO, (List.mem_singleton.mp h).symm⟩
        · rw [if_neg hO] at h; cases h
    · rintro ⟨q, h1, h2, h3, h4⟩
      by_cases e : q = a + n
      · right
        subst e
        rw [if_pos h3, h4]
        exact List.mem_singleton.mpr rfl
      · left
        exact ⟨q, h1, by omega, h3, h4⟩
theorem nl_so {O : Nat → Bool} {a : Nat} (hO : ∀ q, O q = true → ip_q q = true) : ∀ n, a + n ≤ 1296 → (nl_L O a n).Pairwise (· < ·)
  | 0, _ => List.Pairwise.nil
  | n + 1, hn => by
    show (nl_L O a n ++ _).Pairwise _
    refine List.pairwise_append.mpr ⟨nl_so hO n (by omega), ?_, fun x hx y hy => ?_⟩
    · by_cases h : O (a + n) = true
      · rw [if_pos h]; exact List.pairwise_singleton _ _
      · rw [if_neg h]; exact List.Pairwise.nil
    · by_cases h : O (a + n) = true
      · rw [if_pos h] at hy
        obtain ⟨q, h1, h2, h3, h4⟩ := (nl_me n).mp hx
        rw [List.mem_singleton.mp hy, ← h4]
        exact p5_mo h2 (by omega) (hO q h3) (hO _ h)
      · rw [if_neg h] at hy; cases hy
theorem nl_ln {O : Nat → Bool} {a : Nat} : ∀ n, (nl_L O a n).length = ci_n O a n
  | 0 => rfl
  | n + 1 => by
    show (nl_L O a n ++ _).length = ci_n O a n + _
    rw [List.length_append, nl_ln n]
    by_cases h : O (a + n) = true
    · rw [if_pos h, if_pos h]; rfl
    · rw [if_neg h, if_neg h]; rfl
section NRF
variable {top : Nat} {c : Nat → ls_T} {kn vl : Nat → Int32}
/-- which numbers the reference notes -/
def ow_b (top : Nat) (c : Nat → ls_T) (s q : Nat) : Bool := decide ((q = r6_p s ∨ (dp_q (r6_p s) < dp_q q ∧ dv_q (dp_q q - dp_q (r6_p s)) q = r6_p s)) ∧ ip_q q = true ∧ ¬ fd_f top c (p5_q q) = 0)
/-- the reference's rows hold the list L -/
def nt_R (top : Nat) (c : Nat → ls_T) (vl : Nat → Int32) (L : List Nat) (nd nk nv : Nat → Int32) : Prop := ∀ i, i < L.length → nd i = nI (r6_p (L.getD i 0)) ∧ nk i = cd_r (fd_f top c (L.getD i 0)) ∧ nv i = ov_s top c vl (L.getD i 0)
def mm_L (s : Nat) (L : List Nat) : Nat := L.foldl (fun a p => max a (dp_p p - dp_p s)) 0
theorem nt_up {L : List Nat} {nd nk nv : Nat → Int32} {p : Nat} (h : nt_R top c vl L nd nk nv) : nt_R top c vl (L ++ [p]) (upd nd L.length (nI (r6_p p))) (upd nk L.length (cd_r (fd_f top c p))) (upd nv L.length (ov_s top c vl p)) := by
  intro i hi
  rw [List.length_append, List.length_singleton] at hi
  by_cases e : i = L.length
  · subst e
    rw [pk_us, pk_us, pk_us]
    have : (L ++ [p]).getD L.length 0 = p := by simp [List.getD]
    rw [this]
    exact ⟨rfl, rfl, rfl⟩
  · rw [pk_un e, pk_un e, pk_un e]
    have : (L ++ [p]).getD i 0 = L.getD i 0 := by
      have : i < L.length := by omega
      simp [List.getD, List.getElem?_append_left this]
    rw [this]
    exact h i (by omega)
theorem rr_ov {p : Nat} {R : q4_T} (h : rr_R (fun l => vl (1296 * l + r6_p p)) (top + 1) (fd_f top c p) R) (ht : top ≤ 3) (hf : ¬ fd_f top c p = 0) : R.2.2.2 = ov_s top c vl p := by
  unfold ov_s
  obtain ⟨-, -, r3, r4⟩ := h
  rcases r3_c (fd_f top c p) with ⟨f1, f2⟩ | ⟨f1, f2⟩ | ⟨f1, f2⟩
  · exact absurd f1 hf
  · rw [if_neg (fun z => absurd (Int32.lt_trans f1 z) (by decide))]
    exact (r4 f1).1
  · obtain ⟨l, l1, l2, l3, l4⟩ := r3 f1
    rw [if_pos f1, l2, xo_inv, nI_clamp (by omega), l4]
theorem qn_n (h : re_K top c kn vl) (h1 : 1 ≤ top) (ht : top ≤ 3) {s : Nat} (h0 : 0 < s) (hs : s < 781) (hB : ∀ n, r6_p s + n ≤ 1296 → (nl_L (ow_b top c s) (r6_p s) n).length ≤ 90) : ∀ (d m n : Nat) (fo pa fi va : Int32) (nd nk nv : Nat → Int32), r6_p s + n + d = 1296 → d < m → nt_R top c vl (nl_L (ow_b top c s) (r6_p s) n) nd nk nv → ∃ (R : q4_T) (nd' nk' nv' : Nat → Int32), fq_note_9 top kn vl (nI (r6_p s)) m (nI (mm_L s (nl_L (ow_b top c s) (r6_p s) n))) (nI (r6_p s + n)) fo pa fi va nd nk nv (nI (nl_L (ow_b top c s) (r6_p s) n).length) = some (nI (mm_L s (nl_L (ow_b top c s) (r6_p s) (n + d))), R.1, R.2.1, R.2.2.1, R.2.2.2, nd', nk', nv', nI (nl_L (ow_b top c s) (r6_p s) (n + d)).length) ∧ nt_R top c vl (nl_L (ow_b top c s) (r6_p s) (n + d)) nd' nk' nv'
  | 0, 0, _, _, _, _, _, _, _, _, _, h, _ => absurd h (by omega)
  | 0, m + 1, n, fo, pa, fi, va, nd, nk, nv, hq, _, hn => by
    have : r6_p s + n = 1296 := by omega
    rw [fq_note_9.eq_2]; dsimp only
    rw [this, if_pos (by decide)]
    exact ⟨(fo, pa, fi, va), nd, nk, nv, rfl, hn⟩
  | d + 1, 0, _, _, _, _, _, _, _, _, _, h, _ => absurd h (by omega)
  | d + 1, m + 1, n, fo, pa, fi, va, nd, nk, nv, hq, hm, hn => by
    have hr0 := r6_pos hs h0
    have hr := r6_lt hs
    have hnot : ¬ (1296 : Int32) ≤ nI (r6_p s + n) := nI_ge (a := r6_p s + n) (b := 1296) (by omega) (by omega)
    -- not noted
    have hskip : ¬ ow_b top c s (r6_p s + n) = true → ∀ (f1 f2 f3 f4 : Int32), ∃ (R : q4_T) (nd' nk' nv' : Nat → Int32), fq_note_9 top kn vl (nI (r6_p s)) m (nI (mm_L s (nl_L (ow_b top c s) (r6_p s) n))) (nI (r6_p s + n) + 1) f1 f2 f3 f4 nd nk nv (nI (nl_L (ow_b top c s) (r6_p s) n).length) = some (nI (mm_L s (nl_L (ow_b top c s) (r6_p s) (n + (d + 1)))), R.1, R.2.1, R.2.2.1, R.2.2.2, nd', nk', nv', nI (nl_L (ow_b top c s) (r6_p s) (n + (d + 1))).length) ∧ nt_R top c vl (nl_L (ow_b top c s) (r6_p s) (n + (d + 1))) nd' nk' nv' := by
      intro hO f1 f2 f3 f4
      have e : nl_L (ow_b top c s) (r6_p s) (n + 1) = nl_L (ow_b top c s) (r6_p s) n := by
        show _ ++ _ = _
        rw [if_neg hO, List.append_nil]
      have ih := qn_n h h1 ht h0 hs hB d m (n + 1) f1 f2 f3 f4 nd nk nv (by omega) (by omega) (by rw [e]; exact hn)
      rw [e, show n + 1 + d = n + (d + 1) by omega, ← Nat.add_assoc (r6_p s) n 1] at ih
      rw [nI_1]
      exact ih
    -- owned: looked at, and noted where something is found
    have hown : (r6_p s + n = r6_p s ∨ (dp_q (r6_p s) < dp_q (r6_p s + n) ∧ dv_q (dp_q (r6_p s + n) - dp_q (r6_p s)) (r6_p s + n) = r6_p s)) → ip_q (r6_p s + n) = true → ∃ (R : q4_T) (nd' nk' nv' : Nat → Int32), fq_note_36 top kn vl (nI (r6_p s)) (fq_note_9 top kn vl (nI (r6_p s)) m) (nI (mm_L s (nl_L (ow_b top c s) (r6_p s) n))) (nI (r6_p s + n)) fo pa fi va nd nk nv (nI (nl_L (ow_b top c s) (r6_p s) n).length) = some (nI (mm_L s (nl_L (ow_b top c s) (r6_p s) (n + (d + 1)))), R.1, R.2.1, R.2.2.1, R.2.2.2, nd', nk', nv', nI (nl_L (ow_b top c s) (r6_p s) (n + (d + 1))).length) ∧ nt_R top c vl (nl_L (ow_b top c s) (r6_p s) (n + (d + 1))) nd' nk' nv' := by
      intro hb hi
      have h7 := p5_lt (q := r6_p s + n) (by omega) hi
      have hinv := p5_inv (q := r6_p s + n) (by omega) hi
      have hp0 : 0 < p5_q (r6_p s + n) := by
        rcases Nat.eq_zero_or_pos (p5_q (r6_p s + n)) with z | z
        · rw [z] at hinv; have : r6_p 0 = 0 := rfl; omega
        · exact z
      obtain ⟨R, g1, g2, -, g4⟩ := qc_lo h h1 ht h7 (fo := fo) (pa := pa) (fi := fi) (va := va)
      rw [hinv] at g1
      unfold fq_note_36 fq_note_41 fq_note_53 fq_note_134 fq_note_135
      rw [if_neg (by decide), g1, Option.bind_some, if_neg (by decide)]
      by_cases hf : fd_f top c (p5_q (r6_p s + n)) = 0
      · rw [if_pos (show R.1 ≤ 0 from by rw [g2]; exact cd_pos.mpr hf)]
        exact hskip (fun z => (of_decide_eq_true z).2.2 hf) _ _ _ _
      · have hO : ow_b top c s (r6_p s + n) = true := decide_eq_true ⟨hb, hi, hf⟩
        have hv := rr_ov (g4 hp0) ht hf
        have hln := hB (n + 1) (by omega)
        have e : nl_L (ow_b top c s) (r6_p s) (n + 1) = nl_L (ow_b top c s) (r6_p s) n ++ [p5_q (r6_p s + n)] := by
          show _ ++ _ = _
          rw [if_pos hO]
        rw [e, List.length_append, List.length_singleton] at hln
        have hdq : dp_q (r6_p s + n) = dp_p (p5_q (r6_p s + n)) := by rw [← r6_dp h7, hinv]
        have hds := r6_dp hs
        have hle : dp_p s ≤ dp_p (p5_q (r6_p s + n)) := by
          rcases hb with z | z
          · rw [← hdq, z, hds]; exact Nat.le_refl _
          · rw [← hdq, ← hds]; omega
        have h4 := dp_le (p5_q (r6_p s + n))
        rw [if_neg (show ¬ R.1 ≤ 0 from by rw [g2]; exact fun z => hf (cd_pos.mp z)), ck_n (nn_ck (by omega) (by omega)), ck_n (nn_ck (by omega) (by omega)), ck_n (nn_ck (by omega) (by omega)), nI_clamp (by omega), qc_dp (by omega), Option.bind_some, qc_dp (by omega), Option.bind_some, hdq, hds, pk_sub hle, g2, hv, nI_1, nI_1]
        have hnt := nt_up (c := c) (vl := vl) (p := p5_q (r6_p s + n)) hn
        rw [hinv] at hnt
        have hmm : mm_L s (nl_L (ow_b top c s) (r6_p s) n ++ [p5_q (r6_p s + n)]) = max (mm_L s (nl_L (ow_b top c s) (r6_p s) n)) (dp_p (p5_q (r6_p s + n)) - dp_p s) := by
          unfold mm_L
          rw [List.foldl_append]
          rfl
        have hmb : mm_L s (nl_L (ow_b top c s) (r6_p s) n) ≤ 4 := by
          have : ∀ (L : List Nat) (a : Nat), a ≤ 4 → L.foldl (fun a p => max a (dp_p p - dp_p s)) a ≤ 4 := by
            intro L
            induction L with
            | nil => intro a ha; exact ha
            | cons x L ih => intro a ha; exact ih _ (Nat.max_le.mpr ⟨ha, by have := dp_le x; omega⟩)
          exact this _ 0 (by omega)
        have ih := qn_n h h1 ht h0 hs hB d m (n + 1) (cd_r (fd_f top c (p5_q (r6_p s + n)))) R.2.1 R.2.2.1 (ov_s top c vl (p5_q (r6_p s + n))) _ _ _ (by omega) (by omega) (by rw [e]; exact hnt)
        rw [e, hmm, List.length_append, List.length_singleton, show n + 1 + d = n + (d + 1) by omega, ← Nat.add_assoc (r6_p s) n 1] at ih
        by_cases hc : dp_p (p5_q (r6_p s + n)) - dp_p s ≤ mm_L s (nl_L (ow_b top c s) (r6_p s) n)
        · rw [if_pos (nI_le hc (by omega))]
          rw [Nat.max_eq_left hc] at ih
          exact ih
        · rw [if_neg (nI_ge (by omega) (by omega))]
          rw [Nat.max_eq_right (by omega)] at ih
          exact ih
    have hno : ¬ ow_b top c s (r6_p s + n) = true → ∃ (R : q4_T) (nd' nk' nv' : Nat → Int32), fq_note_40 top kn vl (nI (r6_p s)) (fq_note_9 top kn vl (nI (r6_p s)) m) (nI (mm_L s (nl_L (ow_b top c s) (r6_p s) n))) (nI (r6_p s + n)) fo pa fi va nd nk nv (nI (nl_L (ow_b top c s) (r6_p s) n).length) = some (nI (mm_L s (nl_L (ow_b top c s) (r6_p s) (n + (d + 1)))), R.1, R.2.1, R.2.2.1, R.2.2.2, nd', nk', nv', nI (nl_L (ow_b top c s) (r6_p s) (n + (d + 1))).length) ∧ nt_R top c vl (nl_L (ow_b top c s) (r6_p s) (n + (d + 1))) nd' nk' nv' := by
      intro hO
      unfold fq_note_40 fq_note_41 fq_note_53 fq_note_135
      rw [if_pos rfl, if_pos rfl]
      exact hskip hO _ _ _ _
    rw [fq_note_9.eq_2]; dsimp only
    rw [if_neg hnot]
    by_cases he : n = 0
    · subst he
      rw [if_pos (by rw [Nat.add_zero])]
      exact hown (Or.inl (by omega)) (by rw [Nat.add_zero]; exact r6_ip hs)
    · rw [if_neg (fun z => he (by have := (nI_eq (by omega) (by omega)).mp z; omega)), qc_ib (by omega) (by omega), Option.bind_some]
      by_cases hb : dp_q (r6_p s) < dp_q (r6_p s + n) ∧ dv_q (dp_q (r6_p s + n) - dp_q (r6_p s)) (r6_p s + n) = r6_p s
      · rw [if_neg (show ¬ (if dp_q (r6_p s) < dp_q (r6_p s + n) ∧ dv_q (dp_q (r6_p s + n) - dp_q (r6_p s)) (r6_p s + n) = r6_p s then (1 : Int32) else 0) = 0 from by rw [if_pos hb]; decide), qc_ip (by omega), Option.bind_some]
        by_cases hi : ip_q (r6_p s + n) = true
        · rw [if_neg (show ¬ (if 0 < r6_p s + n ∧ ip_q (r6_p s + n) = true then (1 : Int32) else 0) = 0 from by rw [if_pos ⟨by omega, hi⟩]; decide)]
          exact hown (Or.inr hb) hi
        · rw [if_pos (show (if 0 < r6_p s + n ∧ ip_q (r6_p s + n) = true then (1 : Int32) else 0) = 0 from by rw [if_neg (fun z => hi z.2)])]
          exact hno (fun z => hi (of_decide_eq_true z).2.1)
      · rw [if_pos (show (if dp_q (r6_p s) < dp_q (r6_p s + n) ∧ dv_q (dp_q (r6_p s + n) - dp_q (r6_p s)) (r6_p s + n) = r6_p s then (1 : Int32) else 0) = 0 from by rw [if_neg hb])]
        exact hno (fun z => by
          rcases (of_decide_eq_true z).1 with w | w
          · omega
          · exact hb w)
end NRF
