/-! what rename notes: the class's side, and the places below a source -/
/-- the place that lies to b as i lies to the root -/
def be_p (b i : Nat) : Nat := b * fN_n (dp_p i) + i
theorem be_0 (b : Nat) : be_p b 0 = b := by show b * 1 + 0 = b; omega
theorem N_dp {i d : Nat} (hi : i < 31) (h1 : 1 ≤ d) (h5 : d ≤ 5) : fN_n (dp_p (5 * i + d)) = 5 * fN_n (dp_p i) := by
  rw [dp_ch (by omega) h1 h5]
  have : dp_p i ≤ 2 := by unfold dp_p; (repeat' split) <;> omega
  rcases (by omega : dp_p i = 0 ∨ dp_p i = 1 ∨ dp_p i = 2) with e | e | e <;> rw [e] <;> rfl
theorem be_ch {b i d : Nat} (hi : i < 31) (h1 : 1 ≤ d) (h5 : d ≤ 5) : be_p b (5 * i + d) = 5 * be_p b i + d := by
  unfold be_p
  rw [N_dp hi h1 h5, Nat.mul_add, ← Nat.add_assoc, Nat.mul_left_comm]
theorem be_pa {b i : Nat} (h0 : 0 < i) (hi : i < 156) : be_p b i = 5 * be_p b ((i - 1) / 5) + ((i - 1) % 5 + 1) := by
  have := be_ch (b := b) (i := (i - 1) / 5) (d := (i - 1) % 5 + 1) (by omega) (by omega) (by omega)
  rw [show 5 * ((i - 1) / 5) + ((i - 1) % 5 + 1) = i by omega] at this
  exact this
theorem be_lt (b i : Nat) : b ≤ be_p b i := by
  have := fN_pos (dp_p i)
  unfold be_p
  have h2 : b * 1 ≤ b * fN_n (dp_p i) := Nat.mul_le_mul_left _ this
  omega
theorem be_mo {b i j : Nat} (h : i < j) : be_p b i < be_p b j := by
  have hd := dp_mo (x := i) (y := j) (by omega)
  have hN : fN_n (dp_p i) ≤ fN_n (dp_p j) := by
    have h4 := dp_le j
    have h4' := dp_le i
    rcases (by omega : dp_p j = 0 ∨ dp_p j = 1 ∨ dp_p j = 2 ∨ dp_p j = 3 ∨ dp_p j = 4) with e | e | e | e | e <;> rcases (by omega : dp_p i = 0 ∨ dp_p i = 1 ∨ dp_p i = 2 ∨ dp_p i = 3 ∨ dp_p i = 4) with e' | e' | e' | e' | e' <;> rw [e, e'] <;> simp only [fN_n] <;> omega
  unfold be_p
  have := Nat.mul_le_mul_left b hN
  omega
theorem be_big {b i : Nat} (h0 : 0 < b) (hb : b < 781) (hi : i < 156) : be_p b i < 2 ^ 20 := by
  have := fN_lt (dp_p i)
  unfold be_p
  have : b * fN_n (dp_p i) ≤ 781 * 626 := Nat.mul_le_mul (by omega) (by omega)
  omega
/-- depths add up -/
theorem be_dp : ∀ (n i b : Nat), i < n → 0 < b → i < 156 → be_p b i < 781 → dp_p (be_p b i) = dp_p b + dp_p i
  | 0, _, _, h, _, _, _ => absurd h (by omega)
  | n + 1, i, b, hn, h0, hi, h7 => by
    by_cases e : i = 0
    · subst e; rw [be_0]; rfl
    · have e1 := be_pa (b := b) (by omega) hi
      have ih := be_dp n ((i - 1) / 5) b (by omega) h0 (by omega) (by omega)
      rw [e1, dp_ch (by omega) (by omega) (by omega), ih]
      have e2 := dp_ch (p := (i - 1) / 5) (d := (i - 1) % 5 + 1) (by omega) (by omega) (by omega)
      rw [show 5 * ((i - 1) / 5) + ((i - 1) % 5 + 1) = i by omega] at e2
      rw [e2, Nat.add_assoc]
theorem be_ok : ∀ (n i b : Nat), i < n → i < 156 → b < 781 → dp_p b + dp_p i ≤ 4 → be_p b i < 781
  | 0, _, _, h, _, _, _ => absurd h (by omega)
  | n + 1, i, b, hn, hi, hb, h4 => by
    by_cases e : i = 0
    · subst e; rw [be_0]; exact hb
    · have e1 := be_pa (b := b) (by omega) hi
      have e2 := dp_ch (p := (i - 1) / 5) (d := (i - 1) % 5 + 1) (by omega) (by omega) (by omega)
      rw [show 5 * ((i - 1) / 5) + ((i - 1) % 5 + 1) = i by omega] at e2
      have ih := be_ok n ((i - 1) / 5) b (by omega) (by omega) hb (by omega)
      by_cases hb0 : b = 0
      · subst hb0
        have : be_p 0 i = i := by unfold be_p; omega
        omega
      · have hd := be_dp (i + 1) ((i - 1) / 5) b (by omega) (by omega) (by omega) ih
        have := dp_156.mp (show dp_p (be_p b ((i - 1) / 5)) ≤ 3 by omega)
        omega
theorem be_r6 : ∀ (n i b : Nat), i < n → i < 156 → be_p b i < 781 → r6_p (be_p b i) = r6_p b * 6 ^ dp_p i + r6_p i
  | 0, _, _, h, _, _ => absurd h (by omega)
  | n + 1, i, b, hn, hi, h7 => by
    by_cases e : i = 0
    · subst e; rw [be_0]; show r6_p b = r6_p b * 1 + 0; omega
    · have e1 := be_pa (b := b) (by omega) hi
      have e2 := dp_ch (p := (i - 1) / 5) (d := (i - 1) % 5 + 1) (by omega) (by omega) (by omega)
      have e3 := r6_ch (p := (i - 1) / 5) (d := (i - 1) % 5 + 1) (by omega) (by omega) (by omega)
      rw [show 5 * ((i - 1) / 5) + ((i - 1) % 5 + 1) = i by omega] at e2 e3
      have ih := be_r6 n ((i - 1) / 5) b (by omega) (by omega) (by omega)
      rw [e1, r6_ch (by omega) (by omega) (by omega), ih, e2, e3, Nat.pow_succ, Nat.mul_add, ← Nat.mul_assoc (r6_p b), Nat.mul_comm 6 (r6_p b * 6 ^ dp_p ((i - 1) / 5)), Nat.add_assoc]
theorem up_be : ∀ (k x b i : Nat), k = dp_p i → i < 156 → x = be_p b i → up_p k x = b
  | 0, x, b, i, hk, hi, hx => by
    have : i = 0 := by unfold dp_p at hk; (repeat' split at hk) <;> omega
    subst this
    rw [hx, be_0]; rfl
  | k + 1, x, b, i, hk, hi, hx => by
    have h0 : 0 < i := by
      rcases Nat.eq_zero_or_pos i with z | z
      · subst z; cases hk
      · exact z
    have e1 := be_pa (b := b) h0 hi
    have e2 := dp_ch (p := (i - 1) / 5) (d := (i - 1) % 5 + 1) (by omega) (by omega) (by omega)
    rw [show 5 * ((i - 1) / 5) + ((i - 1) % 5 + 1) = i by omega] at e2
    show up_p k ((x - 1) / 5) = b
    exact up_be k _ b ((i - 1) / 5) (by omega) (by omega) (by omega)
/-- the places below b are those that lie to it as some i to the root -/
theorem be_bz {b i : Nat} (h0 : 0 < b) (hi : i < 156) (h7 : be_p b i < 781) : bz_p b (be_p b i) := by
  have hd := be_dp (i + 1) i b (by omega) h0 hi h7
  by_cases e : i = 0
  · subst e; exact Or.inl (be_0 b)
  · refine Or.inr ⟨?_, ?_⟩
    · have : 0 < dp_p i := by unfold dp_p; (repeat' split) <;> omega
      omega
    · rw [hd, Nat.add_sub_cancel_left]
      exact up_be _ _ b i rfl hi rfl
theorem bz_be : ∀ (k x b : Nat), up_p k x = b → k ≤ dp_p x → k ≤ 3 → ∃ i, dp_p i = k ∧ i < 156 ∧ x = be_p b i
  | 0, x, b, h, _, _ => ⟨0, rfl, by omega, by rw [be_0]; exact h⟩
  | k + 1, x, b, h, hk, h3 => by
    have hx : 0 < x := by
      rcases Nat.eq_zero_or_pos x with z | z
      · subst z; simp [dp_p] at hk
      · exact z
    have hdx : k ≤ dp_p ((x - 1) / 5) := by
      have : k + 1 ≤ dp_p x := hk
      unfold dp_p at this ⊢
      (repeat' split at this) <;> (repeat' split) <;> omega
    obtain ⟨i, hd, hi, e⟩ := bz_be k ((x - 1) / 5) b h hdx (by omega)
    have hi31 : i < 31 := by
      unfold dp_p at hd
      (repeat' split at hd) <;> omega
    refine ⟨5 * i + ((x - 1) % 5 + 1), by rw [dp_ch hi (by omega) (by omega), hd], by omega, ?_⟩
    rw [be_ch hi31 (by omega) (by omega), ← e]
    omega
theorem bz_iff {b x : Nat} (h0 : 0 < b) (hx : x < 781) : bz_p b x ↔ ∃ i, i < 156 ∧ be_p b i = x := by
  constructor
  · rintro (h | ⟨h1, h2⟩)
    · exact ⟨0, by omega, by rw [be_0, h]⟩
    · have h4 := dp_le x
      have hb : 0 < dp_p b := by unfold dp_p; (repeat' split) <;> omega
      obtain ⟨i, -, hi, e⟩ := bz_be (dp_p x - dp_p b) x b h2 (by omega) (by omega)
      exact ⟨i, hi, e.symm⟩
  · rintro ⟨i, hi, e⟩
    rw [← e]
    exact be_bz h0 hi (by omega)
/-- two rising lists with the same numbers are one -/
theorem so_eq : ∀ (l1 l2 : List Nat), l1.Pairwise (· < ·) → l2.Pairwise (· < ·) → (∀ x, x ∈ l1 ↔ x ∈ l2) → l1 = l2
  | [], [], _, _, _ => rfl
  | [], b :: l2, _, _, h => absurd ((h b).mpr List.mem_cons_self) List.not_mem_nil
  | a :: l1, [], _, _, h => absurd ((h a).mp List.mem_cons_self) List.not_mem_nil
  | a :: l1, b :: l2, h1, h2, h => by
    obtain ⟨a1, a2⟩ := List.pairwise_cons.mp h1
    obtain ⟨b1, b2⟩ := List.pairwise_cons.mp h2
    have hab : a = b := by
      rcases List.mem_cons.mp ((h a).mp List.mem_cons_self) with z | z
      · exact z
      · rcases List.mem_cons.mp ((h b).mpr List.mem_cons_self) with w | w
        · exact w.symm
        · have := b1 a z
          have := a1 b w
          omega
    subst hab
    rw [so_eq l1 l2 a2 b2 (fun x => ?_)]
    constructor
    · intro z
      rcases List.mem_cons.mp ((h x).mp (List.mem_cons_of_mem _ z)) with w | w
      · have := a1 x z; omega
      · exact w
    · intro z
      rcases List.mem_cons.mp ((h x).mpr (List.mem_cons_of_mem _ z)) with w | w
      · have := b1 x z; omega
      · exact w
section NOT
variable {top : Nat} {c : Nat → ls_T} {kn vl : Nat → Int32}
/-- the cell that an object would have, made anew -/
def oc_s (top : Nat) (c : Nat → ls_T) (p : Nat) : Int32 := if p < 781 then (if fd_f top c p < 0 then (c (fd_f top c p ^^^ (-1)).toNatClampNeg).1 p else if 0 < fd_f top c p then 2 else 0) else 0
theorem xc_co (ht : top ≤ 3) {p : Nat} (hp : p < 2 ^ 20) : fx_cellOfObject top c (nI p) = some (oc_s top c p) := by
  unfold fx_cellOfObject oc_s
  rw [nl_781]
  by_cases h7 : p < 781
  · rw [if_pos h7, if_pos (nI_lt h7 (by omega)), xc_fd (by omega) (by omega), Option.bind_some, xc_if, Option.bind_some]
    rcases r3_c (fd_f top c p) with ⟨f1, f2⟩ | ⟨f1, f2⟩ | ⟨f1, f2⟩
    · rw [if_pos (show (if 0 ≤ fd_f top c p then (0 : Int32) else 1) = 0 from by rw [if_pos (by rw [f1]; decide)]), xc_id, Option.bind_some, if_pos (show (if fd_f top c p ≤ 0 then (0 : Int32) else 1) = 0 from by rw [if_pos (by rw [f1]; decide)]), if_neg (show ¬ fd_f top c p < 0 from by rw [f1]; decide), if_neg (show ¬ 0 < fd_f top c p from by rw [f1]; decide)]
    · rw [if_pos (show (if 0 ≤ fd_f top c p then (0 : Int32) else 1) = 0 from by rw [if_pos (lt_le f1)]), xc_id, Option.bind_some, if_neg (show ¬ (if fd_f top c p ≤ 0 then (0 : Int32) else 1) = 0 from by rw [if_neg (lt_nle f1)]; decide), if_neg (show ¬ fd_f top c p < 0 from fun z => absurd (Int32.lt_trans f1 z) (by decide)), if_pos f1]
    · obtain ⟨l, l1, l2, l3⟩ := fd_neg ht f1
      have x1 : fx_layerOfFile (fd_f top c p) = some (nI l) := by rw [l3]; exact xl_of
      have x2 : (fd_f top c p ^^^ (-1)).toNatClampNeg = l := by rw [l3, xo_inv, nI_clamp (by omega)]
      unfold fy_fileCell
      rw [if_neg (show ¬ (if 0 ≤ fd_f top c p then (0 : Int32) else 1) = 0 from by rw [if_neg (lt_nle f1)]; decide), x1, Option.bind_some, ck_n (nn_ck (by omega) l1), nI_clamp (by omega), yc_va (by omega), Option.bind_some, Option.bind_some, if_pos l2, xo_inv, if_pos f1, x2]
  · rw [if_neg h7, if_neg (nI_nlt (by omega) (by omega))]
/-- the file's value in the reference -/
def ov_s (top : Nat) (c : Nat → ls_T) (vl : Nat → Int32) (p : Nat) : Int32 := if fd_f top c p < 0 then vl (1296 * (fd_f top c p ^^^ (-1)).toNatClampNeg + r6_p p) else 0
theorem oc_ce (h : re_K top c kn vl) (ht : top ≤ 3) {p : Nat} (h7 : p < 781) (hf : ¬ fd_f top c p = 0) : oc_s top c p = ce_f (cd_r (fd_f top c p)) (ov_s top c vl p) ∧ (cd_r (fd_f top c p) = 1 → 0 ≤ ov_s top c vl p) ∧ (cd_r (fd_f top c p) = 2 → ov_s top c vl p = 0) ∧ (cd_r (fd_f top c p) = 1 ∨ cd_r (fd_f top c p) = 2) := by
  unfold oc_s ov_s
  rw [if_pos h7]
  rcases r3_c (fd_f top c p) with ⟨f1, f2⟩ | ⟨f1, f2⟩ | ⟨f1, f2⟩
  · exact absurd f1 hf
  · have hn : ¬ fd_f top c p < 0 := fun z => absurd (Int32.lt_trans f1 z) (by decide)
    rw [if_neg hn, if_neg hn, if_pos f1, f2]
    exact ⟨by decide, fun z => absurd z (by decide), fun _ => rfl, Or.inr rfl⟩
  · obtain ⟨l, l1, l2, l3⟩ := fd_neg ht f1
    have x2 : (fd_f top c p ^^^ (-1)).toNatClampNeg = l := by rw [l3, xo_inv, nI_clamp (by omega)]
    rw [if_pos f1, if_pos f1, f2, x2]
    obtain ⟨a, b⟩ := h.2.1 l (by omega) p h7
    have hk : kn (1296 * l + r6_p p) = 1 := (re_ka h ht (by omega) h7).symm.trans l2
    rw [hk] at a b
    exact ⟨a, fun _ => b rfl, fun z => absurd z (by decide), Or.inl rfl⟩
theorem oc_0 (ht : top ≤ 3) {p : Nat} (h : re_K top c kn vl) : oc_s top c p = 0 ↔ ¬ (p < 781 ∧ ¬ fd_f top c p = 0) := by
  by_cases h7 : p < 781
  · by_cases hf : fd_f top c p = 0
    · refine ⟨fun _ z => z.2 hf, fun _ => ?_⟩
      unfold oc_s
      rw [if_pos h7, if_neg (by rw [hf]; decide), if_neg (by rw [hf]; decide)]
    · obtain ⟨e, e1, -, e3⟩ := oc_ce h ht h7 hf
      refine ⟨fun z => ?_, fun z => absurd ⟨h7, hf⟩ z⟩
      rw [e, ce_0 e1] at z
      rcases e3 with w | w
      · rw [w] at z; exact absurd z (by decide)
      · rw [w] at z; exact absurd z (by decide)
  · refine ⟨fun _ z => h7 z.1, fun _ => ?_⟩
    unfold oc_s
    rw [if_neg h7]
theorem oc_2 (ht : top ≤ 3) {p : Nat} (h : re_K top c kn vl) : oc_s top c p = 2 ↔ (p < 781 ∧ 0 < fd_f top c p) := by
  by_cases h7 : p < 781
  · by_cases hf : fd_f top c p = 0
    · refine ⟨fun z => ?_, fun z => absurd z.2 (by rw [hf]; decide)⟩
      rw [(oc_0 ht h).mpr (fun w => w.2 hf)] at z
      exact absurd z (by decide)
    · obtain ⟨e, e1, -, e3⟩ := oc_ce h ht h7 hf
      rw [e, ce_2 e1]
      exact ⟨fun z => ⟨h7, cd_two.mp z⟩, fun z => cd_two.mpr z.2⟩
  · refine ⟨fun z => ?_, fun z => absurd z.1 h7⟩
    rw [(oc_0 ht h).mpr (fun w => h7 w.1)] at z
    exact absurd z (by decide)
theorem xn_n (h : re_K top c kn vl) (ht : top ≤ 3) {s : Nat} (h0 : 0 < s) (hs : s < 781) : ∀ (d m i : Nat) (nf : Nat → Int32), i + d = 156 → 1 ≤ i → d < m → (∀ j, j < i → nf j = oc_s top c (be_p s j)) → ∃ nf', fx_noteFrom_13 top c (nI s) m (nI i) nf = some nf' ∧ ∀ j, j < 156 → nf' j = oc_s top c (be_p s j)
  | 0, 0, _, _, _, _, h, _ => absurd h (by omega)
  | 0, m + 1, i, nf, hi, _, _, hn => by
    have : i = 156 := by omega
    subst this
    rw [fx_noteFrom_13.eq_2]; dsimp only
    rw [if_pos (by decide)]
    exact ⟨nf, rfl, hn⟩
  | d + 1, 0, _, _, _, _, h, _ => absurd h (by omega)
  | d + 1, m + 1, i, nf, hi, h1, hm, hn => by
    have hb := be_big h0 hs (i := i) (by omega)
    rw [fx_noteFrom_13.eq_2]; dsimp only
    rw [if_neg (show ¬ (156 : Int32) ≤ nI i from nI_ge (a := i) (b := 156) (by omega) (by omega)), pc_pa (by omega) h1, Option.bind_some, ck_n (nn_ck (by omega) (by omega)), nI_clamp (by omega)]
    unfold fx_noteFrom_40 fx_noteFrom_63
    rw [hn ((i - 1) / 5) (by omega)]
    have hgo : ∀ v : Int32, v = oc_s top c (be_p s i) → ∃ nf', ck_d (nI i < 0 ∨ 156 ≤ (nI i).toNatClampNeg) (fx_noteFrom_13 top c (nI s) m (nI i + 1) (upd nf (nI i).toNatClampNeg v)) = some nf' ∧ ∀ j, j < 156 → nf' j = oc_s top c (be_p s j) := by
      intro v hv
      rw [ck_n (nn_ck (by omega) (by omega)), nI_clamp (by omega), nI_1]
      refine xn_n h ht h0 hs d m (i + 1) _ (by omega) (by omega) (by omega) (fun j hj => ?_)
      by_cases e : j = i
      · rw [e, pk_us]; exact hv
      · rw [pk_un e]; exact hn j (by omega)
    by_cases h2 : oc_s top c (be_p s ((i - 1) / 5)) = 2
    · rw [if_pos h2, if_neg (by decide), pc_be (by omega), Option.bind_some, show nI (s * fN_n (dp_p i) + i) = nI (be_p s i) from rfl, xc_co ht hb, Option.bind_some]
      exact hgo _ rfl
    · rw [if_neg h2, if_pos rfl]
      refine hgo 0 ?_
      refine ((oc_0 ht h).mpr (fun z => z.2 ?_)).symm
      have e1 := be_pa (b := s) (i := i) (by omega) (by omega)
      have hnp : ¬ 0 < fd_f top c (be_p s ((i - 1) / 5)) := fun w => h2 ((oc_2 ht h).mpr ⟨by omega, w⟩)
      rw [e1]
      exact fd_dd (by omega) (by omega) (by omega) hnp
theorem xc_nf (h : re_K top c kn vl) (ht : top ≤ 3) {s : Nat} (h0 : 0 < s) (hs : s < 781) {nf : Nat → Int32} : ∃ nf', fx_noteFrom top c nf (nI s) = some nf' ∧ ∀ j, j < 156 → nf' j = oc_s top c (be_p s j) := by
  unfold fx_noteFrom
  rw [xc_co ht (by omega), Option.bind_some, ck_n (by decide)]
  refine xn_n h ht h0 hs 155 fu_n 1 _ (by omega) (by omega) (by unfold fu_n; omega) (fun j hj => ?_)
  have : j = 0 := by omega
  subst this
  rw [show (0 : Int32).toNatClampNeg = 0 from rfl, pk_us, be_0]
/-- the greatest depth of those i < n that P has -/
def mx_n (P : Nat → Bool) : Nat → Nat
  | 0 => 0
  | n + 1 => if P n = true then dp_p n else mx_n P n
theorem mx_le (P : Nat → Bool) : ∀ n, mx_n P n ≤ dp_p (n - 1)
  | 0 => Nat.zero_le _
  | n + 1 => by
    have ih := mx_le P n
    show (if P n = true then dp_p n else mx_n P n) ≤ dp_p (n + 1 - 1)
    rw [Nat.add_sub_cancel]
    split
    · exact Nat.le_refl _
    · exact Nat.le_trans ih (dp_mo (by omega))
theorem xd_l {nf : Nat → Int32} : ∀ (d m i : Nat), i + d = 156 → d < m → fx_depthOfNoted_4 nf m (nI (mx_n (fun j => decide (¬ nf j = 0)) i)) (nI i) = some (nI (mx_n (fun j => decide (¬ nf j = 0)) 156))
  | 0, 0, _, _, h => absurd h (by omega)
  | 0, m + 1, i, hi, _ => by
    have : i = 156 := by omega
    subst this
    rw [fx_depthOfNoted_4.eq_2]; dsimp only
    rw [if_pos (by decide)]
  | d + 1, 0, _, _, h => absurd h (by omega)
  | d + 1, m + 1, i, hi, hm => by
    rw [fx_depthOfNoted_4.eq_2]; dsimp only
    rw [if_neg (show ¬ (156 : Int32) ≤ nI i from nI_ge (a := i) (b := 156) (by omega) (by omega)), ck_n (nn_ck (by omega) (by omega)), nI_clamp (by omega)]
    unfold fx_depthOfNoted_27
    have ih := xd_l (nf := nf) d m (i + 1) (by omega) (by omega)
    have e : mx_n (fun j => decide (¬ nf j = 0)) (i + 1) = if ¬ nf i = 0 then dp_p i else mx_n (fun j => decide (¬ nf j = 0)) i := by
      show (if _ then _ else _) = _
      simp only [decide_eq_true_eq]
    rw [e] at ih
    rw [nI_1]
    by_cases hz : nf i = 0
    · rw [if_pos hz]
      rw [if_neg (fun z => z hz)] at ih
      exact ih
    · rw [if_neg hz, pc_dp (by omega), Option.bind_some]
      rw [if_pos hz] at ih
      exact ih
theorem xc_dn {nf : Nat → Int32} : fx_depthOfNoted nf = some (nI (mx_n (fun j => decide (¬ nf j = 0)) 156)) := xd_l 156 fu_n 0 (by omega) (by unfold fu_n; omega)
end NOT
