/-! looks at the tree: class and reference answer alike -/
theorem xc_id (r : Int32) : fx_isDirectory r = some (if r ≤ 0 then 0 else 1) := by
  unfold fx_isDirectory
  by_cases h : r ≤ 0
  · rw [if_pos h, if_pos h]
  · rw [if_neg h, if_neg h]
theorem xc_if (r : Int32) : fx_isFile r = some (if 0 ≤ r then 0 else 1) := by
  unfold fx_isFile
  by_cases h : 0 ≤ r
  · rw [if_pos h, if_pos h]
  · rw [if_neg h, if_neg h]
/-- a place or a refusal -/
def pr_s (md : Int32) (x : Int32) : Int32 := if md = 0 then -1 else match po_x x with
  | none => -2
  | some p => nI p
theorem xc_pr (md x : Int32) : fx_placeOrRefusal md x = some (pr_s md x) := by
  unfold fx_placeOrRefusal pr_s
  by_cases h : md = 0
  · rw [if_pos h, if_pos h]
  · rw [if_neg h, if_neg h, pc_of, Option.bind_some]
    cases hp : po_x x with
    | none => exact if_pos rfl
    | some p =>
      have h7 := po_lt hp
      refine if_neg (fun z => ?_)
      have : ¬ nI p < 0 := nI_pos (by omega)
      exact this (by rw [show nI p = -1 from z]; decide)
theorem cd_0 {r : Int32} : cd_r r = 0 ↔ r = 0 := by
  unfold cd_r
  by_cases h : 0 < r
  · rw [if_pos h]; exact ⟨fun z => absurd z (by decide), fun z => absurd h (by rw [z]; decide)⟩
  · rw [if_neg h]
    by_cases h2 : r < 0
    · rw [if_pos h2]; exact ⟨fun z => absurd z (by decide), fun z => absurd h2 (by rw [z]; decide)⟩
    · rw [if_neg h2]; exact ⟨fun _ => Int32.le_antisymm (Int32.not_lt.mp h) (Int32.not_lt.mp h2), fun _ => rfl⟩
theorem cd_pos {r : Int32} : cd_r r ≤ 0 ↔ r = 0 := by
  rw [← cd_0]
  unfold cd_r
  by_cases h : 0 < r
  · rw [if_pos h]; decide
  · rw [if_neg h]
    by_cases h2 : r < 0
    · rw [if_pos h2]; decide
    · rw [if_neg h2]; decide
theorem cd_nn {r : Int32} : 0 ≤ cd_r r := by
  unfold cd_r
  by_cases h : 0 < r
  · rw [if_pos h]; decide
  · rw [if_neg h]
    by_cases h2 : r < 0
    · rw [if_pos h2]; decide
    · rw [if_neg h2]; decide
/-- nothing, a directory or a file -/
theorem r3_c (r : Int32) : (r = 0 ∧ cd_r r = 0) ∨ (0 < r ∧ cd_r r = 2) ∨ (r < 0 ∧ cd_r r = 1) := by
  by_cases h : 0 < r
  · exact Or.inr (Or.inl ⟨h, cd_two.mpr h⟩)
  · by_cases h2 : r < 0
    · exact Or.inr (Or.inr ⟨h2, by unfold cd_r; rw [if_neg h, if_pos h2]⟩)
    · have h0 := Int32.le_antisymm (Int32.not_lt.mp h) (Int32.not_lt.mp h2)
      exact Or.inl ⟨h0, cd_0.mpr h0⟩
theorem lt_nle {a b : Int32} (h : a < b) : ¬ b ≤ a := Int32.not_le.mpr h
theorem lt_le {a b : Int32} (h : a < b) : a ≤ b := Int32.le_of_lt h
theorem lt_ne {a b : Int32} (h : a < b) : ¬ b = a := fun z => Int32.lt_irrefl (by rw [z] at h; exact h)
theorem lt_ne' {a b : Int32} (h : a < b) : ¬ a = b := fun z => Int32.lt_irrefl (by rw [z] at h; exact h)
section RDS
variable {top : Nat} {c : Nat → ls_T} {kn vl : Nat → Int32}
/-- the answer of kind -/
def ki_s (top : Nat) (c : Nat → ls_T) (md x : Int32) : Int32 := if md = 0 then -1 else match po_x x with
  | none => -2
  | some p => cd_r (fd_f top c p)
theorem xc_ki (ht : top ≤ 3) {md x : Int32} : fx_kind top c md x = some (ki_s top c md x) := by
  unfold fx_kind ki_s
  rw [xc_pr, Option.bind_some]
  unfold pr_s
  by_cases h : md = 0
  · rw [if_pos h, if_pos h, if_neg (by decide)]
  · rw [if_neg h, if_neg h]
    cases hp : po_x x with
    | none => rw [if_neg (by decide)]
    | some p =>
      have h7 := po_lt hp
      dsimp only
      rw [if_pos (nI_pos' (by omega)), xc_fd (by omega) (by omega), Option.bind_some]
      rcases r3_c (fd_f top c p) with ⟨h1, h2⟩ | ⟨h1, h2⟩ | ⟨h1, h2⟩
      · rw [if_pos h1, h2]
      · rw [if_neg (lt_ne h1), xc_if, Option.bind_some, if_pos (lt_le h1), if_pos rfl, h2]
      · rw [if_neg (lt_ne' h1), xc_if, Option.bind_some, if_neg (lt_nle h1), if_neg (by decide), h2]
theorem qc_ki (h : re_K top c kn vl) (h1 : 1 ≤ top) (ht : top ≤ 3) {md x fo pa fi va : Int32} : ∃ R : q4_T, fq_kind top md kn vl fo pa fi va x = some (ki_s top c md x, R) ∧ ∀ p, ¬ md = 0 → po_x x = some p → R.1 = cd_r (fd_f top c p) ∧ R.2.1 = ps_r (fd_f top c p) ∧ (0 < p → rr_R (fun l => vl (1296 * l + r6_p p)) (top + 1) (fd_f top c p) R) := by
  unfold fq_kind ki_s fq_kind_16
  rw [qc_of, Option.bind_some]
  by_cases hm : md = 0
  · rw [if_pos hm, if_pos hm, if_pos hm]
    exact ⟨_, rfl, fun _ z => absurd hm z⟩
  · rw [if_neg hm, if_neg hm, if_neg hm]
    cases hp : po_x x with
    | none =>
      rw [if_neg (by decide)]
      exact ⟨_, rfl, fun _ _ z => by cases z⟩
    | some p =>
      have h7 := po_lt hp
      have h6 := r6_lt h7
      obtain ⟨R, g1, g2, g3, g4⟩ := qc_lo h h1 ht h7 (fo := fo) (pa := pa) (fi := fi) (va := va)
      rw [show pv_6 (some p) = nI (r6_p p) from rfl, if_pos (nI_pos' (by omega)), g1, Option.bind_some, g2]
      refine ⟨(cd_r (fd_f top c p), R.2.1, R.2.2.1, R.2.2.2), rfl, fun p' _ z => ?_⟩
      cases z
      refine ⟨rfl, g3, fun hp0 => ?_⟩
      have := g4 hp0
      rw [← g2]
      exact this
theorem re_va (h : re_K top c kn vl) (ht : top ≤ 3) {l p : Nat} (hl : l ≤ top) (hp : p < 781) (hk : ka_f (c l).1 p = 1) : (c l).1 p ^^^ (-1) = vl (1296 * l + r6_p p) := by
  rw [re_ka h ht hl hp] at hk
  rw [(h.2.1 l hl p hp).1]
  unfold ce_f
  rw [if_pos hk, xo_inv]
/-- a file that is found lies in a layer of the tree, and has the kind of a file there -/
theorem fd_neg (ht : top ≤ 3) {p : Nat} (hr : fd_f top c p < 0) : ∃ l, l < top + 1 ∧ ka_f (c l).1 p = 1 ∧ fd_f top c p = nI l ^^^ (-1) := by
  unfold fd_f at hr ⊢
  generalize dp_p p = d at hr ⊢
  cases d with
  | zero => exact absurd hr (nI_pos (by have : 2 ^ (top + 1) ≤ 2 ^ 4 := Nat.pow_le_pow_right (by omega) (by omega); omega))
  | succ d =>
    unfold fd_s at hr ⊢
    by_cases h0 : 0 < fd_s top c d ((p - 1) / 5)
    · rw [if_pos h0] at hr ⊢
      exact fr_neg (by omega) (fa_k (K := fun l => ka_f (c l).1 p) (top + 1)) hr
    · rw [if_neg h0] at hr; exact absurd hr (by decide)
theorem xl_of {l : Nat} : fx_layerOfFile (nI l ^^^ (-1)) = some (nI l) := by
  unfold fx_layerOfFile; rw [xo_inv]
theorem pp_rd (h : re_K top c kn vl) (h1 : 1 ≤ top) (ht : top ≤ 3) {md x fo pa fi va : Int32} : ∃ (v : Int32) (R : q4_T), fx_read top c md x = some v ∧ fq_read top md kn vl fo pa fi va x = some (v, R) := by
  obtain ⟨R, g1, g2⟩ := qc_ki h h1 ht (md := md) (x := x) (fo := fo) (pa := pa) (fi := fi) (va := va)
  unfold fx_read fq_read
  rw [xc_pr, g1, Option.bind_some, Option.bind_some]
  unfold pr_s ki_s
  dsimp only
  by_cases hm : md = 0
  · rw [if_pos hm, if_pos hm, if_neg (by decide), if_neg (by decide)]
    exact ⟨_, _, rfl, rfl⟩
  · rw [if_neg hm, if_neg hm]
    cases hp : po_x x with
    | none =>
      dsimp only
      rw [if_neg (by decide), if_neg (by decide)]
      exact ⟨_, _, rfl, rfl⟩
    | some p =>
      have h7 := po_lt hp
      obtain ⟨k1, k2, k3⟩ := g2 p hm hp
      dsimp only
      rw [if_pos (nI_pos' (by omega)), xc_fd (by omega) (by omega), Option.bind_some, if_pos cd_nn]
      rcases r3_c (fd_f top c p) with ⟨e1, e2⟩ | ⟨e1, e2⟩ | ⟨e1, e2⟩
      · rw [if_pos e1, if_pos e2]
        exact ⟨_, _, rfl, rfl⟩
      · rw [if_neg (lt_ne e1), xc_if, Option.bind_some, if_pos (lt_le e1), if_pos rfl, if_neg (fun z => absurd (e2.symm.trans z) (by decide)), if_pos e2]
        exact ⟨_, _, rfl, rfl⟩
      · have hp0 : 0 < p := by
          rcases Nat.eq_zero_or_pos p with z | z
          · subst z
            exact absurd e1 (nI_pos (by have : 2 ^ (top + 1) ≤ 2 ^ 4 := Nat.pow_le_pow_right (by omega) (by omega); omega))
          · exact z
        obtain ⟨_, _, r3, _⟩ := k3 hp0
        obtain ⟨l, hl, er, ef, ev⟩ := r3 e1
        obtain ⟨l', hl', hk', er'⟩ := fd_neg ht e1
        have hll : l' = l := by
          have : nI l' = nI l := by rw [← xo_inv (nI l'), ← er', er, xo_inv]
          exact (nI_eq (by omega) (by omega)).mp this
        subst hll
        have x1 : fx_layerOfFile (fd_f top c p) = some (nI l') := by rw [er']; exact xl_of
        rw [if_neg (lt_ne' e1), xc_if, Option.bind_some, if_neg (lt_nle e1), if_neg (by decide), x1, Option.bind_some, ck_n (nn_ck (by omega) hl'), nI_clamp (by omega), yc_va (by omega), Option.bind_some, if_pos hk', re_va h ht (by omega) h7 hk', if_neg (fun z => absurd (e2.symm.trans z) (by decide)), if_neg (fun z => absurd (e2.symm.trans z) (by decide))]
        exact ⟨_, _, rfl, by rw [ev]⟩
/-- how many of d = 6 - j .. 5 have g d -/
def ct_g (g : Nat → Int32) : Nat → Nat
  | 0 => 0
  | j + 1 => (if g (5 - j) = 0 then 0 else 1) + ct_g g j
theorem ct_le (g : Nat → Int32) : ∀ j, ct_g g j ≤ j
  | 0 => Nat.le_refl 0
  | j + 1 => by
    have := ct_le g j
    unfold ct_g
    split <;> omega
theorem ct_cg {g g' : Nat → Int32} (h : ∀ d, 1 ≤ d → d ≤ 5 → (g d = 0 ↔ g' d = 0)) : ∀ j, j ≤ 5 → ct_g g j = ct_g g' j
  | 0, _ => rfl
  | j + 1, hj => by
    unfold ct_g
    rw [ct_cg h j (by omega)]
    have := h (5 - j) (by omega) (by omega)
    by_cases h0 : g (5 - j) = 0
    · rw [if_pos h0, if_pos (this.mp h0)]
    · rw [if_neg h0, if_neg (fun z => h0 (this.mpr z))]
theorem xn_l (ht : top ≤ 3) {p M : Nat} (hp : p < 2 ^ 20) (hM : M < 2 ^ 30) : ∀ (j m acc : Nat), j ≤ 5 → j < m → acc + j < 100 → fx_countIn_5 top c (nI p) (nI M) m (nI acc) (nI (6 - j)) = some (nI (acc + ct_g (fun d => fa_s (fun l => ka_f (c l).1 (5 * p + d)) M (top + 1) 0) j))
  | 0, 0, _, _, h, _ => absurd h (by omega)
  | 0, m + 1, acc, _, _, _ => by
    rw [fx_countIn_5.eq_2]; dsimp only
    rw [if_pos (by decide)]; rfl
  | j + 1, 0, _, _, h, _ => absurd h (by omega)
  | j + 1, m + 1, acc, hj, hm, ha => by
    rw [fx_countIn_5.eq_2]; dsimp only
    rw [nl_5, if_neg (nI_nlt (by omega) (by omega)), pc_ch, Option.bind_some, xc_fa hM (by omega) (by omega), Option.bind_some]
    unfold fx_countIn_28 ct_g
    rw [nI_1, nI_1, show 6 - (j + 1) = 5 - j by omega, show 5 - j + 1 = 6 - j by omega]
    by_cases h0 : fa_s (fun l => ka_f (c l).1 (5 * p + (5 - j))) M (top + 1) 0 = 0
    · rw [if_pos h0, xn_l ht hp hM j m acc (by omega) (by omega) (by omega), if_pos h0, Nat.zero_add]
    · rw [if_neg h0, xn_l ht hp hM j m (acc + 1) (by omega) (by omega) (by omega), if_neg h0, Nat.add_assoc]
theorem xc_ci (ht : top ≤ 3) {p M : Nat} (hp : p < 2 ^ 20) (hM : M < 2 ^ 30) : fx_countIn top c (nI p) (nI M) = some (nI (ct_g (fun d => fa_s (fun l => ka_f (c l).1 (5 * p + d)) M (top + 1) 0) 5)) := by
  have := xn_l (c := c) ht hp hM 5 fu_n 0 (by omega) (by unfold fu_n; omega) (by omega)
  rw [Nat.zero_add] at this
  exact this
/-- what is found in a directory, by its parts -/
theorem fd_ch (ht : top ≤ 3) {p d : Nat} (hp : p < 156) (h1 : 1 ≤ d) (h5 : d ≤ 5) {M : Nat} (hM : 0 < M) (hM2 : M < 2 ^ 30) (hf : fd_f top c p = nI M) : fd_f top c (5 * p + d) = fa_s (fun l => ka_f (c l).1 (5 * p + d)) M (top + 1) 0 := by
  unfold fd_f at hf ⊢
  rw [show dp_p (5 * p + d) = dp_p p + 1 from by unfold dp_p; (repeat' split) <;> omega]
  unfold fd_s
  rw [show (5 * p + d - 1) / 5 = p by omega, hf, if_pos (by rw [nl_0]; exact nI_lt hM (by omega)), nI_clamp (by omega)]
theorem ka_out {f : Nat → Int32} {p : Nat} (h : 781 ≤ p) : ka_f f p = 0 := by unfold ka_f; rw [if_neg (by omega)]
theorem fa_00 {K : Nat → Int32} {M : Nat} : ∀ (n : Nat), (∀ l, l < n → K l = 0) → ∀ acc, fa_s K M n acc = nI acc
  | 0, _, acc => rfl
  | n + 1, h, acc => by
    rw [fa_k0 (by rw [h n (by omega)]; split <;> rfl)]
    exact fa_00 n (fun l hl => h l (by omega)) acc
/-- the number of objects in the directory p -/
def ch_s (top : Nat) (c : Nat → ls_T) (p : Nat) : Nat := if p < 156 then ct_g (fun d => fd_f top c (5 * p + d)) 5 else 0
theorem xc_cs (ht : top ≤ 3) {p : Nat} (hp : p < 781) (hf : 0 < fd_f top c p) : fx_countIn top c (nI p) (fd_f top c p) = some (nI (ch_s top c p)) := by
  obtain ⟨M, h1, h2, h3⟩ := fd_pos (by omega) _ _ hf
  have h30 : 2 ^ (top + 1) ≤ 2 ^ 4 := Nat.pow_le_pow_right (by omega) (by omega)
  have h3' : fd_f top c p = nI M := h3
  rw [h3', xc_ci ht (by omega) (by omega)]
  unfold ch_s
  by_cases h : p < 156
  · rw [if_pos h, ct_cg (g' := fun d => fd_f top c (5 * p + d)) (fun d a b => by rw [fd_ch ht h a b h1 (by omega) h3']) 5 (by omega)]
  · rw [if_neg h, ct_cg (g' := fun _ => 0) (fun d a b => by
      rw [fa_00 _ (fun l _ => ka_out (by omega))]; exact ⟨fun _ => rfl, fun _ => rfl⟩) 5 (by omega)]
    rfl
theorem r6_216 {p : Nat} (hp : p < 781) : r6_p p < 216 ↔ p < 156 := by
  have := r6_dp hp
  unfold dp_q dp_p at this
  constructor <;> intro h <;> (repeat' split at this) <;> omega
theorem qn_l (h : re_K top c kn vl) (h1 : 1 ≤ top) (ht : top ≤ 3) {p : Nat} (hp : p < 156) : ∀ (j m acc : Nat) (fo pa fi va : Int32), j ≤ 5 → j < m → acc + j < 100 → ∃ R : q4_T, fq_children_4 top kn vl (nI (r6_p p)) m (nI acc) (nI (6 - j)) fo pa fi va = some (nI (acc + ct_g (fun d => fd_f top c (5 * p + d)) j), R)
  | 0, 0, _, _, _, _, _, _, h, _ => absurd h (by omega)
  | 0, m + 1, acc, fo, pa, fi, va, _, _, _ => by
    rw [fq_children_4.eq_2]; dsimp only
    rw [if_pos (by decide)]
    exact ⟨_, rfl⟩
  | j + 1, 0, _, _, _, _, _, _, h, _ => absurd h (by omega)
  | j + 1, m + 1, acc, fo, pa, fi, va, hj, hm, ha => by
    have h6 := (r6_216 (by omega)).mpr hp
    rw [fq_children_4.eq_2]; dsimp only
    rw [nl_5, if_neg (nI_nlt (by omega) (by omega)), nl_216, if_neg (nI_ge h6 (by omega)), nl_6, pk_mul, nI_add, ← r6_ch hp (by omega : 1 ≤ 6 - (j + 1)) (by omega)]
    obtain ⟨R, g1, g2, -, -⟩ := qc_lo h h1 ht (p := 5 * p + (6 - (j + 1))) (by omega) (fo := fo) (pa := pa) (fi := fi) (va := va)
    rw [g1, Option.bind_some, g2]
    unfold fq_children_39 ct_g
    rw [nI_1, show 6 - (j + 1) = 5 - j by omega, show 5 - j + 1 = 6 - j by omega]
    by_cases h0 : fd_f top c (5 * p + (5 - j)) = 0
    · rw [if_pos (cd_pos.mpr h0), if_pos h0, nl_0, nI_add, Nat.add_zero, Nat.zero_add]
      exact qn_l h h1 ht hp j m acc _ _ _ _ (by omega) (by omega) (by omega)
    · rw [if_neg (fun z => h0 (cd_pos.mp z)), if_neg h0, nI_1, ← Nat.add_assoc]
      exact qn_l h h1 ht hp j m (acc + 1) _ _ _ _ (by omega) (by omega) (by omega)
theorem qc_cs (h : re_K top c kn vl) (h1 : 1 ≤ top) (ht : top ≤ 3) {p : Nat} (hp : p < 781) {fo pa fi va : Int32} : ∃ R : q4_T, fq_children top kn vl fo pa fi va (nI (r6_p p)) = some (nI (ch_s top c p), R) := by
  unfold fq_children ch_s
  by_cases hq : p < 156
  · obtain ⟨R, g⟩ := qn_l h h1 ht hq 5 fu_n 0 fo pa fi va (by omega) (by unfold fu_n; omega) (by omega)
    rw [Nat.zero_add] at g
    rw [if_pos hq]
    exact ⟨R, g⟩
  · have h6 : ¬ r6_p p < 216 := fun z => hq ((r6_216 hp).mp z)
    have h6' := r6_lt hp
    rw [if_neg hq, show fu_n = 5999 + 1 from rfl, fq_children_4.eq_2]; dsimp only
    rw [if_neg (by decide), nl_216, if_pos (nI_le (by omega) (by omega))]
    exact ⟨_, rfl⟩
end RDS
