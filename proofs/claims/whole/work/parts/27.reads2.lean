/-! size, name, origin, entry, entryValue, mount, copies -/
/-- what is refused of a path comes first -/
def wp_s (md x : Int32) (F : Nat → Int32) : Int32 := if md = 0 then -1 else match po_x x with
  | none => -2
  | some p => F p
theorem wp_c (md x : Int32) : (md = 0 ∧ ∀ F, wp_s md x F = -1) ∨ (¬ md = 0 ∧ po_x x = none ∧ ∀ F, wp_s md x F = -2) ∨ ∃ p, ¬ md = 0 ∧ po_x x = some p ∧ p < 781 ∧ ∀ F, wp_s md x F = F p := by
  by_cases h : md = 0
  · exact Or.inl ⟨h, fun F => by unfold wp_s; rw [if_pos h]⟩
  · cases hp : po_x x with
    | none => exact Or.inr (Or.inl ⟨h, rfl, fun F => by unfold wp_s; rw [if_neg h, hp]⟩)
    | some p => exact Or.inr (Or.inr ⟨p, h, rfl, po_lt hp, fun F => by unfold wp_s; rw [if_neg h, hp]⟩)
theorem pr_w (md x : Int32) : pr_s md x = wp_s md x nI := rfl
theorem ki_w (top : Nat) (c : Nat → ls_T) (md x : Int32) : ki_s top c md x = wp_s md x (fun p => cd_r (fd_f top c p)) := rfl
section RDT
variable {top : Nat} {c : Nat → ls_T} {kn vl : Nat → Int32}
/-- a directory's place, or a refusal -/
def dr_s (top : Nat) (c : Nat → ls_T) (md x : Int32) : Int32 := wp_s md x (fun p => if fd_f top c p = 0 then -3 else if 0 ≤ fd_f top c p then nI p else -7)
theorem xc_dr (ht : top ≤ 3) {md x : Int32} : fx_directoryPlaceOrRefusal top c md x = some (dr_s top c md x) := by
  unfold fx_directoryPlaceOrRefusal dr_s
  rw [xc_pr, pr_w]
  rcases wp_c md x with ⟨hm, w⟩ | ⟨hm, hp, w⟩ | ⟨p, hm, hp, h7, w⟩
  · rw [w, w, Option.bind_some]; try dsimp only
    rw [if_neg (by decide)]
  · rw [w, w, Option.bind_some]; try dsimp only
    rw [if_neg (by decide)]
  · rw [w, w, Option.bind_some]; try dsimp only
    rw [if_pos (nI_pos' (by omega)), xc_fd (by omega) (by omega), Option.bind_some]
    by_cases h0 : fd_f top c p = 0
    · rw [if_pos h0, if_pos h0]
    · rw [if_neg h0, if_neg h0, xc_if, Option.bind_some]
      by_cases h1 : 0 ≤ fd_f top c p
      · rw [if_pos h1, if_pos h1, if_pos rfl]
      · rw [if_neg h1, if_neg h1, if_neg (by decide)]
/-- the answer of size -/
def sz_s (top : Nat) (c : Nat → ls_T) (md x : Int32) : Int32 := wp_s md x (fun p => if fd_f top c p = 0 then -3 else if 0 ≤ fd_f top c p then nI (ch_s top c p) else -7)
/-- which of three, for the three branches of a look -/
theorem d3_c (r a b d : Int32) : (r = 0 ∧ cd_r r = 0 ∧ (if r = 0 then a else if 0 ≤ r then b else d) = a) ∨ (0 < r ∧ cd_r r = 2 ∧ (if r = 0 then a else if 0 ≤ r then b else d) = b) ∨ (r < 0 ∧ cd_r r = 1 ∧ (if r = 0 then a else if 0 ≤ r then b else d) = d) := by
  rcases r3_c r with ⟨h1, h2⟩ | ⟨h1, h2⟩ | ⟨h1, h2⟩
  · exact Or.inl ⟨h1, h2, if_pos h1⟩
  · exact Or.inr (Or.inl ⟨h1, h2, by rw [if_neg (lt_ne h1), if_pos (lt_le h1)]⟩)
  · exact Or.inr (Or.inr ⟨h1, h2, by rw [if_neg (lt_ne' h1), if_neg (lt_nle h1)]⟩)
theorem ch_le (p : Nat) : ch_s top c p ≤ 5 := by
  unfold ch_s
  split
  · exact ct_le _ 5
  · omega
theorem xc_sz (ht : top ≤ 3) {md x : Int32} : fx_size top c md x = some (sz_s top c md x) := by
  unfold fx_size sz_s
  rw [xc_dr ht, dr_s]
  rcases wp_c md x with ⟨hm, w⟩ | ⟨hm, hp, w⟩ | ⟨p, hm, hp, h7, w⟩
  · rw [w, w, Option.bind_some]; try dsimp only
    rw [if_neg (by decide)]
  · rw [w, w, Option.bind_some]; try dsimp only
    rw [if_neg (by decide)]
  · rw [w, w]
    rcases d3_c (fd_f top c p) (-3) (nI p) (-7) with ⟨e1, e2, e3⟩ | ⟨e1, e2, e3⟩ | ⟨e1, e2, e3⟩
    · rw [e3, Option.bind_some]; try dsimp only
      rw [if_neg (by decide), if_pos e1]
    · rw [e3, Option.bind_some]; try dsimp only
      rw [if_pos (nI_pos' (by omega)), xc_fd (by omega) (by omega), Option.bind_some, xc_cs ht h7 e1, Option.bind_some]; try dsimp only
      rw [if_neg (lt_ne e1), if_pos (lt_le e1)]
    · rw [e3, Option.bind_some]; try dsimp only
      rw [if_neg (by decide), if_neg (lt_ne' e1), if_neg (lt_nle e1)]
theorem qc_sz (h : re_K top c kn vl) (h1 : 1 ≤ top) (ht : top ≤ 3) {md x fo pa fi va : Int32} : ∃ R : q4_T, fq_size top md kn vl fo pa fi va x = some (sz_s top c md x, R) := by
  obtain ⟨R, g1, -⟩ := qc_ki h h1 ht (md := md) (x := x) (fo := fo) (pa := pa) (fi := fi) (va := va)
  unfold fq_size sz_s
  rw [g1, ki_w]
  rcases wp_c md x with ⟨hm, w⟩ | ⟨hm, hp, w⟩ | ⟨p, hm, hp, h7, w⟩
  · rw [w, w, Option.bind_some]; try dsimp only
    rw [if_neg (by decide), if_neg (by decide)]
    exact ⟨_, rfl⟩
  · rw [w, w, Option.bind_some]; try dsimp only
    rw [if_neg (by decide), if_neg (by decide)]
    exact ⟨_, rfl⟩
  · rw [w, w]
    rcases d3_c (fd_f top c p) (-3) (nI (ch_s top c p)) (-7) with ⟨e1, e2, e3⟩ | ⟨e1, e2, e3⟩ | ⟨e1, e2, e3⟩
    · rw [e3, e2, Option.bind_some]; try dsimp only
      rw [if_neg (by decide), if_pos (by decide), if_pos rfl]
      exact ⟨_, rfl⟩
    · rw [e3, e2, Option.bind_some]; try dsimp only
      rw [if_pos (by decide), qc_of, Option.bind_some, hp, show pv_6 (some p) = nI (r6_p p) from rfl]
      obtain ⟨R2, g2⟩ := qc_cs h h1 ht h7 (fo := R.1) (pa := R.2.1) (fi := R.2.2.1) (va := R.2.2.2)
      rw [g2, Option.bind_some]
      exact ⟨_, rfl⟩
    · rw [e3, e2, Option.bind_some]; try dsimp only
      rw [if_neg (by decide), if_pos (by decide), if_neg (by decide)]
      exact ⟨_, rfl⟩
/-- the name of the i-th that g has, of d = 6 - j .. 5, b of them being behind -/
def nm_s (g : Nat → Int32) (i : Int32) : Nat → Nat → Int32
  | 0, _ => -3
  | j + 1, b => if g (5 - j) = 0 then nm_s g i j b else if nI b = i then nI (5 - j) else nm_s g i j (b + 1)
theorem nm_cg {g g' : Nat → Int32} {i : Int32} (h : ∀ d, 1 ≤ d → d ≤ 5 → (g d = 0 ↔ g' d = 0)) : ∀ (j b : Nat), j ≤ 5 → nm_s g i j b = nm_s g' i j b
  | 0, _, _ => rfl
  | j + 1, b, hj => by
    unfold nm_s
    rw [nm_cg h j b (by omega), nm_cg h j (b + 1) (by omega)]
    have := h (5 - j) (by omega) (by omega)
    by_cases h0 : g (5 - j) = 0
    · rw [if_pos h0, if_pos (this.mp h0)]
    · rw [if_neg h0, if_neg (fun z => h0 (this.mpr z))]
theorem nm_out {g : Nat → Int32} {i : Int32} : ∀ (j b : Nat), j ≤ 5 → (∀ a, a < b + ct_g g j → ¬ nI a = i ∨ a < b) → nm_s g i j b = -3
  | 0, _, _, _ => rfl
  | j + 1, b, hj, h => by
    unfold nm_s
    unfold ct_g at h
    by_cases h0 : g (5 - j) = 0
    · rw [if_pos h0]
      rw [if_pos h0] at h
      exact nm_out j b (by omega) (fun a ha => h a (by omega))
    · rw [if_neg h0]
      rw [if_neg h0] at h
      rw [if_neg (fun z => by
        rcases h b (by omega) with w | w
        · exact w z
        · omega)]
      refine nm_out j (b + 1) (by omega) (fun a ha => ?_)
      rcases h a (by omega) with w | w
      · exact Or.inl w
      · exact Or.inr (by omega)
theorem xm_l (ht : top ≤ 3) {p M : Nat} {md x1 i : Int32} (hp : p < 2 ^ 20) (hM : M < 2 ^ 30) : ∀ (j m b : Nat), j ≤ 5 → j < m → fx_name_25 top c md x1 i m (nI p) (nI M) (nI b) (nI (6 - j)) = some (nm_s (fun d => fa_s (fun l => ka_f (c l).1 (5 * p + d)) M (top + 1) 0) i j b)
  | 0, 0, _, _, h => absurd h (by omega)
  | 0, m + 1, b, _, _ => by
    rw [fx_name_25.eq_2]; dsimp only
    rw [if_pos (by decide)]; rfl
  | j + 1, 0, _, _, h => absurd h (by omega)
  | j + 1, m + 1, b, hj, hm => by
    rw [fx_name_25.eq_2]; dsimp only
    rw [nl_5, if_neg (nI_nlt (by omega) (by omega)), pc_ch, Option.bind_some, xc_fa hM (by omega) (by omega), Option.bind_some]
    unfold fx_name_58 nm_s
    rw [nI_1, nI_1, show 6 - (j + 1) = 5 - j by omega, show 5 - j + 1 = 6 - j by omega]
    by_cases h0 : fa_s (fun l => ka_f (c l).1 (5 * p + (5 - j))) M (top + 1) 0 = 0
    · rw [if_pos h0, xm_l ht hp hM j m b (by omega) (by omega), if_pos h0]
    · rw [if_neg h0, if_neg h0]
      by_cases hi : nI b = i
      · rw [if_pos hi, if_pos hi]
      · rw [if_neg hi, if_neg hi, xm_l ht hp hM j m (b + 1) (by omega) (by omega)]
/-- the answer of name -/
def na_s (top : Nat) (c : Nat → ls_T) (md x i : Int32) : Int32 := wp_s md x (fun p => if fd_f top c p = 0 then -3 else if 0 ≤ fd_f top c p then (if p < 156 then nm_s (fun d => fd_f top c (5 * p + d)) i 5 0 else -3) else -7)
theorem xc_na (ht : top ≤ 3) {md x i : Int32} : fx_name top c md x i = some (na_s top c md x i) := by
  unfold fx_name na_s
  rw [xc_dr ht, dr_s]
  rcases wp_c md x with ⟨hm, w⟩ | ⟨hm, hp, w⟩ | ⟨p, hm, hp, h7, w⟩
  · rw [w, w, Option.bind_some]; try dsimp only
    rw [if_neg (by decide)]
  · rw [w, w, Option.bind_some]; try dsimp only
    rw [if_neg (by decide)]
  · rw [w, w]
    rcases d3_c (fd_f top c p) (-3) (nI p) (-7) with ⟨e1, e2, e3⟩ | ⟨e1, e2, e3⟩ | ⟨e1, e2, e3⟩
    · rw [e3, Option.bind_some]; try dsimp only
      rw [if_neg (by decide), if_pos e1]
    · obtain ⟨M, m1, m2, m3⟩ := fd_pos (by omega) _ _ e1
      have m3' : fd_f top c p = nI M := m3
      have h30 : 2 ^ (top + 1) ≤ 2 ^ 4 := Nat.pow_le_pow_right (by omega) (by omega)
      have hl := xm_l (c := c) (md := md) (x1 := x) (i := i) ht (p := p) (M := M) (by omega) (by omega) 5 fu_n 0 (by omega) (by unfold fu_n; omega)
      rw [e3, Option.bind_some]; try dsimp only
      rw [if_pos (nI_pos' (by omega)), xc_fd (by omega) (by omega), Option.bind_some]; try dsimp only
      rw [if_neg (lt_ne e1), if_pos (lt_le e1)]
      rw [← m3'] at hl
      refine hl.trans ?_
      by_cases hq : p < 156
      · rw [if_pos hq, nm_cg (g' := fun d => fd_f top c (5 * p + d)) (fun d a b => by rw [fd_ch ht hq a b m1 (by omega) m3']) 5 0 (by omega)]
      · rw [if_neg hq, nm_cg (g' := fun _ => 0) (fun d a b => by
          rw [fa_00 _ (fun l _ => ka_out (by omega))]; exact ⟨fun _ => rfl, fun _ => rfl⟩) 5 0 (by omega)]
        rfl
    · rw [e3, Option.bind_some]; try dsimp only
      rw [if_neg (by decide), if_neg (lt_ne' e1), if_neg (lt_nle e1)]
theorem qm_l (h : re_K top c kn vl) (h1 : 1 ≤ top) (ht : top ≤ 3) {p n i : Nat} {md x1 : Int32} (hp : p < 156) (hi : i < n) (hn : n ≤ 5) : ∀ (j m b : Nat) (fo pa fi va : Int32), j ≤ 5 → j < m → b ≤ i → ∃ R : q4_T, fq_name_24 top md kn vl x1 (nI i) m (nI n) (nI (r6_p p)) (nI (i - b)) (nI (6 - j)) fo pa fi va = some (nm_s (fun d => fd_f top c (5 * p + d)) (nI i) j b, R)
  | 0, 0, _, _, _, _, _, _, h, _ => absurd h (by omega)
  | 0, m + 1, b, fo, pa, fi, va, _, _, _ => by
    rw [fq_name_24.eq_2]; dsimp only
    rw [if_pos (by decide)]
    exact ⟨_, rfl⟩
  | j + 1, 0, _, _, _, _, _, _, h, _ => absurd h (by omega)
  | j + 1, m + 1, b, fo, pa, fi, va, hj, hm, hb => by
    have h6 := (r6_216 (by omega)).mpr hp
    rw [fq_name_24.eq_2]; dsimp only
    rw [nl_5, if_neg (nI_nlt (by omega) (by omega)), if_neg (nI_pos (by omega)), if_neg (nI_ge hi (by omega)), nl_6, pk_mul, nI_add, ← r6_ch hp (by omega : 1 ≤ 6 - (j + 1)) (by omega)]
    obtain ⟨R, g1, g2, -, -⟩ := qc_lo h h1 ht (p := 5 * p + (6 - (j + 1))) (by omega) (fo := fo) (pa := pa) (fi := fi) (va := va)
    rw [g1, Option.bind_some, g2]
    unfold fq_name_66 fq_name_80 nm_s
    rw [nI_1, show 6 - (j + 1) = 5 - j by omega, show 5 - j + 1 = 6 - j by omega]
    by_cases h0 : fd_f top c (5 * p + (5 - j)) = 0
    · rw [if_pos (cd_pos.mpr h0), if_pos (cd_pos.mpr h0), if_pos h0, show nI (i - b) - 0 = nI (i - b) from Int32.sub_zero _]
      exact qm_l h h1 ht hp hi hn j m b _ _ _ _ (by omega) (by omega) hb
    · rw [if_neg (fun z => h0 (cd_pos.mp z)), if_neg (fun z => h0 (cd_pos.mp z)), if_neg h0]
      by_cases he : b = i
      · rw [if_pos (by rw [he, Nat.sub_self]; rfl), if_pos (by rw [he])]
        exact ⟨_, rfl⟩
      · rw [if_neg (nI_ne0 (by omega) (by omega)), if_neg (fun z => he ((nI_eq (by omega) (by omega)).mp z)), nm_1 (by omega), show i - b - 1 = i - (b + 1) by omega]
        exact qm_l h h1 ht hp hi hn j m (b + 1) _ _ _ _ (by omega) (by omega) (by omega)
theorem qm_out {md x1 i n q : Int32} {m : Nat} (h : i < 0 ∨ n ≤ i) {fo pa fi va : Int32} : ∃ R : q4_T, fq_name_24 top md kn vl x1 i (m + 1) n q i (nI 1) fo pa fi va = some (-3, R) := by
  rw [fq_name_24.eq_2]; dsimp only
  rw [if_neg (by decide)]
  by_cases h0 : i < 0
  · rw [if_pos h0]; exact ⟨_, rfl⟩
  · rw [if_neg h0]
    rcases h with h | h
    · exact absurd h h0
    · rw [if_pos h]; exact ⟨_, rfl⟩
theorem nm_neg {g : Nat → Int32} {i : Int32} (h : ∀ a, a < ct_g g 5 → ¬ nI a = i) : nm_s g i 5 0 = -3 := nm_out 5 0 (by omega) (fun a ha => Or.inl (h a (by omega)))
theorem qc_na (h : re_K top c kn vl) (h1 : 1 ≤ top) (ht : top ≤ 3) {md x i fo pa fi va : Int32} : ∃ R : q4_T, fq_name top md kn vl fo pa fi va x i = some (na_s top c md x i, R) := by
  obtain ⟨R, g1⟩ := qc_sz h h1 ht (md := md) (x := x) (fo := fo) (pa := pa) (fi := fi) (va := va)
  unfold fq_name na_s
  rw [g1, sz_s]
  rcases wp_c md x with ⟨hm, w⟩ | ⟨hm, hp, w⟩ | ⟨p, hm, hp, h7, w⟩
  · rw [w, w, Option.bind_some]; try dsimp only
    rw [if_neg (by decide)]
    exact ⟨_, rfl⟩
  · rw [w, w, Option.bind_some]; try dsimp only
    rw [if_neg (by decide)]
    exact ⟨_, rfl⟩
  · have hc := ch_le (top := top) (c := c) p
    rw [w, w]
    rcases d3_c (fd_f top c p) (-3) (nI (ch_s top c p)) (-7) with ⟨e1, e2, e3⟩ | ⟨e1, e2, e3⟩ | ⟨e1, e2, e3⟩
    · rw [e3, Option.bind_some]; try dsimp only
      rw [if_neg (by decide), if_pos e1]; exact ⟨_, rfl⟩
    · rw [e3, Option.bind_some]; try dsimp only
      rw [if_pos (nI_pos' (by omega)), qc_of, Option.bind_some, hp, show pv_6 (some p) = nI (r6_p p) from rfl, if_neg (lt_ne e1), if_pos (lt_le e1)]
      by_cases hi : i < 0 ∨ nI (ch_s top c p) ≤ i
      · obtain ⟨R2, g2⟩ := qm_out (top := top) (kn := kn) (vl := vl) (md := md) (x1 := x) (n := nI (ch_s top c p)) (q := nI (r6_p p)) (m := 5999) hi (fo := R.1) (pa := R.2.1) (fi := R.2.2.1) (va := R.2.2.2)
        refine ⟨R2, g2.trans ?_⟩
        by_cases hq : p < 156
        · rw [if_pos hq, nm_neg (fun a ha z => ?_)]
          have hcs : ch_s top c p = ct_g (fun d => fd_f top c (5 * p + d)) 5 := by unfold ch_s; rw [if_pos hq]
          rcases hi with hi | hi
          · rw [← z] at hi; exact nI_pos (by omega) hi
          · rw [← z] at hi
            exact nI_ge (a := a) (b := ch_s top c p) (by omega) (by omega) hi
        · rw [if_neg hq]
      · have hi0 : ¬ i < 0 := fun z => hi (Or.inl z)
        obtain ⟨k, hk, rfl⟩ := nI_of hi0
        have hkn : k < ch_s top c p := by
          rcases Nat.lt_or_ge k (ch_s top c p) with z | z
          · exact z
          · exact absurd (Or.inr (nI_le z hk)) hi
        have hq : p < 156 := by
          unfold ch_s at hkn
          by_cases hq : p < 156
          · exact hq
          · rw [if_neg hq] at hkn; omega
        obtain ⟨R2, g2⟩ := qm_l h h1 ht (md := md) (x1 := x) hq hkn hc 5 fu_n 0 R.1 R.2.1 R.2.2.1 R.2.2.2 (by omega) (by unfold fu_n; omega) (by omega)
        rw [Nat.sub_zero] at g2
        rw [if_pos hq]
        exact ⟨R2, g2⟩
    · rw [e3, Option.bind_some]; try dsimp only
      rw [if_neg (by decide), if_neg (lt_ne' e1), if_neg (lt_nle e1)]; exact ⟨_, rfl⟩
/-- origin -/
theorem xo_l {l t : Nat} (ht : top ≤ 3) (hl : l ≤ top) (htt : t < 2 ^ l) : ∀ (k m : Nat), l ≤ k → k ≤ top → k < m → fx_originOf_17 top (nI (2 ^ l + t)) m (nI k) = some (nI l)
  | k, 0, _, _, h => absurd h (by omega)
  | k, m + 1, hk, hkt, hm => by
    have h4 := p2_lt (n := 4) (by omega : l < 4) htt
    rw [fx_originOf_17.eq_2]; dsimp only
    by_cases h0 : k = 0
    · have : l = 0 := by omega
      rw [h0, this, if_pos (by decide)]
    · rw [if_neg (nI_nle (by omega) (by omega)), xc_ip (by omega) (by omega), Option.bind_some]
      by_cases he : k = l
      · have : (2 ^ l + t) / 2 ^ k % 2 = 1 := by
          rw [he, Nat.add_div_left _ (Nat.two_pow_pos l), Nat.div_eq_of_lt htt]
        rw [if_neg (by rw [if_pos this]; decide), he]
      · have hlk : l < k := by omega
        have : (2 ^ l + t) / 2 ^ k % 2 = 0 := by
          rw [Nat.div_eq_of_lt (p2_lt hlk htt).2]
        rw [if_pos (by rw [if_neg (by rw [this]; decide)]), sb_m1 (by omega)]
        exact xo_l ht hl htt (k - 1) m (by omega) (by omega) (by omega)
def oj_s (md x : Int32) : Int32 := wp_s md x (fun p => if p = 0 then -2 else nI p)
theorem xc_op (md x : Int32) : fx_objectPlaceOrRefusal md x = some (oj_s md x) := by
  unfold fx_objectPlaceOrRefusal oj_s
  rw [xc_pr, pr_w]
  rcases wp_c md x with ⟨hm, w⟩ | ⟨hm, hp, w⟩ | ⟨p, hm, hp, h7, w⟩
  · rw [w, w, Option.bind_some]; try dsimp only
    rw [if_neg (by decide)]
  · rw [w, w, Option.bind_some]; try dsimp only
    rw [if_neg (by decide)]
  · rw [w, w, Option.bind_some]
    by_cases h0 : p = 0
    · rw [if_pos h0, if_pos (by rw [h0]; rfl)]
    · rw [if_neg h0, if_neg (nI_ne0 (by omega) (by omega))]
theorem pl_0 {n : Nat} (hn : n < 10000) : (!(pl_n n == some 0) || n == 0) = true := al_N (N := 10000) (P := fun n => !(pl_n n == some 0) || n == 0) (by decide +kernel) hn
theorem po_0 {x : Int32} {p : Nat} (h : po_x x = some p) : x = 0 ↔ p = 0 := by
  unfold po_x at h
  by_cases h0 : x < 0
  · rw [if_pos h0] at h; cases h
  · rw [if_neg h0] at h
    obtain ⟨n, hn, rfl⟩ := nI_of h0
    by_cases h1 : nI n < 10000
    · rw [if_pos h1, nI_clamp hn] at h
      have hn1 : n < 10000 := (nI_ltI hn (by omega)).mp h1
      constructor
      · intro z
        have : n = 0 := (nI_eq (b := 0) hn (by omega)).mp z
        subst this
        have e : pl_n 0 = some 0 := by decide
        rw [e] at h
        exact (Option.some.inj h).symm
      · intro z
        subst z
        have := pl_0 hn1
        rw [h] at this
        have : n = 0 := by simpa using this
        rw [this]; rfl
    · rw [if_neg h1] at h; cases h
theorem pp_or (h : re_K top c kn vl) (h1 : 1 ≤ top) (ht : top ≤ 3) {md x fo pa fi va : Int32} : ∃ (v : Int32) (R : q4_T), fx_origin top c md x = some v ∧ fq_origin top md kn vl fo pa fi va x = some (v, R) := by
  obtain ⟨R, g1, g2⟩ := qc_ki h h1 ht (md := md) (x := x) (fo := fo) (pa := pa) (fi := fi) (va := va)
  unfold fx_origin fq_origin
  rw [xc_op, g1, ki_w, oj_s]
  rcases wp_c md x with ⟨hm, w⟩ | ⟨hm, hp, w⟩ | ⟨p, hm, hp, h7, w⟩
  · rw [w, w, Option.bind_some, Option.bind_some]; try dsimp only
    rw [if_neg (by decide), if_neg (by decide)]
    exact ⟨_, _, rfl, rfl⟩
  · rw [w, w, Option.bind_some, Option.bind_some]; try dsimp only
    rw [if_neg (by decide), if_neg (by decide)]
    exact ⟨_, _, rfl, rfl⟩
  · obtain ⟨k1, k2, k3⟩ := g2 p hm hp
    rw [w, w, Option.bind_some (a := (cd_r (fd_f top c p), R)), if_pos cd_nn]
    by_cases h0 : p = 0
    · rw [if_pos h0, Option.bind_some]; try dsimp only
      rw [if_pos ((po_0 hp).mpr h0), if_neg (by decide)]
      exact ⟨_, _, rfl, rfl⟩
    · rw [if_neg h0, Option.bind_some]; try dsimp only
      rw [if_neg (fun z => h0 ((po_0 hp).mp z)), if_pos (nI_pos' (by omega)), xc_fd (by omega) (by omega), Option.bind_some]
      obtain ⟨-, -, r3, r4⟩ := k3 (by omega)
      unfold fx_originOf
      rcases r3_c (fd_f top c p) with ⟨e1, e2⟩ | ⟨e1, e2⟩ | ⟨e1, e2⟩
      · rw [if_pos e1, if_pos e2]
        exact ⟨_, _, rfl, rfl⟩
      · obtain ⟨-, l, t, a1, a2, a3, a4⟩ := r4 e1
        have x1 := xo_l (top := top) (l := l) (t := t) ht (by omega) a2 top fu_n (by omega) (by omega) (by unfold fu_n; omega)
        rw [← a3] at x1
        rw [if_neg (lt_ne e1), if_neg (fun z => absurd (e2.symm.trans z) (by decide)), xc_if, Option.bind_some]; try dsimp only
        rw [if_pos (lt_le e1), if_pos rfl, x1, Option.bind_some]
        exact ⟨_, _, rfl, by rw [a4]⟩
      · obtain ⟨l, a1, a2, a3, a4⟩ := r3 e1
        have x1 : fx_layerOfFile (fd_f top c p) = some (nI l) := by rw [a2]; exact xl_of
        rw [if_neg (lt_ne' e1), if_neg (fun z => absurd (e2.symm.trans z) (by decide)), xc_if, Option.bind_some]; try dsimp only
        rw [if_neg (lt_nle e1), if_neg (by decide), x1, Option.bind_some, Option.bind_some]
        exact ⟨_, _, rfl, by rw [a3]⟩
/-- which layers there are -/
theorem xc_il (ht : top ≤ 3) (x : Int32) : (fx_isLayer top x = some 0 ∧ fq_isLayer top x = some 0) ∨ ∃ l, l ≤ top ∧ x = nI l ∧ fx_isLayer top x = some 1 ∧ fq_isLayer top x = some 1 := by
  unfold fx_isLayer fq_isLayer
  by_cases h0 : x < 0
  · rw [if_pos h0]; exact Or.inl ⟨rfl, rfl⟩
  · rw [if_neg h0]
    obtain ⟨l, hl, rfl⟩ := nI_of h0
    by_cases h1 : nI top < nI l
    · rw [if_pos h1]; exact Or.inl ⟨rfl, rfl⟩
    · rw [if_neg h1]
      exact Or.inr ⟨l, Nat.not_lt.mp (fun z => h1 (nI_lt z hl)), rfl, rfl, rfl⟩
theorem pp_en (h : re_K top c kn vl) (ht : top ≤ 3) {x y : Int32} : ∃ v : Int32, fx_entry top c x y = some v ∧ fq_entry top kn x y = some v := by
  unfold fx_entry fq_entry
  rw [pc_of, qc_of, Option.bind_some, Option.bind_some]
  rcases xc_il ht x with ⟨a, b⟩ | ⟨l, hl, rfl, a, b⟩
  · rw [a, b, Option.bind_some, Option.bind_some]; try dsimp only
    rw [if_pos rfl, if_pos rfl]
    exact ⟨_, rfl, rfl⟩
  · rw [a, b, Option.bind_some, Option.bind_some]; try dsimp only
    rw [if_neg (show ¬ (1 : Int32) = 0 by decide), if_neg (show ¬ (1 : Int32) = 0 by decide)]
    cases hp : po_x y with
    | none =>
      rw [if_neg (by decide), if_neg (by decide)]
      exact ⟨_, rfl, rfl⟩
    | some p =>
      have h7 := po_lt hp
      have h6 := r6_lt h7
      rw [show pv_6 (some p) = nI (r6_p p) from rfl, show pv_5 (some p) = nI p from rfl]
      by_cases h0 : p = 0
      · subst h0
        rw [if_neg (by decide), if_neg (by decide)]
        exact ⟨_, rfl, rfl⟩
      · rw [if_pos (by rw [nl_0]; exact nI_lt (by omega) (by omega)), if_pos (by rw [nl_0]; exact nI_lt (r6_pos h7 (by omega)) (by omega)), ck_n (nn_ck (by omega) (by omega)), nI_clamp (by omega), yc_ka (by omega), Option.bind_some, ix_n, ck_n (nn_ck (by omega) (by omega)), nI_clamp (by omega), re_ka h ht hl h7]
        exact ⟨_, rfl, rfl⟩
theorem kk_nn (h : re_K top c kn vl) {i : Nat} (hi : i < 5184) : 0 ≤ kn i := by
  obtain ⟨j, hj, e⟩ := h.1 i hi
  rw [e]; exact nI_pos' (by omega)
theorem pp_ev (h : re_K top c kn vl) (ht : top ≤ 3) {x y : Int32} : ∃ v : Int32, fx_entryValue top c x y = some v ∧ fq_entryValue top kn vl x y = some v := by
  unfold fx_entryValue fq_entryValue fq_entry
  rw [pc_of, qc_of, Option.bind_some, Option.bind_some]
  rcases xc_il ht x with ⟨a, b⟩ | ⟨l, hl, rfl, a, b⟩
  · rw [a, b, Option.bind_some, Option.bind_some]; try dsimp only
    rw [if_pos rfl, if_pos rfl, Option.bind_some]; try dsimp only
    rw [if_neg (by decide)]
    exact ⟨_, rfl, rfl⟩
  · rw [a, b, Option.bind_some, Option.bind_some]; try dsimp only
    rw [if_neg (show ¬ (1 : Int32) = 0 by decide), if_neg (show ¬ (1 : Int32) = 0 by decide)]
    cases hp : po_x y with
    | none =>
      rw [if_neg (by decide), if_neg (by decide), Option.bind_some]; try dsimp only
      rw [if_neg (by decide)]
      exact ⟨_, rfl, rfl⟩
    | some p =>
      have h7 := po_lt hp
      have h6 := r6_lt h7
      rw [show pv_6 (some p) = nI (r6_p p) from rfl, show pv_5 (some p) = nI p from rfl]
      by_cases h0 : p = 0
      · subst h0
        rw [if_neg (by decide), if_neg (by decide), Option.bind_some]; try dsimp only
        rw [if_neg (by decide)]
        exact ⟨_, rfl, rfl⟩
      · rw [if_pos (by rw [nl_0]; exact nI_lt (by omega) (by omega)), if_pos (by rw [nl_0]; exact nI_lt (r6_pos h7 (by omega)) (by omega)), ck_n (nn_ck (by omega) (by omega)), nI_clamp (by omega), yc_ka (by omega), Option.bind_some, ix_n, ck_n (nn_ck (by omega) (by omega)), nI_clamp (by omega), Option.bind_some]; try dsimp only
        rw [if_pos (kk_nn h (by omega))]
        have hk := re_ka h ht hl h7
        by_cases k1 : ka_f (c l).1 p = 1
        · rw [if_pos k1, if_pos (hk.symm.trans k1), ck_n (show ¬ (nI l < 0 ∨ top + 1 ≤ l) from fun z => z.elim (nI_pos (by omega)) (fun w => absurd w (by omega))), yc_va (by omega), Option.bind_some, Option.bind_some, if_pos k1, re_va h ht hl h7 k1, ix_n, ck_n (nn_ck (by omega) (by omega)), nI_clamp (by omega)]
          exact ⟨_, rfl, rfl⟩
        · rw [if_neg k1, if_neg (fun z => k1 (hk.trans z))]
          exact ⟨_, rfl, rfl⟩
end RDT
