/-! how many entries a layer has: the class keeps the number, the reference counts -/
def cs_n (P : Nat → Bool) : Nat → Nat
  | 0 => 0
  | n + 1 => cs_n P n + (if P n = true then 1 else 0)
theorem cs_l (P : Nat → Bool) : ∀ n, cs_n P n = (List.range n).countP P
  | 0 => rfl
  | n + 1 => by
    rw [List.range_succ, List.countP_append, ← cs_l P n]
    show cs_n P n + _ = _
    simp [List.countP_singleton]
theorem cs_le (P : Nat → Bool) : ∀ n, cs_n P n ≤ n
  | 0 => Nat.le_refl 0
  | n + 1 => by
    have := cs_le P n
    show cs_n P n + _ ≤ n + 1
    split <;> omega
theorem cs_cg {P P' : Nat → Bool} : ∀ n, (∀ i, i < n → P i = P' i) → cs_n P n = cs_n P' n
  | 0, _ => rfl
  | n + 1, h => by
    show cs_n P n + _ = cs_n P' n + _
    rw [cs_cg n (fun i hi => h i (by omega)), h n (by omega)]
theorem cs_up {P P' : Nat → Bool} {p : Nat} (h : ∀ i, i ≠ p → P' i = P i) : ∀ n, p < n → cs_n P' n + (if P p = true then 1 else 0) = cs_n P n + (if P' p = true then 1 else 0)
  | 0, hp => absurd hp (by omega)
  | n + 1, hp => by
    show cs_n P' n + (if P' n = true then 1 else 0) + _ = cs_n P n + (if P n = true then 1 else 0) + _
    by_cases e : p = n
    · subst e
      rw [cs_cg p (fun i hi => h i (by omega))]
      omega
    · have ih := cs_up h n (by omega)
      rw [h n (fun z => e z.symm)]
      omega
def cn_f (f : Nat → Int32) : Nat := cs_n (fun p => decide (¬ f p = 0)) 781
def cw_f (f : Nat → Int32) : Nat := cs_n (fun p => decide (f p = 4)) 781
theorem ad_d {a b e d : Nat} (h : d + e = a + b) : nI a + (nI b - nI e) = nI d := by
  have h1 : nI d + nI e = nI a + nI b := by rw [nI_add, nI_add, h]
  have h2 : nI d = nI d + nI e - nI e := by rw [Int32.add_sub_cancel]
  rw [h2, h1, Int32.sub_eq_add_neg, Int32.sub_eq_add_neg, Int32.add_assoc]
theorem ys_77 {f : Nat → Int32} {fi wo v a b d : Int32} {p : Nat} (h7 : p < 781) : fy_set_77 (nI p) v a b d f fi wo = some (upd f p v, fi, d + (b - a)) := by
  unfold fy_set_77
  rw [ck_n (nn_ck (by omega) h7), nI_clamp (by omega)]
theorem ys_62 {f : Nat → Int32} {fi wo v a b : Int32} {p : Nat} (h7 : p < 781) : fy_set_62 (nI p) v a b f fi wo = some (upd f p v, fi, b + (a - if f p = 4 then 1 else 0)) := by
  unfold fy_set_62
  rw [ck_n (nn_ck (by omega) h7), nI_clamp (by omega)]
  by_cases h : f p = 4
  · rw [if_pos h, if_pos h, ys_77 h7]
  · rw [if_neg h, if_neg h, ys_77 h7]
theorem ys_42 {f : Nat → Int32} {fi wo v a b d : Int32} {p : Nat} (h7 : p < 781) : fy_set_42 (nI p) v a b d f fi wo = some (upd f p v, d + (b - a), wo + ((if v = 4 then 1 else 0) - if f p = 4 then 1 else 0)) := by
  unfold fy_set_42
  by_cases h : v = 4
  · rw [if_pos h, if_pos h, ys_62 h7]
  · rw [if_neg h, if_neg h, ys_62 h7]
theorem ys_28 {f : Nat → Int32} {fi wo v a b : Int32} {p : Nat} (h7 : p < 781) : fy_set_28 (nI p) v a b f fi wo = some (upd f p v, b + (a - if f p = 0 then 0 else 1), wo + ((if v = 4 then 1 else 0) - if f p = 4 then 1 else 0)) := by
  unfold fy_set_28
  rw [ck_n (nn_ck (by omega) h7), nI_clamp (by omega)]
  by_cases h : f p = 0
  · rw [if_pos h, if_pos h, ys_42 h7]
  · rw [if_neg h, if_neg h, ys_42 h7]
theorem yc_st {f : Nat → Int32} {v : Int32} {p : Nat} (h0 : 0 < p) (h7 : p < 781) : fy_set f (nI (cn_f f)) (nI (cw_f f)) (nI p) v = some (upd f p v, nI (cn_f (upd f p v)), nI (cw_f (upd f p v))) := by
  have hn : ∀ i, i ≠ p → upd f p v i = f i := fun i hi => pk_un hi
  have hs : upd f p v p = v := pk_us
  have c1 := cs_up (P := fun p => decide (¬ f p = 0)) (P' := fun q => decide (¬ upd f p v q = 0)) (p := p) (fun i hi => by simp only [hn i hi]) 781 h7
  have c2 := cs_up (P := fun p => decide (f p = 4)) (P' := fun q => decide (upd f p v q = 4)) (p := p) (fun i hi => by simp only [hn i hi]) 781 h7
  simp only [hs, decide_eq_true_eq] at c1 c2
  have e1 : nI (cn_f f) + ((if v = 0 then 0 else 1) - if f p = 0 then 0 else 1) = nI (cn_f (upd f p v)) := by
    have a1 : (if v = 0 then (0 : Int32) else 1) = nI (if ¬ v = 0 then 1 else 0) := by
      by_cases h : v = 0
      · rw [if_pos h, if_neg (fun z => z h)]; rfl
      · rw [if_neg h, if_pos h]; rfl
    have a2 : (if f p = 0 then (0 : Int32) else 1) = nI (if ¬ f p = 0 then 1 else 0) := by
      by_cases h : f p = 0
      · rw [if_pos h, if_neg (fun z => z h)]; rfl
      · rw [if_neg h, if_pos h]; rfl
    rw [a1, a2]
    exact ad_d c1
  have e2 : nI (cw_f f) + ((if v = 4 then 1 else 0) - if f p = 4 then 1 else 0) = nI (cw_f (upd f p v)) := by
    have a1 : (if v = 4 then (1 : Int32) else 0) = nI (if v = 4 then 1 else 0) := by split <;> rfl
    have a2 : (if f p = 4 then (1 : Int32) else 0) = nI (if f p = 4 then 1 else 0) := by split <;> rfl
    rw [a1, a2]
    exact ad_d c2
  unfold fy_set
  rw [if_neg (nI_nle h0 (by omega)), nl_781, if_pos (nI_lt h7 (by omega))]
  by_cases h : v = 0
  · rw [if_pos h, ys_28 h7, e2]
    rw [if_pos h] at e1
    rw [e1]
  · rw [if_neg h, ys_28 h7, e2]
    rw [if_neg h] at e1
    rw [e1]
/-- the class's numbers are right -/
def re_C (top : Nat) (c : Nat → ls_T) : Prop := ∀ l, l ≤ top → (c l).2.1 = nI (cn_f (c l).1) ∧ (c l).2.2 = nI (cw_f (c l).1)
section CNT
variable {top : Nat} {c : Nat → ls_T} {kn vl : Nat → Int32}
theorem ce_0 {k v : Int32} (hv : k = 1 → 0 ≤ v) : ce_f k v = 0 ↔ k = 0 := by
  unfold ce_f
  by_cases h : k = 1
  · rw [if_pos h, h]
    exact ⟨fun z => absurd (xo_neg (hv h)) (by rw [z]; decide), fun z => absurd z (by decide)⟩
  · rw [if_neg h]
theorem ce_4 {k v : Int32} (hv : k = 1 → 0 ≤ v) : ce_f k v = 4 ↔ k = 4 := by
  unfold ce_f
  by_cases h : k = 1
  · rw [if_pos h, h]
    exact ⟨fun z => absurd (xo_neg (hv h)) (by rw [z]; decide), fun z => absurd z (by decide)⟩
  · rw [if_neg h]
theorem cq_cs {P : Nat → Bool} (hP : ∀ q, q < 1296 → P q = true → ip_q q = true) : cs_n P 1296 = cs_n (fun p => P (r6_p p)) 781 := by
  rw [cs_l, cs_l]
  have h1 : (List.range 1296).countP P = ((List.range 1296).filter ip_q).countP P := by
    rw [List.countP_filter]
    apply List.countP_congr
    intro q hq
    have hq' := List.mem_range.mp hq
    constructor
    · intro z; simp [z, hP q hq' z]
    · intro z; simp at z; exact z.1
  rw [h1, r6_list, List.countP_map]
  rfl
theorem cq_n (h : re_K top c kn vl) {l : Nat} (hl : l ≤ top) : cs_n (fun q => decide (¬ kn (1296 * l + q) = 0)) 1296 = cn_f (c l).1 := by
  rw [cq_cs (fun q hq z => ?_)]
  · unfold cn_f
    apply cs_cg
    intro p hp
    obtain ⟨a, b⟩ := h.2.1 l hl p hp
    rw [a]
    exact decide_eq_decide.mpr (not_congr (ce_0 b).symm)
  · cases hi : ip_q q with
    | true => rfl
    | false => exact absurd (h.2.2.1 l hl q hq hi) (of_decide_eq_true z)
theorem cq_w (h : re_K top c kn vl) {l : Nat} (hl : l ≤ top) : cs_n (fun q => decide (kn (1296 * l + q) = 4)) 1296 = cw_f (c l).1 := by
  rw [cq_cs (fun q hq z => ?_)]
  · unfold cw_f
    apply cs_cg
    intro p hp
    obtain ⟨a, b⟩ := h.2.1 l hl p hp
    rw [a]
    exact decide_eq_decide.mpr (ce_4 b).symm
  · cases hi : ip_q q with
    | true => rfl
    | false =>
      have := h.2.2.1 l hl q hq hi
      rw [of_decide_eq_true z] at this
      exact absurd this (by decide)
theorem kk_le (h : re_K top c kn vl) {i : Nat} (hi : i < 5184) : kn i ≤ 0 ↔ kn i = 0 := by
  have := kk_nn h hi
  exact ⟨fun z => Int32.le_antisymm z this, fun z => by rw [z]; decide⟩
theorem qe_l (h : re_K top c kn vl) {l : Nat} (hl : l < 4) : ∀ (d m q : Nat), q + d = 1296 → d < m → fq_entries_15 top kn (nI l) m (nI (cs_n (fun q => decide (¬ kn (1296 * l + q) = 0)) q)) (nI q) = some (nI (cs_n (fun q => decide (¬ kn (1296 * l + q) = 0)) 1296))
  | 0, 0, q, _, h => absurd h (by omega)
  | 0, m + 1, q, hq, _ => by
    have : q = 1296 := by omega
    subst this
    rw [fq_entries_15.eq_2]; dsimp only
    rw [if_pos (by decide)]
  | d + 1, 0, q, _, h => absurd h (by omega)
  | d + 1, m + 1, q, hq, hm => by
    rw [fq_entries_15.eq_2]; dsimp only
    rw [if_neg (show ¬ (1296 : Int32) ≤ nI q from nI_ge (a := q) (b := 1296) (by omega) (by omega)), ix_n, ck_n (nn_ck (by omega) (by omega)), nI_clamp (by omega)]
    unfold fq_entries_43
    have ih := qe_l h hl d m (q + 1) (by omega) (by omega)
    have e : cs_n (fun q => decide (¬ kn (1296 * l + q) = 0)) (q + 1) = cs_n (fun q => decide (¬ kn (1296 * l + q) = 0)) q + (if ¬ kn (1296 * l + q) = 0 then 1 else 0) := by
      show _ + _ = _
      simp only [decide_eq_true_eq]
    rw [e] at ih
    rw [nI_1]
    by_cases h0 : kn (1296 * l + q) = 0
    · rw [if_pos ((kk_le h (by omega)).mpr h0), nl_0, nI_add]
      rw [if_neg (fun z => z h0)] at ih
      exact ih
    · rw [if_neg (fun z => h0 ((kk_le h (by omega)).mp z)), nI_1]
      rw [if_pos h0] at ih
      exact ih
theorem qc_es (h : re_K top c kn vl) (ht : top ≤ 3) {l : Nat} (hl : l ≤ top) : fq_entries top kn (nI l) = some (nI (cn_f (c l).1)) := by
  have hi : fq_isLayer top (nI l) = some 1 := by
    unfold fq_isLayer
    rw [if_neg (nI_pos (by omega)), if_neg (nI_nlt hl (by omega))]
  unfold fq_entries
  rw [hi, Option.bind_some, if_neg (by decide)]
  have := qe_l h (l := l) (by omega) 1295 fu_n 1 (by omega) (by unfold fu_n; omega)
  have e0 : cs_n (fun q => decide (¬ kn (1296 * l + q) = 0)) 1 = 0 := by
    show 0 + _ = 0
    rw [if_neg]
    have := h.2.2.2 l hl
    simp [this]
  rw [e0, cq_n h hl] at this
  exact this
theorem pp_es (h : re_K top c kn vl) (hc : re_C top c) (ht : top ≤ 3) {x : Int32} : ∃ v : Int32, fx_entries top c x = some v ∧ fq_entries top kn x = some v := by
  rcases xc_il ht x with ⟨a, b⟩ | ⟨l, hl, rfl, a, b⟩
  · unfold fx_entries fq_entries
    rw [a, b, Option.bind_some, Option.bind_some, if_pos rfl, if_pos rfl]
    exact ⟨_, rfl, rfl⟩
  · rw [qc_es h ht hl]
    unfold fx_entries fy_entryCount
    rw [a, Option.bind_some, if_neg (by decide), ck_n (nn_ck (by omega) (by omega)), nI_clamp (by omega), Option.bind_some, (hc l hl).1]
    exact ⟨_, rfl, rfl⟩
theorem qc_up {q : Nat} (ht : top ≤ 3) (hq : q < 1296) : fq_upper top kn (nI q) = some (kn (1296 * top + q)) := by
  unfold fq_upper
  rw [ix_n, ck_n (nn_ck (by omega) (by omega)), nI_clamp (by omega)]
theorem qw_l (ht : top ≤ 3) : ∀ (d m q : Nat), q + d = 1296 → d < m → fq_whiteouts_4 top kn m (nI (cs_n (fun q => decide (kn (1296 * top + q) = 4)) q)) (nI q) = some (nI (cs_n (fun q => decide (kn (1296 * top + q) = 4)) 1296))
  | 0, 0, q, _, h => absurd h (by omega)
  | 0, m + 1, q, hq, _ => by
    have : q = 1296 := by omega
    subst this
    rw [fq_whiteouts_4.eq_2]; dsimp only
    rw [if_pos (by decide)]
  | d + 1, 0, q, _, h => absurd h (by omega)
  | d + 1, m + 1, q, hq, hm => by
    rw [fq_whiteouts_4.eq_2]; dsimp only
    rw [if_neg (show ¬ (1296 : Int32) ≤ nI q from nI_ge (a := q) (b := 1296) (by omega) (by omega)), qc_up ht (by omega), Option.bind_some]
    unfold fq_whiteouts_26
    have ih := qw_l ht d m (q + 1) (by omega) (by omega)
    have e : cs_n (fun q => decide (kn (1296 * top + q) = 4)) (q + 1) = cs_n (fun q => decide (kn (1296 * top + q) = 4)) q + (if kn (1296 * top + q) = 4 then 1 else 0) := by
      show _ + _ = _
      simp only [decide_eq_true_eq]
    rw [e] at ih
    rw [nI_1]
    by_cases h0 : kn (1296 * top + q) = 4
    · rw [if_pos h0, nI_1]
      rw [if_pos h0] at ih
      exact ih
    · rw [if_neg h0, nl_0, nI_add, nI_1]
      rw [if_neg h0] at ih
      exact ih
theorem pp_wo (h : re_K top c kn vl) (hc : re_C top c) (ht : top ≤ 3) : ∃ v : Int32, fx_whiteouts top c = some v ∧ fq_whiteouts top kn = some v := by
  have := qw_l (kn := kn) ht 1295 fu_n 1 (by omega) (by unfold fu_n; omega)
  have e0 : cs_n (fun q => decide (kn (1296 * top + q) = 4)) 1 = 0 := by
    show 0 + _ = 0
    rw [if_neg]
    have := h.2.2.2 top (Nat.le_refl _)
    simp [this]
  rw [e0, cq_w h (Nat.le_refl _)] at this
  unfold fx_whiteouts fy_whiteoutCount
  rw [Option.bind_some, (hc top (Nat.le_refl _)).2]
  exact ⟨_, rfl, this⟩
/-- room in the layers -/
def sl_n (g : Nat → Nat) : Nat → Nat
  | 0 => 0
  | n + 1 => sl_n g n + g n
def rm_b (top : Nat) (c : Nat → ls_T) (l : Nat) : Prop := if l = top then cn_f (c top).1 < 30 else sl_n (fun l => cn_f (c l).1) top < 60
theorem cn_le (f : Nat → Int32) : cn_f f ≤ 781 := cs_le _ _
theorem sl_le (g : Nat → Nat) (h : ∀ l, g l ≤ 781) : ∀ n, sl_n g n ≤ 781 * n
  | 0 => Nat.le_refl 0
  | n + 1 => by
    have := sl_le g h n
    have := h n
    show sl_n g n + g n ≤ _
    omega
theorem xh_l (hc : re_C top c) (ht : top ≤ 3) {x1 : Int32} : ∀ (d m l : Nat), l + d = top → d < m → fx_hasRoomIn_30 top c x1 m (nI (sl_n (fun l => cn_f (c l).1) l)) (nI l) = some (if sl_n (fun l => cn_f (c l).1) top < 60 then 1 else 0)
  | 0, 0, l, _, h => absurd h (by omega)
  | 0, m + 1, l, hl, _ => by
    have : l = top := by omega
    subst this
    have hs := sl_le (fun l => cn_f (c l).1) (fun l => cn_le _) l
    rw [fx_hasRoomIn_30.eq_2]; dsimp only
    rw [if_pos (Int32.le_refl _), nl_60]
    by_cases h6 : sl_n (fun l => cn_f (c l).1) l < 60
    · rw [if_pos h6, if_neg (nI_ge h6 (by omega))]
    · rw [if_neg h6, if_pos (nI_le (by omega) (by omega))]
  | d + 1, 0, l, _, h => absurd h (by omega)
  | d + 1, m + 1, l, hl, hm => by
    rw [fx_hasRoomIn_30.eq_2]; dsimp only
    unfold fy_entryCount
    rw [if_neg (nI_ge (by omega) (by omega)), ck_n (nn_ck (by omega) (by omega)), nI_clamp (by omega), Option.bind_some, (hc l (by omega)).1, nI_add, nI_1]
    exact xh_l hc ht d m (l + 1) (by omega) (by omega)
theorem xc_hr (hc : re_C top c) (ht : top ≤ 3) {l : Nat} (hl : l ≤ top) : (rm_b top c l ∧ fx_hasRoomIn top c (nI l) = some 1) ∨ (¬ rm_b top c l ∧ fx_hasRoomIn top c (nI l) = some 0) := by
  unfold fx_hasRoomIn rm_b fy_entryCount
  have h3 := cn_le (c top).1
  by_cases h : l = top
  · rw [if_pos h, if_pos (by rw [h]), Option.bind_some, (hc top (Nat.le_refl _)).1, nl_30]
    by_cases h6 : cn_f (c top).1 < 30
    · rw [if_neg (nI_ge h6 (by omega))]; exact Or.inl ⟨h6, rfl⟩
    · rw [if_pos (nI_le (by omega) (by omega))]; exact Or.inr ⟨h6, rfl⟩
  · rw [if_neg h, if_neg (fun z => h ((nI_eq (by omega) (by omega)).mp z)), show (fx_hasRoomIn_30 top c (nI l) fu_n 0 0) = _ from xh_l hc ht top fu_n 0 (by omega) (by unfold fu_n; omega)]
    by_cases h6 : sl_n (fun l => cn_f (c l).1) top < 60
    · rw [if_pos h6]; exact Or.inl ⟨h6, rfl⟩
    · rw [if_neg h6]; exact Or.inr ⟨h6, rfl⟩
theorem qh_l (h : re_K top c kn vl) (ht : top ≤ 3) {x1 : Int32} : ∀ (d m l : Nat), l + d = top → d < m → fq_room_4 top kn x1 m (nI (sl_n (fun l => cn_f (c l).1) l)) (nI l) = (if x1 = nI top then (if cn_f (c top).1 < 30 then some 1 else some 0) else if sl_n (fun l => cn_f (c l).1) top < 60 then some 1 else some 0)
  | 0, 0, l, _, h => absurd h (by omega)
  | 0, m + 1, l, hl, _ => by
    have : l = top := by omega
    subst this
    have hs := sl_le (fun l => cn_f (c l).1) (fun l => cn_le _) l
    have h3 := cn_le (c l).1
    rw [fq_room_4.eq_2]; dsimp only
    rw [if_pos (Int32.le_refl _), nl_60, nl_30]
    by_cases hx : x1 = nI l
    · rw [if_pos hx, if_pos hx, qc_es h ht (Nat.le_refl _), Option.bind_some]
      by_cases h6 : cn_f (c l).1 < 30
      · rw [if_pos h6, if_neg (nI_ge h6 (by omega))]
      · rw [if_neg h6, if_pos (nI_le (by omega) (by omega))]
    · rw [if_neg hx, if_neg hx]
      by_cases h6 : sl_n (fun l => cn_f (c l).1) l < 60
      · rw [if_pos h6, if_neg (nI_ge h6 (by omega))]
      · rw [if_neg h6, if_pos (nI_le (by omega) (by omega))]
  | d + 1, 0, l, _, h => absurd h (by omega)
  | d + 1, m + 1, l, hl, hm => by
    rw [fq_room_4.eq_2]; dsimp only
    rw [if_neg (nI_ge (by omega) (by omega)), qc_es h ht (by omega), Option.bind_some, nI_add, nI_1]
    exact qh_l h ht d m (l + 1) (by omega) (by omega)
theorem qc_hr (h : re_K top c kn vl) (ht : top ≤ 3) {l : Nat} (hl : l ≤ top) : (rm_b top c l → fq_room top kn (nI l) = some 1) ∧ (¬ rm_b top c l → fq_room top kn (nI l) = some 0) := by
  have := qh_l h ht (x1 := nI l) top fu_n 0 (by omega) (by unfold fu_n; omega)
  have e : fq_room top kn (nI l) = _ := this
  rw [e]
  unfold rm_b
  by_cases hx : l = top
  · rw [if_pos hx, if_pos (by rw [hx])]
    exact ⟨fun z => if_pos z, fun z => if_neg z⟩
  · rw [if_neg hx, if_neg (fun z => hx ((nI_eq (by omega) (by omega)).mp z))]
    exact ⟨fun z => if_pos z, fun z => if_neg z⟩
end CNT
