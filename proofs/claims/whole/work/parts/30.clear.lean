/-! clearFrom of the class, strip of the reference -/
/-- q is p or lies below it -/
def bz_p (p q : Nat) : Prop := q = p ∨ (dp_p p < dp_p q ∧ up_p (dp_p q - dp_p p) q = p)
/-- cells a .. b cleared -/
def rg_f (f : Nat → Int32) (a b : Nat) : Nat → Int32 := fun q => if a ≤ q ∧ q ≤ b then 0 else f q
theorem cn_cg {f g : Nat → Int32} (h : ∀ p, p < 781 → f p = g p) : cn_f f = cn_f g ∧ cw_f f = cw_f g := ⟨cs_cg 781 (fun i hi => by rw [h i hi]), cs_cg 781 (fun i hi => by rw [h i hi])⟩
theorem yl_in {f : Nat → Int32} {x1 : Int32} {k : Int32 → Int32 → Int32 → (Nat → Int32) → Int32 → Int32 → Option ((Nat → Int32) × Int32 × Int32)} {a b l : Nat} (hb : b < 781) (ha : 0 < a) : ∀ (d m e : Nat), e + d = b + 1 → a ≤ e → d < m → fy_clearFrom_19 x1 k m (nI a) (nI b) (nI l) (nI e) (rg_f f a (e - 1)) (nI (cn_f (rg_f f a (e - 1)))) (nI (cw_f (rg_f f a (e - 1)))) = k (nI (5 * a + 1)) (nI (5 * b + 5)) (nI (l + 1)) (rg_f f a b) (nI (cn_f (rg_f f a b))) (nI (cw_f (rg_f f a b)))
  | 0, 0, e, _, _, h => absurd h (by omega)
  | 0, m + 1, e, he, _, _ => by
    have : e = b + 1 := by omega
    subst this
    rw [fy_clearFrom_19.eq_2]; dsimp only
    rw [if_pos (nI_lt (by omega) (by omega)), nl_1, nl_5, pc_ch, Option.bind_some, pc_ch, Option.bind_some, nI_add, Nat.add_sub_cancel]
  | d + 1, 0, e, _, _, h => absurd h (by omega)
  | d + 1, m + 1, e, he, hae, hm => by
    rw [fy_clearFrom_19.eq_2]; dsimp only
    rw [if_neg (nI_nlt (by omega) (by omega)), yc_st (by omega) (by omega), Option.bind_some]
    dsimp only
    have e1 : upd (rg_f f a (e - 1)) e 0 = rg_f f a e := by
      funext q
      unfold rg_f upd
      by_cases hq : q = e
      · rw [if_pos hq, if_pos (by omega)]
      · rw [if_neg hq]
        by_cases h2 : a ≤ q ∧ q ≤ e
        · rw [if_pos h2]; exact if_pos (by omega)
        · rw [if_neg h2]; exact if_neg (by omega)
    rw [e1, nI_1]
    have ih := yl_in (f := f) (x1 := x1) (k := k) (l := l) hb ha d m (e + 1) (by omega) (by omega) (by omega)
    rw [Nat.add_sub_cancel] at ih
    exact ih
theorem rg_0 {f : Nat → Int32} {a : Nat} (h : 0 < a) : rg_f f a (a - 1) = f := by
  funext q
  unfold rg_f
  rw [if_neg (by omega)]
theorem yl_lv {f : Nat → Int32} {x1 : Int32} {m a b l : Nat} (ha : 0 < a) (hab : a ≤ b) (hb : b < 781) (hl : l ≤ 4) : fy_clearFrom_10 x1 (m + 1) (nI a) (nI b) (nI l) f (nI (cn_f f)) (nI (cw_f f)) = fy_clearFrom_10 x1 m (nI (5 * a + 1)) (nI (5 * b + 5)) (nI (l + 1)) (rg_f f a b) (nI (cn_f (rg_f f a b))) (nI (cw_f (rg_f f a b))) := by
  rw [fy_clearFrom_10.eq_2]; dsimp only
  rw [nl_4, if_neg (nI_nlt hl (by omega))]
  have := yl_in (f := f) (x1 := x1) (k := fy_clearFrom_10 x1 m) (l := l) hb ha (b + 1 - a) fu_n a (by omega) (Nat.le_refl _) (by unfold fu_n; omega)
  rw [rg_0 ha] at this
  exact this
theorem yl_e {f : Nat → Int32} {x1 a b fi wo : Int32} {m : Nat} : fy_clearFrom_10 x1 (m + 1) a b (nI 5) f fi wo = some (f, fi, wo) := by
  rw [fy_clearFrom_10.eq_2]; dsimp only
  rw [if_pos (by decide)]
/-- the layer behind clearFrom -/
theorem yc_cl {f : Nat → Int32} {p : Nat} (h0 : 0 < p) (hp : p < 781) : ∃ f', fy_clearFrom f (nI (cn_f f)) (nI (cw_f f)) (nI p) = some (f', nI (cn_f f'), nI (cw_f f')) ∧ ∀ q, q < 781 → (bz_p p q → f' q = 0) ∧ (¬ bz_p p q → f' q = f q) := by
  unfold fy_clearFrom
  rw [pc_dp (by omega), Option.bind_some]
  have hd : (dp_p p = 1 ∧ p < 6) ∨ (dp_p p = 2 ∧ 6 ≤ p ∧ p < 31) ∨ (dp_p p = 3 ∧ 31 ≤ p ∧ p < 156) ∨ (dp_p p = 4 ∧ 156 ≤ p) := by
    unfold dp_p
    (repeat' split) <;> omega
  rcases hd with ⟨e, h1⟩ | ⟨e, h1, h2⟩ | ⟨e, h1, h2⟩ | ⟨e, h1⟩
  · rw [e, show fu_n = 5995 + 1 + 1 + 1 + 1 + 1 from rfl, yl_lv h0 (Nat.le_refl _) hp (by omega), yl_lv (by omega) (by omega) (by omega) (by omega), yl_lv (by omega) (by omega) (by omega) (by omega), yl_lv (by omega) (by omega) (by omega) (by omega), yl_e]
    refine ⟨_, rfl, fun q hq => ?_⟩
    have hb : bz_p p q ↔ (p ≤ q ∧ q ≤ p) ∨ (5 * p + 1 ≤ q ∧ q ≤ 5 * p + 5) ∨ (5 * (5 * p + 1) + 1 ≤ q ∧ q ≤ 5 * (5 * p + 5) + 5) ∨ (5 * (5 * (5 * p + 1) + 1) + 1 ≤ q ∧ q ≤ 5 * (5 * (5 * p + 5) + 5) + 5) := by
      unfold bz_p
      rw [e]
      unfold dp_p
      (repeat' split) <;> simp only [up_p, Nat.sub_self, Nat.reduceSub] <;> omega
    simp only [rg_f]
    rw [hb]
    constructor
    · intro z; (repeat' split) <;> first | rfl | omega
    · intro z; (repeat' split) <;> first | rfl | omega
  · rw [e, show fu_n = 5996 + 1 + 1 + 1 + 1 from rfl, yl_lv h0 (Nat.le_refl _) hp (by omega), yl_lv (by omega) (by omega) (by omega) (by omega), yl_lv (by omega) (by omega) (by omega) (by omega), yl_e]
    refine ⟨_, rfl, fun q hq => ?_⟩
    have hb : bz_p p q ↔ (p ≤ q ∧ q ≤ p) ∨ (5 * p + 1 ≤ q ∧ q ≤ 5 * p + 5) ∨ (5 * (5 * p + 1) + 1 ≤ q ∧ q ≤ 5 * (5 * p + 5) + 5) := by
      unfold bz_p
      rw [e]
      unfold dp_p
      (repeat' split) <;> simp only [up_p, Nat.sub_self, Nat.reduceSub] <;> omega
    simp only [rg_f]
    rw [hb]
    constructor
    · intro z; (repeat' split) <;> first | rfl | omega
    · intro z; (repeat' split) <;> first | rfl | omega
  · rw [e, show fu_n = 5997 + 1 + 1 + 1 from rfl, yl_lv h0 (Nat.le_refl _) hp (by omega), yl_lv (by omega) (by omega) (by omega) (by omega), yl_e]
    refine ⟨_, rfl, fun q hq => ?_⟩
    have hb : bz_p p q ↔ (p ≤ q ∧ q ≤ p) ∨ (5 * p + 1 ≤ q ∧ q ≤ 5 * p + 5) := by
      unfold bz_p
      rw [e]
      unfold dp_p
      (repeat' split) <;> simp only [up_p, Nat.sub_self, Nat.reduceSub] <;> omega
    simp only [rg_f]
    rw [hb]
    constructor
    · intro z; (repeat' split) <;> first | rfl | omega
    · intro z; (repeat' split) <;> first | rfl | omega
  · rw [e, show fu_n = 5998 + 1 + 1 from rfl, yl_lv h0 (Nat.le_refl _) hp (by omega), yl_e]
    refine ⟨_, rfl, fun q hq => ?_⟩
    have hb : bz_p p q ↔ (p ≤ q ∧ q ≤ p) := by
      unfold bz_p
      rw [e]
      unfold dp_p
      (repeat' split) <;> simp only [up_p, Nat.sub_self, Nat.reduceSub] <;> omega
    simp only [rg_f]
    rw [hb]
    constructor
    · intro z; (repeat' split) <;> first | rfl | omega
    · intro z; (repeat' split) <;> first | rfl | omega
/-- in the reference's numbers -/
def bz_q (p q : Nat) : Prop := q = p ∨ (dp_q p < dp_q q ∧ dv_q (dp_q q - dp_q p) q = p)
theorem bz_r {p q : Nat} (hp : p < 781) (hq : q < 781) : bz_q (r6_p p) (r6_p q) ↔ bz_p p q := by
  unfold bz_q bz_p
  rw [r6_dp hp, r6_dp hq, dv_up _ _ hq]
  have hu := up_lt (dp_p q - dp_p p) q
  constructor
  · rintro (h | ⟨h1, h2⟩)
    · exact Or.inl (r6_inj hq hp h)
    · exact Or.inr ⟨h1, r6_inj (by omega) hp h2⟩
  · rintro (h | ⟨h1, h2⟩)
    · exact Or.inl (by rw [h])
    · exact Or.inr ⟨h1, by rw [h2]⟩
section CLR
variable {top : Nat} {kn vl : Nat → Int32}
theorem qs_l (ht : top ≤ 3) {p : Nat} (hp : p < 1296) : ∀ (d m q : Nat) (kn vl : Nat → Int32), q + d = 1296 → d < m → ∃ kn' vl', fq_strip_2 top (nI p) m (nI q) kn vl = some (kn', vl') ∧ ∀ i, ((1296 * top + q ≤ i ∧ i < 1296 * top + 1296 ∧ bz_q p (i - 1296 * top)) → kn' i = 0 ∧ vl' i = 0) ∧ (¬ (1296 * top + q ≤ i ∧ i < 1296 * top + 1296 ∧ bz_q p (i - 1296 * top)) → kn' i = kn i ∧ vl' i = vl i)
  | 0, 0, q, _, _, _, h => absurd h (by omega)
  | 0, m + 1, q, kn, vl, hq, _ => by
    have : q = 1296 := by omega
    subst this
    rw [fq_strip_2.eq_2]; dsimp only
    rw [if_pos (by decide)]
    exact ⟨kn, vl, rfl, fun i => ⟨fun z => absurd z (by omega), fun _ => ⟨rfl, rfl⟩⟩⟩
  | d + 1, 0, q, _, _, _, h => absurd h (by omega)
  | d + 1, m + 1, q, kn, vl, hq, hm => by
    have hset : ∃ kn' vl', fq_strip_22 top (nI p) (fq_strip_2 top (nI p) m) (nI q) kn vl = some (kn', vl') ∧ ∀ i, ((i = 1296 * top + q ∨ (1296 * top + (q + 1) ≤ i ∧ i < 1296 * top + 1296 ∧ bz_q p (i - 1296 * top))) → kn' i = 0 ∧ vl' i = 0) ∧ (¬ (i = 1296 * top + q ∨ (1296 * top + (q + 1) ≤ i ∧ i < 1296 * top + 1296 ∧ bz_q p (i - 1296 * top))) → kn' i = kn i ∧ vl' i = vl i) := by
      unfold fq_strip_22 fq_strip_29
      rw [qs_st ht (by omega), Option.bind_some]
      dsimp only
      rw [nI_1]
      obtain ⟨kn', vl', e1, e2⟩ := qs_l ht hp d m (q + 1) (upd kn (1296 * top + q) 0) (upd vl (1296 * top + q) 0) (by omega) (by omega)
      refine ⟨kn', vl', e1, fun i => ⟨fun z => ?_, fun z => ?_⟩⟩
      · rcases z with z | z
        · have := (e2 i).2 (fun w => absurd w.1 (by omega))
          rw [this.1, this.2, z, pk_us, pk_us]
          exact ⟨rfl, rfl⟩
        · exact (e2 i).1 z
      · have := (e2 i).2 (fun w => z (Or.inr w))
        rw [this.1, this.2, pk_un (fun w => z (Or.inl w)), pk_un (fun w => z (Or.inl w))]
        exact ⟨rfl, rfl⟩
    rw [fq_strip_2.eq_2]; dsimp only
    rw [if_neg (show ¬ (1296 : Int32) ≤ nI q from nI_ge (a := q) (b := 1296) (by omega) (by omega))]
    have hyes : bz_q p q → ∃ kn' vl', fq_strip_22 top (nI p) (fq_strip_2 top (nI p) m) (nI q) kn vl = some (kn', vl') ∧ ∀ i, ((1296 * top + q ≤ i ∧ i < 1296 * top + 1296 ∧ bz_q p (i - 1296 * top)) → kn' i = 0 ∧ vl' i = 0) ∧ (¬ (1296 * top + q ≤ i ∧ i < 1296 * top + 1296 ∧ bz_q p (i - 1296 * top)) → kn' i = kn i ∧ vl' i = vl i) := by
      intro hb
      obtain ⟨kn', vl', e1, e2⟩ := hset
      refine ⟨kn', vl', e1, fun i => ⟨fun z => (e2 i).1 ?_, fun z => (e2 i).2 ?_⟩⟩
      · by_cases w : i = 1296 * top + q
        · exact Or.inl w
        · exact Or.inr ⟨by omega, z.2⟩
      · rintro (w | w)
        · exact z ⟨by omega, by omega, by rw [w, Nat.add_sub_cancel_left]; exact hb⟩
        · exact z ⟨by omega, w.2⟩
    by_cases he : q = p
    · rw [if_pos (by rw [he])]
      exact hyes (Or.inl he)
    · rw [if_neg (fun z => he ((nI_eq (by omega) (by omega)).mp z)), qc_ib (by omega) (by omega), Option.bind_some]
      by_cases hb : dp_q p < dp_q q ∧ dv_q (dp_q q - dp_q p) q = p
      · rw [if_neg (by rw [if_pos hb]; decide)]
        exact hyes (Or.inr hb)
      · rw [if_pos (by rw [if_neg hb])]
        unfold fq_strip_29
        rw [nI_1]
        obtain ⟨kn', vl', e1, e2⟩ := qs_l ht hp d m (q + 1) kn vl (by omega) (by omega)
        have hnb : ¬ bz_q p q := fun z => z.elim he hb
        refine ⟨kn', vl', e1, fun i => ⟨fun z => (e2 i).1 ?_, fun z => (e2 i).2 (fun w => z ⟨by omega, w.2⟩)⟩⟩
        by_cases w : i = 1296 * top + q
        · exact absurd z.2.2 (by rw [w, Nat.add_sub_cancel_left]; exact hnb)
        · exact ⟨by omega, z.2⟩
end CLR
