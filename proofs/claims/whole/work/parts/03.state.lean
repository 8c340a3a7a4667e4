/-! the worlds of this claim, over the names of part 01 -/
section WLD
variable (dC : Nat → ClassId) (dI : Nat → Nat → Nat) (cI cQ : ClassId) (t1 t2 bs : Nat)
/-- tables, the two static rows of Places -/
def gk_K (U : State) (H : Heap) : Prop :=
  va_K (dC, dI) vwCl [(cI, .int), (cQ, .object RX0)] U ∧ va_Z RX1 "FIRST_OF_DEPTH" "[I" (.ref t1) (fun q => bs ≤ q) U H ∧ va_T .int t1 5 (fun j => .int (ft_1 j)) (fun q => bs ≤ q) U H ∧ va_Z RX1 "NUMBER_OF_DEPTH" "[I" (.ref t2) (fun q => bs ≤ q) U H ∧ va_T .int t2 5 (fun j => .int (ft_2 j)) (fun q => bs ≤ q) U H
def gk_G (ws : va_W) (U : State) (H : Heap) : Prop := gk_K dC dI cI cQ t1 t2 bs U H ∧ va_P (dC, dI) vwCl ws H
end WLD
theorem gk_Kw {dC : Nat → ClassId} {dI : Nat → Nat → Nat} {cI cQ : ClassId} {t1 t2 bs : Nat} {u U : State} {H : Heap} (hW : u.WarmedH U.vm) (h : gk_K dC dI cI cQ t1 t2 bs u H) : gk_K dC dI cI cQ t1 t2 bs U H := by
  obtain ⟨h1, h2, h3, h4, h5⟩ := h
  exact ⟨va_K.moved hW.alike h1, va_Z.moved hW.alike h2, va_T.moved hW.alike h3, va_Z.moved hW.alike h4, va_T.moved hW.alike h5⟩
theorem gk_W {dC : Nat → ClassId} {dI : Nat → Nat → Nat} {cI cQ : ClassId} {t1 t2 bs : Nat} {ws : va_W} : ∀ (u U : State) (K : Heap), u.WarmedH U.vm → gk_G dC dI cI cQ t1 t2 bs ws u K → gk_G dC dI cI cQ t1 t2 bs ws U K := fun _ _ _ hW h => ⟨gk_Kw hW h.1, h.2⟩
theorem gk_S {dC : Nat → ClassId} {dI : Nat → Nat → Nat} {cI cQ : ClassId} {t1 t2 bs : Nat} {s : State} {H : Heap} {locs : List Loc} {A : Nat → Prop} (h : gk_K dC dI cI cQ t1 t2 bs s s.heap) (hS : va_S A s.heap H locs) (hA : ∀ q, A q → bs ≤ q) : gk_K dC dI cI cQ t1 t2 bs s H := by
  obtain ⟨h1, h2, h3, h4, h5⟩ := h
  have hk : ∀ a : Nat, a < s.heap.size → ¬ (bs ≤ a) → H[a]? = s.heap[a]? := fun a ha hb => hS.2.1 a ha (fun z => hb (hA a z))
  exact ⟨h1, va_Z.kept h2 hk, va_T.kept h3 hk, va_Z.kept h4 hk, va_T.kept h5 hk⟩
theorem pr_S {as : List Value} {s : State} {H : Heap} {Gf : State → Heap → Prop} (hm : ∀ (u U : State) (K : Heap), u.WarmedH U.vm → Gf u K → Gf U K) (h : Gf s H) : PreS s H (va_Pc as (fun U => U.heap.size = H.size ∧ Gf U U.heap)) as :=
  ⟨fun a U g mk q => ⟨q.1, q.2.1, hm U (U.calling g mk a) _ (State.WarmedH.refl U) q.2.2⟩, fun U hU hW => ⟨rfl, by rw [hU], by rw [hU]; exact hm s U H hW h⟩⟩
theorem pr_V {as : List Value} {s : State} {H : Heap} {C : String} {b : Nat} {Gf : State → Heap → Prop} (hm : ∀ (u U : State) (K : Heap), u.WarmedH U.vm → Gf u K → Gf U K) (hr : ∃ cellB : Cell, H[b]? = some cellB ∧ cellB.vm.isStatics = false ∧ s.vm.findClass C = some cellB.cls) (h : Gf s H) : PreV s H C b (va_Pc (.ref b :: as) (fun U => U.heap.size = H.size ∧ Gf U U.heap)) as :=
  ⟨fun a U g mk q => ⟨q.1, q.2.1, hm U (U.calling g mk a) _ (State.WarmedH.refl U) q.2.2⟩, hr, fun U hU hW => ⟨rfl, by rw [hU], by rw [hU]; exact hm s U H hW h⟩⟩
/-- a layer: its object and its cells -/
abbrev wl_L (cI : ClassId) (a0 a1 : Nat) (f : Nat → Int32) (fi wo : Int32) : va_W := [(a0, .inr (0, [.ref a1, .int fi, .int wo])), (a1, .inl (cI, 781, .inl f))]
abbrev wl_Q (cI : ClassId) (a0 a1 a2 a3 : Nat) (f : Nat → Int32) (fi wo : Int32) (g : Nat → Int32) (gi go : Int32) : va_W := [(a0, .inr (0, [.ref a1, .int fi, .int wo])), (a1, .inl (cI, 781, .inl f)), (a2, .inr (0, [.ref a3, .int gi, .int go])), (a3, .inl (cI, 781, .inl g))]
/-- the layers of a tree -/
def wx_T (cI : ClassId) (lo lc : Nat → Nat) (c : Nat → ls_T) : Nat → va_W
  | 0 => []
  | n + 1 => wx_T cI lo lc c n ++ wl_L cI (lo n) (lc n) (c n).1 (c n).2.1 (c n).2.2
def ad_T (lo lc : Nat → Nat) : Nat → List Nat
  | 0 => []
  | n + 1 => ad_T lo lc n ++ [lo n, lc n]
def ad_X (top xo la ko kc nt : Nat) (lo lc : Nat → Nat) : List Nat := [xo, la, ko, kc, nt] ++ ad_T lo lc (top + 1)
abbrev wx_X (cI cQ : ClassId) (top xo la ko kc nt : Nat) (lo lc : Nat → Nat) (c : Nat → ls_T) (md cu : Int32) (kp : ls_T) (kcu : Int32) (nf : Nat → Int32) : va_W :=
  [(xo, .inr (1, [.int (nI top), .ref la, .ref (lo top), .int md, .int cu, .ref ko, .int kcu, .ref nt])), (la, .inl (cQ, top + 1, .inr (.inr (.inr (.inr (fun j => some (lo j))))))), (ko, .inr (0, [.ref kc, .int kp.2.1, .int kp.2.2])), (kc, .inl (cI, 781, .inl kp.1)), (nt, .inl (cI, 156, .inl nf))] ++ wx_T cI lo lc c (top + 1)
theorem mx_T {cI : ClassId} {lo lc : Nat → Nat} {c : Nat → ls_T} : ∀ n, (wx_T cI lo lc c n).map Prod.fst = ad_T lo lc n
  | 0 => rfl
  | n + 1 => by
    show (wx_T cI lo lc c n ++ _).map Prod.fst = ad_T lo lc n ++ [lo n, lc n]
    rw [List.map_append, mx_T n]; rfl
theorem mx_X {cI cQ : ClassId} {top xo la ko kc nt : Nat} {lo lc : Nat → Nat} {c : Nat → ls_T} {md cu : Int32} {kp : ls_T} {kcu : Int32} {nf : Nat → Int32} : (wx_X cI cQ top xo la ko kc nt lo lc c md cu kp kcu nf).map Prod.fst = ad_X top xo la ko kc nt lo lc := by
  show [xo, la, ko, kc, nt] ++ (wx_T cI lo lc c (top + 1)).map Prod.fst = _
  rw [mx_T]; rfl
theorem tx_in {cI : ClassId} {lo lc : Nat → Nat} {c : Nat → ls_T} : ∀ {n i : Nat}, i < n → ∀ q ∈ wl_L cI (lo i) (lc i) (c i).1 (c i).2.1 (c i).2.2, q ∈ wx_T cI lo lc c n
  | 0, i, h, q, _ => absurd h (Nat.not_lt_zero i)
  | n + 1, i, h, q, hq => by
    show q ∈ wx_T cI lo lc c n ++ _
    rcases Nat.lt_or_eq_of_le (Nat.le_of_lt_succ h) with h | h
    · exact List.mem_append_left _ (tx_in h q hq)
    · subst h; exact List.mem_append_right _ hq
theorem tx_ex {cI : ClassId} {lo lc : Nat → Nat} {c : Nat → ls_T} : ∀ {n : Nat} (q : Nat × va_E), q ∈ wx_T cI lo lc c n → ∃ i, i < n ∧ q ∈ wl_L cI (lo i) (lc i) (c i).1 (c i).2.1 (c i).2.2
  | 0, q, h => by cases h
  | n + 1, q, h => by
    rcases List.mem_append.mp (show q ∈ wx_T cI lo lc c n ++ _ from h) with h | h
    · obtain ⟨i, hi, hq⟩ := tx_ex q h
      exact ⟨i, Nat.lt_succ_of_lt hi, hq⟩
    · exact ⟨n, Nat.lt_succ_self n, h⟩
theorem at_sub {lo lc : Nat → Nat} : ∀ {n i : Nat}, i < n → [lo i, lc i].Sublist (ad_T lo lc n)
  | 0, i, h => absurd h (Nat.not_lt_zero i)
  | n + 1, i, h => by
    show [lo i, lc i].Sublist (ad_T lo lc n ++ [lo n, lc n])
    rcases Nat.lt_or_eq_of_le (Nat.le_of_lt_succ h) with h | h
    · exact (at_sub h).trans (List.sublist_append_left _ _)
    · subst h; exact List.sublist_append_right _ _
theorem at_ne {lo lc : Nat → Nat} : ∀ {n : Nat}, (ad_T lo lc n).Nodup → ∀ {i j : Nat}, i < n → j < n → i ≠ j → ∀ a ∈ [lo i, lc i], a ∉ [lo j, lc j]
  | 0, _, i, j, h, _, _, _, _ => absurd h (Nat.not_lt_zero i)
  | n + 1, hn, i, j, hi, hj, hij, a, ha => by
    have hn : (ad_T lo lc n ++ [lo n, lc n]).Nodup := hn
    obtain ⟨h1, h2, h3⟩ := List.nodup_append.mp hn
    rcases Nat.lt_or_eq_of_le (Nat.le_of_lt_succ hi) with hi | hi <;> rcases Nat.lt_or_eq_of_le (Nat.le_of_lt_succ hj) with hj | hj
    · exact at_ne h1 hi hj hij a ha
    · subst hj
      exact fun hz => h3 a ((at_sub hi).subset ha) a hz rfl
    · subst hi
      exact fun hz => h3 a ((at_sub hj).subset hz) a ha rfl
    · omega
section WX
variable {dC : Nat → ClassId} {dI : Nat → Nat → Nat} {cI cQ : ClassId} {bs top xo la ko kc nt : Nat} {lo lc : Nat → Nat} {c : Nat → ls_T} {md cu : Int32} {kp : ls_T} {kcu : Int32} {nf : Nat → Int32} {H H1 : Heap}
theorem sx_L {i : Nat} (hi : i < top + 1) : [lo i, lc i].Sublist (ad_X top xo la ko kc nt lo lc) := (at_sub hi).trans (List.sublist_append_right _ _)
theorem px_L {i : Nat} (hP : va_P (dC, dI) vwCl (wx_X cI cQ top xo la ko kc nt lo lc c md cu kp kcu nf) H) (hi : i < top + 1) : va_P (dC, dI) vwCl (wl_L cI (lo i) (lc i) (c i).1 (c i).2.1 (c i).2.2) H := pm_P hP (fun q hq => List.mem_append_right _ (tx_in hi q hq))
theorem gx_L {i : Nat} (hg : gd_A bs (ad_X top xo la ko kc nt lo lc)) (hi : i < top + 1) : gd_A bs [lo i, lc i] := gd_sub hg (sx_L hi)
theorem ax_L {i : Nat} (hi : i < top + 1) : ∀ q, in_A [lo i, lc i] q → in_A (ad_X top xo la ko kc nt lo lc) q := fun q h => (sx_L hi).subset h
theorem wl_ad {a0 a1 : Nat} {f : Nat → Int32} {fi wo : Int32} {q : Nat × va_E} (h : q ∈ wl_L cI a0 a1 f fi wo) : q.1 ∈ [a0, a1] := by
  have := List.mem_map_of_mem (f := Prod.fst) h
  exact this
theorem jx_L {i : Nat} {f : Nat → Int32} {fi wo : Int32} (hg : gd_A bs (ad_X top xo la ko kc nt lo lc)) (hi : i < top + 1) (hP : va_P (dC, dI) vwCl (wx_X cI cQ top xo la ko kc nt lo lc c md cu kp kcu nf) H) (hP1 : va_P (dC, dI) vwCl (wl_L cI (lo i) (lc i) f fi wo) H1) (hk : ∀ q : Nat, q < H.size → ¬ in_A [lo i, lc i] q → H1[q]? = H[q]?) : va_P (dC, dI) vwCl (wx_X cI cQ top xo la ko kc nt lo lc (va_up c i (f, fi, wo)) md cu kp kcu nf) H1 := by
  refine jn_P hP hP1 hk (fun q hq => ?_)
  obtain ⟨h1, h2, h3⟩ := List.nodup_append.mp (show ([xo, la, ko, kc, nt] ++ ad_T lo lc (top + 1)).Nodup from hg.1)
  rcases List.mem_append.mp hq with hq | hq
  · refine Or.inr ⟨List.mem_append_left _ hq, fun z => ?_⟩
    exact h3 q.1 (List.mem_map_of_mem (f := Prod.fst) hq) q.1 ((at_sub hi).subset z) rfl
  · obtain ⟨j, hj, hq2⟩ := tx_ex q hq
    by_cases hij : j = i
    · subst hij
      rw [va_up_self] at hq2
      exact Or.inl hq2
    · rw [va_up_ne _ _ hij] at hq2
      exact Or.inr ⟨List.mem_append_right _ (tx_in hj q hq2), at_ne h2 hj hi hij q.1 (wl_ad hq2)⟩
theorem sx_Q : [ko, kc, lo top, lc top].Sublist (ad_X top xo la ko kc nt lo lc) := by
  show ([ko, kc] ++ [lo top, lc top]).Sublist ([xo, la, ko, kc, nt] ++ ad_T lo lc (top + 1))
  refine List.Sublist.append ?_ (at_sub (Nat.lt_succ_self top))
  exact ((List.Sublist.refl [ko, kc]).trans (List.sublist_append_left [ko, kc] [nt])).trans (List.sublist_append_right [xo, la] _)
theorem gx_Q1 (hg : gd_A bs (ad_X top xo la ko kc nt lo lc)) : gd_A bs [ko, kc, lo top, lc top] := gd_sub hg sx_Q
theorem px_Q1 (hP : va_P (dC, dI) vwCl (wx_X cI cQ top xo la ko kc nt lo lc c md cu kp kcu nf) H) : va_P (dC, dI) vwCl (wl_Q cI ko kc (lo top) (lc top) kp.1 kp.2.1 kp.2.2 (c top).1 (c top).2.1 (c top).2.2) H := pm_P hP (fun q hq => by
  rcases List.mem_append.mp (show q ∈ wl_L cI ko kc kp.1 kp.2.1 kp.2.2 ++ wl_L cI (lo top) (lc top) (c top).1 (c top).2.1 (c top).2.2 from hq) with h | h
  · refine List.mem_append_left _ ?_
    simp only [List.mem_cons, List.not_mem_nil, or_false] at h ⊢
    rcases h with h | h <;> simp [h]
  · exact List.mem_append_right _ (tx_in (Nat.lt_succ_self top) q h))
theorem px_Q2 (hP : va_P (dC, dI) vwCl (wx_X cI cQ top xo la ko kc nt lo lc c md cu kp kcu nf) H) : va_P (dC, dI) vwCl (wl_Q cI (lo top) (lc top) ko kc (c top).1 (c top).2.1 (c top).2.2 kp.1 kp.2.1 kp.2.2) H := pm_P (px_Q1 hP) (fun q hq => by
  rcases List.mem_append.mp (show q ∈ wl_L cI (lo top) (lc top) (c top).1 (c top).2.1 (c top).2.2 ++ wl_L cI ko kc kp.1 kp.2.1 kp.2.2 from hq) with h | h
  · exact List.mem_append_right (wl_L cI ko kc kp.1 kp.2.1 kp.2.2) h
  · exact List.mem_append_left (wl_L cI (lo top) (lc top) (c top).1 (c top).2.1 (c top).2.2) h)
theorem gx_Q2 (hg : gd_A bs (ad_X top xo la ko kc nt lo lc)) : gd_A bs [lo top, lc top, ko, kc] := by
  obtain ⟨h1, h2⟩ := gx_Q1 hg
  have hp : ([lo top, lc top] ++ [ko, kc]).Perm ([ko, kc] ++ [lo top, lc top]) := List.perm_append_comm
  exact ⟨hp.nodup_iff.mpr h1, fun a ha => h2 a (hp.mem_iff.mp ha)⟩
theorem ax_Q1 : ∀ q, in_A [ko, kc, lo top, lc top] q → in_A (ad_X top xo la ko kc nt lo lc) q := fun q h => sx_Q.subset h
theorem ax_Q2 : ∀ q, in_A [lo top, lc top, ko, kc] q → in_A (ad_X top xo la ko kc nt lo lc) q := fun q h => sx_Q.subset ((List.perm_append_comm (l₁ := [lo top, lc top]) (l₂ := [ko, kc])).mem_iff.mp h)
theorem hx_b (hg : gd_A bs (ad_X top xo la ko kc nt lo lc)) : ∀ a ∈ [xo, la, nt], a ∉ [ko, kc, lo top, lc top] := by
  obtain ⟨h1, h2, h3⟩ := List.nodup_append.mp (show ([xo, la, ko, kc, nt] ++ ad_T lo lc (top + 1)).Nodup from hg.1)
  intro a ha hz
  have ha5 : a ∈ [xo, la, ko, kc, nt] := by
    simp only [List.mem_cons, List.not_mem_nil, or_false] at ha ⊢
    rcases ha with h | h | h <;> simp [h]
  rcases List.mem_append.mp (show a ∈ [ko, kc] ++ [lo top, lc top] from hz) with z | z
  · simp only [List.nodup_cons, List.mem_cons, List.not_mem_nil, or_false] at h1 ha z
    omega
  · exact h3 a ha5 a ((at_sub (Nat.lt_succ_self top)).subset z) rfl
theorem hx_t (hg : gd_A bs (ad_X top xo la ko kc nt lo lc)) {j : Nat} (hj : j < top + 1) (hne : j ≠ top) : ∀ a ∈ [lo j, lc j], a ∉ [ko, kc, lo top, lc top] := by
  obtain ⟨h1, h2, h3⟩ := List.nodup_append.mp (show ([xo, la, ko, kc, nt] ++ ad_T lo lc (top + 1)).Nodup from hg.1)
  intro a ha hz
  rcases List.mem_append.mp (show a ∈ [ko, kc] ++ [lo top, lc top] from hz) with z | z
  · refine h3 a ?_ a ((at_sub hj).subset ha) rfl
    simp only [List.mem_cons, List.not_mem_nil, or_false] at z ⊢
    rcases z with h | h <;> simp [h]
  · exact at_ne h2 hj (Nat.lt_succ_self top) hne a ha z
theorem jx_Q1 {f : Nat → Int32} {fi wo : Int32} (hg : gd_A bs (ad_X top xo la ko kc nt lo lc)) (hP : va_P (dC, dI) vwCl (wx_X cI cQ top xo la ko kc nt lo lc c md cu kp kcu nf) H) (hP1 : va_P (dC, dI) vwCl (wl_Q cI ko kc (lo top) (lc top) f fi wo (c top).1 (c top).2.1 (c top).2.2) H1) (hk : ∀ q : Nat, q < H.size → ¬ in_A [ko, kc, lo top, lc top] q → H1[q]? = H[q]?) : va_P (dC, dI) vwCl (wx_X cI cQ top xo la ko kc nt lo lc c md cu (f, fi, wo) kcu nf) H1 := by
  refine jn_P hP hP1 hk (fun q hq => ?_)
  rcases List.mem_append.mp hq with hq | hq
  · simp only [List.mem_cons, List.not_mem_nil, or_false] at hq
    rcases hq with h | h | h | h | h
    · exact Or.inr ⟨List.mem_append_left _ (by simp [h]), by rw [h]; exact hx_b hg xo (by simp)⟩
    · exact Or.inr ⟨List.mem_append_left _ (by simp [h]), by rw [h]; exact hx_b hg la (by simp)⟩
    · exact Or.inl (by simp [h])
    · exact Or.inl (by simp [h])
    · exact Or.inr ⟨List.mem_append_left _ (by simp [h]), by rw [h]; exact hx_b hg nt (by simp)⟩
  · obtain ⟨j, hj, hq2⟩ := tx_ex q hq
    by_cases hij : j = top
    · subst hij
      exact Or.inl (List.mem_append_right (wl_L cI ko kc f fi wo) hq2)
    · exact Or.inr ⟨List.mem_append_right _ (tx_in hj q hq2), hx_t hg hj hij q.1 (wl_ad hq2)⟩
theorem jx_Q2 {f : Nat → Int32} {fi wo : Int32} (hg : gd_A bs (ad_X top xo la ko kc nt lo lc)) (hP : va_P (dC, dI) vwCl (wx_X cI cQ top xo la ko kc nt lo lc c md cu kp kcu nf) H) (hP1 : va_P (dC, dI) vwCl (wl_Q cI (lo top) (lc top) ko kc f fi wo kp.1 kp.2.1 kp.2.2) H1) (hk : ∀ q : Nat, q < H.size → ¬ in_A [lo top, lc top, ko, kc] q → H1[q]? = H[q]?) : va_P (dC, dI) vwCl (wx_X cI cQ top xo la ko kc nt lo lc (va_up c top (f, fi, wo)) md cu kp kcu nf) H1 := by
  have hsw : ∀ {a : Nat}, a ∉ [ko, kc, lo top, lc top] → a ∉ [lo top, lc top, ko, kc] := fun h z => h ((List.perm_append_comm (l₁ := [lo top, lc top]) (l₂ := [ko, kc])).mem_iff.mp z)
  refine jn_P hP hP1 hk (fun q hq => ?_)
  rcases List.mem_append.mp hq with hq | hq
  · simp only [List.mem_cons, List.not_mem_nil, or_false] at hq
    rcases hq with h | h | h | h | h
    · exact Or.inr ⟨List.mem_append_left _ (by simp [h]), by rw [h]; exact hsw (hx_b hg xo (by simp))⟩
    · exact Or.inr ⟨List.mem_append_left _ (by simp [h]), by rw [h]; exact hsw (hx_b hg la (by simp))⟩
    · exact Or.inl (by simp [h])
    · exact Or.inl (by simp [h])
    · exact Or.inr ⟨List.mem_append_left _ (by simp [h]), by rw [h]; exact hsw (hx_b hg nt (by simp))⟩
  · obtain ⟨j, hj, hq2⟩ := tx_ex q hq
    by_cases hij : j = top
    · subst hij
      rw [va_up_self] at hq2
      exact Or.inl (List.mem_append_left (wl_L cI ko kc kp.1 kp.2.1 kp.2.2) hq2)
    · rw [va_up_ne _ _ hij] at hq2
      exact Or.inr ⟨List.mem_append_right _ (tx_in hj q hq2), hsw (hx_t hg hj hij q.1 (wl_ad hq2))⟩
end WX
/-- the reference -/
abbrev wm_M (cI : ClassId) (top mo m1 m2 m3 m4 m5 m6 m7 : Nat) (mt cu : Int32) (kn vl ok ov : Nat → Int32) (fo pa fi va : Int32) (nd nk nv : Nat → Int32) (no : Int32) : va_W :=
  [(mo, .inr (2, [.int (nI top), .int mt, .int cu, .ref m1, .ref m2, .ref m3, .ref m4, .int fo, .int pa, .int fi, .int va, .ref m5, .ref m6, .ref m7, .int no])), (m1, .inl (cI, 5184, .inl kn)), (m2, .inl (cI, 5184, .inl vl)), (m3, .inl (cI, 1296, .inl ok)), (m4, .inl (cI, 1296, .inl ov)), (m5, .inl (cI, 96, .inl nd)), (m6, .inl (cI, 96, .inl nk)), (m7, .inl (cI, 96, .inl nv))]
abbrev rm_0_0 : Room := { frames := 0, cells := 0, slots := 0, locals := 0 }
abbrev rm_1_20 : Room := { frames := 1, cells := 0, slots := 0, locals := 20 }
abbrev rm_1_21 : Room := { frames := 1, cells := 0, slots := 0, locals := 21 }
abbrev rm_1_22 : Room := { frames := 1, cells := 0, slots := 0, locals := 22 }
abbrev rm_1_23 : Room := { frames := 1, cells := 0, slots := 0, locals := 23 }
abbrev rm_1_25 : Room := { frames := 1, cells := 0, slots := 0, locals := 25 }
abbrev rm_1_40 : Room := { frames := 1, cells := 0, slots := 0, locals := 40 }
abbrev rm_2_44 : Room := { frames := 2, cells := 0, slots := 0, locals := 44 }
abbrev rm_2_45 : Room := { frames := 2, cells := 0, slots := 0, locals := 45 }
abbrev rm_2_46 : Room := { frames := 2, cells := 0, slots := 0, locals := 46 }
abbrev rm_2_48 : Room := { frames := 2, cells := 0, slots := 0, locals := 48 }
abbrev rm_2_61 : Room := { frames := 2, cells := 0, slots := 0, locals := 61 }
abbrev rm_3_66 : Room := { frames := 3, cells := 0, slots := 0, locals := 66 }
abbrev rm_3_67 : Room := { frames := 3, cells := 0, slots := 0, locals := 67 }
abbrev rm_3_69 : Room := { frames := 3, cells := 0, slots := 0, locals := 69 }
abbrev rm_3_70 : Room := { frames := 3, cells := 0, slots := 0, locals := 70 }
abbrev rm_3_71 : Room := { frames := 3, cells := 0, slots := 0, locals := 71 }
abbrev rm_4_88 : Room := { frames := 4, cells := 0, slots := 0, locals := 88 }
abbrev rm_4_91 : Room := { frames := 4, cells := 0, slots := 0, locals := 91 }
abbrev rm_4_92 : Room := { frames := 4, cells := 0, slots := 0, locals := 92 }
abbrev rm_4_93 : Room := { frames := 4, cells := 0, slots := 0, locals := 93 }
abbrev rm_4_94 : Room := { frames := 4, cells := 0, slots := 0, locals := 94 }
abbrev rm_5_112 : Room := { frames := 5, cells := 0, slots := 0, locals := 112 }
abbrev rm_5_113 : Room := { frames := 5, cells := 0, slots := 0, locals := 113 }
abbrev rm_6_135 : Room := { frames := 6, cells := 0, slots := 0, locals := 135 }
abbrev rm_10_306 : Room := { frames := 10, cells := 0, slots := 0, locals := 306 }
abbrev rc_R (n : Nat) : Room := { frames := n + 3, cells := 0, slots := 0, locals := 30 * n + 100 }
