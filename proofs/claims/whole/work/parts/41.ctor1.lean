/-! constructors: a layer, the reference -/
theorem nd_D {A : Nat → Prop} {ws : va_W} (h : va_D A ws) : (ws.map Prod.fst).Nodup ∧ ∀ a ∈ ws.map Prod.fst, A a := by
  refine ⟨?_, fun a ha => ?_⟩
  · refine List.pairwise_iff_getElem.mpr (fun i j hi hj hij he => ?_)
    have hi' : i < ws.length := by rw [List.length_map] at hi; exact hi
    have hj' : j < ws.length := by rw [List.length_map] at hj; exact hj
    rw [List.getElem_map, List.getElem_map] at he
    have := h.1 i j ws[i] ws[j] (List.getElem?_eq_getElem hi') (List.getElem?_eq_getElem hj') he
    omega
  · obtain ⟨q, hq, rfl⟩ := List.mem_map.mp ha
    obtain ⟨k, hk⟩ := List.getElem?_of_mem hq
    exact h.2 k q hk
theorem dn_D {A : Nat → Prop} {ws : va_W} (h1 : (ws.map Prod.fst).Nodup) (h2 : ∀ a ∈ ws.map Prod.fst, A a) : va_D A ws := by
  refine ⟨fun i j p q hi hj hpq => ?_, fun k q hk => h2 q.1 (List.mem_map.mpr ⟨q, List.mem_of_getElem? hk, rfl⟩)⟩
  refine nd_inj _ h1 i j p.1 ?_ ?_
  · rw [List.getElem?_map, hi]; rfl
  · rw [List.getElem?_map, hj, hpq]; rfl
/-- the class of the rows of ints is one -/
theorem cI_one {dC : Nat → ClassId} {dI : Nat → Nat → Nat} {cl : List vw_C} {tys : List (ClassId × FieldType)} {s : State} {cI cA : ClassId} {i j : Nat} (hK : va_K (dC, dI) cl tys s) (h1 : tys[i]? = some (cI, .int)) (h2 : tys[j]? = some (cA, .int)) : cA = cI := by
  have a1 : s.vm.findClass ("[" ++ FieldType.int.toString) = some cI := (hK.2 i _ h1).2
  have a2 : s.vm.findClass ("[" ++ FieldType.int.toString) = some cA := (hK.2 j _ h2).2
  exact Option.some.inj (a2.symm.trans a1)
theorem cQ_one {dC : Nat → ClassId} {dI : Nat → Nat → Nat} {cl : List vw_C} {tys : List (ClassId × FieldType)} {s : State} {cI cA : ClassId} {i j : Nat} {C : String} (hK : va_K (dC, dI) cl tys s) (h1 : tys[i]? = some (cI, .object C)) (h2 : tys[j]? = some (cA, .object C)) : cA = cI := by
  obtain ⟨-, -, -, -, -, a1⟩ := (hK.2 i _ h1).2
  obtain ⟨-, -, -, -, -, a2⟩ := (hK.2 j _ h2).2
  exact Option.some.inj (a2.symm.trans a1)
abbrev ty_Q (cI cQ : ClassId) : List (ClassId × FieldType) := [(cI, .int), (cQ, .object RX0)]
/-- what a constructor finds -/
def k0_G (dC : Nat → ClassId) (dI : Nat → Nat → Nat) (cI cQ : ClassId) (ws : va_W) (U : State) (H : Heap) : Prop := va_K (dC, dI) vwCl (ty_Q cI cQ) U ∧ va_AO RX0 U ∧ va_Nw (.methodLinkNest RX2 28 yX0_init "LayeredTree") U ∧ va_P (dC, dI) vwCl ws H
theorem k0_W {dC : Nat → ClassId} {dI : Nat → Nat → Nat} {cI cQ : ClassId} {ws : va_W} : ∀ (u U : State) (K : Heap), u.WarmedH U.vm → k0_G dC dI cI cQ ws u K → k0_G dC dI cI cQ ws U K := fun _ _ _ hW h => ⟨va_K.moved hW.alike h.1, va_AO.moved hW.alike h.2.1, va_Nw.warmM hW h.2.2.1, h.2.2.2⟩
abbrev fr_A (a0 sz : Nat) : Nat → Prop := fun q => q = a0 ∨ sz ≤ q
set_option maxHeartbeats 4000000 in
set_option maxRecDepth 100000 in
theorem cy_init (l : Launch) (dC : Nat → ClassId) (dI : Nat → Nat → Nat) (cI cQ : ClassId) (a0 sz : Nat) : Met l yX0_init wsX0_init ({ frames := 1, cells := 1, slots := 781, locals := 12 }) (va_Pc [.ref a0] (fun U => U.heap.size = sz ∧ k0_G dC dI cI cQ [(a0, .inr (0, [.null, .int 0, .int 0]))] U U.heap)) (va_Qv (fun a1 : Nat => sz ≤ a1) (fun a1 t => va_P (dC, dI) vwCl (wl_L cI a0 a1 (fun _ => 0) 0 0) t.heap) (fr_A a0 sz)) 1 781 (fr_A a0 sz) := by
  refine Met.ofW (cc := cX0_init) (maxL := 1) (ret := none) (by decide) rfl ?_
  intro p e s m args below meth c s₁ B hml hv
  obtain ⟨rfl, hsz, hK, hAO, hNw, hP⟩ := hv
  have hx := B.exec
  have hb := B.bytes
  have hr := B.returns
  have hts := atoms_spec (ws := wsX0_init) B.pre
  have hown : s.vm.findClass RX0 = some m.cls := findClass_of_methodNamed B.named
  have hlocks := B.notSynchronized
  have hin : meth.name = "<init>" := (name_of_methodNamed B.named B.method).1
  have hiX0 : ∀ w ∈ u_ws RX0 TX0 3, w ∈ wsX0_init := fun w hw => tw_in (usX0 w hw)
  subst hsz
  have hlt : a0 < s.heap.size := (hP 0 _ rfl).lt
  have hD : va_D (fr_A a0 s.heap.size) [(a0, .inr (0, [.null, .int 0, .int 0]))] := dn_D (by simp) (fun a ha => Or.inl (by simpa using ha))
  have hA : ∀ q : Nat, s.heap.size ≤ q → fr_A a0 s.heap.size q := fun q h => Or.inr h
  have hS : va_S (fr_A a0 s.heap.size) s.heap s.heap [] := va_S.rf
  have hl := lv_entry ([.ref a0]) (n := 1) (Nat.le_of_ble_eq_true rfl)
  rw [lg_entry_eq]
  generalize (lg_sl ([.ref a0]) ++ List.replicate (1 - (lg_sl ([.ref a0])).length) Slot.unset).toArray = ls at hl ⊢
  have hl : lv_has ls 1 [(0, .ref a0)] := hl
  refine lv_aload_n hx hb dX0_init_0 rfl (lv_at hl 0 rfl) ?_
  refine W.objInit hx hb hown (hts _ (tw_in lk_354)) (hts _ (tw_in lk_342)) (hts _ (tw_in lk_343)) rfl (by rw [hml]; exact hl.1) rfl dX0_init_1 (Nat.le_of_ble_eq_true rfl) (Nat.le_of_ble_eq_true rfl) ?_
  refine W.eq (g2 := F0 m 4 ls []) rfl ?_
  refine lv_aload_n hx hb dX0_init_4 rfl (lv_at hl 0 rfl) ?_
  refine lv_sipush (v := 781) hx hb dX0_init_5 (by decide) ?_
  refine va_newa (atype := .int) (a0 := (781, .inl (fun _ => 0))) (ty := .int) hx hb (hts _ (tw_in lk_355)) rfl hK hP hD hS hA (fun cA => rfl) (by decide) rfl (by decide) (Nat.le_of_ble_eq_true rfl) (Nat.le_of_ble_eq_true rfl) dX0_init_8 (fun q cA H hK2 hP hD hS => ?_)
  obtain rfl := cI_one hK2 (i := 0) (j := 2) rfl rfl
  refine va_putF (D := (dC, dI)) (ci := 0) (v := .ref q) (ty := .array .int) (C := RX0) (T := TX0) (N := 3) hx hb hts hiX0 tyX0 tyX0_ok nmX0 hown hK hP hD hS 0 rfl rfl 0 (by decide) (hts _ (tw_in lk_5)) (fun _ h9 => h9) rfl hin rfl (by decide +kernel) rfl rfl (Nat.le_of_ble_eq_true rfl) dX0_init_10 (fun H locs hP hD hS => ?_)
  have hq : s.heap.size ≤ q := by
    rcases hD.2 1 _ rfl with h | h
    · exact absurd (hD.1 0 1 _ _ rfl rfl h.symm) (by decide)
    · exact h
  exact W.vret hx hb hr (fun t ht hW => ⟨⟨q, rfl, hq, by show va_P _ _ _ t.heap; rw [ht]; exact hP⟩, hS.F ht⟩) hS.2.2 dX0_init_13
def cl_T (x : Int32) : Int32 := if x < 1 then 1 else if x ≤ 3 then x else 3
set_option maxHeartbeats 8000000 in
set_option maxRecDepth 100000 in
theorem cq_init (l : Launch) (dC : Nat → ClassId) (dI : Nat → Nat → Nat) (cI cQ : ClassId) (mo sz tp : Nat) (x1 : Int32) (htp : cl_T x1 = nI tp) : Met l yX3_init wsX3_init ({ frames := 1, cells := 7, slots := 13248, locals := 12 }) (va_Pc [.ref mo, .int x1] (fun U => U.heap.size = sz ∧ k0_G dC dI cI cQ [(mo, .inr (2, [.int 0, .int 0, .int 0, .null, .null, .null, .null, .int 0, .int 0, .int 0, .int 0, .null, .null, .null, .int 0]))] U U.heap)) (va_Qv (fun u : Nat × Nat × Nat × Nat × Nat × Nat × Nat => gd_A sz [u.1, u.2.1, u.2.2.1, u.2.2.2.1, u.2.2.2.2.1, u.2.2.2.2.2.1, u.2.2.2.2.2.2]) (fun u t => va_P (dC, dI) vwCl (wm_M cI tp mo u.1 u.2.1 u.2.2.1 u.2.2.2.1 u.2.2.2.2.1 u.2.2.2.2.2.1 u.2.2.2.2.2.2 0 0 (fun _ => 0) (fun _ => 0) (fun _ => 0) (fun _ => 0) 0 0 0 0 (fun _ => 0) (fun _ => 0) (fun _ => 0) 0) t.heap) (fr_A mo sz)) 7 13248 (fr_A mo sz) := by
  refine Met.ofW (cc := cX3_init) (maxL := 2) (ret := none) (by decide) rfl ?_
  intro p e s m args below meth c s₁ B hml hv
  obtain ⟨rfl, hsz, hK, hAO, hNw, hP⟩ := hv
  have hx := B.exec
  have hb := B.bytes
  have hr := B.returns
  have hts := atoms_spec (ws := wsX3_init) B.pre
  have hown : s.vm.findClass RX3 = some m.cls := findClass_of_methodNamed B.named
  have hlocks := B.notSynchronized
  have hin : meth.name = "<init>" := (name_of_methodNamed B.named B.method).1
  have hiX3 : ∀ w ∈ u_ws RX3 TX3 15, w ∈ wsX3_init := fun w hw => tw_in (usX3 w hw)
  subst hsz
  have hlt : mo < s.heap.size := (hP 0 _ rfl).lt
  have hD : va_D (fr_A mo s.heap.size) [(mo, .inr (2, [.int 0, .int 0, .int 0, .null, .null, .null, .null, .int 0, .int 0, .int 0, .int 0, .null, .null, .null, .int 0]))] := dn_D (by simp) (fun a ha => Or.inl (by simpa using ha))
  have hA : ∀ q : Nat, s.heap.size ≤ q → fr_A mo s.heap.size q := fun q h => Or.inr h
  have hS : va_S (fr_A mo s.heap.size) s.heap s.heap [] := va_S.rf
  have hl := lv_entry ([.ref mo, .int x1]) (n := 2) (Nat.le_of_ble_eq_true rfl)
  rw [lg_entry_eq]
  generalize (lg_sl ([.ref mo, .int x1]) ++ List.replicate (2 - (lg_sl ([.ref mo, .int x1])).length) Slot.unset).toArray = ls at hl ⊢
  have hl : lv_has ls 2 [(0, .ref mo), (1, .int x1)] := hl
  refine lv_aload_n hx hb dX3_init_0 rfl (lv_at hl 0 rfl) ?_
  refine W.objInit hx hb hown (hts _ (tw_in lk_432)) (hts _ (tw_in lk_342)) (hts _ (tw_in lk_343)) rfl (by rw [hml]; exact hl.1) rfl dX3_init_1 (Nat.le_of_ble_eq_true rfl) (Nat.le_of_ble_eq_true rfl) ?_
  refine W.eq (g2 := F0 m 4 ls []) rfl ?_
  refine lv_aload_n hx hb dX3_init_4 rfl (lv_at hl 0 rfl) ?_
  refine lv_sipush (v := 5184) hx hb dX3_init_5 (by decide) ?_
  refine va_newa (atype := .int) (a0 := (5184, .inl (fun _ => 0))) (ty := .int) hx hb (hts _ (tw_in lk_355)) rfl hK hP hD hS hA (fun cA => rfl) (by decide) rfl (by decide) (Nat.le_of_ble_eq_true rfl) (Nat.le_of_ble_eq_true rfl) dX3_init_8 (fun q1 cA H hK2 hP hD hS => ?_)
  obtain rfl := cI_one hK2 (i := 0) (j := 2) rfl rfl
  refine va_putF (D := (dC, dI)) (ci := 2) (v := .ref q1) (ty := .array .int) (C := RX3) (T := TX3) (N := 15) hx hb hts hiX3 tyX3 tyX3_ok nmX3 hown hK hP hD hS 0 rfl rfl 3 (by decide) (hts _ (tw_in lk_205)) (fun _ h9 => h9) rfl hin rfl (by decide +kernel) rfl rfl (Nat.le_of_ble_eq_true rfl) dX3_init_10 (fun H locs hP hD hS => ?_)
  have hP : va_P (dC, dI) vwCl [(mo, .inr (2, [.int 0, .int 0, .int 0, .ref q1, .null, .null, .null, .int 0, .int 0, .int 0, .int 0, .null, .null, .null, .int 0])), (q1, .inl (cA, 5184, .inl (fun _ => 0)))] H := hP
  have hD : va_D (fr_A mo s.heap.size) [(mo, .inr (2, [.int 0, .int 0, .int 0, .ref q1, .null, .null, .null, .int 0, .int 0, .int 0, .int 0, .null, .null, .null, .int 0])), (q1, .inl (cA, 5184, .inl (fun _ => 0)))] := hD
  refine lv_aload_n hx hb dX3_init_13 rfl (lv_at hl 0 rfl) ?_
  refine lv_sipush (v := 5184) hx hb dX3_init_14 (by decide) ?_
  refine va_newa (atype := .int) (a0 := (5184, .inl (fun _ => 0))) (ty := .int) hx hb (hts _ (tw_in lk_355)) rfl hK hP hD hS hA (fun cA => rfl) (by decide) rfl (by decide) (Nat.le_of_ble_eq_true rfl) (Nat.le_of_ble_eq_true rfl) dX3_init_17 (fun q2 cA H hK2 hP hD hS => ?_)
  obtain rfl := cI_one hK2 (i := 0) (j := 2) rfl rfl
  refine va_putF (D := (dC, dI)) (ci := 2) (v := .ref q2) (ty := .array .int) (C := RX3) (T := TX3) (N := 15) hx hb hts hiX3 tyX3 tyX3_ok nmX3 hown hK hP hD hS 0 rfl rfl 4 (by decide) (hts _ (tw_in lk_203)) (fun _ h9 => h9) rfl hin rfl (by decide +kernel) rfl rfl (Nat.le_of_ble_eq_true rfl) dX3_init_19 (fun H locs hP hD hS => ?_)
  have hP : va_P (dC, dI) vwCl [(mo, .inr (2, [.int 0, .int 0, .int 0, .ref q1, .ref q2, .null, .null, .int 0, .int 0, .int 0, .int 0, .null, .null, .null, .int 0])), (q1, .inl (cA, 5184, .inl (fun _ => 0))), (q2, .inl (cA, 5184, .inl (fun _ => 0)))] H := hP
  have hD : va_D (fr_A mo s.heap.size) [(mo, .inr (2, [.int 0, .int 0, .int 0, .ref q1, .ref q2, .null, .null, .int 0, .int 0, .int 0, .int 0, .null, .null, .null, .int 0])), (q1, .inl (cA, 5184, .inl (fun _ => 0))), (q2, .inl (cA, 5184, .inl (fun _ => 0)))] := hD
  refine lv_aload_n hx hb dX3_init_22 rfl (lv_at hl 0 rfl) ?_
  refine lv_sipush (v := 1296) hx hb dX3_init_23 (by decide) ?_
  refine va_newa (atype := .int) (a0 := (1296, .inl (fun _ => 0))) (ty := .int) hx hb (hts _ (tw_in lk_355)) rfl hK hP hD hS hA (fun cA => rfl) (by decide) rfl (by decide) (Nat.le_of_ble_eq_true rfl) (Nat.le_of_ble_eq_true rfl) dX3_init_26 (fun q3 cA H hK2 hP hD hS => ?_)
  obtain rfl := cI_one hK2 (i := 0) (j := 2) rfl rfl
  refine va_putF (D := (dC, dI)) (ci := 2) (v := .ref q3) (ty := .array .int) (C := RX3) (T := TX3) (N := 15) hx hb hts hiX3 tyX3 tyX3_ok nmX3 hown hK hP hD hS 0 rfl rfl 5 (by decide) (hts _ (tw_in lk_239)) (fun _ h9 => h9) rfl hin rfl (by decide +kernel) rfl rfl (Nat.le_of_ble_eq_true rfl) dX3_init_28 (fun H locs hP hD hS => ?_)
  have hP : va_P (dC, dI) vwCl [(mo, .inr (2, [.int 0, .int 0, .int 0, .ref q1, .ref q2, .ref q3, .null, .int 0, .int 0, .int 0, .int 0, .null, .null, .null, .int 0])), (q1, .inl (cA, 5184, .inl (fun _ => 0))), (q2, .inl (cA, 5184, .inl (fun _ => 0))), (q3, .inl (cA, 1296, .inl (fun _ => 0)))] H := hP
  have hD : va_D (fr_A mo s.heap.size) [(mo, .inr (2, [.int 0, .int 0, .int 0, .ref q1, .ref q2, .ref q3, .null, .int 0, .int 0, .int 0, .int 0, .null, .null, .null, .int 0])), (q1, .inl (cA, 5184, .inl (fun _ => 0))), (q2, .inl (cA, 5184, .inl (fun _ => 0))), (q3, .inl (cA, 1296, .inl (fun _ => 0)))] := hD
  refine lv_aload_n hx hb dX3_init_31 rfl (lv_at hl 0 rfl) ?_
  refine lv_sipush (v := 1296) hx hb dX3_init_32 (by decide) ?_
  refine va_newa (atype := .int) (a0 := (1296, .inl (fun _ => 0))) (ty := .int) hx hb (hts _ (tw_in lk_355)) rfl hK hP hD hS hA (fun cA => rfl) (by decide) rfl (by decide) (Nat.le_of_ble_eq_true rfl) (Nat.le_of_ble_eq_true rfl) dX3_init_35 (fun q4 cA H hK2 hP hD hS => ?_)
  obtain rfl := cI_one hK2 (i := 0) (j := 2) rfl rfl
  refine va_putF (D := (dC, dI)) (ci := 2) (v := .ref q4) (ty := .array .int) (C := RX3) (T := TX3) (N := 15) hx hb hts hiX3 tyX3 tyX3_ok nmX3 hown hK hP hD hS 0 rfl rfl 6 (by decide) (hts _ (tw_in lk_240)) (fun _ h9 => h9) rfl hin rfl (by decide +kernel) rfl rfl (Nat.le_of_ble_eq_true rfl) dX3_init_37 (fun H locs hP hD hS => ?_)
  have hP : va_P (dC, dI) vwCl [(mo, .inr (2, [.int 0, .int 0, .int 0, .ref q1, .ref q2, .ref q3, .ref q4, .int 0, .int 0, .int 0, .int 0, .null, .null, .null, .int 0])), (q1, .inl (cA, 5184, .inl (fun _ => 0))), (q2, .inl (cA, 5184, .inl (fun _ => 0))), (q3, .inl (cA, 1296, .inl (fun _ => 0))), (q4, .inl (cA, 1296, .inl (fun _ => 0)))] H := hP
  have hD : va_D (fr_A mo s.heap.size) [(mo, .inr (2, [.int 0, .int 0, .int 0, .ref q1, .ref q2, .ref q3, .ref q4, .int 0, .int 0, .int 0, .int 0, .null, .null, .null, .int 0])), (q1, .inl (cA, 5184, .inl (fun _ => 0))), (q2, .inl (cA, 5184, .inl (fun _ => 0))), (q3, .inl (cA, 1296, .inl (fun _ => 0))), (q4, .inl (cA, 1296, .inl (fun _ => 0)))] := hD
  refine lv_aload_n hx hb dX3_init_40 rfl (lv_at hl 0 rfl) ?_
  refine lv_bipush (v := 96) hx hb dX3_init_41 (by decide) ?_
  refine va_newa (atype := .int) (a0 := (96, .inl (fun _ => 0))) (ty := .int) hx hb (hts _ (tw_in lk_355)) rfl hK hP hD hS hA (fun cA => rfl) (by decide) rfl (by decide) (Nat.le_of_ble_eq_true rfl) (Nat.le_of_ble_eq_true rfl) dX3_init_43 (fun q5 cA H hK2 hP hD hS => ?_)
  obtain rfl := cI_one hK2 (i := 0) (j := 2) rfl rfl
  refine va_putF (D := (dC, dI)) (ci := 2) (v := .ref q5) (ty := .array .int) (C := RX3) (T := TX3) (N := 15) hx hb hts hiX3 tyX3 tyX3_ok nmX3 hown hK hP hD hS 0 rfl rfl 11 (by decide) (hts _ (tw_in lk_300)) (fun _ h9 => h9) rfl hin rfl (by decide +kernel) rfl rfl (Nat.le_of_ble_eq_true rfl) dX3_init_45 (fun H locs hP hD hS => ?_)
  have hP : va_P (dC, dI) vwCl [(mo, .inr (2, [.int 0, .int 0, .int 0, .ref q1, .ref q2, .ref q3, .ref q4, .int 0, .int 0, .int 0, .int 0, .ref q5, .null, .null, .int 0])), (q1, .inl (cA, 5184, .inl (fun _ => 0))), (q2, .inl (cA, 5184, .inl (fun _ => 0))), (q3, .inl (cA, 1296, .inl (fun _ => 0))), (q4, .inl (cA, 1296, .inl (fun _ => 0))), (q5, .inl (cA, 96, .inl (fun _ => 0)))] H := hP
  have hD : va_D (fr_A mo s.heap.size) [(mo, .inr (2, [.int 0, .int 0, .int 0, .ref q1, .ref q2, .ref q3, .ref q4, .int 0, .int 0, .int 0, .int 0, .ref q5, .null, .null, .int 0])), (q1, .inl (cA, 5184, .inl (fun _ => 0))), (q2, .inl (cA, 5184, .inl (fun _ => 0))), (q3, .inl (cA, 1296, .inl (fun _ => 0))), (q4, .inl (cA, 1296, .inl (fun _ => 0))), (q5, .inl (cA, 96, .inl (fun _ => 0)))] := hD
  refine lv_aload_n hx hb dX3_init_48 rfl (lv_at hl 0 rfl) ?_
  refine lv_bipush (v := 96) hx hb dX3_init_49 (by decide) ?_
  refine va_newa (atype := .int) (a0 := (96, .inl (fun _ => 0))) (ty := .int) hx hb (hts _ (tw_in lk_355)) rfl hK hP hD hS hA (fun cA => rfl) (by decide) rfl (by decide) (Nat.le_of_ble_eq_true rfl) (Nat.le_of_ble_eq_true rfl) dX3_init_51 (fun q6 cA H hK2 hP hD hS => ?_)
  obtain rfl := cI_one hK2 (i := 0) (j := 2) rfl rfl
  refine va_putF (D := (dC, dI)) (ci := 2) (v := .ref q6) (ty := .array .int) (C := RX3) (T := TX3) (N := 15) hx hb hts hiX3 tyX3 tyX3_ok nmX3 hown hK hP hD hS 0 rfl rfl 12 (by decide) (hts _ (tw_in lk_302)) (fun _ h9 => h9) rfl hin rfl (by decide +kernel) rfl rfl (Nat.le_of_ble_eq_true rfl) dX3_init_53 (fun H locs hP hD hS => ?_)
  have hP : va_P (dC, dI) vwCl [(mo, .inr (2, [.int 0, .int 0, .int 0, .ref q1, .ref q2, .ref q3, .ref q4, .int 0, .int 0, .int 0, .int 0, .ref q5, .ref q6, .null, .int 0])), (q1, .inl (cA, 5184, .inl (fun _ => 0))), (q2, .inl (cA, 5184, .inl (fun _ => 0))), (q3, .inl (cA, 1296, .inl (fun _ => 0))), (q4, .inl (cA, 1296, .inl (fun _ => 0))), (q5, .inl (cA, 96, .inl (fun _ => 0))), (q6, .inl (cA, 96, .inl (fun _ => 0)))] H := hP
  have hD : va_D (fr_A mo s.heap.size) [(mo, .inr (2, [.int 0, .int 0, .int 0, .ref q1, .ref q2, .ref q3, .ref q4, .int 0, .int 0, .int 0, .int 0, .ref q5, .ref q6, .null, .int 0])), (q1, .inl (cA, 5184, .inl (fun _ => 0))), (q2, .inl (cA, 5184, .inl (fun _ => 0))), (q3, .inl (cA, 1296, .inl (fun _ => 0))), (q4, .inl (cA, 1296, .inl (fun _ => 0))), (q5, .inl (cA, 96, .inl (fun _ => 0))), (q6, .inl (cA, 96, .inl (fun _ => 0)))] := hD
  refine lv_aload_n hx hb dX3_init_56 rfl (lv_at hl 0 rfl) ?_
  refine lv_bipush (v := 96) hx hb dX3_init_57 (by decide) ?_
  refine va_newa (atype := .int) (a0 := (96, .inl (fun _ => 0))) (ty := .int) hx hb (hts _ (tw_in lk_355)) rfl hK hP hD hS hA (fun cA => rfl) (by decide) rfl (by decide) (Nat.le_of_ble_eq_true rfl) (Nat.le_of_ble_eq_true rfl) dX3_init_59 (fun q7 cA H hK2 hP hD hS => ?_)
  obtain rfl := cI_one hK2 (i := 0) (j := 2) rfl rfl
  refine va_putF (D := (dC, dI)) (ci := 2) (v := .ref q7) (ty := .array .int) (C := RX3) (T := TX3) (N := 15) hx hb hts hiX3 tyX3 tyX3_ok nmX3 hown hK hP hD hS 0 rfl rfl 13 (by decide) (hts _ (tw_in lk_303)) (fun _ h9 => h9) rfl hin rfl (by decide +kernel) rfl rfl (Nat.le_of_ble_eq_true rfl) dX3_init_61 (fun H locs hP hD hS => ?_)
  have hP : va_P (dC, dI) vwCl [(mo, .inr (2, [.int 0, .int 0, .int 0, .ref q1, .ref q2, .ref q3, .ref q4, .int 0, .int 0, .int 0, .int 0, .ref q5, .ref q6, .ref q7, .int 0])), (q1, .inl (cA, 5184, .inl (fun _ => 0))), (q2, .inl (cA, 5184, .inl (fun _ => 0))), (q3, .inl (cA, 1296, .inl (fun _ => 0))), (q4, .inl (cA, 1296, .inl (fun _ => 0))), (q5, .inl (cA, 96, .inl (fun _ => 0))), (q6, .inl (cA, 96, .inl (fun _ => 0))), (q7, .inl (cA, 96, .inl (fun _ => 0)))] H := hP
  have hD : va_D (fr_A mo s.heap.size) [(mo, .inr (2, [.int 0, .int 0, .int 0, .ref q1, .ref q2, .ref q3, .ref q4, .int 0, .int 0, .int 0, .int 0, .ref q5, .ref q6, .ref q7, .int 0])), (q1, .inl (cA, 5184, .inl (fun _ => 0))), (q2, .inl (cA, 5184, .inl (fun _ => 0))), (q3, .inl (cA, 1296, .inl (fun _ => 0))), (q4, .inl (cA, 1296, .inl (fun _ => 0))), (q5, .inl (cA, 96, .inl (fun _ => 0))), (q6, .inl (cA, 96, .inl (fun _ => 0))), (q7, .inl (cA, 96, .inl (fun _ => 0)))] := hD
  refine W.widen (k := 7) (n := 13248) (Nat.le_of_ble_eq_true rfl) (Nat.le_of_ble_eq_true rfl) ?_
  refine nm_Q (fun Q hQ => ?_)
  have hEnd : W p l e (headSpec wsX3_init { frames := 1, cells := 7, slots := 13248, locals := 12 }).room s m #[Value.ref mo, Value.int x1] below meth c H locs 7 13248 Q (F0 m 84 ls [.int (nI tp), .ref mo]) := by
    refine va_putF (D := (dC, dI)) (ci := 2) (v := .int (nI tp)) (ty := .int) (C := RX3) (T := TX3) (N := 15) hx hb hts hiX3 tyX3 tyX3_ok nmX3 hown hK hP hD hS 0 rfl rfl 0 (by decide) (hts _ (tw_in lk_206)) (fun _ h9 => h9) rfl hin rfl (by decide +kernel) rfl rfl (Nat.le_of_ble_eq_true rfl) dX3_init_84 (fun H locs hP hD hS => ?_)
    have hP : va_P (dC, dI) vwCl [(mo, .inr (2, [.int (nI tp), .int 0, .int 0, .ref q1, .ref q2, .ref q3, .ref q4, .int 0, .int 0, .int 0, .int 0, .ref q5, .ref q6, .ref q7, .int 0])), (q1, .inl (cA, 5184, .inl (fun _ => 0))), (q2, .inl (cA, 5184, .inl (fun _ => 0))), (q3, .inl (cA, 1296, .inl (fun _ => 0))), (q4, .inl (cA, 1296, .inl (fun _ => 0))), (q5, .inl (cA, 96, .inl (fun _ => 0))), (q6, .inl (cA, 96, .inl (fun _ => 0))), (q7, .inl (cA, 96, .inl (fun _ => 0)))] H := hP
    have hD : va_D (fr_A mo s.heap.size) [(mo, .inr (2, [.int (nI tp), .int 0, .int 0, .ref q1, .ref q2, .ref q3, .ref q4, .int 0, .int 0, .int 0, .int 0, .ref q5, .ref q6, .ref q7, .int 0])), (q1, .inl (cA, 5184, .inl (fun _ => 0))), (q2, .inl (cA, 5184, .inl (fun _ => 0))), (q3, .inl (cA, 1296, .inl (fun _ => 0))), (q4, .inl (cA, 1296, .inl (fun _ => 0))), (q5, .inl (cA, 96, .inl (fun _ => 0))), (q6, .inl (cA, 96, .inl (fun _ => 0))), (q7, .inl (cA, 96, .inl (fun _ => 0)))] := hD
    obtain ⟨hn, hm⟩ := nd_D hD
    have hg : gd_A s.heap.size [q1, q2, q3, q4, q5, q6, q7] := by
      have hn : (mo :: [q1, q2, q3, q4, q5, q6, q7]).Nodup := hn
      have hm : ∀ a ∈ mo :: [q1, q2, q3, q4, q5, q6, q7], fr_A mo s.heap.size a := hm
      obtain ⟨h1, h2⟩ := List.nodup_cons.mp hn
      refine ⟨h2, fun a ha => ?_⟩
      rcases hm a (List.mem_cons_of_mem _ ha) with h | h
      · exact absurd (h ▸ ha) h1
      · exact h
    rw [hQ]
    exact W.vret hx hb hr (fun t ht hW => ⟨⟨(q1, q2, q3, q4, q5, q6, q7), rfl, hg, by show va_P _ _ _ t.heap; rw [ht]; exact hP⟩, hS.F ht⟩) hS.2.2 dX3_init_87
  refine lv_aload_n hx hb dX3_init_64 rfl (lv_at hl 0 rfl) ?_
  refine lv_iload_n hx hb dX3_init_65 rfl (lv_at hl 1 rfl) ?_
  refine lv_iconst (v := 1) hx hb dX3_init_66 (by decide) ?_
  refine lv_icmp_ge (tgt := 74) hx hb dX3_init_67 (by decide) (fun hc => ?_) (fun hc => ?_)
  · refine lv_iload_n hx hb dX3_init_74 rfl (lv_at hl 1 rfl) ?_
    refine lv_iconst (v := 3) hx hb dX3_init_75 (by decide) ?_
    refine lv_icmp_le (tgt := 83) hx hb dX3_init_76 (by decide) (fun hd => ?_) (fun hd => ?_)
    · refine lv_iload_n hx hb dX3_init_83 rfl (lv_at hl 1 rfl) ?_
      have e1 : x1 = nI tp := by rw [← htp]; unfold cl_T; rw [if_neg (Int32.not_lt.mpr hc), if_pos hd]
      rw [← e1] at hEnd
      exact hEnd
    · refine lv_iconst (v := 3) hx hb dX3_init_79 (by decide) ?_
      refine lv_goto (tgt := 84) hx hb dX3_init_80 (by decide) ?_
      have e1 : (3 : Int32) = nI tp := by rw [← htp]; unfold cl_T; rw [if_neg (Int32.not_lt.mpr hc), if_neg hd]
      rw [e1]
      exact hEnd
  · refine lv_iconst (v := 1) hx hb dX3_init_70 (by decide) ?_
    refine lv_goto (tgt := 84) hx hb dX3_init_71 (by decide) ?_
    have e1 : (1 : Int32) = nI tp := by rw [← htp]; unfold cl_T; rw [if_pos (Int32.not_le.mp hc)]
    rw [e1]
    exact hEnd
