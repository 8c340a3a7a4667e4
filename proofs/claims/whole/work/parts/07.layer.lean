set_option maxHeartbeats 4000000 in
set_option maxRecDepth 100000 in
theorem cy_kindAt (l : Launch) (dC : Nat → ClassId) (dI : Nat → Nat → Nat) (cI cQ : ClassId) (t1 t2 bs : Nat) (a0 a1 : Nat) (hg : gd_A bs [a0, a1]) (f : Nat → Int32) (fi : Int32) (wo : Int32) (x1 : Int32) (v0 : Int32) (h : fy_kindAt f x1 = some v0) : pu_M l yX0_kindAt wsX0_kindAt rm_0_0 [.ref a0, .int x1] (gk_G dC dI cI cQ t1 t2 bs (wl_L cI a0 a1 f fi wo)) v0 := by
  intro sz
  refine Met.ofW (cc := cX0_kindAt) (maxL := 2) (ret := (some .int)) (by decide) rfl ?_
  intro p e s m args below meth c_ s₁ B hml hv
  obtain ⟨rfl, hsz, hG, hP⟩ := hv
  have hx := B.exec
  have hb := B.bytes
  have hr := B.returns
  have hts := atoms_spec (ws := wsX0_kindAt) B.pre
  have hown : s.vm.findClass RX0 = some m.cls := findClass_of_methodNamed B.named
  have hlocks := B.notSynchronized
  have hiX0 : ∀ w ∈ u_ws RX0 TX0 3, w ∈ wsX0_kindAt := fun w hw => tw_in (usX0 w hw)
  have hl := lv_entry ([.ref a0, .int x1]) (n := 2) (Nat.le_of_ble_eq_true rfl)
  rw [lg_entry_eq]
  generalize (lg_sl ([.ref a0, .int x1]) ++ List.replicate (2 - (lg_sl ([.ref a0, .int x1])).length) Slot.unset).toArray = ls at hl ⊢
  have hl : lv_has ls 2 [(0, .ref a0), (1, .int x1)] := hl
  refine nm_Q (fun Q hQ => ?_)
  unfold fy_kindAt at h
  have hf := h
  refine lv_iload_n hx hb dX0_kindAt_0 rfl (lv_at hl 1 rfl) ?_
  refine lv_if_lt (tgt := 13) hx hb dX0_kindAt_1 (by decide) (fun hc => ?_) (fun hc => ?_)
  · rw [if_pos hc] at hf
    refine lv_iconst (v := 0) hx hb dX0_kindAt_13 (by decide) ?_
    obtain rfl := Option.some.inj hf
    rw [hQ]
    exact pu_iret hx hb hr (vp_nar_int _) hsz dX0_kindAt_14 hlocks
  · rw [if_neg hc] at hf
    refine lv_iload_n hx hb dX0_kindAt_4 rfl (lv_at hl 1 rfl) ?_
    refine lv_aload_n hx hb dX0_kindAt_5 rfl (lv_at hl 0 rfl) ?_
    refine va_get (D := (dC, dI)) (ci := 0) (v := .ref a1) (C := RX0) (T := TX0) (N := 3) hx hb hts hiX0 hown hG.1 hP 0 rfl rfl 0 (by decide) (hts _ (tw_in lk_5)) (fun _ h9 => h9) rfl dX0_kindAt_6 ?_
    refine va_alen (v := 781) hx hb hG.1 hP 1 0 rfl rfl rfl dX0_kindAt_9 ?_
    refine lv_icmp_lt (tgt := 15) hx hb dX0_kindAt_10 (by decide) (fun hc => ?_) (fun hc => ?_)
    · rw [if_pos hc] at hf
      refine lv_aload_n hx hb dX0_kindAt_15 rfl (lv_at hl 0 rfl) ?_
      refine va_get (D := (dC, dI)) (ci := 0) (v := .ref a1) (C := RX0) (T := TX0) (N := 3) hx hb hts hiX0 hown hG.1 hP 0 rfl rfl 0 (by decide) (hts _ (tw_in lk_5)) (fun _ h9 => h9) rfl dX0_kindAt_16 ?_
      refine lv_iload_n hx hb dX0_kindAt_19 rfl (lv_at hl 1 rfl) ?_
      obtain ⟨hq, hf⟩ := ck_s hf
      refine va_iald hx hb hG.1 hP 1 0 rfl rfl hq dX0_kindAt_20 ?_
      refine lv_if_ge (tgt := 28) hx hb dX0_kindAt_21 (by decide) (fun hc => ?_) (fun hc => ?_)
      · rw [if_pos hc] at hf
        refine lv_aload_n hx hb dX0_kindAt_28 rfl (lv_at hl 0 rfl) ?_
        refine va_get (D := (dC, dI)) (ci := 0) (v := .ref a1) (C := RX0) (T := TX0) (N := 3) hx hb hts hiX0 hown hG.1 hP 0 rfl rfl 0 (by decide) (hts _ (tw_in lk_5)) (fun _ h9 => h9) rfl dX0_kindAt_29 ?_
        refine lv_iload_n hx hb dX0_kindAt_32 rfl (lv_at hl 1 rfl) ?_
        obtain ⟨hq, hf⟩ := ck_s hf
        refine va_iald hx hb hG.1 hP 1 0 rfl rfl hq dX0_kindAt_33 ?_
        obtain rfl := Option.some.inj hf
        rw [hQ]
        exact pu_iret hx hb hr (vp_nar_int _) hsz dX0_kindAt_34 hlocks
      · rw [if_neg hc] at hf
        refine lv_iconst (v := 1) hx hb dX0_kindAt_24 (by decide) ?_
        refine lv_goto (tgt := 34) hx hb dX0_kindAt_25 (by decide) ?_
        obtain rfl := Option.some.inj hf
        rw [hQ]
        exact pu_iret hx hb hr (vp_nar_int _) hsz dX0_kindAt_34 hlocks
    · rw [if_neg hc] at hf
      refine lv_iconst (v := 0) hx hb dX0_kindAt_13 (by decide) ?_
      obtain rfl := Option.some.inj hf
      rw [hQ]
      exact pu_iret hx hb hr (vp_nar_int _) hsz dX0_kindAt_14 hlocks
set_option maxHeartbeats 4000000 in
set_option maxRecDepth 100000 in
theorem cy_canHoldIn (l : Launch) (dC : Nat → ClassId) (dI : Nat → Nat → Nat) (cI cQ : ClassId) (t1 t2 bs : Nat) (a0 a1 : Nat) (hg : gd_A bs [a0, a1]) (f : Nat → Int32) (fi : Int32) (wo : Int32) (x1 : Int32) (v0 : Int32) (h : fy_canHoldIn f x1 = some v0) : pu_M l yX0_canHoldIn wsX0_canHoldIn rm_1_21 [.ref a0, .int x1] (gk_G dC dI cI cQ t1 t2 bs (wl_L cI a0 a1 f fi wo)) v0 := by
  intro sz
  refine Met.ofW (cc := cX0_canHoldIn) (maxL := 2) (ret := (some .boolean)) (by decide) rfl ?_
  intro p e s m args below meth c_ s₁ B hml hv
  obtain ⟨rfl, hsz, hG, hP⟩ := hv
  have hx := B.exec
  have hb := B.bytes
  have hr := B.returns
  have hts := atoms_spec (ws := wsX0_canHoldIn) B.pre
  have hown : s.vm.findClass RX0 = some m.cls := findClass_of_methodNamed B.named
  have hlocks := B.notSynchronized
  have hl := lv_entry ([.ref a0, .int x1]) (n := 2) (Nat.le_of_ble_eq_true rfl)
  rw [lg_entry_eq]
  generalize (lg_sl ([.ref a0, .int x1]) ++ List.replicate (2 - (lg_sl ([.ref a0, .int x1])).length) Slot.unset).toArray = ls at hl ⊢
  have hl : lv_has ls 2 [(0, .ref a0), (1, .int x1)] := hl
  refine nm_Q (fun Q hQ => ?_)
  unfold fy_canHoldIn at h
  have hf := h
  refine lv_iload_n hx hb dX0_canHoldIn_0 rfl (lv_at hl 1 rfl) ?_
  refine lv_if_eq (tgt := 22) hx hb dX0_canHoldIn_1 (by decide) (fun hc => ?_) (fun hc => ?_)
  · rw [if_pos hc] at hf
    refine lv_iconst (v := 1) hx hb dX0_canHoldIn_22 (by decide) ?_
    refine lv_goto (tgt := 27) hx hb dX0_canHoldIn_23 (by decide) ?_
    obtain rfl := Option.some.inj hf
    rw [hQ]
    exact pu_iret hx hb hr (nb_1) hsz dX0_canHoldIn_27 hlocks
  · rw [if_neg hc] at hf
    refine lv_aload_n hx hb dX0_canHoldIn_4 rfl (lv_at hl 0 rfl) ?_
    refine lv_iload_n hx hb dX0_canHoldIn_5 rfl (lv_at hl 1 rfl) ?_
    obtain ⟨r1, e2, hf⟩ := ob_s hf
    try dsimp only at hf
    refine pu_calli (va_runV (As := [.int x1]) (rest := []) ⟨hx, hb, hml, hown, hts⟩ (cy_kindAt l dC dI cI cQ t1 t2 bs a0 a1 hg f fi wo x1 r1 e2 s.heap.size) (cwV 1 hts (gs_V lk_11 lk_14 lk_15 lk_12 lk_13) rfl rfl rfl (by decide +kernel) ⟨Nat.le_of_ble_eq_true rfl, Nat.le_of_ble_eq_true rfl⟩) (pr_V gk_W (va_recv hG.1 hP (q0 := 0) rfl rfl) ⟨hG, hP⟩) rfl rfl hl.1 rfl (lv_room (Nat.le_of_ble_eq_true rfl)) dX0_canHoldIn_6 ⟨Nat.zero_le _, Nat.zero_le _⟩) ?_
    refine lv_iconst (v := 2) hx hb dX0_canHoldIn_9 (by decide) ?_
    refine lv_icmp_eq (tgt := 22) hx hb dX0_canHoldIn_10 (by decide) (fun hc => ?_) (fun hc => ?_)
    · rw [if_pos hc] at hf
      refine lv_iconst (v := 1) hx hb dX0_canHoldIn_22 (by decide) ?_
      refine lv_goto (tgt := 27) hx hb dX0_canHoldIn_23 (by decide) ?_
      obtain rfl := Option.some.inj hf
      rw [hQ]
      exact pu_iret hx hb hr (nb_1) hsz dX0_canHoldIn_27 hlocks
    · rw [if_neg hc] at hf
      refine lv_aload_n hx hb dX0_canHoldIn_13 rfl (lv_at hl 0 rfl) ?_
      refine lv_iload_n hx hb dX0_canHoldIn_14 rfl (lv_at hl 1 rfl) ?_
      obtain ⟨r3, e4, hf⟩ := ob_s hf
      try dsimp only at hf
      refine pu_calli (va_runV (As := [.int x1]) (rest := []) ⟨hx, hb, hml, hown, hts⟩ (cy_kindAt l dC dI cI cQ t1 t2 bs a0 a1 hg f fi wo x1 r3 e4 s.heap.size) (cwV 1 hts (gs_V lk_11 lk_14 lk_15 lk_12 lk_13) rfl rfl rfl (by decide +kernel) ⟨Nat.le_of_ble_eq_true rfl, Nat.le_of_ble_eq_true rfl⟩) (pr_V gk_W (va_recv hG.1 hP (q0 := 0) rfl rfl) ⟨hG, hP⟩) rfl rfl hl.1 rfl (lv_room (Nat.le_of_ble_eq_true rfl)) dX0_canHoldIn_15 ⟨Nat.zero_le _, Nat.zero_le _⟩) ?_
      refine lv_iconst (v := 3) hx hb dX0_canHoldIn_18 (by decide) ?_
      refine lv_icmp_ne (tgt := 26) hx hb dX0_canHoldIn_19 (by decide) (fun hc => ?_) (fun hc => ?_)
      · rw [if_neg hc] at hf
        refine lv_iconst (v := 0) hx hb dX0_canHoldIn_26 (by decide) ?_
        obtain rfl := Option.some.inj hf
        rw [hQ]
        exact pu_iret hx hb hr (nb_0) hsz dX0_canHoldIn_27 hlocks
      · rw [if_pos hc] at hf
        refine lv_iconst (v := 1) hx hb dX0_canHoldIn_22 (by decide) ?_
        refine lv_goto (tgt := 27) hx hb dX0_canHoldIn_23 (by decide) ?_
        obtain rfl := Option.some.inj hf
        rw [hQ]
        exact pu_iret hx hb hr (nb_1) hsz dX0_canHoldIn_27 hlocks
set_option maxHeartbeats 4000000 in
set_option maxRecDepth 100000 in
theorem cy_entryCount (l : Launch) (dC : Nat → ClassId) (dI : Nat → Nat → Nat) (cI cQ : ClassId) (t1 t2 bs : Nat) (a0 a1 : Nat) (hg : gd_A bs [a0, a1]) (f : Nat → Int32) (fi : Int32) (wo : Int32) (v0 : Int32) (h : fy_entryCount fi = some v0) : pu_M l yX0_entryCount wsX0_entryCount rm_0_0 [.ref a0] (gk_G dC dI cI cQ t1 t2 bs (wl_L cI a0 a1 f fi wo)) v0 := by
  intro sz
  refine Met.ofW (cc := cX0_entryCount) (maxL := 1) (ret := (some .int)) (by decide) rfl ?_
  intro p e s m args below meth c_ s₁ B hml hv
  obtain ⟨rfl, hsz, hG, hP⟩ := hv
  have hx := B.exec
  have hb := B.bytes
  have hr := B.returns
  have hts := atoms_spec (ws := wsX0_entryCount) B.pre
  have hown : s.vm.findClass RX0 = some m.cls := findClass_of_methodNamed B.named
  have hlocks := B.notSynchronized
  have hiX0 : ∀ w ∈ u_ws RX0 TX0 3, w ∈ wsX0_entryCount := fun w hw => tw_in (usX0 w hw)
  have hl := lv_entry ([.ref a0]) (n := 1) (Nat.le_of_ble_eq_true rfl)
  rw [lg_entry_eq]
  generalize (lg_sl ([.ref a0]) ++ List.replicate (1 - (lg_sl ([.ref a0])).length) Slot.unset).toArray = ls at hl ⊢
  have hl : lv_has ls 1 [(0, .ref a0)] := hl
  refine nm_Q (fun Q hQ => ?_)
  unfold fy_entryCount at h
  have hf := h
  refine lv_aload_n hx hb dX0_entryCount_0 rfl (lv_at hl 0 rfl) ?_
  refine va_get (D := (dC, dI)) (ci := 0) (v := .int fi) (C := RX0) (T := TX0) (N := 3) hx hb hts hiX0 hown hG.1 hP 0 rfl rfl 1 (by decide) (hts _ (tw_in lk_16)) (fun _ h9 => h9) rfl dX0_entryCount_1 ?_
  obtain rfl := Option.some.inj hf
  rw [hQ]
  exact pu_iret hx hb hr (vp_nar_int _) hsz dX0_entryCount_4 hlocks
set_option maxHeartbeats 4000000 in
set_option maxRecDepth 100000 in
theorem cy_set (l : Launch) (dC : Nat → ClassId) (dI : Nat → Nat → Nat) (cI cQ : ClassId) (t1 t2 bs : Nat) (a0 a1 : Nat) (hg : gd_A bs [a0, a1]) (f : Nat → Int32) (fi : Int32) (wo : Int32) (x1 : Int32) (x2 : Int32) (v0 : (Nat → Int32) × Int32 × Int32) (h : fy_set f fi wo x1 x2 = some v0) : im_V l yX0_set wsX0_set rm_0_0 [.ref a0, .int x1, .int x2] (gk_G dC dI cI cQ t1 t2 bs (wl_L cI a0 a1 f fi wo)) (va_P (dC, dI) vwCl (wl_L cI a0 a1 v0.1 v0.2.1 v0.2.2)) (in_A [a0, a1]) := by
  intro sz
  refine Met.ofW (cc := cX0_set) (maxL := 3) (ret := none) (by decide) rfl ?_
  intro p e s m args below meth c_ s₁ B hml hv
  obtain ⟨rfl, hsz, hG, hP⟩ := hv
  have hx := B.exec
  have hb := B.bytes
  have hr := B.returns
  have hts := atoms_spec (ws := wsX0_set) B.pre
  have hown : s.vm.findClass RX0 = some m.cls := findClass_of_methodNamed B.named
  have hlocks := B.notSynchronized
  have hiX0 : ∀ w ∈ u_ws RX0 TX0 3, w ∈ wsX0_set := fun w hw => tw_in (usX0 w hw)
  have hl := lv_entry ([.ref a0, .int x1, .int x2]) (n := 3) (Nat.le_of_ble_eq_true rfl)
  rw [lg_entry_eq]
  generalize (lg_sl ([.ref a0, .int x1, .int x2]) ++ List.replicate (3 - (lg_sl ([.ref a0, .int x1, .int x2])).length) Slot.unset).toArray = ls at hl ⊢
  have hl : lv_has ls 3 [(0, .ref a0), (1, .int x1), (2, .int x2)] := hl
  refine nm_Q (fun Q hQ => ?_)
  have B77 : ∀ (z0 : Int32) (z1 : Int32) (z2 : Int32) (f : Nat → Int32) (fi : Int32) (wo : Int32), ∀ (H : Heap) (locs : List Loc), va_P (dC, dI) vwCl (wl_L cI a0 a1 f fi wo) H → va_S (in_A [a0, a1]) s.heap H locs → ∀ ls : Array Slot, fy_set_77 x1 x2 z0 z1 z2 f fi wo = some v0 → lv_has ls 3 [(0, .ref a0), (1, .int x1), (2, .int x2)] → W p l e (headSpec wsX0_set rm_0_0).room s m ([.ref a0, .int x1, .int x2] : List Value).toArray below meth c_ H locs 0 0 Q (F0 m 77 ls [.int z0, .int z1, .int z2, .ref a0]) := by
    intro z0 z1 z2 f fi wo H locs hP hS ls hf hl
    unfold fy_set_77 at hf
    refine lv_isub hx hb dX0_set_77 ?_
    refine lv_iadd hx hb dX0_set_78 ?_
    refine va_put (D := (dC, dI)) (ci := 0) (v := .int (z2 + (z1 - z0))) (ty := .int) (C := RX0) (T := TX0) (N := 3) hx hb hts hiX0 tyX0 tyX0_ok nmX0 hown hG.1 hP (dd_A hg rfl) hS 0 rfl rfl 2 (by decide) (hts _ (tw_in lk_23)) (fun _ h9 => h9) rfl (by decide +kernel) rfl rfl (Nat.le_of_ble_eq_true rfl) dX0_set_79 (fun H locs hP _ hS => ?_)
    have hP : va_P (dC, dI) vwCl (wl_L cI a0 a1 f fi (z2 + (z1 - z0))) H := hP
    refine lv_aload_n hx hb dX0_set_82 rfl (lv_at hl 0 rfl) ?_
    refine va_get (D := (dC, dI)) (ci := 0) (v := .ref a1) (C := RX0) (T := TX0) (N := 3) hx hb hts hiX0 hown hG.1 hP 0 rfl rfl 0 (by decide) (hts _ (tw_in lk_5)) (fun _ h9 => h9) rfl dX0_set_83 ?_
    refine lv_iload_n hx hb dX0_set_86 rfl (lv_at hl 1 rfl) ?_
    refine lv_iload_n hx hb dX0_set_87 rfl (lv_at hl 2 rfl) ?_
    obtain ⟨hq, hf⟩ := ck_s hf
    refine va_iast hx hb hG.1 hP (dd_A hg rfl) hS 1 0 rfl rfl hq dX0_set_88 (fun H locs hP _ hS => ?_)
    have hP : va_P (dC, dI) vwCl (wl_L cI a0 a1 (upd f x1.toNatClampNeg x2) fi (z2 + (z1 - z0))) H := hP
    obtain rfl := Option.some.inj hf
    rw [hQ]
    exact im_vret hx hb hr hS hP dX0_set_89 hlocks
  have B62 : ∀ (z0 : Int32) (z1 : Int32) (f : Nat → Int32) (fi : Int32) (wo : Int32), ∀ (H : Heap) (locs : List Loc), va_P (dC, dI) vwCl (wl_L cI a0 a1 f fi wo) H → va_S (in_A [a0, a1]) s.heap H locs → ∀ ls : Array Slot, fy_set_62 x1 x2 z0 z1 f fi wo = some v0 → lv_has ls 3 [(0, .ref a0), (1, .int x1), (2, .int x2)] → W p l e (headSpec wsX0_set rm_0_0).room s m ([.ref a0, .int x1, .int x2] : List Value).toArray below meth c_ H locs 0 0 Q (F0 m 62 ls [.int z0, .int z1, .ref a0]) := by
    intro z0 z1 f fi wo H locs hP hS ls hf hl
    unfold fy_set_62 at hf
    refine lv_aload_n hx hb dX0_set_62 rfl (lv_at hl 0 rfl) ?_
    refine va_get (D := (dC, dI)) (ci := 0) (v := .ref a1) (C := RX0) (T := TX0) (N := 3) hx hb hts hiX0 hown hG.1 hP 0 rfl rfl 0 (by decide) (hts _ (tw_in lk_5)) (fun _ h9 => h9) rfl dX0_set_63 ?_
    refine lv_iload_n hx hb dX0_set_66 rfl (lv_at hl 1 rfl) ?_
    obtain ⟨hq, hf⟩ := ck_s hf
    refine va_iald hx hb hG.1 hP 1 0 rfl rfl hq dX0_set_67 ?_
    refine lv_iconst (v := 4) hx hb dX0_set_68 (by decide) ?_
    refine lv_icmp_ne (tgt := 76) hx hb dX0_set_69 (by decide) (fun hc => ?_) (fun hc => ?_)
    · rw [if_neg hc] at hf
      refine lv_iconst (v := 0) hx hb dX0_set_76 (by decide) ?_
      exact B77 0 z0 z1 f fi wo H locs hP hS ls hf (lv_sub hl [0, 1, 2] rfl)
    · rw [if_pos hc] at hf
      refine lv_iconst (v := 1) hx hb dX0_set_72 (by decide) ?_
      refine lv_goto (tgt := 77) hx hb dX0_set_73 (by decide) ?_
      exact B77 1 z0 z1 f fi wo H locs hP hS ls hf (lv_sub hl [0, 1, 2] rfl)
  have B42 : ∀ (z0 : Int32) (z1 : Int32) (z2 : Int32) (f : Nat → Int32) (fi : Int32) (wo : Int32), ∀ (H : Heap) (locs : List Loc), va_P (dC, dI) vwCl (wl_L cI a0 a1 f fi wo) H → va_S (in_A [a0, a1]) s.heap H locs → ∀ ls : Array Slot, fy_set_42 x1 x2 z0 z1 z2 f fi wo = some v0 → lv_has ls 3 [(0, .ref a0), (1, .int x1), (2, .int x2)] → W p l e (headSpec wsX0_set rm_0_0).room s m ([.ref a0, .int x1, .int x2] : List Value).toArray below meth c_ H locs 0 0 Q (F0 m 42 ls [.int z0, .int z1, .int z2, .ref a0]) := by
    intro z0 z1 z2 f fi wo H locs hP hS ls hf hl
    unfold fy_set_42 at hf
    refine lv_isub hx hb dX0_set_42 ?_
    refine lv_iadd hx hb dX0_set_43 ?_
    refine va_put (D := (dC, dI)) (ci := 0) (v := .int (z2 + (z1 - z0))) (ty := .int) (C := RX0) (T := TX0) (N := 3) hx hb hts hiX0 tyX0 tyX0_ok nmX0 hown hG.1 hP (dd_A hg rfl) hS 0 rfl rfl 1 (by decide) (hts _ (tw_in lk_16)) (fun _ h9 => h9) rfl (by decide +kernel) rfl rfl (Nat.le_of_ble_eq_true rfl) dX0_set_44 (fun H locs hP _ hS => ?_)
    have hP : va_P (dC, dI) vwCl (wl_L cI a0 a1 f (z2 + (z1 - z0)) wo) H := hP
    refine lv_aload_n hx hb dX0_set_47 rfl (lv_at hl 0 rfl) ?_
    refine lv_dup hx hb dX0_set_48 rfl ?_
    refine va_get (D := (dC, dI)) (ci := 0) (v := .int wo) (C := RX0) (T := TX0) (N := 3) hx hb hts hiX0 hown hG.1 hP 0 rfl rfl 2 (by decide) (hts _ (tw_in lk_23)) (fun _ h9 => h9) rfl dX0_set_49 ?_
    refine lv_iload_n hx hb dX0_set_52 rfl (lv_at hl 2 rfl) ?_
    refine lv_iconst (v := 4) hx hb dX0_set_53 (by decide) ?_
    refine lv_icmp_ne (tgt := 61) hx hb dX0_set_54 (by decide) (fun hc => ?_) (fun hc => ?_)
    · rw [if_neg hc] at hf
      refine lv_iconst (v := 0) hx hb dX0_set_61 (by decide) ?_
      exact B62 0 wo f (z2 + (z1 - z0)) wo H locs hP hS ls hf (lv_sub hl [0, 1, 2] rfl)
    · rw [if_pos hc] at hf
      refine lv_iconst (v := 1) hx hb dX0_set_57 (by decide) ?_
      refine lv_goto (tgt := 62) hx hb dX0_set_58 (by decide) ?_
      exact B62 1 wo f (z2 + (z1 - z0)) wo H locs hP hS ls hf (lv_sub hl [0, 1, 2] rfl)
  have B28 : ∀ (z0 : Int32) (z1 : Int32) (f : Nat → Int32) (fi : Int32) (wo : Int32), ∀ (H : Heap) (locs : List Loc), va_P (dC, dI) vwCl (wl_L cI a0 a1 f fi wo) H → va_S (in_A [a0, a1]) s.heap H locs → ∀ ls : Array Slot, fy_set_28 x1 x2 z0 z1 f fi wo = some v0 → lv_has ls 3 [(0, .ref a0), (1, .int x1), (2, .int x2)] → W p l e (headSpec wsX0_set rm_0_0).room s m ([.ref a0, .int x1, .int x2] : List Value).toArray below meth c_ H locs 0 0 Q (F0 m 28 ls [.int z0, .int z1, .ref a0]) := by
    intro z0 z1 f fi wo H locs hP hS ls hf hl
    unfold fy_set_28 at hf
    refine lv_aload_n hx hb dX0_set_28 rfl (lv_at hl 0 rfl) ?_
    refine va_get (D := (dC, dI)) (ci := 0) (v := .ref a1) (C := RX0) (T := TX0) (N := 3) hx hb hts hiX0 hown hG.1 hP 0 rfl rfl 0 (by decide) (hts _ (tw_in lk_5)) (fun _ h9 => h9) rfl dX0_set_29 ?_
    refine lv_iload_n hx hb dX0_set_32 rfl (lv_at hl 1 rfl) ?_
    obtain ⟨hq, hf⟩ := ck_s hf
    refine va_iald hx hb hG.1 hP 1 0 rfl rfl hq dX0_set_33 ?_
    refine lv_if_ne (tgt := 41) hx hb dX0_set_34 (by decide) (fun hc => ?_) (fun hc => ?_)
    · rw [if_neg hc] at hf
      refine lv_iconst (v := 1) hx hb dX0_set_41 (by decide) ?_
      exact B42 1 z0 z1 f fi wo H locs hP hS ls hf (lv_sub hl [0, 1, 2] rfl)
    · rw [if_pos hc] at hf
      refine lv_iconst (v := 0) hx hb dX0_set_37 (by decide) ?_
      refine lv_goto (tgt := 42) hx hb dX0_set_38 (by decide) ?_
      exact B42 0 z0 z1 f fi wo H locs hP hS ls hf (lv_sub hl [0, 1, 2] rfl)
  unfold fy_set at h
  have hgo : ∀ (H : Heap) (locs : List Loc), va_P (dC, dI) vwCl (wl_L cI a0 a1 f fi wo) H → va_S (in_A [a0, a1]) s.heap H locs → W p l e (headSpec wsX0_set rm_0_0).room s m ([.ref a0, .int x1, .int x2] : List Value).toArray below meth c_ H locs 0 0 Q (F0 m 0 ls []) := by
    intro H locs hP hS
    have hf := h
    refine lv_iload_n hx hb dX0_set_0 rfl (lv_at hl 1 rfl) ?_
    refine lv_if_le (tgt := 13) hx hb dX0_set_1 (by decide) (fun hc => ?_) (fun hc => ?_)
    · rw [if_pos hc] at hf
      obtain rfl := Option.some.inj hf
      rw [hQ]
      exact im_vret hx hb hr hS hP dX0_set_13 hlocks
    · rw [if_neg hc] at hf
      refine lv_iload_n hx hb dX0_set_4 rfl (lv_at hl 1 rfl) ?_
      refine lv_aload_n hx hb dX0_set_5 rfl (lv_at hl 0 rfl) ?_
      refine va_get (D := (dC, dI)) (ci := 0) (v := .ref a1) (C := RX0) (T := TX0) (N := 3) hx hb hts hiX0 hown hG.1 hP 0 rfl rfl 0 (by decide) (hts _ (tw_in lk_5)) (fun _ h9 => h9) rfl dX0_set_6 ?_
      refine va_alen (v := 781) hx hb hG.1 hP 1 0 rfl rfl rfl dX0_set_9 ?_
      refine lv_icmp_lt (tgt := 14) hx hb dX0_set_10 (by decide) (fun hc => ?_) (fun hc => ?_)
      · rw [if_pos hc] at hf
        refine lv_aload_n hx hb dX0_set_14 rfl (lv_at hl 0 rfl) ?_
        refine lv_dup hx hb dX0_set_15 rfl ?_
        refine va_get (D := (dC, dI)) (ci := 0) (v := .int fi) (C := RX0) (T := TX0) (N := 3) hx hb hts hiX0 hown hG.1 hP 0 rfl rfl 1 (by decide) (hts _ (tw_in lk_16)) (fun _ h9 => h9) rfl dX0_set_16 ?_
        refine lv_iload_n hx hb dX0_set_19 rfl (lv_at hl 2 rfl) ?_
        refine lv_if_ne (tgt := 27) hx hb dX0_set_20 (by decide) (fun hc => ?_) (fun hc => ?_)
        · rw [if_neg hc] at hf
          refine lv_iconst (v := 1) hx hb dX0_set_27 (by decide) ?_
          exact B28 1 fi f fi wo H locs hP hS ls hf (lv_sub hl [0, 1, 2] rfl)
        · rw [if_pos hc] at hf
          refine lv_iconst (v := 0) hx hb dX0_set_23 (by decide) ?_
          refine lv_goto (tgt := 28) hx hb dX0_set_24 (by decide) ?_
          exact B28 0 fi f fi wo H locs hP hS ls hf (lv_sub hl [0, 1, 2] rfl)
      · rw [if_neg hc] at hf
        obtain rfl := Option.some.inj hf
        rw [hQ]
        exact im_vret hx hb hr hS hP dX0_set_13 hlocks
  exact hgo s.heap [] hP va_S.rf
set_option maxHeartbeats 4000000 in
set_option maxRecDepth 100000 in
theorem cy_fileCell (l : Launch) (dC : Nat → ClassId) (dI : Nat → Nat → Nat) (cI cQ : ClassId) (t1 t2 bs : Nat) (x0 : Int32) (v0 : Int32) (h : fy_fileCell x0 = some v0) : pu_M l yX0_fileCell wsX0_fileCell rm_0_0 [.int x0] (gk_G dC dI cI cQ t1 t2 bs []) v0 := by
  intro sz
  refine Met.ofW (cc := cX0_fileCell) (maxL := 1) (ret := (some .int)) (by decide) rfl ?_
  intro p e s m args below meth c_ s₁ B hml hv
  obtain ⟨rfl, hsz, hG, hP⟩ := hv
  have hx := B.exec
  have hb := B.bytes
  have hr := B.returns
  have hts := atoms_spec (ws := wsX0_fileCell) B.pre
  have hown : s.vm.findClass RX0 = some m.cls := findClass_of_methodNamed B.named
  have hlocks := B.notSynchronized
  have hl := lv_entry ([.int x0]) (n := 1) (Nat.le_of_ble_eq_true rfl)
  rw [lg_entry_eq]
  generalize (lg_sl ([.int x0]) ++ List.replicate (1 - (lg_sl ([.int x0])).length) Slot.unset).toArray = ls at hl ⊢
  have hl : lv_has ls 1 [(0, .int x0)] := hl
  refine nm_Q (fun Q hQ => ?_)
  unfold fy_fileCell at h
  have hf := h
  refine lv_iload_n hx hb dX0_fileCell_0 rfl (lv_at hl 0 rfl) ?_
  refine lv_iconst (v := (-1)) hx hb dX0_fileCell_1 (by decide) ?_
  refine lv_ixor hx hb dX0_fileCell_2 ?_
  obtain rfl := Option.some.inj hf
  rw [hQ]
  exact pu_iret hx hb hr (vp_nar_int _) hsz dX0_fileCell_3 hlocks
set_option maxHeartbeats 4000000 in
set_option maxRecDepth 100000 in
theorem cy_valueAt (l : Launch) (dC : Nat → ClassId) (dI : Nat → Nat → Nat) (cI cQ : ClassId) (t1 t2 bs : Nat) (a0 a1 : Nat) (hg : gd_A bs [a0, a1]) (f : Nat → Int32) (fi : Int32) (wo : Int32) (x1 : Int32) (v0 : Int32) (h : fy_valueAt f x1 = some v0) : pu_M l yX0_valueAt wsX0_valueAt rm_1_21 [.ref a0, .int x1] (gk_G dC dI cI cQ t1 t2 bs (wl_L cI a0 a1 f fi wo)) v0 := by
  intro sz
  refine Met.ofW (cc := cX0_valueAt) (maxL := 2) (ret := (some .int)) (by decide) rfl ?_
  intro p e s m args below meth c_ s₁ B hml hv
  obtain ⟨rfl, hsz, hG, hP⟩ := hv
  have hx := B.exec
  have hb := B.bytes
  have hr := B.returns
  have hts := atoms_spec (ws := wsX0_valueAt) B.pre
  have hown : s.vm.findClass RX0 = some m.cls := findClass_of_methodNamed B.named
  have hlocks := B.notSynchronized
  have hiX0 : ∀ w ∈ u_ws RX0 TX0 3, w ∈ wsX0_valueAt := fun w hw => tw_in (usX0 w hw)
  have hl := lv_entry ([.ref a0, .int x1]) (n := 2) (Nat.le_of_ble_eq_true rfl)
  rw [lg_entry_eq]
  generalize (lg_sl ([.ref a0, .int x1]) ++ List.replicate (2 - (lg_sl ([.ref a0, .int x1])).length) Slot.unset).toArray = ls at hl ⊢
  have hl : lv_has ls 2 [(0, .ref a0), (1, .int x1)] := hl
  refine nm_Q (fun Q hQ => ?_)
  unfold fy_valueAt at h
  have hf := h
  refine lv_aload_n hx hb dX0_valueAt_0 rfl (lv_at hl 0 rfl) ?_
  refine lv_iload_n hx hb dX0_valueAt_1 rfl (lv_at hl 1 rfl) ?_
  obtain ⟨r1, e2, hf⟩ := ob_s hf
  try dsimp only at hf
  refine pu_calli (va_runV (As := [.int x1]) (rest := []) ⟨hx, hb, hml, hown, hts⟩ (cy_kindAt l dC dI cI cQ t1 t2 bs a0 a1 hg f fi wo x1 r1 e2 s.heap.size) (cwV 1 hts (gs_V lk_11 lk_14 lk_15 lk_12 lk_13) rfl rfl rfl (by decide +kernel) ⟨Nat.le_of_ble_eq_true rfl, Nat.le_of_ble_eq_true rfl⟩) (pr_V gk_W (va_recv hG.1 hP (q0 := 0) rfl rfl) ⟨hG, hP⟩) rfl rfl hl.1 rfl (lv_room (Nat.le_of_ble_eq_true rfl)) dX0_valueAt_2 ⟨Nat.zero_le _, Nat.zero_le _⟩) ?_
  refine lv_iconst (v := 1) hx hb dX0_valueAt_5 (by decide) ?_
  refine lv_icmp_ne (tgt := 20) hx hb dX0_valueAt_6 (by decide) (fun hc => ?_) (fun hc => ?_)
  · rw [if_neg hc] at hf
    refine lv_iconst (v := 0) hx hb dX0_valueAt_20 (by decide) ?_
    obtain rfl := Option.some.inj hf
    rw [hQ]
    exact pu_iret hx hb hr (vp_nar_int _) hsz dX0_valueAt_21 hlocks
  · rw [if_pos hc] at hf
    refine lv_aload_n hx hb dX0_valueAt_9 rfl (lv_at hl 0 rfl) ?_
    refine va_get (D := (dC, dI)) (ci := 0) (v := .ref a1) (C := RX0) (T := TX0) (N := 3) hx hb hts hiX0 hown hG.1 hP 0 rfl rfl 0 (by decide) (hts _ (tw_in lk_5)) (fun _ h9 => h9) rfl dX0_valueAt_10 ?_
    refine lv_iload_n hx hb dX0_valueAt_13 rfl (lv_at hl 1 rfl) ?_
    obtain ⟨hq, hf⟩ := ck_s hf
    refine va_iald hx hb hG.1 hP 1 0 rfl rfl hq dX0_valueAt_14 ?_
    refine lv_iconst (v := (-1)) hx hb dX0_valueAt_15 (by decide) ?_
    refine lv_ixor hx hb dX0_valueAt_16 ?_
    refine lv_goto (tgt := 21) hx hb dX0_valueAt_17 (by decide) ?_
    obtain rfl := Option.some.inj hf
    rw [hQ]
    exact pu_iret hx hb hr (vp_nar_int _) hsz dX0_valueAt_21 hlocks
set_option maxHeartbeats 4000000 in
set_option maxRecDepth 100000 in
theorem cy_copyFrom (l : Launch) (dC : Nat → ClassId) (dI : Nat → Nat → Nat) (cI cQ : ClassId) (t1 t2 bs : Nat) (a0 a1 a2 a3 : Nat) (hg : gd_A bs [a0, a1, a2, a3]) (f : Nat → Int32) (fi : Int32) (wo : Int32) (g : Nat → Int32) (gi : Int32) (go : Int32) (v0 : (Nat → Int32) × Int32 × Int32) (h : fy_copyFrom f fi wo g gi go = some v0) : im_V l yX0_copyFrom wsX0_copyFrom rm_1_40 [.ref a0, .ref a2] (gk_G dC dI cI cQ t1 t2 bs (wl_Q cI a0 a1 a2 a3 f fi wo g gi go)) (va_P (dC, dI) vwCl (wl_Q cI a0 a1 a2 a3 v0.1 v0.2.1 v0.2.2 g gi go)) (in_A [a0, a1, a2, a3]) := by
  intro sz
  refine Met.ofW (cc := cX0_copyFrom) (maxL := 2) (ret := none) (by decide) rfl ?_
  intro p e s m args below meth c_ s₁ B hml hv
  obtain ⟨rfl, hsz, hG, hP⟩ := hv
  have hx := B.exec
  have hb := B.bytes
  have hr := B.returns
  have hts := atoms_spec (ws := wsX0_copyFrom) B.pre
  have hown : s.vm.findClass RX0 = some m.cls := findClass_of_methodNamed B.named
  have hlocks := B.notSynchronized
  have hiX0 : ∀ w ∈ u_ws RX0 TX0 3, w ∈ wsX0_copyFrom := fun w hw => tw_in (usX0 w hw)
  have hl := lv_entry ([.ref a0, .ref a2]) (n := 2) (Nat.le_of_ble_eq_true rfl)
  rw [lg_entry_eq]
  generalize (lg_sl ([.ref a0, .ref a2]) ++ List.replicate (2 - (lg_sl ([.ref a0, .ref a2])).length) Slot.unset).toArray = ls at hl ⊢
  have hl : lv_has ls 2 [(0, .ref a0), (1, .ref a2)] := hl
  refine nm_Q (fun Q hQ => ?_)
  unfold fy_copyFrom at h
  have hgo : ∀ (H : Heap) (locs : List Loc), va_P (dC, dI) vwCl (wl_Q cI a0 a1 a2 a3 f fi wo g gi go) H → va_S (in_A [a0, a1, a2, a3]) s.heap H locs → W p l e (headSpec wsX0_copyFrom rm_1_40).room s m ([.ref a0, .ref a2] : List Value).toArray below meth c_ H locs 0 0 Q (F0 m 0 ls []) := by
    intro H locs hP hS
    have hf := h
    refine lv_aload_n hx hb dX0_copyFrom_0 rfl (lv_at hl 1 rfl) ?_
    refine va_get (D := (dC, dI)) (ci := 0) (v := .ref a3) (C := RX0) (T := TX0) (N := 3) hx hb hts hiX0 hown hG.1 hP 2 rfl rfl 0 (by decide) (hts _ (tw_in lk_5)) (fun _ h9 => h9) rfl dX0_copyFrom_1 ?_
    refine lv_iconst (v := 0) hx hb dX0_copyFrom_4 (by decide) ?_
    refine lv_aload_n hx hb dX0_copyFrom_5 rfl (lv_at hl 0 rfl) ?_
    refine va_get (D := (dC, dI)) (ci := 0) (v := .ref a1) (C := RX0) (T := TX0) (N := 3) hx hb hts hiX0 hown hG.1 hP 0 rfl rfl 0 (by decide) (hts _ (tw_in lk_5)) (fun _ h9 => h9) rfl dX0_copyFrom_6 ?_
    refine lv_iconst (v := 0) hx hb dX0_copyFrom_9 (by decide) ?_
    refine lv_aload_n hx hb dX0_copyFrom_10 rfl (lv_at hl 0 rfl) ?_
    refine va_get (D := (dC, dI)) (ci := 0) (v := .ref a1) (C := RX0) (T := TX0) (N := 3) hx hb hts hiX0 hown hG.1 hP 0 rfl rfl 0 (by decide) (hts _ (tw_in lk_5)) (fun _ h9 => h9) rfl dX0_copyFrom_11 ?_
    refine va_alen (v := 781) hx hb hG.1 hP 1 0 rfl rfl rfl dX0_copyFrom_14 ?_
    refine va_copyi hx hb (hml.trans hl.1.symm) hown (hts _ (tw_in lk_115)) (hts _ (tw_in lk_116)) (hts _ (tw_in lk_117)) (hts _ (tw_in lk_118)) hG.1 hP (dd_A hg rfl) hS 3 1 0 0 rfl rfl rfl rfl rfl (sp := 0) (dp := 0) (n := 781) (by decide) (by decide) (by decide) (by decide) (by decide) (fun _ _ => rfl) (Nat.le_of_ble_eq_true rfl) (Nat.le_of_ble_eq_true rfl) dX0_copyFrom_15 (fun H locs hP _ hS => ?_)
    have hP : va_P (dC, dI) vwCl (wl_Q cI a0 a1 a2 a3 (va_cpy g f 0 0 781) fi wo g gi go) H := hP
    refine lv_aload_n hx hb dX0_copyFrom_18 rfl (lv_at hl 0 rfl) ?_
    refine lv_aload_n hx hb dX0_copyFrom_19 rfl (lv_at hl 1 rfl) ?_
    refine va_get (D := (dC, dI)) (ci := 0) (v := .int gi) (C := RX0) (T := TX0) (N := 3) hx hb hts hiX0 hown hG.1 hP 2 rfl rfl 1 (by decide) (hts _ (tw_in lk_16)) (fun _ h9 => h9) rfl dX0_copyFrom_20 ?_
    refine va_put (D := (dC, dI)) (ci := 0) (v := .int gi) (ty := .int) (C := RX0) (T := TX0) (N := 3) hx hb hts hiX0 tyX0 tyX0_ok nmX0 hown hG.1 hP (dd_A hg rfl) hS 0 rfl rfl 1 (by decide) (hts _ (tw_in lk_16)) (fun _ h9 => h9) rfl (by decide +kernel) rfl rfl (Nat.le_of_ble_eq_true rfl) dX0_copyFrom_23 (fun H locs hP _ hS => ?_)
    have hP : va_P (dC, dI) vwCl (wl_Q cI a0 a1 a2 a3 (va_cpy g f 0 0 781) gi wo g gi go) H := hP
    refine lv_aload_n hx hb dX0_copyFrom_26 rfl (lv_at hl 0 rfl) ?_
    refine lv_aload_n hx hb dX0_copyFrom_27 rfl (lv_at hl 1 rfl) ?_
    refine va_get (D := (dC, dI)) (ci := 0) (v := .int go) (C := RX0) (T := TX0) (N := 3) hx hb hts hiX0 hown hG.1 hP 2 rfl rfl 2 (by decide) (hts _ (tw_in lk_23)) (fun _ h9 => h9) rfl dX0_copyFrom_28 ?_
    refine va_put (D := (dC, dI)) (ci := 0) (v := .int go) (ty := .int) (C := RX0) (T := TX0) (N := 3) hx hb hts hiX0 tyX0 tyX0_ok nmX0 hown hG.1 hP (dd_A hg rfl) hS 0 rfl rfl 2 (by decide) (hts _ (tw_in lk_23)) (fun _ h9 => h9) rfl (by decide +kernel) rfl rfl (Nat.le_of_ble_eq_true rfl) dX0_copyFrom_31 (fun H locs hP _ hS => ?_)
    have hP : va_P (dC, dI) vwCl (wl_Q cI a0 a1 a2 a3 (va_cpy g f 0 0 781) gi go g gi go) H := hP
    obtain rfl := Option.some.inj hf
    rw [hQ]
    exact im_vret hx hb hr hS hP dX0_copyFrom_34 hlocks
  exact hgo s.heap [] hP va_S.rf
set_option maxHeartbeats 4000000 in
set_option maxRecDepth 100000 in
theorem cy_clearFrom (l : Launch) (dC : Nat → ClassId) (dI : Nat → Nat → Nat) (cI cQ : ClassId) (t1 t2 bs : Nat) (a0 a1 : Nat) (hg : gd_A bs [a0, a1]) (f : Nat → Int32) (fi : Int32) (wo : Int32) (x1 : Int32) (v0 : (Nat → Int32) × Int32 × Int32) (h : fy_clearFrom f fi wo x1 = some v0) : im_V l yX0_clearFrom wsX0_clearFrom rm_1_22 [.ref a0, .int x1] (gk_G dC dI cI cQ t1 t2 bs (wl_L cI a0 a1 f fi wo)) (va_P (dC, dI) vwCl (wl_L cI a0 a1 v0.1 v0.2.1 v0.2.2)) (in_A [a0, a1]) := by
  intro sz
  refine Met.ofW (cc := cX0_clearFrom) (maxL := 6) (ret := none) (by decide) rfl ?_
  intro p e s m args below meth c_ s₁ B hml hv
  obtain ⟨rfl, hsz, hG, hP⟩ := hv
  have hx := B.exec
  have hb := B.bytes
  have hr := B.returns
  have hts := atoms_spec (ws := wsX0_clearFrom) B.pre
  have hown : s.vm.findClass RX0 = some m.cls := findClass_of_methodNamed B.named
  have hlocks := B.notSynchronized
  have hl := lv_entry ([.ref a0, .int x1]) (n := 6) (Nat.le_of_ble_eq_true rfl)
  rw [lg_entry_eq]
  generalize (lg_sl ([.ref a0, .int x1]) ++ List.replicate (6 - (lg_sl ([.ref a0, .int x1])).length) Slot.unset).toArray = ls at hl ⊢
  have hl : lv_has ls 6 [(0, .ref a0), (1, .int x1)] := hl
  refine nm_Q (fun Q hQ => ?_)
  have B19 : ∀ (k10 : Int32 → Int32 → Int32 → (Nat → Int32) → Int32 → Int32 → Option ((Nat → Int32) × Int32 × Int32)) (hk10 : ∀ (x2 : Int32) (x3 : Int32) (x4 : Int32) (f : Nat → Int32) (fi : Int32) (wo : Int32), ∀ (H : Heap) (locs : List Loc), va_P (dC, dI) vwCl (wl_L cI a0 a1 f fi wo) H → va_S (in_A [a0, a1]) s.heap H locs → ∀ ls : Array Slot, k10 x2 x3 x4 f fi wo = some v0 → lv_has ls 6 [(0, .ref a0), (1, .int x1), (2, .int x2), (3, .int x3), (4, .int x4)] → W p l e (headSpec wsX0_clearFrom rm_1_22).room s m ([.ref a0, .int x1] : List Value).toArray below meth c_ H locs 0 0 Q (F0 m 10 ls [])), ∀ n : Nat, ∀ (x2 : Int32) (x3 : Int32) (x4 : Int32) (x5 : Int32) (f : Nat → Int32) (fi : Int32) (wo : Int32), ∀ (H : Heap) (locs : List Loc), va_P (dC, dI) vwCl (wl_L cI a0 a1 f fi wo) H → va_S (in_A [a0, a1]) s.heap H locs → ∀ ls : Array Slot, fy_clearFrom_19 x1 k10 n x2 x3 x4 x5 f fi wo = some v0 → lv_has ls 6 [(0, .ref a0), (1, .int x1), (2, .int x2), (3, .int x3), (4, .int x4), (5, .int x5)] → W p l e (headSpec wsX0_clearFrom rm_1_22).room s m ([.ref a0, .int x1] : List Value).toArray below meth c_ H locs 0 0 Q (F0 m 19 ls []) := by
    intro k10 hk10
    intro n
    induction n with
    | zero => 
      intro x2 x3 x4 x5 f fi wo H locs hP hS ls hf hl
      exact nomatch (show (none : Option ((Nat → Int32) × Int32 × Int32)) = some v0 from hf)
    | succ n ih =>
      intro x2 x3 x4 x5 f fi wo H locs hP hS ls hf hl
      rw [fy_clearFrom_19.eq_2] at hf
      try dsimp only at hf
      refine lv_iload hx hb dX0_clearFrom_19 (lv_at hl 5 rfl) ?_
      refine lv_iload_n hx hb dX0_clearFrom_21 rfl (lv_at hl 3 rfl) ?_
      refine lv_icmp_gt (tgt := 38) hx hb dX0_clearFrom_22 (by decide) (fun hc => ?_) (fun hc => ?_)
      · rw [if_pos hc] at hf
        refine lv_iload_n hx hb dX0_clearFrom_38 rfl (lv_at hl 2 rfl) ?_
        refine lv_iconst (v := 1) hx hb dX0_clearFrom_39 (by decide) ?_
        obtain ⟨r1, e2, hf⟩ := ob_s hf
        try dsimp only at hf
        refine pu_calli (va_runS (As := [.int x2, .int 1]) (rest := []) ⟨hx, hb, hml, hown, hts⟩ (cp_child l dC dI cI cQ t1 t2 bs x2 1 r1 e2 H.size) (va_cwS 2 hts (gs_S lk_126 lk_3 lk_1 lk_2) rfl rfl rfl (by decide +kernel) ⟨Nat.le_of_ble_eq_true rfl, Nat.le_of_ble_eq_true rfl⟩) (pr_S gk_W ⟨(gk_S hG hS (bb_A hg)), pz_0⟩) rfl rfl hl.1 rfl (lv_room (Nat.le_of_ble_eq_true rfl)) dX0_clearFrom_40 ⟨Nat.zero_le _, Nat.zero_le _⟩) ?_
        refine lv_istore_n (lv' := [(2, .int r1), (0, .ref a0), (1, .int x1), (3, .int x3), (4, .int x4), (5, .int x5)]) hx hb dX0_clearFrom_43 rfl hl (by decide) rfl (fun ls hl => ?_)
        refine lv_iload_n hx hb dX0_clearFrom_44 rfl (lv_at hl 3 rfl) ?_
        refine lv_iconst (v := 5) hx hb dX0_clearFrom_45 (by decide) ?_
        obtain ⟨r3, e4, hf⟩ := ob_s hf
        try dsimp only at hf
        refine pu_calli (va_runS (As := [.int x3, .int 5]) (rest := []) ⟨hx, hb, hml, hown, hts⟩ (cp_child l dC dI cI cQ t1 t2 bs x3 5 r3 e4 H.size) (va_cwS 2 hts (gs_S lk_126 lk_3 lk_1 lk_2) rfl rfl rfl (by decide +kernel) ⟨Nat.le_of_ble_eq_true rfl, Nat.le_of_ble_eq_true rfl⟩) (pr_S gk_W ⟨(gk_S hG hS (bb_A hg)), pz_0⟩) rfl rfl hl.1 rfl (lv_room (Nat.le_of_ble_eq_true rfl)) dX0_clearFrom_46 ⟨Nat.zero_le _, Nat.zero_le _⟩) ?_
        refine lv_istore_n (lv' := [(3, .int r3), (2, .int r1), (0, .ref a0), (1, .int x1), (4, .int x4), (5, .int x5)]) hx hb dX0_clearFrom_49 rfl hl (by decide) rfl (fun ls hl => ?_)
        refine lv_iinc (k := 4) (v := x4 + 1) (lv' := [(4, .int (x4 + 1)), (3, .int r3), (2, .int r1), (0, .ref a0), (1, .int x1), (5, .int x5)]) hx hb dX0_clearFrom_50 hl rfl (by rfl) (by decide) rfl (fun ls hl => ?_)
        refine lv_goto (tgt := 10) hx hb dX0_clearFrom_53 (by decide) ?_
        exact hk10 r1 r3 (x4 + 1) f fi wo H locs hP hS ls hf (lv_sub hl [3, 4, 2, 1, 0] rfl)
      · rw [if_neg hc] at hf
        refine lv_aload_n hx hb dX0_clearFrom_25 rfl (lv_at hl 0 rfl) ?_
        refine lv_iload hx hb dX0_clearFrom_26 (lv_at hl 5 rfl) ?_
        refine lv_iconst (v := 0) hx hb dX0_clearFrom_28 (by decide) ?_
        obtain ⟨r5, e6, hf⟩ := ob_s hf
        try dsimp only at hf
        refine im_callv (va_runV (As := [.int x5, .int 0]) (rest := []) ⟨hx, hb, hml, hown, hts⟩ (cy_set l dC dI cI cQ t1 t2 bs a0 a1 hg f fi wo x5 0 r5 e6 H.size) (cwV 2 hts (gs_V lk_127 lk_26 lk_27 lk_12 lk_25) rfl rfl rfl (by decide +kernel) ⟨Nat.le_of_ble_eq_true rfl, Nat.le_of_ble_eq_true rfl⟩) (pr_V gk_W (va_recv hG.1 hP (q0 := 0) rfl rfl) ⟨(gk_S hG hS (bb_A hg)), hP⟩) rfl rfl hl.1 rfl (lv_room (Nat.le_of_ble_eq_true rfl)) dX0_clearFrom_29 ⟨Nat.zero_le _, Nat.zero_le _⟩) hS (fun _ h => h) (fun H locs hP1 hk1 hS => ?_)
        have hP : va_P (dC, dI) vwCl (wl_L cI a0 a1 r5.1 r5.2.1 r5.2.2) H := hP1
        refine lv_iinc (k := 5) (v := x5 + 1) (lv' := [(5, .int (x5 + 1)), (0, .ref a0), (1, .int x1), (2, .int x2), (3, .int x3), (4, .int x4)]) hx hb dX0_clearFrom_32 hl rfl (by rfl) (by decide) rfl (fun ls hl => ?_)
        refine lv_goto (tgt := 19) hx hb dX0_clearFrom_35 (by decide) ?_
        exact ih x2 x3 x4 (x5 + 1) r5.1 r5.2.1 r5.2.2 H locs hP hS ls hf (lv_sub hl [1, 2, 3, 4, 5, 0] rfl)
  have B10 : ∀ n : Nat, ∀ (x2 : Int32) (x3 : Int32) (x4 : Int32) (f : Nat → Int32) (fi : Int32) (wo : Int32), ∀ (H : Heap) (locs : List Loc), va_P (dC, dI) vwCl (wl_L cI a0 a1 f fi wo) H → va_S (in_A [a0, a1]) s.heap H locs → ∀ ls : Array Slot, fy_clearFrom_10 x1 n x2 x3 x4 f fi wo = some v0 → lv_has ls 6 [(0, .ref a0), (1, .int x1), (2, .int x2), (3, .int x3), (4, .int x4)] → W p l e (headSpec wsX0_clearFrom rm_1_22).room s m ([.ref a0, .int x1] : List Value).toArray below meth c_ H locs 0 0 Q (F0 m 10 ls []) := by
    intro n
    induction n with
    | zero => 
      intro x2 x3 x4 f fi wo H locs hP hS ls hf hl
      exact nomatch (show (none : Option ((Nat → Int32) × Int32 × Int32)) = some v0 from hf)
    | succ n ih =>
      intro x2 x3 x4 f fi wo H locs hP hS ls hf hl
      rw [fy_clearFrom_10.eq_2] at hf
      try dsimp only at hf
      refine lv_iload hx hb dX0_clearFrom_10 (lv_at hl 4 rfl) ?_
      refine lv_iconst (v := 4) hx hb dX0_clearFrom_12 (by decide) ?_
      refine lv_icmp_gt (tgt := 56) hx hb dX0_clearFrom_13 (by decide) (fun hc => ?_) (fun hc => ?_)
      · rw [if_pos hc] at hf
        obtain rfl := Option.some.inj hf
        rw [hQ]
        exact im_vret hx hb hr hS hP dX0_clearFrom_56 hlocks
      · rw [if_neg hc] at hf
        refine lv_iload_n hx hb dX0_clearFrom_16 rfl (lv_at hl 2 rfl) ?_
        refine lv_istore (lv' := [(5, .int x2), (0, .ref a0), (1, .int x1), (2, .int x2), (3, .int x3), (4, .int x4)]) hx hb dX0_clearFrom_17 hl (by decide) rfl (fun ls hl => ?_)
        exact B19 (fy_clearFrom_10 x1 n) ih fu_n x2 x3 x4 x2 f fi wo H locs hP hS ls hf (lv_sub hl [1, 2, 3, 4, 5, 0] rfl)
  unfold fy_clearFrom at h
  have hgo : ∀ (H : Heap) (locs : List Loc), va_P (dC, dI) vwCl (wl_L cI a0 a1 f fi wo) H → va_S (in_A [a0, a1]) s.heap H locs → W p l e (headSpec wsX0_clearFrom rm_1_22).room s m ([.ref a0, .int x1] : List Value).toArray below meth c_ H locs 0 0 Q (F0 m 0 ls []) := by
    intro H locs hP hS
    have hf := h
    refine lv_iload_n hx hb dX0_clearFrom_0 rfl (lv_at hl 1 rfl) ?_
    refine lv_istore_n (lv' := [(2, .int x1), (0, .ref a0), (1, .int x1)]) hx hb dX0_clearFrom_1 rfl hl (by decide) rfl (fun ls hl => ?_)
    refine lv_iload_n hx hb dX0_clearFrom_2 rfl (lv_at hl 2 rfl) ?_
    refine lv_istore_n (lv' := [(3, .int x1), (2, .int x1), (0, .ref a0), (1, .int x1)]) hx hb dX0_clearFrom_3 rfl hl (by decide) rfl (fun ls hl => ?_)
    refine lv_iload_n hx hb dX0_clearFrom_4 rfl (lv_at hl 3 rfl) ?_
    obtain ⟨r7, e8, hf⟩ := ob_s hf
    try dsimp only at hf
    refine pu_calli (va_runS (As := [.int x1]) (rest := []) ⟨hx, hb, hml, hown, hts⟩ (cp_depth l dC dI cI cQ t1 t2 bs x1 r7 e8 H.size) (va_cwS 1 hts (gs_S lk_128 lk_75 lk_1 lk_74) rfl rfl rfl (by decide +kernel) ⟨Nat.le_of_ble_eq_true rfl, Nat.le_of_ble_eq_true rfl⟩) (pr_S gk_W ⟨(gk_S hG hS (bb_A hg)), pz_0⟩) rfl rfl hl.1 rfl (lv_room (Nat.le_of_ble_eq_true rfl)) dX0_clearFrom_5 ⟨Nat.zero_le _, Nat.zero_le _⟩) ?_
    refine lv_istore (lv' := [(4, .int r7), (3, .int x1), (2, .int x1), (0, .ref a0), (1, .int x1)]) hx hb dX0_clearFrom_8 hl (by decide) rfl (fun ls hl => ?_)
    exact B10 fu_n x1 x1 r7 f fi wo H locs hP hS ls hf (lv_sub hl [3, 4, 2, 1, 0] rfl)
  exact hgo s.heap [] hP va_S.rf
set_option maxHeartbeats 4000000 in
set_option maxRecDepth 100000 in
theorem cy_whiteoutCount (l : Launch) (dC : Nat → ClassId) (dI : Nat → Nat → Nat) (cI cQ : ClassId) (t1 t2 bs : Nat) (a0 a1 : Nat) (hg : gd_A bs [a0, a1]) (f : Nat → Int32) (fi : Int32) (wo : Int32) (v0 : Int32) (h : fy_whiteoutCount wo = some v0) : pu_M l yX0_whiteoutCount wsX0_whiteoutCount rm_0_0 [.ref a0] (gk_G dC dI cI cQ t1 t2 bs (wl_L cI a0 a1 f fi wo)) v0 := by
  intro sz
  refine Met.ofW (cc := cX0_whiteoutCount) (maxL := 1) (ret := (some .int)) (by decide) rfl ?_
  intro p e s m args below meth c_ s₁ B hml hv
  obtain ⟨rfl, hsz, hG, hP⟩ := hv
  have hx := B.exec
  have hb := B.bytes
  have hr := B.returns
  have hts := atoms_spec (ws := wsX0_whiteoutCount) B.pre
  have hown : s.vm.findClass RX0 = some m.cls := findClass_of_methodNamed B.named
  have hlocks := B.notSynchronized
  have hiX0 : ∀ w ∈ u_ws RX0 TX0 3, w ∈ wsX0_whiteoutCount := fun w hw => tw_in (usX0 w hw)
  have hl := lv_entry ([.ref a0]) (n := 1) (Nat.le_of_ble_eq_true rfl)
  rw [lg_entry_eq]
  generalize (lg_sl ([.ref a0]) ++ List.replicate (1 - (lg_sl ([.ref a0])).length) Slot.unset).toArray = ls at hl ⊢
  have hl : lv_has ls 1 [(0, .ref a0)] := hl
  refine nm_Q (fun Q hQ => ?_)
  unfold fy_whiteoutCount at h
  have hf := h
  refine lv_aload_n hx hb dX0_whiteoutCount_0 rfl (lv_at hl 0 rfl) ?_
  refine va_get (D := (dC, dI)) (ci := 0) (v := .int wo) (C := RX0) (T := TX0) (N := 3) hx hb hts hiX0 hown hG.1 hP 0 rfl rfl 2 (by decide) (hts _ (tw_in lk_23)) (fun _ h9 => h9) rfl dX0_whiteoutCount_1 ?_
  obtain rfl := Option.some.inj hf
  rw [hQ]
  exact pu_iret hx hb hr (vp_nar_int _) hsz dX0_whiteoutCount_4 hlocks
