set_option maxHeartbeats 4000000 in
set_option maxRecDepth 100000 in
theorem cx_originOf (l : Launch) (dC : Nat → ClassId) (dI : Nat → Nat → Nat) (cI cQ : ClassId) (t1 t2 bs : Nat) (top xo la ko kc nt : Nat) (lo lc : Nat → Nat) (hg : gd_A bs (ad_X top xo la ko kc nt lo lc)) (c : Nat → ls_T) (md : Int32) (cu : Int32) (kp : ls_T) (kcu : Int32) (nf : Nat → Int32) (x1 : Int32) (v0 : Int32) (h : fx_originOf top x1 = some v0) : pu_M l yX2_originOf wsX2_originOf rm_1_21 [.ref xo, .int x1] (gk_G dC dI cI cQ t1 t2 bs (wx_X cI cQ top xo la ko kc nt lo lc c md cu kp kcu nf)) v0 := by
  intro sz
  refine Met.ofW (cc := cX2_originOf) (maxL := 3) (ret := (some .int)) (by decide) rfl ?_
  intro p e s m args below meth c_ s₁ B hml hv
  obtain ⟨rfl, hsz, hG, hP⟩ := hv
  have hx := B.exec
  have hb := B.bytes
  have hr := B.returns
  have hts := atoms_spec (ws := wsX2_originOf) B.pre
  have hown : s.vm.findClass RX2 = some m.cls := findClass_of_methodNamed B.named
  have hlocks := B.notSynchronized
  have hiX2 : ∀ w ∈ u_ws RX2 TX2 8, w ∈ wsX2_originOf := fun w hw => tw_in (usX2 w hw)
  have hl := lv_entry ([.ref xo, .int x1]) (n := 3) (Nat.le_of_ble_eq_true rfl)
  rw [lg_entry_eq]
  generalize (lg_sl ([.ref xo, .int x1]) ++ List.replicate (3 - (lg_sl ([.ref xo, .int x1])).length) Slot.unset).toArray = ls at hl ⊢
  have hl : lv_has ls 3 [(0, .ref xo), (1, .int x1)] := hl
  refine nm_Q (fun Q hQ => ?_)
  have B17 : ∀ n : Nat, ∀ (x2 : Int32), ∀ ls : Array Slot, fx_originOf_17 top x1 n x2 = some v0 → lv_has ls 3 [(0, .ref xo), (1, .int x1), (2, .int x2)] → W p l e (headSpec wsX2_originOf rm_1_21).room s m ([.ref xo, .int x1] : List Value).toArray below meth c_ s.heap [] 0 0 Q (F0 m 17 ls []) := by
    intro n
    induction n with
    | zero => 
      intro x2 ls hf hl
      exact nomatch (show (none : Option (Int32)) = some v0 from hf)
    | succ n ih =>
      intro x2 ls hf hl
      rw [fx_originOf_17.eq_2] at hf
      try dsimp only at hf
      refine lv_iload_n hx hb dX2_originOf_17 rfl (lv_at hl 2 rfl) ?_
      refine lv_if_le (tgt := 35) hx hb dX2_originOf_18 (by decide) (fun hc => ?_) (fun hc => ?_)
      · rw [if_pos hc] at hf
        refine lv_iload_n hx hb dX2_originOf_35 rfl (lv_at hl 2 rfl) ?_
        obtain rfl := Option.some.inj hf
        rw [hQ]
        exact pu_iret hx hb hr (vp_nar_int _) hsz dX2_originOf_36 hlocks
      · rw [if_neg hc] at hf
        refine lv_iload_n hx hb dX2_originOf_21 rfl (lv_at hl 2 rfl) ?_
        refine lv_iload_n hx hb dX2_originOf_22 rfl (lv_at hl 1 rfl) ?_
        obtain ⟨r1, e2, hf⟩ := ob_s hf
        try dsimp only at hf
        refine pu_calli (va_runS (As := [.int x2, .int x1]) (rest := []) ⟨hx, hb, hml, hown, hts⟩ (cx_isPart l dC dI cI cQ t1 t2 bs x2 x1 r1 e2 s.heap.size) (va_cwS 2 hts (gs_S lk_55 lk_57 lk_37 lk_56) rfl rfl rfl (by decide +kernel) ⟨Nat.le_of_ble_eq_true rfl, Nat.le_of_ble_eq_true rfl⟩) (pr_S gk_W ⟨hG, pz_0⟩) rfl rfl hl.1 rfl (lv_room (Nat.le_of_ble_eq_true rfl)) dX2_originOf_23 ⟨Nat.zero_le _, Nat.zero_le _⟩) ?_
        refine lv_if_ne (tgt := 35) hx hb dX2_originOf_26 (by decide) (fun hc => ?_) (fun hc => ?_)
        · rw [if_neg hc] at hf
          refine lv_iload_n hx hb dX2_originOf_35 rfl (lv_at hl 2 rfl) ?_
          obtain rfl := Option.some.inj hf
          rw [hQ]
          exact pu_iret hx hb hr (vp_nar_int _) hsz dX2_originOf_36 hlocks
        · rw [if_pos hc] at hf
          refine lv_iinc (k := 2) (v := x2 + (-1)) (lv' := [(2, .int (x2 + (-1))), (0, .ref xo), (1, .int x1)]) hx hb dX2_originOf_29 hl rfl (by rfl) (by decide) rfl (fun ls hl => ?_)
          refine lv_goto (tgt := 17) hx hb dX2_originOf_32 (by decide) ?_
          exact ih (x2 + (-1)) ls hf (lv_sub hl [1, 2, 0] rfl)
  unfold fx_originOf at h
  have hf := h
  refine lv_iload_n hx hb dX2_originOf_0 rfl (lv_at hl 1 rfl) ?_
  obtain ⟨r3, e4, hf⟩ := ob_s hf
  try dsimp only at hf
  refine pu_calli (va_runS (As := [.int x1]) (rest := []) ⟨hx, hb, hml, hown, hts⟩ (cx_isFile l dC dI cI cQ t1 t2 bs x1 r3 e4 s.heap.size) (va_cwS 1 hts (gs_S lk_84 lk_86 lk_37 lk_85) rfl rfl rfl (by decide +kernel) ⟨Nat.le_of_ble_eq_true rfl, Nat.le_of_ble_eq_true rfl⟩) (pr_S gk_W ⟨hG, pz_0⟩) rfl rfl hl.1 rfl (lv_room (Nat.le_of_ble_eq_true rfl)) dX2_originOf_1 ⟨Nat.zero_le _, Nat.zero_le _⟩) ?_
  refine lv_if_eq (tgt := 12) hx hb dX2_originOf_4 (by decide) (fun hc => ?_) (fun hc => ?_)
  · rw [if_pos hc] at hf
    refine lv_aload_n hx hb dX2_originOf_12 rfl (lv_at hl 0 rfl) ?_
    refine va_get (D := (dC, dI)) (ci := 1) (v := .int (nI top)) (C := RX2) (T := TX2) (N := 8) hx hb hts hiX2 hown hG.1 hP 0 rfl rfl 0 (by decide) (hts _ (tw_in lk_4)) (fun _ h9 => h9) rfl dX2_originOf_13 ?_
    refine lv_istore_n (lv' := [(2, .int (nI top)), (0, .ref xo), (1, .int x1)]) hx hb dX2_originOf_16 rfl hl (by decide) rfl (fun ls hl => ?_)
    exact B17 fu_n (nI top) ls hf (lv_sub hl [1, 2, 0] rfl)
  · rw [if_neg hc] at hf
    refine lv_iload_n hx hb dX2_originOf_7 rfl (lv_at hl 1 rfl) ?_
    obtain ⟨r5, e6, hf⟩ := ob_s hf
    try dsimp only at hf
    refine pu_calli (va_runS (As := [.int x1]) (rest := []) ⟨hx, hb, hml, hown, hts⟩ (cx_layerOfFile l dC dI cI cQ t1 t2 bs x1 r5 e6 s.heap.size) (va_cwS 1 hts (gs_S lk_87 lk_89 lk_37 lk_88) rfl rfl rfl (by decide +kernel) ⟨Nat.le_of_ble_eq_true rfl, Nat.le_of_ble_eq_true rfl⟩) (pr_S gk_W ⟨hG, pz_0⟩) rfl rfl hl.1 rfl (lv_room (Nat.le_of_ble_eq_true rfl)) dX2_originOf_8 ⟨Nat.zero_le _, Nat.zero_le _⟩) ?_
    obtain rfl := Option.some.inj hf
    rw [hQ]
    exact pu_iret hx hb hr (vp_nar_int _) hsz dX2_originOf_11 hlocks
set_option maxHeartbeats 4000000 in
set_option maxRecDepth 100000 in
theorem cx_origin (l : Launch) (dC : Nat → ClassId) (dI : Nat → Nat → Nat) (cI cQ : ClassId) (t1 t2 bs : Nat) (top xo la ko kc nt : Nat) (lo lc : Nat → Nat) (hg : gd_A bs (ad_X top xo la ko kc nt lo lc)) (c : Nat → ls_T) (md : Int32) (cu : Int32) (kp : ls_T) (kcu : Int32) (nf : Nat → Int32) (x1 : Int32) (v0 : Int32) (h : fx_origin top c md x1 = some v0) : pu_M l yX2_origin wsX2_origin rm_4_88 [.ref xo, .int x1] (gk_G dC dI cI cQ t1 t2 bs (wx_X cI cQ top xo la ko kc nt lo lc c md cu kp kcu nf)) v0 := by
  intro sz
  refine Met.ofW (cc := cX2_origin) (maxL := 4) (ret := (some .int)) (by decide) rfl ?_
  intro p e s m args below meth c_ s₁ B hml hv
  obtain ⟨rfl, hsz, hG, hP⟩ := hv
  have hx := B.exec
  have hb := B.bytes
  have hr := B.returns
  have hts := atoms_spec (ws := wsX2_origin) B.pre
  have hown : s.vm.findClass RX2 = some m.cls := findClass_of_methodNamed B.named
  have hlocks := B.notSynchronized
  have hl := lv_entry ([.ref xo, .int x1]) (n := 4) (Nat.le_of_ble_eq_true rfl)
  rw [lg_entry_eq]
  generalize (lg_sl ([.ref xo, .int x1]) ++ List.replicate (4 - (lg_sl ([.ref xo, .int x1])).length) Slot.unset).toArray = ls at hl ⊢
  have hl : lv_has ls 4 [(0, .ref xo), (1, .int x1)] := hl
  refine nm_Q (fun Q hQ => ?_)
  unfold fx_origin at h
  have hf := h
  refine lv_aload_n hx hb dX2_origin_0 rfl (lv_at hl 0 rfl) ?_
  refine lv_iload_n hx hb dX2_origin_1 rfl (lv_at hl 1 rfl) ?_
  obtain ⟨r1, e2, hf⟩ := ob_s hf
  try dsimp only at hf
  refine pu_calli (va_runV (As := [.int x1]) (rest := []) ⟨hx, hb, hml, hown, hts⟩ (cx_objectPlaceOrRefusal l dC dI cI cQ t1 t2 bs top xo la ko kc nt lo lc hg c md cu kp kcu nf x1 r1 e2 s.heap.size) (cwV 1 hts (gs_V lk_107 lk_109 lk_110 lk_37 lk_108) rfl rfl rfl (by decide +kernel) ⟨Nat.le_of_ble_eq_true rfl, Nat.le_of_ble_eq_true rfl⟩) (pr_V gk_W (va_recv hG.1 hP (q0 := 0) rfl rfl) ⟨hG, hP⟩) rfl rfl hl.1 rfl (lv_room (Nat.le_of_ble_eq_true rfl)) dX2_origin_2 ⟨Nat.zero_le _, Nat.zero_le _⟩) ?_
  refine lv_istore_n (lv' := [(2, .int r1), (0, .ref xo), (1, .int x1)]) hx hb dX2_origin_5 rfl hl (by decide) rfl (fun ls hl => ?_)
  refine lv_iload_n hx hb dX2_origin_6 rfl (lv_at hl 0 rfl) ?_
  refine lv_if_ge (tgt := 12) hx hb dX2_origin_7 (by decide) (fun hc => ?_) (fun hc => ?_)
  · rw [if_pos hc] at hf
    refine lv_aload_n hx hb dX2_origin_12 rfl (lv_at hl 1 rfl) ?_
    refine lv_iload_n hx hb dX2_origin_13 rfl (lv_at hl 0 rfl) ?_
    obtain ⟨r3, e4, hf⟩ := ob_s hf
    try dsimp only at hf
    refine pu_calli (va_runV (As := [.int r1]) (rest := []) ⟨hx, hb, hml, hown, hts⟩ (cx_find l dC dI cI cQ t1 t2 bs top xo la ko kc nt lo lc hg c md cu kp kcu nf r1 r3 e4 s.heap.size) (cwV 1 hts (gs_V lk_80 lk_82 lk_83 lk_37 lk_81) rfl rfl rfl (by decide +kernel) ⟨Nat.le_of_ble_eq_true rfl, Nat.le_of_ble_eq_true rfl⟩) (pr_V gk_W (va_recv hG.1 hP (q0 := 0) rfl rfl) ⟨hG, hP⟩) rfl rfl hl.1 rfl (lv_room (Nat.le_of_ble_eq_true rfl)) dX2_origin_14 ⟨Nat.zero_le _, Nat.zero_le _⟩) ?_
    refine lv_istore_n (lv' := [(3, .int r3), (2, .int r1), (0, .ref xo), (1, .int x1)]) hx hb dX2_origin_17 rfl hl (by decide) rfl (fun ls hl => ?_)
    refine lv_iload_n hx hb dX2_origin_18 rfl (lv_at hl 0 rfl) ?_
    refine lv_if_ne (tgt := 27) hx hb dX2_origin_19 (by decide) (fun hc => ?_) (fun hc => ?_)
    · rw [if_neg hc] at hf
      refine lv_aload_n hx hb dX2_origin_27 rfl (lv_at hl 2 rfl) ?_
      refine lv_iload_n hx hb dX2_origin_28 rfl (lv_at hl 0 rfl) ?_
      obtain ⟨r5, e6, hf⟩ := ob_s hf
      try dsimp only at hf
      refine pu_calli (va_runV (As := [.int r3]) (rest := []) ⟨hx, hb, hml, hown, hts⟩ (cx_originOf l dC dI cI cQ t1 t2 bs top xo la ko kc nt lo lc hg c md cu kp kcu nf r3 r5 e6 s.heap.size) (cwV 1 hts (gs_V lk_111 lk_113 lk_114 lk_37 lk_112) rfl rfl rfl (by decide +kernel) ⟨Nat.le_of_ble_eq_true rfl, Nat.le_of_ble_eq_true rfl⟩) (pr_V gk_W (va_recv hG.1 hP (q0 := 0) rfl rfl) ⟨hG, hP⟩) rfl rfl hl.1 rfl (lv_room (Nat.le_of_ble_eq_true rfl)) dX2_origin_29 ⟨Nat.zero_le _, Nat.zero_le _⟩) ?_
      obtain rfl := Option.some.inj hf
      rw [hQ]
      exact pu_iret hx hb hr (vp_nar_int _) hsz dX2_origin_32 hlocks
    · rw [if_pos hc] at hf
      refine lv_bipush (v := (-3)) hx hb dX2_origin_22 (by decide) ?_
      refine lv_goto (tgt := 32) hx hb dX2_origin_24 (by decide) ?_
      obtain rfl := Option.some.inj hf
      rw [hQ]
      exact pu_iret hx hb hr (vp_nar_int _) hsz dX2_origin_32 hlocks
  · rw [if_neg hc] at hf
    refine lv_iload_n hx hb dX2_origin_10 rfl (lv_at hl 0 rfl) ?_
    obtain rfl := Option.some.inj hf
    rw [hQ]
    exact pu_iret hx hb hr (vp_nar_int _) hsz dX2_origin_11 hlocks
set_option maxHeartbeats 4000000 in
set_option maxRecDepth 100000 in
theorem cx_keepUpper (l : Launch) (dC : Nat → ClassId) (dI : Nat → Nat → Nat) (cI cQ : ClassId) (t1 t2 bs : Nat) (top xo la ko kc nt : Nat) (lo lc : Nat → Nat) (hg : gd_A bs (ad_X top xo la ko kc nt lo lc)) (c : Nat → ls_T) (md : Int32) (cu : Int32) (kp : ls_T) (kcu : Int32) (nf : Nat → Int32) (v0 : ls_T × Int32) (h : fx_keepUpper top c cu kp kcu = some v0) : im_V l yX2_keepUpper wsX2_keepUpper rm_2_61 [.ref xo] (gk_G dC dI cI cQ t1 t2 bs (wx_X cI cQ top xo la ko kc nt lo lc c md cu kp kcu nf)) (va_P (dC, dI) vwCl (wx_X cI cQ top xo la ko kc nt lo lc c md cu v0.1 v0.2 nf)) (in_A (ad_X top xo la ko kc nt lo lc)) := by
  intro sz
  refine Met.ofW (cc := cX2_keepUpper) (maxL := 1) (ret := none) (by decide) rfl ?_
  intro p e s m args below meth c_ s₁ B hml hv
  obtain ⟨rfl, hsz, hG, hP⟩ := hv
  have hx := B.exec
  have hb := B.bytes
  have hr := B.returns
  have hts := atoms_spec (ws := wsX2_keepUpper) B.pre
  have hown : s.vm.findClass RX2 = some m.cls := findClass_of_methodNamed B.named
  have hlocks := B.notSynchronized
  have hiX2 : ∀ w ∈ u_ws RX2 TX2 8, w ∈ wsX2_keepUpper := fun w hw => tw_in (usX2 w hw)
  have hl := lv_entry ([.ref xo]) (n := 1) (Nat.le_of_ble_eq_true rfl)
  rw [lg_entry_eq]
  generalize (lg_sl ([.ref xo]) ++ List.replicate (1 - (lg_sl ([.ref xo])).length) Slot.unset).toArray = ls at hl ⊢
  have hl : lv_has ls 1 [(0, .ref xo)] := hl
  refine nm_Q (fun Q hQ => ?_)
  unfold fx_keepUpper at h
  have hgo : ∀ (H : Heap) (locs : List Loc), va_P (dC, dI) vwCl (wx_X cI cQ top xo la ko kc nt lo lc c md cu kp kcu nf) H → va_S (in_A (ad_X top xo la ko kc nt lo lc)) s.heap H locs → W p l e (headSpec wsX2_keepUpper rm_2_61).room s m ([.ref xo] : List Value).toArray below meth c_ H locs 0 0 Q (F0 m 0 ls []) := by
    intro H locs hP hS
    have hf := h
    refine lv_aload_n hx hb dX2_keepUpper_0 rfl (lv_at hl 0 rfl) ?_
    refine va_get (D := (dC, dI)) (ci := 1) (v := .ref ko) (C := RX2) (T := TX2) (N := 8) hx hb hts hiX2 hown hG.1 hP 0 rfl rfl 5 (by decide) (hts _ (tw_in lk_119)) (fun _ h9 => h9) rfl dX2_keepUpper_1 ?_
    refine lv_aload_n hx hb dX2_keepUpper_4 rfl (lv_at hl 0 rfl) ?_
    refine va_get (D := (dC, dI)) (ci := 1) (v := .ref (lo top)) (C := RX2) (T := TX2) (N := 8) hx hb hts hiX2 hown hG.1 hP 0 rfl rfl 2 (by decide) (hts _ (tw_in lk_22)) (fun _ h9 => h9) rfl dX2_keepUpper_5 ?_
    obtain ⟨r1, e2, hf⟩ := ob_s hf
    try dsimp only at hf
    refine im_callv (va_runV (As := [.ref (lo top)]) (rest := []) ⟨hx, hb, hml, hown, hts⟩ (cy_copyFrom l dC dI cI cQ t1 t2 bs ko kc (lo top) (lc top) (gx_Q1 hg) kp.1 kp.2.1 kp.2.2 ((c top).1) ((c top).2.1) ((c top).2.2) r1 e2 H.size) (cwV 1 hts (gs_V lk_120 lk_122 lk_123 lk_12 lk_121) rfl rfl rfl (by decide +kernel) ⟨Nat.le_of_ble_eq_true rfl, Nat.le_of_ble_eq_true rfl⟩) (pr_V gk_W (va_recv hG.1 (px_Q1 hP) (q0 := 0) rfl rfl) ⟨(gk_S hG hS (bb_A hg)), px_Q1 hP⟩) rfl rfl hl.1 rfl (lv_room (Nat.le_of_ble_eq_true rfl)) dX2_keepUpper_8 ⟨Nat.zero_le _, Nat.zero_le _⟩) hS ax_Q1 (fun H locs hP1 hk1 hS => ?_)
    have hP : va_P (dC, dI) vwCl (wx_X cI cQ top xo la ko kc nt lo lc c md cu (r1.1, r1.2.1, r1.2.2) kcu nf) H := (jx_Q1 hg hP hP1 hk1)
    refine lv_aload_n hx hb dX2_keepUpper_11 rfl (lv_at hl 0 rfl) ?_
    refine lv_aload_n hx hb dX2_keepUpper_12 rfl (lv_at hl 0 rfl) ?_
    refine va_get (D := (dC, dI)) (ci := 1) (v := .int cu) (C := RX2) (T := TX2) (N := 8) hx hb hts hiX2 hown hG.1 hP 0 rfl rfl 4 (by decide) (hts _ (tw_in lk_124)) (fun _ h9 => h9) rfl dX2_keepUpper_13 ?_
    refine va_put (D := (dC, dI)) (ci := 1) (v := .int cu) (ty := .int) (C := RX2) (T := TX2) (N := 8) hx hb hts hiX2 tyX2 tyX2_ok nmX2 hown hG.1 hP (dd_A hg mx_X) hS 0 rfl rfl 6 (by decide) (hts _ (tw_in lk_125)) (fun _ h9 => h9) rfl (by decide +kernel) rfl rfl (Nat.le_of_ble_eq_true rfl) dX2_keepUpper_16 (fun H locs hP _ hS => ?_)
    have hP : va_P (dC, dI) vwCl (wx_X cI cQ top xo la ko kc nt lo lc c md cu (r1.1, r1.2.1, r1.2.2) cu nf) H := hP
    obtain rfl := Option.some.inj hf
    rw [hQ]
    exact im_vret hx hb hr hS hP dX2_keepUpper_19 hlocks
  exact hgo s.heap [] hP va_S.rf
set_option maxHeartbeats 4000000 in
set_option maxRecDepth 100000 in
theorem cx_raise (l : Launch) (dC : Nat → ClassId) (dI : Nat → Nat → Nat) (cI cQ : ClassId) (t1 t2 bs : Nat) (top xo la ko kc nt : Nat) (lo lc : Nat → Nat) (hg : gd_A bs (ad_X top xo la ko kc nt lo lc)) (c : Nat → ls_T) (md : Int32) (cu : Int32) (kp : ls_T) (kcu : Int32) (nf : Nat → Int32) (x1 : Int32) (v0 : (Nat → ls_T) × Int32) (h : fx_raise top c cu x1 = some v0) : im_V l yX2_raise wsX2_raise rm_1_22 [.ref xo, .int x1] (gk_G dC dI cI cQ t1 t2 bs (wx_X cI cQ top xo la ko kc nt lo lc c md cu kp kcu nf)) (va_P (dC, dI) vwCl (wx_X cI cQ top xo la ko kc nt lo lc v0.1 md v0.2 kp kcu nf)) (in_A (ad_X top xo la ko kc nt lo lc)) := by
  intro sz
  refine Met.ofW (cc := cX2_raise) (maxL := 4) (ret := none) (by decide) rfl ?_
  intro p e s m args below meth c_ s₁ B hml hv
  obtain ⟨rfl, hsz, hG, hP⟩ := hv
  have hx := B.exec
  have hb := B.bytes
  have hr := B.returns
  have hts := atoms_spec (ws := wsX2_raise) B.pre
  have hown : s.vm.findClass RX2 = some m.cls := findClass_of_methodNamed B.named
  have hlocks := B.notSynchronized
  have hiX2 : ∀ w ∈ u_ws RX2 TX2 8, w ∈ wsX2_raise := fun w hw => tw_in (usX2 w hw)
  have hl := lv_entry ([.ref xo, .int x1]) (n := 4) (Nat.le_of_ble_eq_true rfl)
  rw [lg_entry_eq]
  generalize (lg_sl ([.ref xo, .int x1]) ++ List.replicate (4 - (lg_sl ([.ref xo, .int x1])).length) Slot.unset).toArray = ls at hl ⊢
  have hl : lv_has ls 4 [(0, .ref xo), (1, .int x1)] := hl
  refine nm_Q (fun Q hQ => ?_)
  have B47 : ∀ (k7 : Int32 → (Nat → ls_T) → Int32 → Option ((Nat → ls_T) × Int32)) (hk7 : ∀ (x2 : Int32) (c : Nat → ls_T) (cu : Int32), ∀ (H : Heap) (locs : List Loc), va_P (dC, dI) vwCl (wx_X cI cQ top xo la ko kc nt lo lc c md cu kp kcu nf) H → va_S (in_A (ad_X top xo la ko kc nt lo lc)) s.heap H locs → ∀ ls : Array Slot, k7 x2 c cu = some v0 → lv_has ls 4 [(0, .ref xo), (1, .int x1), (2, .int x2)] → W p l e (headSpec wsX2_raise rm_1_22).room s m ([.ref xo, .int x1] : List Value).toArray below meth c_ H locs 0 0 Q (F0 m 7 ls [])), ∀ (x2 : Int32) (x3 : Int32) (c : Nat → ls_T) (cu : Int32), ∀ (H : Heap) (locs : List Loc), va_P (dC, dI) vwCl (wx_X cI cQ top xo la ko kc nt lo lc c md cu kp kcu nf) H → va_S (in_A (ad_X top xo la ko kc nt lo lc)) s.heap H locs → ∀ ls : Array Slot, fx_raise_47 top x1 k7 x2 x3 c cu = some v0 → lv_has ls 4 [(0, .ref xo), (1, .int x1), (2, .int x2), (3, .int x3)] → W p l e (headSpec wsX2_raise rm_1_22).room s m ([.ref xo, .int x1] : List Value).toArray below meth c_ H locs 0 0 Q (F0 m 47 ls []) := by
    intro k7 hk7
    intro x2 x3 c cu H locs hP hS ls hf hl
    unfold fx_raise_47 at hf
    refine lv_iinc (k := 2) (v := x2 + (-1)) (lv' := [(2, .int (x2 + (-1))), (0, .ref xo), (1, .int x1), (3, .int x3)]) hx hb dX2_raise_47 hl rfl (by rfl) (by decide) rfl (fun ls hl => ?_)
    refine lv_goto (tgt := 7) hx hb dX2_raise_50 (by decide) ?_
    exact hk7 (x2 + (-1)) c cu H locs hP hS ls hf (lv_sub hl [1, 2, 0] rfl)
  have B7 : ∀ n : Nat, ∀ (x2 : Int32) (c : Nat → ls_T) (cu : Int32), ∀ (H : Heap) (locs : List Loc), va_P (dC, dI) vwCl (wx_X cI cQ top xo la ko kc nt lo lc c md cu kp kcu nf) H → va_S (in_A (ad_X top xo la ko kc nt lo lc)) s.heap H locs → ∀ ls : Array Slot, fx_raise_7 top x1 n x2 c cu = some v0 → lv_has ls 4 [(0, .ref xo), (1, .int x1), (2, .int x2)] → W p l e (headSpec wsX2_raise rm_1_22).room s m ([.ref xo, .int x1] : List Value).toArray below meth c_ H locs 0 0 Q (F0 m 7 ls []) := by
    intro n
    induction n with
    | zero => 
      intro x2 c cu H locs hP hS ls hf hl
      exact nomatch (show (none : Option ((Nat → ls_T) × Int32)) = some v0 from hf)
    | succ n ih =>
      intro x2 c cu H locs hP hS ls hf hl
      rw [fx_raise_7.eq_2] at hf
      try dsimp only at hf
      refine lv_iload_n hx hb dX2_raise_7 rfl (lv_at hl 2 rfl) ?_
      refine lv_if_lt (tgt := 53) hx hb dX2_raise_8 (by decide) (fun hc => ?_) (fun hc => ?_)
      · rw [if_pos hc] at hf
        obtain rfl := Option.some.inj hf
        rw [hQ]
        exact im_vret hx hb hr hS hP dX2_raise_53 hlocks
      · rw [if_neg hc] at hf
        refine lv_iload_n hx hb dX2_raise_11 rfl (lv_at hl 1 rfl) ?_
        refine lv_iload_n hx hb dX2_raise_12 rfl (lv_at hl 2 rfl) ?_
        obtain ⟨r1, e2, hf⟩ := ob_s hf
        try dsimp only at hf
        refine pu_calli (va_runS (As := [.int x1, .int x2]) (rest := []) ⟨hx, hb, hml, hown, hts⟩ (cp_above l dC dI cI cQ t1 t2 bs x1 x2 r1 e2 H.size) (va_cwS 2 hts (gs_S lk_64 lk_10 lk_1 lk_9) rfl rfl rfl (by decide +kernel) ⟨Nat.le_of_ble_eq_true rfl, Nat.le_of_ble_eq_true rfl⟩) (pr_S gk_W ⟨(gk_S hG hS (bb_A hg)), pz_0⟩) rfl rfl hl.1 rfl (lv_room (Nat.le_of_ble_eq_true rfl)) dX2_raise_13 ⟨Nat.zero_le _, Nat.zero_le _⟩) ?_
        refine lv_istore_n (lv' := [(3, .int r1), (0, .ref xo), (1, .int x1), (2, .int x2)]) hx hb dX2_raise_16 rfl hl (by decide) rfl (fun ls hl => ?_)
        refine lv_aload_n hx hb dX2_raise_17 rfl (lv_at hl 1 rfl) ?_
        refine va_get (D := (dC, dI)) (ci := 1) (v := .ref (lo top)) (C := RX2) (T := TX2) (N := 8) hx hb hts hiX2 hown hG.1 hP 0 rfl rfl 2 (by decide) (hts _ (tw_in lk_22)) (fun _ h9 => h9) rfl dX2_raise_18 ?_
        refine lv_iload_n hx hb dX2_raise_21 rfl (lv_at hl 0 rfl) ?_
        obtain ⟨r3, e4, hf⟩ := ob_s hf
        try dsimp only at hf
        refine pu_calli (va_runV (As := [.int r1]) (rest := []) ⟨hx, hb, hml, hown, hts⟩ (cy_kindAt l dC dI cI cQ t1 t2 bs (lo top) (lc top) (gx_L hg (Nat.lt_succ_self top)) ((c top).1) ((c top).2.1) ((c top).2.2) r1 r3 e4 H.size) (cwV 1 hts (gs_V lk_28 lk_14 lk_15 lk_12 lk_13) rfl rfl rfl (by decide +kernel) ⟨Nat.le_of_ble_eq_true rfl, Nat.le_of_ble_eq_true rfl⟩) (pr_V gk_W (va_recv hG.1 (px_L hP (Nat.lt_succ_self top)) (q0 := 0) rfl rfl) ⟨(gk_S hG hS (bb_A hg)), (px_L hP (Nat.lt_succ_self top))⟩) rfl rfl hl.1 rfl (lv_room (Nat.le_of_ble_eq_true rfl)) dX2_raise_22 ⟨Nat.zero_le _, Nat.zero_le _⟩) ?_
        refine lv_if_ne (tgt := 47) hx hb dX2_raise_25 (by decide) (fun hc => ?_) (fun hc => ?_)
        · rw [if_neg hc] at hf
          exact B47 (fx_raise_7 top x1 n) ih x2 r1 c cu H locs hP hS ls hf (lv_sub hl [1, 2, 3, 0] rfl)
        · rw [if_pos hc] at hf
          refine lv_aload_n hx hb dX2_raise_28 rfl (lv_at hl 1 rfl) ?_
          refine va_get (D := (dC, dI)) (ci := 1) (v := .ref (lo top)) (C := RX2) (T := TX2) (N := 8) hx hb hts hiX2 hown hG.1 hP 0 rfl rfl 2 (by decide) (hts _ (tw_in lk_22)) (fun _ h9 => h9) rfl dX2_raise_29 ?_
          refine lv_iload_n hx hb dX2_raise_32 rfl (lv_at hl 0 rfl) ?_
          refine lv_iconst (v := 2) hx hb dX2_raise_33 (by decide) ?_
          obtain ⟨r5, e6, hf⟩ := ob_s hf
          try dsimp only at hf
          refine im_callv (va_runV (As := [.int r1, .int 2]) (rest := []) ⟨hx, hb, hml, hown, hts⟩ (cy_set l dC dI cI cQ t1 t2 bs (lo top) (lc top) (gx_L hg (Nat.lt_succ_self top)) ((c top).1) ((c top).2.1) ((c top).2.2) r1 2 r5 e6 H.size) (cwV 2 hts (gs_V lk_24 lk_26 lk_27 lk_12 lk_25) rfl rfl rfl (by decide +kernel) ⟨Nat.le_of_ble_eq_true rfl, Nat.le_of_ble_eq_true rfl⟩) (pr_V gk_W (va_recv hG.1 (px_L hP (Nat.lt_succ_self top)) (q0 := 0) rfl rfl) ⟨(gk_S hG hS (bb_A hg)), (px_L hP (Nat.lt_succ_self top))⟩) rfl rfl hl.1 rfl (lv_room (Nat.le_of_ble_eq_true rfl)) dX2_raise_34 ⟨Nat.zero_le _, Nat.zero_le _⟩) hS (ax_L (Nat.lt_succ_self top)) (fun H locs hP1 hk1 hS => ?_)
          have hP : va_P (dC, dI) vwCl (wx_X cI cQ top xo la ko kc nt lo lc (va_up c top (r5.1, r5.2.1, r5.2.2)) md cu kp kcu nf) H := (jx_L hg (Nat.lt_succ_self top) hP hP1 hk1)
          refine lv_aload_n hx hb dX2_raise_37 rfl (lv_at hl 1 rfl) ?_
          refine lv_dup hx hb dX2_raise_38 rfl ?_
          refine va_get (D := (dC, dI)) (ci := 1) (v := .int cu) (C := RX2) (T := TX2) (N := 8) hx hb hts hiX2 hown hG.1 hP 0 rfl rfl 4 (by decide) (hts _ (tw_in lk_124)) (fun _ h9 => h9) rfl dX2_raise_39 ?_
          refine lv_iconst (v := 1) hx hb dX2_raise_42 (by decide) ?_
          refine lv_iadd hx hb dX2_raise_43 ?_
          refine va_put (D := (dC, dI)) (ci := 1) (v := .int (cu + 1)) (ty := .int) (C := RX2) (T := TX2) (N := 8) hx hb hts hiX2 tyX2 tyX2_ok nmX2 hown hG.1 hP (dd_A hg mx_X) hS 0 rfl rfl 4 (by decide) (hts _ (tw_in lk_124)) (fun _ h9 => h9) rfl (by decide +kernel) rfl rfl (Nat.le_of_ble_eq_true rfl) dX2_raise_44 (fun H locs hP _ hS => ?_)
          have hP : va_P (dC, dI) vwCl (wx_X cI cQ top xo la ko kc nt lo lc (va_up c top (r5.1, r5.2.1, r5.2.2)) md (cu + 1) kp kcu nf) H := hP
          exact B47 (fx_raise_7 top x1 n) ih x2 r1 (va_up c top (r5.1, r5.2.1, r5.2.2)) (cu + 1) H locs hP hS ls hf (lv_sub hl [1, 2, 3, 0] rfl)
  unfold fx_raise at h
  have hgo : ∀ (H : Heap) (locs : List Loc), va_P (dC, dI) vwCl (wx_X cI cQ top xo la ko kc nt lo lc c md cu kp kcu nf) H → va_S (in_A (ad_X top xo la ko kc nt lo lc)) s.heap H locs → W p l e (headSpec wsX2_raise rm_1_22).room s m ([.ref xo, .int x1] : List Value).toArray below meth c_ H locs 0 0 Q (F0 m 0 ls []) := by
    intro H locs hP hS
    have hf := h
    refine lv_iload_n hx hb dX2_raise_0 rfl (lv_at hl 1 rfl) ?_
    obtain ⟨r7, e8, hf⟩ := ob_s hf
    try dsimp only at hf
    refine pu_calli (va_runS (As := [.int x1]) (rest := []) ⟨hx, hb, hml, hown, hts⟩ (cp_depth l dC dI cI cQ t1 t2 bs x1 r7 e8 H.size) (va_cwS 1 hts (gs_S lk_73 lk_75 lk_1 lk_74) rfl rfl rfl (by decide +kernel) ⟨Nat.le_of_ble_eq_true rfl, Nat.le_of_ble_eq_true rfl⟩) (pr_S gk_W ⟨(gk_S hG hS (bb_A hg)), pz_0⟩) rfl rfl hl.1 rfl (lv_room (Nat.le_of_ble_eq_true rfl)) dX2_raise_1 ⟨Nat.zero_le _, Nat.zero_le _⟩) ?_
    refine lv_iconst (v := 1) hx hb dX2_raise_4 (by decide) ?_
    refine lv_isub hx hb dX2_raise_5 ?_
    refine lv_istore_n (lv' := [(2, .int (r7 - 1)), (0, .ref xo), (1, .int x1)]) hx hb dX2_raise_6 rfl hl (by decide) rfl (fun ls hl => ?_)
    exact B7 fu_n (r7 - 1) c cu H locs hP hS ls hf (lv_sub hl [1, 2, 0] rfl)
  exact hgo s.heap [] hP va_S.rf
set_option maxHeartbeats 4000000 in
set_option maxRecDepth 100000 in
theorem cx_isCovered (l : Launch) (dC : Nat → ClassId) (dI : Nat → Nat → Nat) (cI cQ : ClassId) (t1 t2 bs : Nat) (top xo la ko kc nt : Nat) (lo lc : Nat → Nat) (hg : gd_A bs (ad_X top xo la ko kc nt lo lc)) (c : Nat → ls_T) (md : Int32) (cu : Int32) (kp : ls_T) (kcu : Int32) (nf : Nat → Int32) (x1 : Int32) (v0 : Int32) (h : fx_isCovered top c x1 = some v0) : pu_M l yX2_isCovered wsX2_isCovered rm_3_69 [.ref xo, .int x1] (gk_G dC dI cI cQ t1 t2 bs (wx_X cI cQ top xo la ko kc nt lo lc c md cu kp kcu nf)) v0 := by
  intro sz
  refine Met.ofW (cc := cX2_isCovered) (maxL := 3) (ret := (some .boolean)) (by decide) rfl ?_
  intro p e s m args below meth c_ s₁ B hml hv
  obtain ⟨rfl, hsz, hG, hP⟩ := hv
  have hx := B.exec
  have hb := B.bytes
  have hr := B.returns
  have hts := atoms_spec (ws := wsX2_isCovered) B.pre
  have hown : s.vm.findClass RX2 = some m.cls := findClass_of_methodNamed B.named
  have hlocks := B.notSynchronized
  have hiX2 : ∀ w ∈ u_ws RX2 TX2 8, w ∈ wsX2_isCovered := fun w hw => tw_in (usX2 w hw)
  have hl := lv_entry ([.ref xo, .int x1]) (n := 3) (Nat.le_of_ble_eq_true rfl)
  rw [lg_entry_eq]
  generalize (lg_sl ([.ref xo, .int x1]) ++ List.replicate (3 - (lg_sl ([.ref xo, .int x1])).length) Slot.unset).toArray = ls at hl ⊢
  have hl : lv_has ls 3 [(0, .ref xo), (1, .int x1)] := hl
  refine nm_Q (fun Q hQ => ?_)
  unfold fx_isCovered at h
  have hf := h
  refine lv_aload_n hx hb dX2_isCovered_0 rfl (lv_at hl 0 rfl) ?_
  refine lv_iload_n hx hb dX2_isCovered_1 rfl (lv_at hl 1 rfl) ?_
  obtain ⟨r1, e2, hf⟩ := ob_s hf
  try dsimp only at hf
  refine pu_calli (va_runS (As := [.int x1]) (rest := [.ref xo]) ⟨hx, hb, hml, hown, hts⟩ (cp_parent l dC dI cI cQ t1 t2 bs x1 r1 e2 s.heap.size) (va_cwS 1 hts (gs_S lk_29 lk_31 lk_1 lk_30) rfl rfl rfl (by decide +kernel) ⟨Nat.le_of_ble_eq_true rfl, Nat.le_of_ble_eq_true rfl⟩) (pr_S gk_W ⟨hG, pz_0⟩) rfl rfl hl.1 rfl (lv_room (Nat.le_of_ble_eq_true rfl)) dX2_isCovered_2 ⟨Nat.zero_le _, Nat.zero_le _⟩) ?_
  obtain ⟨r3, e4, hf⟩ := ob_s hf
  try dsimp only at hf
  refine pu_calli (va_runV (As := [.int r1]) (rest := []) ⟨hx, hb, hml, hown, hts⟩ (cx_find l dC dI cI cQ t1 t2 bs top xo la ko kc nt lo lc hg c md cu kp kcu nf r1 r3 e4 s.heap.size) (cwV 1 hts (gs_V lk_80 lk_82 lk_83 lk_37 lk_81) rfl rfl rfl (by decide +kernel) ⟨Nat.le_of_ble_eq_true rfl, Nat.le_of_ble_eq_true rfl⟩) (pr_V gk_W (va_recv hG.1 hP (q0 := 0) rfl rfl) ⟨hG, hP⟩) rfl rfl hl.1 rfl (lv_room (Nat.le_of_ble_eq_true rfl)) dX2_isCovered_5 ⟨Nat.zero_le _, Nat.zero_le _⟩) ?_
  refine lv_istore_n (lv' := [(2, .int r3), (0, .ref xo), (1, .int x1)]) hx hb dX2_isCovered_8 rfl hl (by decide) rfl (fun ls hl => ?_)
  refine lv_iload_n hx hb dX2_isCovered_9 rfl (lv_at hl 0 rfl) ?_
  obtain ⟨r5, e6, hf⟩ := ob_s hf
  try dsimp only at hf
  refine pu_calli (va_runS (As := [.int r3]) (rest := []) ⟨hx, hb, hml, hown, hts⟩ (cx_isDirectory l dC dI cI cQ t1 t2 bs r3 r5 e6 s.heap.size) (va_cwS 1 hts (gs_S lk_61 lk_63 lk_37 lk_62) rfl rfl rfl (by decide +kernel) ⟨Nat.le_of_ble_eq_true rfl, Nat.le_of_ble_eq_true rfl⟩) (pr_S gk_W ⟨hG, pz_0⟩) rfl rfl hl.1 rfl (lv_room (Nat.le_of_ble_eq_true rfl)) dX2_isCovered_10 ⟨Nat.zero_le _, Nat.zero_le _⟩) ?_
  refine lv_if_eq (tgt := 39) hx hb dX2_isCovered_13 (by decide) (fun hc => ?_) (fun hc => ?_)
  · rw [if_pos hc] at hf
    refine lv_iconst (v := 0) hx hb dX2_isCovered_39 (by decide) ?_
    obtain rfl := Option.some.inj hf
    rw [hQ]
    exact pu_iret hx hb hr (nb_0) hsz dX2_isCovered_40 hlocks
  · rw [if_neg hc] at hf
    refine lv_aload_n hx hb dX2_isCovered_16 rfl (lv_at hl 1 rfl) ?_
    refine lv_iload_n hx hb dX2_isCovered_17 rfl (lv_at hl 0 rfl) ?_
    refine lv_aload_n hx hb dX2_isCovered_18 rfl (lv_at hl 1 rfl) ?_
    refine va_get (D := (dC, dI)) (ci := 1) (v := .int (nI top)) (C := RX2) (T := TX2) (N := 8) hx hb hts hiX2 hown hG.1 hP 0 rfl rfl 0 (by decide) (hts _ (tw_in lk_4)) (fun _ h9 => h9) rfl dX2_isCovered_19 ?_
    obtain ⟨r7, e8, hf⟩ := ob_s hf
    try dsimp only at hf
    refine pu_calli (va_runS (As := [.int (nI top)]) (rest := [.int r3, .ref xo]) ⟨hx, hb, hml, hown, hts⟩ (cx_partOf l dC dI cI cQ t1 t2 bs (nI top) r7 e8 s.heap.size) (va_cwS 1 hts (gs_S lk_52 lk_54 lk_37 lk_53) rfl rfl rfl (by decide +kernel) ⟨Nat.le_of_ble_eq_true rfl, Nat.le_of_ble_eq_true rfl⟩) (pr_S gk_W ⟨hG, pz_0⟩) rfl rfl hl.1 rfl (lv_room (Nat.le_of_ble_eq_true rfl)) dX2_isCovered_22 ⟨Nat.zero_le _, Nat.zero_le _⟩) ?_
    refine lv_iconst (v := (-1)) hx hb dX2_isCovered_25 (by decide) ?_
    refine lv_ixor hx hb dX2_isCovered_26 ?_
    refine lv_iand hx hb dX2_isCovered_27 ?_
    refine lv_iload_n hx hb dX2_isCovered_28 rfl (lv_at hl 2 rfl) ?_
    obtain ⟨r9, e10, hf⟩ := ob_s hf
    try dsimp only at hf
    refine pu_calli (va_runV (As := [.int (r3 &&& (r7 ^^^ (-1))), .int x1]) (rest := []) ⟨hx, hb, hml, hown, hts⟩ (cx_findAmong l dC dI cI cQ t1 t2 bs top xo la ko kc nt lo lc hg c md cu kp kcu nf (r3 &&& (r7 ^^^ (-1))) x1 r9 e10 s.heap.size) (cwV 2 hts (gs_V lk_65 lk_67 lk_68 lk_37 lk_66) rfl rfl rfl (by decide +kernel) ⟨Nat.le_of_ble_eq_true rfl, Nat.le_of_ble_eq_true rfl⟩) (pr_V gk_W (va_recv hG.1 hP (q0 := 0) rfl rfl) ⟨hG, hP⟩) rfl rfl hl.1 rfl (lv_room (Nat.le_of_ble_eq_true rfl)) dX2_isCovered_29 ⟨Nat.zero_le _, Nat.zero_le _⟩) ?_
    refine lv_if_eq (tgt := 39) hx hb dX2_isCovered_32 (by decide) (fun hc => ?_) (fun hc => ?_)
    · rw [if_pos hc] at hf
      refine lv_iconst (v := 0) hx hb dX2_isCovered_39 (by decide) ?_
      obtain rfl := Option.some.inj hf
      rw [hQ]
      exact pu_iret hx hb hr (nb_0) hsz dX2_isCovered_40 hlocks
    · rw [if_neg hc] at hf
      refine lv_iconst (v := 1) hx hb dX2_isCovered_35 (by decide) ?_
      refine lv_goto (tgt := 40) hx hb dX2_isCovered_36 (by decide) ?_
      obtain rfl := Option.some.inj hf
      rw [hQ]
      exact pu_iret hx hb hr (nb_1) hsz dX2_isCovered_40 hlocks
set_option maxHeartbeats 4000000 in
set_option maxRecDepth 100000 in
theorem cx_makeAt (l : Launch) (dC : Nat → ClassId) (dI : Nat → Nat → Nat) (cI cQ : ClassId) (t1 t2 bs : Nat) (top xo la ko kc nt : Nat) (lo lc : Nat → Nat) (hg : gd_A bs (ad_X top xo la ko kc nt lo lc)) (c : Nat → ls_T) (md : Int32) (cu : Int32) (kp : ls_T) (kcu : Int32) (nf : Nat → Int32) (x1 : Int32) (x2 : Int32) (v0 : (Nat → ls_T) × Int32) (h : fx_makeAt top c cu x1 x2 = some v0) : im_V l yX2_makeAt wsX2_makeAt rm_4_91 [.ref xo, .int x1, .int x2] (gk_G dC dI cI cQ t1 t2 bs (wx_X cI cQ top xo la ko kc nt lo lc c md cu kp kcu nf)) (va_P (dC, dI) vwCl (wx_X cI cQ top xo la ko kc nt lo lc v0.1 md v0.2 kp kcu nf)) (in_A (ad_X top xo la ko kc nt lo lc)) := by
  intro sz
  refine Met.ofW (cc := cX2_makeAt) (maxL := 3) (ret := none) (by decide) rfl ?_
  intro p e s m args below meth c_ s₁ B hml hv
  obtain ⟨rfl, hsz, hG, hP⟩ := hv
  have hx := B.exec
  have hb := B.bytes
  have hr := B.returns
  have hts := atoms_spec (ws := wsX2_makeAt) B.pre
  have hown : s.vm.findClass RX2 = some m.cls := findClass_of_methodNamed B.named
  have hlocks := B.notSynchronized
  have hiX2 : ∀ w ∈ u_ws RX2 TX2 8, w ∈ wsX2_makeAt := fun w hw => tw_in (usX2 w hw)
  have hl := lv_entry ([.ref xo, .int x1, .int x2]) (n := 3) (Nat.le_of_ble_eq_true rfl)
  rw [lg_entry_eq]
  generalize (lg_sl ([.ref xo, .int x1, .int x2]) ++ List.replicate (3 - (lg_sl ([.ref xo, .int x1, .int x2])).length) Slot.unset).toArray = ls at hl ⊢
  have hl : lv_has ls 3 [(0, .ref xo), (1, .int x1), (2, .int x2)] := hl
  refine nm_Q (fun Q hQ => ?_)
  have B39 : ∀ (z0 : Int32) (z1 : Int32) (c : Nat → ls_T) (cu : Int32), ∀ (H : Heap) (locs : List Loc), va_P (dC, dI) vwCl (wx_X cI cQ top xo la ko kc nt lo lc c md cu kp kcu nf) H → va_S (in_A (ad_X top xo la ko kc nt lo lc)) s.heap H locs → ∀ ls : Array Slot, fx_makeAt_39 top x1 x2 z0 z1 c cu = some v0 → lv_has ls 3 [(0, .ref xo), (1, .int x1), (2, .int x2)] → W p l e (headSpec wsX2_makeAt rm_4_91).room s m ([.ref xo, .int x1, .int x2] : List Value).toArray below meth c_ H locs 0 0 Q (F0 m 39 ls [.int z0, .int z1, .ref (lo top)]) := by
    intro z0 z1 c cu H locs hP hS ls hf hl
    unfold fx_makeAt_39 at hf
    obtain ⟨r1, e2, hf⟩ := ob_s hf
    try dsimp only at hf
    refine im_callv (va_runV (As := [.int z1, .int z0]) (rest := []) ⟨hx, hb, hml, hown, hts⟩ (cy_set l dC dI cI cQ t1 t2 bs (lo top) (lc top) (gx_L hg (Nat.lt_succ_self top)) ((c top).1) ((c top).2.1) ((c top).2.2) z1 z0 r1 e2 H.size) (cwV 2 hts (gs_V lk_24 lk_26 lk_27 lk_12 lk_25) rfl rfl rfl (by decide +kernel) ⟨Nat.le_of_ble_eq_true rfl, Nat.le_of_ble_eq_true rfl⟩) (pr_V gk_W (va_recv hG.1 (px_L hP (Nat.lt_succ_self top)) (q0 := 0) rfl rfl) ⟨(gk_S hG hS (bb_A hg)), (px_L hP (Nat.lt_succ_self top))⟩) rfl rfl hl.1 rfl (lv_room (Nat.le_of_ble_eq_true rfl)) dX2_makeAt_39 ⟨Nat.zero_le _, Nat.zero_le _⟩) hS (ax_L (Nat.lt_succ_self top)) (fun H locs hP1 hk1 hS => ?_)
    have hP : va_P (dC, dI) vwCl (wx_X cI cQ top xo la ko kc nt lo lc (va_up c top (r1.1, r1.2.1, r1.2.2)) md cu kp kcu nf) H := (jx_L hg (Nat.lt_succ_self top) hP hP1 hk1)
    obtain rfl := Option.some.inj hf
    rw [hQ]
    exact im_vret hx hb hr hS hP dX2_makeAt_42 hlocks
  have B38 : ∀ (z0 : Int32) (c : Nat → ls_T) (cu : Int32), ∀ (H : Heap) (locs : List Loc), va_P (dC, dI) vwCl (wx_X cI cQ top xo la ko kc nt lo lc c md cu kp kcu nf) H → va_S (in_A (ad_X top xo la ko kc nt lo lc)) s.heap H locs → ∀ ls : Array Slot, fx_makeAt_38 top x1 x2 z0 c cu = some v0 → lv_has ls 3 [(0, .ref xo), (1, .int x1), (2, .int x2)] → W p l e (headSpec wsX2_makeAt rm_4_91).room s m ([.ref xo, .int x1, .int x2] : List Value).toArray below meth c_ H locs 0 0 Q (F0 m 38 ls [.int z0, .ref (lo top)]) := by
    intro z0 c cu H locs hP hS ls hf hl
    unfold fx_makeAt_38 at hf
    refine lv_iload_n hx hb dX2_makeAt_38 rfl (lv_at hl 2 rfl) ?_
    exact B39 x2 z0 c cu H locs hP hS ls hf (lv_sub hl [0, 1, 2] rfl)
  unfold fx_makeAt at h
  have hgo : ∀ (H : Heap) (locs : List Loc), va_P (dC, dI) vwCl (wx_X cI cQ top xo la ko kc nt lo lc c md cu kp kcu nf) H → va_S (in_A (ad_X top xo la ko kc nt lo lc)) s.heap H locs → W p l e (headSpec wsX2_makeAt rm_4_91).room s m ([.ref xo, .int x1, .int x2] : List Value).toArray below meth c_ H locs 0 0 Q (F0 m 0 ls []) := by
    intro H locs hP hS
    have hf := h
    refine lv_aload_n hx hb dX2_makeAt_0 rfl (lv_at hl 0 rfl) ?_
    refine lv_iload_n hx hb dX2_makeAt_1 rfl (lv_at hl 1 rfl) ?_
    obtain ⟨r3, e4, hf⟩ := ob_s hf
    try dsimp only at hf
    refine pu_calli (va_runS (As := [.int x1]) (rest := [.ref xo]) ⟨hx, hb, hml, hown, hts⟩ (cp_parent l dC dI cI cQ t1 t2 bs x1 r3 e4 H.size) (va_cwS 1 hts (gs_S lk_29 lk_31 lk_1 lk_30) rfl rfl rfl (by decide +kernel) ⟨Nat.le_of_ble_eq_true rfl, Nat.le_of_ble_eq_true rfl⟩) (pr_S gk_W ⟨(gk_S hG hS (bb_A hg)), pz_0⟩) rfl rfl hl.1 rfl (lv_room (Nat.le_of_ble_eq_true rfl)) dX2_makeAt_2 ⟨Nat.zero_le _, Nat.zero_le _⟩) ?_
    obtain ⟨r5, e6, hf⟩ := ob_s hf
    try dsimp only at hf
    refine im_callv (va_runV (As := [.int r3]) (rest := []) ⟨hx, hb, hml, hown, hts⟩ (cx_raise l dC dI cI cQ t1 t2 bs top xo la ko kc nt lo lc hg c md cu kp kcu nf r3 r5 e6 H.size) (cwV 1 hts (gs_V lk_129 lk_131 lk_132 lk_37 lk_130) rfl rfl rfl (by decide +kernel) ⟨Nat.le_of_ble_eq_true rfl, Nat.le_of_ble_eq_true rfl⟩) (pr_V gk_W (va_recv hG.1 hP (q0 := 0) rfl rfl) ⟨(gk_S hG hS (bb_A hg)), hP⟩) rfl rfl hl.1 rfl (lv_room (Nat.le_of_ble_eq_true rfl)) dX2_makeAt_5 ⟨Nat.zero_le _, Nat.zero_le _⟩) hS (fun _ h => h) (fun H locs hP1 hk1 hS => ?_)
    have hP : va_P (dC, dI) vwCl (wx_X cI cQ top xo la ko kc nt lo lc r5.1 md r5.2 kp kcu nf) H := hP1
    refine lv_aload_n hx hb dX2_makeAt_8 rfl (lv_at hl 0 rfl) ?_
    refine va_get (D := (dC, dI)) (ci := 1) (v := .ref (lo top)) (C := RX2) (T := TX2) (N := 8) hx hb hts hiX2 hown hG.1 hP 0 rfl rfl 2 (by decide) (hts _ (tw_in lk_22)) (fun _ h9 => h9) rfl dX2_makeAt_9 ?_
    refine lv_iload_n hx hb dX2_makeAt_12 rfl (lv_at hl 1 rfl) ?_
    obtain ⟨r7, e8, hf⟩ := ob_s hf
    try dsimp only at hf
    refine im_callv (va_runV (As := [.int x1]) (rest := []) ⟨hx, hb, hml, hown, hts⟩ (cy_clearFrom l dC dI cI cQ t1 t2 bs (lo top) (lc top) (gx_L hg (Nat.lt_succ_self top)) ((r5.1 top).1) ((r5.1 top).2.1) ((r5.1 top).2.2) x1 r7 e8 H.size) (cwV 1 hts (gs_V lk_133 lk_135 lk_136 lk_12 lk_134) rfl rfl rfl (by decide +kernel) ⟨Nat.le_of_ble_eq_true rfl, Nat.le_of_ble_eq_true rfl⟩) (pr_V gk_W (va_recv hG.1 (px_L hP (Nat.lt_succ_self top)) (q0 := 0) rfl rfl) ⟨(gk_S hG hS (bb_A hg)), (px_L hP (Nat.lt_succ_self top))⟩) rfl rfl hl.1 rfl (lv_room (Nat.le_of_ble_eq_true rfl)) dX2_makeAt_13 ⟨Nat.zero_le _, Nat.zero_le _⟩) hS (ax_L (Nat.lt_succ_self top)) (fun H locs hP1 hk1 hS => ?_)
    have hP : va_P (dC, dI) vwCl (wx_X cI cQ top xo la ko kc nt lo lc (va_up r5.1 top (r7.1, r7.2.1, r7.2.2)) md r5.2 kp kcu nf) H := (jx_L hg (Nat.lt_succ_self top) hP hP1 hk1)
    refine lv_aload_n hx hb dX2_makeAt_16 rfl (lv_at hl 0 rfl) ?_
    refine va_get (D := (dC, dI)) (ci := 1) (v := .ref (lo top)) (C := RX2) (T := TX2) (N := 8) hx hb hts hiX2 hown hG.1 hP 0 rfl rfl 2 (by decide) (hts _ (tw_in lk_22)) (fun _ h9 => h9) rfl dX2_makeAt_17 ?_
    refine lv_iload_n hx hb dX2_makeAt_20 rfl (lv_at hl 1 rfl) ?_
    refine lv_iload_n hx hb dX2_makeAt_21 rfl (lv_at hl 2 rfl) ?_
    refine lv_iconst (v := 2) hx hb dX2_makeAt_22 (by decide) ?_
    refine lv_icmp_ne (tgt := 38) hx hb dX2_makeAt_23 (by decide) (fun hc => ?_) (fun hc => ?_)
    · rw [if_neg hc] at hf
      exact B38 x1 (va_up r5.1 top (r7.1, r7.2.1, r7.2.2)) r5.2 H locs hP hS ls hf (lv_sub hl [0, 1, 2] rfl)
    · rw [if_pos hc] at hf
      refine lv_aload_n hx hb dX2_makeAt_26 rfl (lv_at hl 0 rfl) ?_
      refine lv_iload_n hx hb dX2_makeAt_27 rfl (lv_at hl 1 rfl) ?_
      obtain ⟨r9, e10, hf⟩ := ob_s hf
      try dsimp only at hf
      refine pu_calli (va_runV (As := [.int x1]) (rest := [.int x1, .ref (lo top)]) ⟨hx, hb, hml, hown, hts⟩ (cx_isCovered l dC dI cI cQ t1 t2 bs top xo la ko kc nt lo lc hg (va_up r5.1 top (r7.1, r7.2.1, r7.2.2)) md r5.2 kp kcu nf x1 r9 e10 H.size) (cwV 1 hts (gs_V lk_137 lk_139 lk_140 lk_37 lk_138) rfl rfl rfl (by decide +kernel) ⟨Nat.le_of_ble_eq_true rfl, Nat.le_of_ble_eq_true rfl⟩) (pr_V gk_W (va_recv hG.1 hP (q0 := 0) rfl rfl) ⟨(gk_S hG hS (bb_A hg)), hP⟩) rfl rfl hl.1 rfl (lv_room (Nat.le_of_ble_eq_true rfl)) dX2_makeAt_28 ⟨Nat.zero_le _, Nat.zero_le _⟩) ?_
      refine lv_if_eq (tgt := 38) hx hb dX2_makeAt_31 (by decide) (fun hc => ?_) (fun hc => ?_)
      · rw [if_pos hc] at hf
        exact B38 x1 (va_up r5.1 top (r7.1, r7.2.1, r7.2.2)) r5.2 H locs hP hS ls hf (lv_sub hl [0, 1, 2] rfl)
      · rw [if_neg hc] at hf
        refine lv_iconst (v := 3) hx hb dX2_makeAt_34 (by decide) ?_
        refine lv_goto (tgt := 39) hx hb dX2_makeAt_35 (by decide) ?_
        exact B39 3 x1 (va_up r5.1 top (r7.1, r7.2.1, r7.2.2)) r5.2 H locs hP hS ls hf (lv_sub hl [0, 1, 2] rfl)
  exact hgo s.heap [] hP va_S.rf
set_option maxHeartbeats 4000000 in
set_option maxRecDepth 100000 in
theorem cx_settle (l : Launch) (dC : Nat → ClassId) (dI : Nat → Nat → Nat) (cI cQ : ClassId) (t1 t2 bs : Nat) (top xo la ko kc nt : Nat) (lo lc : Nat → Nat) (hg : gd_A bs (ad_X top xo la ko kc nt lo lc)) (c : Nat → ls_T) (md : Int32) (cu : Int32) (kp : ls_T) (kcu : Int32) (nf : Nat → Int32) (v0 : Int32 × (Nat → ls_T) × Int32) (h : fx_settle top c cu kp kcu = some v0) : im_I l yX2_settle wsX2_settle rm_2_61 [.ref xo] (gk_G dC dI cI cQ t1 t2 bs (wx_X cI cQ top xo la ko kc nt lo lc c md cu kp kcu nf)) v0.1 (va_P (dC, dI) vwCl (wx_X cI cQ top xo la ko kc nt lo lc v0.2.1 md v0.2.2 kp kcu nf)) (in_A (ad_X top xo la ko kc nt lo lc)) := by
  intro sz
  refine Met.ofW (cc := cX2_settle) (maxL := 1) (ret := (some .int)) (by decide) rfl ?_
  intro p e s m args below meth c_ s₁ B hml hv
  obtain ⟨rfl, hsz, hG, hP⟩ := hv
  have hx := B.exec
  have hb := B.bytes
  have hr := B.returns
  have hts := atoms_spec (ws := wsX2_settle) B.pre
  have hown : s.vm.findClass RX2 = some m.cls := findClass_of_methodNamed B.named
  have hlocks := B.notSynchronized
  have hiX2 : ∀ w ∈ u_ws RX2 TX2 8, w ∈ wsX2_settle := fun w hw => tw_in (usX2 w hw)
  have hl := lv_entry ([.ref xo]) (n := 1) (Nat.le_of_ble_eq_true rfl)
  rw [lg_entry_eq]
  generalize (lg_sl ([.ref xo]) ++ List.replicate (1 - (lg_sl ([.ref xo])).length) Slot.unset).toArray = ls at hl ⊢
  have hl : lv_has ls 1 [(0, .ref xo)] := hl
  refine nm_Q (fun Q hQ => ?_)
  unfold fx_settle at h
  have hgo : ∀ (H : Heap) (locs : List Loc), va_P (dC, dI) vwCl (wx_X cI cQ top xo la ko kc nt lo lc c md cu kp kcu nf) H → va_S (in_A (ad_X top xo la ko kc nt lo lc)) s.heap H locs → W p l e (headSpec wsX2_settle rm_2_61).room s m ([.ref xo] : List Value).toArray below meth c_ H locs 0 0 Q (F0 m 0 ls []) := by
    intro H locs hP hS
    have hf := h
    refine lv_aload_n hx hb dX2_settle_0 rfl (lv_at hl 0 rfl) ?_
    refine va_get (D := (dC, dI)) (ci := 1) (v := .ref (lo top)) (C := RX2) (T := TX2) (N := 8) hx hb hts hiX2 hown hG.1 hP 0 rfl rfl 2 (by decide) (hts _ (tw_in lk_22)) (fun _ h9 => h9) rfl dX2_settle_1 ?_
    obtain ⟨r1, e2, hf⟩ := ob_s hf
    try dsimp only at hf
    refine pu_calli (va_runV (As := []) (rest := []) ⟨hx, hb, hml, hown, hts⟩ (cy_entryCount l dC dI cI cQ t1 t2 bs (lo top) (lc top) (gx_L hg (Nat.lt_succ_self top)) ((c top).1) ((c top).2.1) ((c top).2.2) r1 e2 H.size) (cwV 0 hts (gs_V lk_18 lk_20 lk_21 lk_12 lk_19) rfl rfl rfl (by decide +kernel) ⟨Nat.le_of_ble_eq_true rfl, Nat.le_of_ble_eq_true rfl⟩) (pr_V gk_W (va_recv hG.1 (px_L hP (Nat.lt_succ_self top)) (q0 := 0) rfl rfl) ⟨(gk_S hG hS (bb_A hg)), (px_L hP (Nat.lt_succ_self top))⟩) rfl rfl hl.1 rfl (lv_room (Nat.le_of_ble_eq_true rfl)) dX2_settle_4 ⟨Nat.zero_le _, Nat.zero_le _⟩) ?_
    refine lv_bipush (v := 30) hx hb dX2_settle_7 (by decide) ?_
    refine lv_icmp_gt (tgt := 14) hx hb dX2_settle_9 (by decide) (fun hc => ?_) (fun hc => ?_)
    · rw [if_pos hc] at hf
      refine lv_aload_n hx hb dX2_settle_14 rfl (lv_at hl 0 rfl) ?_
      refine va_get (D := (dC, dI)) (ci := 1) (v := .ref (lo top)) (C := RX2) (T := TX2) (N := 8) hx hb hts hiX2 hown hG.1 hP 0 rfl rfl 2 (by decide) (hts _ (tw_in lk_22)) (fun _ h9 => h9) rfl dX2_settle_15 ?_
      refine lv_aload_n hx hb dX2_settle_18 rfl (lv_at hl 0 rfl) ?_
      refine va_get (D := (dC, dI)) (ci := 1) (v := .ref ko) (C := RX2) (T := TX2) (N := 8) hx hb hts hiX2 hown hG.1 hP 0 rfl rfl 5 (by decide) (hts _ (tw_in lk_119)) (fun _ h9 => h9) rfl dX2_settle_19 ?_
      obtain ⟨r3, e4, hf⟩ := ob_s hf
      try dsimp only at hf
      refine im_callv (va_runV (As := [.ref ko]) (rest := []) ⟨hx, hb, hml, hown, hts⟩ (cy_copyFrom l dC dI cI cQ t1 t2 bs (lo top) (lc top) ko kc (gx_Q2 hg) ((c top).1) ((c top).2.1) ((c top).2.2) kp.1 kp.2.1 kp.2.2 r3 e4 H.size) (cwV 1 hts (gs_V lk_120 lk_122 lk_123 lk_12 lk_121) rfl rfl rfl (by decide +kernel) ⟨Nat.le_of_ble_eq_true rfl, Nat.le_of_ble_eq_true rfl⟩) (pr_V gk_W (va_recv hG.1 (px_Q2 hP) (q0 := 0) rfl rfl) ⟨(gk_S hG hS (bb_A hg)), px_Q2 hP⟩) rfl rfl hl.1 rfl (lv_room (Nat.le_of_ble_eq_true rfl)) dX2_settle_22 ⟨Nat.zero_le _, Nat.zero_le _⟩) hS ax_Q2 (fun H locs hP1 hk1 hS => ?_)
      have hP : va_P (dC, dI) vwCl (wx_X cI cQ top xo la ko kc nt lo lc (va_up c top (r3.1, r3.2.1, r3.2.2)) md cu kp kcu nf) H := (jx_Q2 hg hP hP1 hk1)
      refine lv_aload_n hx hb dX2_settle_25 rfl (lv_at hl 0 rfl) ?_
      refine lv_aload_n hx hb dX2_settle_26 rfl (lv_at hl 0 rfl) ?_
      refine va_get (D := (dC, dI)) (ci := 1) (v := .int kcu) (C := RX2) (T := TX2) (N := 8) hx hb hts hiX2 hown hG.1 hP 0 rfl rfl 6 (by decide) (hts _ (tw_in lk_125)) (fun _ h9 => h9) rfl dX2_settle_27 ?_
      refine va_put (D := (dC, dI)) (ci := 1) (v := .int kcu) (ty := .int) (C := RX2) (T := TX2) (N := 8) hx hb hts hiX2 tyX2 tyX2_ok nmX2 hown hG.1 hP (dd_A hg mx_X) hS 0 rfl rfl 4 (by decide) (hts _ (tw_in lk_124)) (fun _ h9 => h9) rfl (by decide +kernel) rfl rfl (Nat.le_of_ble_eq_true rfl) dX2_settle_30 (fun H locs hP _ hS => ?_)
      have hP : va_P (dC, dI) vwCl (wx_X cI cQ top xo la ko kc nt lo lc (va_up c top (r3.1, r3.2.1, r3.2.2)) md kcu kp kcu nf) H := hP
      refine lv_bipush (v := (-11)) hx hb dX2_settle_33 (by decide) ?_
      obtain rfl := Option.some.inj hf
      rw [hQ]
      exact im_iret hx hb hr (vp_nar_int _) hS hP dX2_settle_35 hlocks
    · rw [if_neg hc] at hf
      refine lv_iconst (v := 0) hx hb dX2_settle_12 (by decide) ?_
      obtain rfl := Option.some.inj hf
      rw [hQ]
      exact im_iret hx hb hr (vp_nar_int _) hS hP dX2_settle_13 hlocks
  exact hgo s.heap [] hP va_S.rf
set_option maxHeartbeats 4000000 in
set_option maxRecDepth 100000 in
theorem cx_makeDir (l : Launch) (dC : Nat → ClassId) (dI : Nat → Nat → Nat) (cI cQ : ClassId) (t1 t2 bs : Nat) (top xo la ko kc nt : Nat) (lo lc : Nat → Nat) (hg : gd_A bs (ad_X top xo la ko kc nt lo lc)) (c : Nat → ls_T) (md : Int32) (cu : Int32) (kp : ls_T) (kcu : Int32) (nf : Nat → Int32) (x1 : Int32) (v0 : Int32 × (Nat → ls_T) × Int32 × ls_T × Int32) (h : fx_makeDir top c md cu kp kcu x1 = some v0) : im_I l yX2_makeDir wsX2_makeDir rm_5_113 [.ref xo, .int x1] (gk_G dC dI cI cQ t1 t2 bs (wx_X cI cQ top xo la ko kc nt lo lc c md cu kp kcu nf)) v0.1 (va_P (dC, dI) vwCl (wx_X cI cQ top xo la ko kc nt lo lc v0.2.1 md v0.2.2.1 v0.2.2.2.1 v0.2.2.2.2 nf)) (in_A (ad_X top xo la ko kc nt lo lc)) := by
  intro sz
  refine Met.ofW (cc := cX2_makeDir) (maxL := 3) (ret := (some .int)) (by decide) rfl ?_
  intro p e s m args below meth c_ s₁ B hml hv
  obtain ⟨rfl, hsz, hG, hP⟩ := hv
  have hx := B.exec
  have hb := B.bytes
  have hr := B.returns
  have hts := atoms_spec (ws := wsX2_makeDir) B.pre
  have hown : s.vm.findClass RX2 = some m.cls := findClass_of_methodNamed B.named
  have hlocks := B.notSynchronized
  have hl := lv_entry ([.ref xo, .int x1]) (n := 3) (Nat.le_of_ble_eq_true rfl)
  rw [lg_entry_eq]
  generalize (lg_sl ([.ref xo, .int x1]) ++ List.replicate (3 - (lg_sl ([.ref xo, .int x1])).length) Slot.unset).toArray = ls at hl ⊢
  have hl : lv_has ls 3 [(0, .ref xo), (1, .int x1)] := hl
  refine nm_Q (fun Q hQ => ?_)
  unfold fx_makeDir at h
  have hgo : ∀ (H : Heap) (locs : List Loc), va_P (dC, dI) vwCl (wx_X cI cQ top xo la ko kc nt lo lc c md cu kp kcu nf) H → va_S (in_A (ad_X top xo la ko kc nt lo lc)) s.heap H locs → W p l e (headSpec wsX2_makeDir rm_5_113).room s m ([.ref xo, .int x1] : List Value).toArray below meth c_ H locs 0 0 Q (F0 m 0 ls []) := by
    intro H locs hP hS
    have hf := h
    refine lv_aload_n hx hb dX2_makeDir_0 rfl (lv_at hl 0 rfl) ?_
    refine lv_iload_n hx hb dX2_makeDir_1 rfl (lv_at hl 1 rfl) ?_
    obtain ⟨r1, e2, hf⟩ := ob_s hf
    try dsimp only at hf
    refine pu_calli (va_runV (As := [.int x1]) (rest := []) ⟨hx, hb, hml, hown, hts⟩ (cx_objectPlaceOrRefusal l dC dI cI cQ t1 t2 bs top xo la ko kc nt lo lc hg c md cu kp kcu nf x1 r1 e2 H.size) (cwV 1 hts (gs_V lk_107 lk_109 lk_110 lk_37 lk_108) rfl rfl rfl (by decide +kernel) ⟨Nat.le_of_ble_eq_true rfl, Nat.le_of_ble_eq_true rfl⟩) (pr_V gk_W (va_recv hG.1 hP (q0 := 0) rfl rfl) ⟨(gk_S hG hS (bb_A hg)), hP⟩) rfl rfl hl.1 rfl (lv_room (Nat.le_of_ble_eq_true rfl)) dX2_makeDir_2 ⟨Nat.zero_le _, Nat.zero_le _⟩) ?_
    refine lv_istore_n (lv' := [(2, .int r1), (0, .ref xo), (1, .int x1)]) hx hb dX2_makeDir_5 rfl hl (by decide) rfl (fun ls hl => ?_)
    refine lv_iload_n hx hb dX2_makeDir_6 rfl (lv_at hl 0 rfl) ?_
    refine lv_if_ge (tgt := 12) hx hb dX2_makeDir_7 (by decide) (fun hc => ?_) (fun hc => ?_)
    · rw [if_pos hc] at hf
      refine lv_aload_n hx hb dX2_makeDir_12 rfl (lv_at hl 1 rfl) ?_
      refine lv_iload_n hx hb dX2_makeDir_13 rfl (lv_at hl 0 rfl) ?_
      obtain ⟨r3, e4, hf⟩ := ob_s hf
      try dsimp only at hf
      refine pu_calli (va_runS (As := [.int r1]) (rest := [.ref xo]) ⟨hx, hb, hml, hown, hts⟩ (cp_parent l dC dI cI cQ t1 t2 bs r1 r3 e4 H.size) (va_cwS 1 hts (gs_S lk_29 lk_31 lk_1 lk_30) rfl rfl rfl (by decide +kernel) ⟨Nat.le_of_ble_eq_true rfl, Nat.le_of_ble_eq_true rfl⟩) (pr_S gk_W ⟨(gk_S hG hS (bb_A hg)), pz_0⟩) rfl rfl hl.1 rfl (lv_room (Nat.le_of_ble_eq_true rfl)) dX2_makeDir_14 ⟨Nat.zero_le _, Nat.zero_le _⟩) ?_
      obtain ⟨r5, e6, hf⟩ := ob_s hf
      try dsimp only at hf
      refine pu_calli (va_runV (As := [.int r3]) (rest := []) ⟨hx, hb, hml, hown, hts⟩ (cx_find l dC dI cI cQ t1 t2 bs top xo la ko kc nt lo lc hg c md cu kp kcu nf r3 r5 e6 H.size) (cwV 1 hts (gs_V lk_80 lk_82 lk_83 lk_37 lk_81) rfl rfl rfl (by decide +kernel) ⟨Nat.le_of_ble_eq_true rfl, Nat.le_of_ble_eq_true rfl⟩) (pr_V gk_W (va_recv hG.1 hP (q0 := 0) rfl rfl) ⟨(gk_S hG hS (bb_A hg)), hP⟩) rfl rfl hl.1 rfl (lv_room (Nat.le_of_ble_eq_true rfl)) dX2_makeDir_17 ⟨Nat.zero_le _, Nat.zero_le _⟩) ?_
      obtain ⟨r7, e8, hf⟩ := ob_s hf
      try dsimp only at hf
      refine pu_calli (va_runS (As := [.int r5]) (rest := []) ⟨hx, hb, hml, hown, hts⟩ (cx_isDirectory l dC dI cI cQ t1 t2 bs r5 r7 e8 H.size) (va_cwS 1 hts (gs_S lk_61 lk_63 lk_37 lk_62) rfl rfl rfl (by decide +kernel) ⟨Nat.le_of_ble_eq_true rfl, Nat.le_of_ble_eq_true rfl⟩) (pr_S gk_W ⟨(gk_S hG hS (bb_A hg)), pz_0⟩) rfl rfl hl.1 rfl (lv_room (Nat.le_of_ble_eq_true rfl)) dX2_makeDir_20 ⟨Nat.zero_le _, Nat.zero_le _⟩) ?_
      refine lv_if_ne (tgt := 29) hx hb dX2_makeDir_23 (by decide) (fun hc => ?_) (fun hc => ?_)
      · rw [if_neg hc] at hf
        refine lv_aload_n hx hb dX2_makeDir_29 rfl (lv_at hl 1 rfl) ?_
        refine lv_iload_n hx hb dX2_makeDir_30 rfl (lv_at hl 0 rfl) ?_
        obtain ⟨r9, e10, hf⟩ := ob_s hf
        try dsimp only at hf
        refine pu_calli (va_runV (As := [.int r1]) (rest := []) ⟨hx, hb, hml, hown, hts⟩ (cx_find l dC dI cI cQ t1 t2 bs top xo la ko kc nt lo lc hg c md cu kp kcu nf r1 r9 e10 H.size) (cwV 1 hts (gs_V lk_80 lk_82 lk_83 lk_37 lk_81) rfl rfl rfl (by decide +kernel) ⟨Nat.le_of_ble_eq_true rfl, Nat.le_of_ble_eq_true rfl⟩) (pr_V gk_W (va_recv hG.1 hP (q0 := 0) rfl rfl) ⟨(gk_S hG hS (bb_A hg)), hP⟩) rfl rfl hl.1 rfl (lv_room (Nat.le_of_ble_eq_true rfl)) dX2_makeDir_31 ⟨Nat.zero_le _, Nat.zero_le _⟩) ?_
        refine lv_if_eq (tgt := 40) hx hb dX2_makeDir_34 (by decide) (fun hc => ?_) (fun hc => ?_)
        · rw [if_pos hc] at hf
          refine lv_aload_n hx hb dX2_makeDir_40 rfl (lv_at hl 1 rfl) ?_
          obtain ⟨r11, e12, hf⟩ := ob_s hf
          try dsimp only at hf
          refine im_callv (va_runV (As := []) (rest := []) ⟨hx, hb, hml, hown, hts⟩ (cx_keepUpper l dC dI cI cQ t1 t2 bs top xo la ko kc nt lo lc hg c md cu kp kcu nf r11 e12 H.size) (cwV 0 hts (gs_V lk_141 lk_143 lk_144 lk_37 lk_142) rfl rfl rfl (by decide +kernel) ⟨Nat.le_of_ble_eq_true rfl, Nat.le_of_ble_eq_true rfl⟩) (pr_V gk_W (va_recv hG.1 hP (q0 := 0) rfl rfl) ⟨(gk_S hG hS (bb_A hg)), hP⟩) rfl rfl hl.1 rfl (lv_room (Nat.le_of_ble_eq_true rfl)) dX2_makeDir_41 ⟨Nat.zero_le _, Nat.zero_le _⟩) hS (fun _ h => h) (fun H locs hP1 hk1 hS => ?_)
          have hP : va_P (dC, dI) vwCl (wx_X cI cQ top xo la ko kc nt lo lc c md cu r11.1 r11.2 nf) H := hP1
          refine lv_aload_n hx hb dX2_makeDir_44 rfl (lv_at hl 1 rfl) ?_
          refine lv_iload_n hx hb dX2_makeDir_45 rfl (lv_at hl 0 rfl) ?_
          refine lv_iconst (v := 2) hx hb dX2_makeDir_46 (by decide) ?_
          obtain ⟨r13, e14, hf⟩ := ob_s hf
          try dsimp only at hf
          refine im_callv (va_runV (As := [.int r1, .int 2]) (rest := []) ⟨hx, hb, hml, hown, hts⟩ (cx_makeAt l dC dI cI cQ t1 t2 bs top xo la ko kc nt lo lc hg c md cu r11.1 r11.2 nf r1 2 r13 e14 H.size) (cwV 2 hts (gs_V lk_145 lk_147 lk_148 lk_37 lk_146) rfl rfl rfl (by decide +kernel) ⟨Nat.le_of_ble_eq_true rfl, Nat.le_of_ble_eq_true rfl⟩) (pr_V gk_W (va_recv hG.1 hP (q0 := 0) rfl rfl) ⟨(gk_S hG hS (bb_A hg)), hP⟩) rfl rfl hl.1 rfl (lv_room (Nat.le_of_ble_eq_true rfl)) dX2_makeDir_47 ⟨Nat.zero_le _, Nat.zero_le _⟩) hS (fun _ h => h) (fun H locs hP1 hk1 hS => ?_)
          have hP : va_P (dC, dI) vwCl (wx_X cI cQ top xo la ko kc nt lo lc r13.1 md r13.2 r11.1 r11.2 nf) H := hP1
          refine lv_aload_n hx hb dX2_makeDir_50 rfl (lv_at hl 1 rfl) ?_
          obtain ⟨r15, e16, hf⟩ := ob_s hf
          try dsimp only at hf
          refine im_calli (va_runV (As := []) (rest := []) ⟨hx, hb, hml, hown, hts⟩ (cx_settle l dC dI cI cQ t1 t2 bs top xo la ko kc nt lo lc hg r13.1 md r13.2 r11.1 r11.2 nf r15 e16 H.size) (cwV 0 hts (gs_V lk_149 lk_151 lk_152 lk_37 lk_150) rfl rfl rfl (by decide +kernel) ⟨Nat.le_of_ble_eq_true rfl, Nat.le_of_ble_eq_true rfl⟩) (pr_V gk_W (va_recv hG.1 hP (q0 := 0) rfl rfl) ⟨(gk_S hG hS (bb_A hg)), hP⟩) rfl rfl hl.1 rfl (lv_room (Nat.le_of_ble_eq_true rfl)) dX2_makeDir_51 ⟨Nat.zero_le _, Nat.zero_le _⟩) hS (fun _ h => h) (fun H locs hP1 hk1 hS => ?_)
          have hP : va_P (dC, dI) vwCl (wx_X cI cQ top xo la ko kc nt lo lc r15.2.1 md r15.2.2 r11.1 r11.2 nf) H := hP1
          obtain rfl := Option.some.inj hf
          rw [hQ]
          exact im_iret hx hb hr (vp_nar_int _) hS hP dX2_makeDir_54 hlocks
        · rw [if_neg hc] at hf
          refine lv_bipush (v := (-5)) hx hb dX2_makeDir_37 (by decide) ?_
          obtain rfl := Option.some.inj hf
          rw [hQ]
          exact im_iret hx hb hr (vp_nar_int _) hS hP dX2_makeDir_39 hlocks
      · rw [if_pos hc] at hf
        refine lv_bipush (v := (-4)) hx hb dX2_makeDir_26 (by decide) ?_
        obtain rfl := Option.some.inj hf
        rw [hQ]
        exact im_iret hx hb hr (vp_nar_int _) hS hP dX2_makeDir_28 hlocks
    · rw [if_neg hc] at hf
      refine lv_iload_n hx hb dX2_makeDir_10 rfl (lv_at hl 0 rfl) ?_
      obtain rfl := Option.some.inj hf
      rw [hQ]
      exact im_iret hx hb hr (vp_nar_int _) hS hP dX2_makeDir_11 hlocks
  exact hgo s.heap [] hP va_S.rf
set_option maxHeartbeats 4000000 in
set_option maxRecDepth 100000 in
theorem cx_write (l : Launch) (dC : Nat → ClassId) (dI : Nat → Nat → Nat) (cI cQ : ClassId) (t1 t2 bs : Nat) (top xo la ko kc nt : Nat) (lo lc : Nat → Nat) (hg : gd_A bs (ad_X top xo la ko kc nt lo lc)) (c : Nat → ls_T) (md : Int32) (cu : Int32) (kp : ls_T) (kcu : Int32) (nf : Nat → Int32) (x1 : Int32) (x2 : Int32) (v0 : Int32 × (Nat → ls_T) × Int32 × ls_T × Int32) (h : fx_write top c md cu kp kcu x1 x2 = some v0) : im_I l yX2_write wsX2_write rm_5_113 [.ref xo, .int x1, .int x2] (gk_G dC dI cI cQ t1 t2 bs (wx_X cI cQ top xo la ko kc nt lo lc c md cu kp kcu nf)) v0.1 (va_P (dC, dI) vwCl (wx_X cI cQ top xo la ko kc nt lo lc v0.2.1 md v0.2.2.1 v0.2.2.2.1 v0.2.2.2.2 nf)) (in_A (ad_X top xo la ko kc nt lo lc)) := by
  intro sz
  refine Met.ofW (cc := cX2_write) (maxL := 5) (ret := (some .int)) (by decide) rfl ?_
  intro p e s m args below meth c_ s₁ B hml hv
  obtain ⟨rfl, hsz, hG, hP⟩ := hv
  have hx := B.exec
  have hb := B.bytes
  have hr := B.returns
  have hts := atoms_spec (ws := wsX2_write) B.pre
  have hown : s.vm.findClass RX2 = some m.cls := findClass_of_methodNamed B.named
  have hlocks := B.notSynchronized
  have hiX2 : ∀ w ∈ u_ws RX2 TX2 8, w ∈ wsX2_write := fun w hw => tw_in (usX2 w hw)
  have hl := lv_entry ([.ref xo, .int x1, .int x2]) (n := 5) (Nat.le_of_ble_eq_true rfl)
  rw [lg_entry_eq]
  generalize (lg_sl ([.ref xo, .int x1, .int x2]) ++ List.replicate (5 - (lg_sl ([.ref xo, .int x1, .int x2])).length) Slot.unset).toArray = ls at hl ⊢
  have hl : lv_has ls 5 [(0, .ref xo), (1, .int x1), (2, .int x2)] := hl
  refine nm_Q (fun Q hQ => ?_)
  have B88 : ∀ (x3 : Int32) (x4 : Int32) (c : Nat → ls_T) (cu : Int32) (kp : ls_T) (kcu : Int32), ∀ (H : Heap) (locs : List Loc), va_P (dC, dI) vwCl (wx_X cI cQ top xo la ko kc nt lo lc c md cu kp kcu nf) H → va_S (in_A (ad_X top xo la ko kc nt lo lc)) s.heap H locs → ∀ ls : Array Slot, fx_write_88 top md x1 x2 x3 x4 c cu kp kcu = some v0 → lv_has ls 5 [(0, .ref xo), (1, .int x1), (2, .int x2), (3, .int x3), (4, .int x4)] → W p l e (headSpec wsX2_write rm_5_113).room s m ([.ref xo, .int x1, .int x2] : List Value).toArray below meth c_ H locs 0 0 Q (F0 m 88 ls []) := by
    intro x3 x4 c cu kp kcu H locs hP hS ls hf hl
    unfold fx_write_88 at hf
    refine lv_aload_n hx hb dX2_write_88 rfl (lv_at hl 0 rfl) ?_
    refine lv_iload_n hx hb dX2_write_89 rfl (lv_at hl 3 rfl) ?_
    refine lv_iload_n hx hb dX2_write_90 rfl (lv_at hl 2 rfl) ?_
    obtain ⟨r1, e2, hf⟩ := ob_s hf
    try dsimp only at hf
    refine pu_calli (va_runS (As := [.int x2]) (rest := [.int x3, .ref xo]) ⟨hx, hb, hml, hown, hts⟩ (cy_fileCell l dC dI cI cQ t1 t2 bs x2 r1 e2 H.size) (va_cwS 1 hts (gs_S lk_41 lk_43 lk_12 lk_42) rfl rfl rfl (by decide +kernel) ⟨Nat.le_of_ble_eq_true rfl, Nat.le_of_ble_eq_true rfl⟩) (pr_S gk_W ⟨(gk_S hG hS (bb_A hg)), pz_0⟩) rfl rfl hl.1 rfl (lv_room (Nat.le_of_ble_eq_true rfl)) dX2_write_91 ⟨Nat.zero_le _, Nat.zero_le _⟩) ?_
    obtain ⟨r3, e4, hf⟩ := ob_s hf
    try dsimp only at hf
    refine im_callv (va_runV (As := [.int x3, .int r1]) (rest := []) ⟨hx, hb, hml, hown, hts⟩ (cx_makeAt l dC dI cI cQ t1 t2 bs top xo la ko kc nt lo lc hg c md cu kp kcu nf x3 r1 r3 e4 H.size) (cwV 2 hts (gs_V lk_145 lk_147 lk_148 lk_37 lk_146) rfl rfl rfl (by decide +kernel) ⟨Nat.le_of_ble_eq_true rfl, Nat.le_of_ble_eq_true rfl⟩) (pr_V gk_W (va_recv hG.1 hP (q0 := 0) rfl rfl) ⟨(gk_S hG hS (bb_A hg)), hP⟩) rfl rfl hl.1 rfl (lv_room (Nat.le_of_ble_eq_true rfl)) dX2_write_94 ⟨Nat.zero_le _, Nat.zero_le _⟩) hS (fun _ h => h) (fun H locs hP1 hk1 hS => ?_)
    have hP : va_P (dC, dI) vwCl (wx_X cI cQ top xo la ko kc nt lo lc r3.1 md r3.2 kp kcu nf) H := hP1
    refine lv_aload_n hx hb dX2_write_97 rfl (lv_at hl 0 rfl) ?_
    obtain ⟨r5, e6, hf⟩ := ob_s hf
    try dsimp only at hf
    refine im_calli (va_runV (As := []) (rest := []) ⟨hx, hb, hml, hown, hts⟩ (cx_settle l dC dI cI cQ t1 t2 bs top xo la ko kc nt lo lc hg r3.1 md r3.2 kp kcu nf r5 e6 H.size) (cwV 0 hts (gs_V lk_149 lk_151 lk_152 lk_37 lk_150) rfl rfl rfl (by decide +kernel) ⟨Nat.le_of_ble_eq_true rfl, Nat.le_of_ble_eq_true rfl⟩) (pr_V gk_W (va_recv hG.1 hP (q0 := 0) rfl rfl) ⟨(gk_S hG hS (bb_A hg)), hP⟩) rfl rfl hl.1 rfl (lv_room (Nat.le_of_ble_eq_true rfl)) dX2_write_98 ⟨Nat.zero_le _, Nat.zero_le _⟩) hS (fun _ h => h) (fun H locs hP1 hk1 hS => ?_)
    have hP : va_P (dC, dI) vwCl (wx_X cI cQ top xo la ko kc nt lo lc r5.2.1 md r5.2.2 kp kcu nf) H := hP1
    obtain rfl := Option.some.inj hf
    rw [hQ]
    exact im_iret hx hb hr (vp_nar_int _) hS hP dX2_write_101 hlocks
  unfold fx_write at h
  have hgo : ∀ (H : Heap) (locs : List Loc), va_P (dC, dI) vwCl (wx_X cI cQ top xo la ko kc nt lo lc c md cu kp kcu nf) H → va_S (in_A (ad_X top xo la ko kc nt lo lc)) s.heap H locs → W p l e (headSpec wsX2_write rm_5_113).room s m ([.ref xo, .int x1, .int x2] : List Value).toArray below meth c_ H locs 0 0 Q (F0 m 0 ls []) := by
    intro H locs hP hS
    have hf := h
    refine lv_aload_n hx hb dX2_write_0 rfl (lv_at hl 0 rfl) ?_
    refine lv_iload_n hx hb dX2_write_1 rfl (lv_at hl 1 rfl) ?_
    obtain ⟨r7, e8, hf⟩ := ob_s hf
    try dsimp only at hf
    refine pu_calli (va_runV (As := [.int x1]) (rest := []) ⟨hx, hb, hml, hown, hts⟩ (cx_objectPlaceOrRefusal l dC dI cI cQ t1 t2 bs top xo la ko kc nt lo lc hg c md cu kp kcu nf x1 r7 e8 H.size) (cwV 1 hts (gs_V lk_107 lk_109 lk_110 lk_37 lk_108) rfl rfl rfl (by decide +kernel) ⟨Nat.le_of_ble_eq_true rfl, Nat.le_of_ble_eq_true rfl⟩) (pr_V gk_W (va_recv hG.1 hP (q0 := 0) rfl rfl) ⟨(gk_S hG hS (bb_A hg)), hP⟩) rfl rfl hl.1 rfl (lv_room (Nat.le_of_ble_eq_true rfl)) dX2_write_2 ⟨Nat.zero_le _, Nat.zero_le _⟩) ?_
    refine lv_istore_n (lv' := [(3, .int r7), (0, .ref xo), (1, .int x1), (2, .int x2)]) hx hb dX2_write_5 rfl hl (by decide) rfl (fun ls hl => ?_)
    refine lv_iload_n hx hb dX2_write_6 rfl (lv_at hl 0 rfl) ?_
    refine lv_if_ge (tgt := 12) hx hb dX2_write_7 (by decide) (fun hc => ?_) (fun hc => ?_)
    · rw [if_pos hc] at hf
      refine lv_iload_n hx hb dX2_write_12 rfl (lv_at hl 3 rfl) ?_
      refine lv_if_ge (tgt := 19) hx hb dX2_write_13 (by decide) (fun hc => ?_) (fun hc => ?_)
      · rw [if_pos hc] at hf
        refine lv_aload_n hx hb dX2_write_19 rfl (lv_at hl 1 rfl) ?_
        refine lv_iload_n hx hb dX2_write_20 rfl (lv_at hl 0 rfl) ?_
        obtain ⟨r9, e10, hf⟩ := ob_s hf
        try dsimp only at hf
        refine pu_calli (va_runS (As := [.int r7]) (rest := [.ref xo]) ⟨hx, hb, hml, hown, hts⟩ (cp_parent l dC dI cI cQ t1 t2 bs r7 r9 e10 H.size) (va_cwS 1 hts (gs_S lk_29 lk_31 lk_1 lk_30) rfl rfl rfl (by decide +kernel) ⟨Nat.le_of_ble_eq_true rfl, Nat.le_of_ble_eq_true rfl⟩) (pr_S gk_W ⟨(gk_S hG hS (bb_A hg)), pz_0⟩) rfl rfl hl.1 rfl (lv_room (Nat.le_of_ble_eq_true rfl)) dX2_write_21 ⟨Nat.zero_le _, Nat.zero_le _⟩) ?_
        obtain ⟨r11, e12, hf⟩ := ob_s hf
        try dsimp only at hf
        refine pu_calli (va_runV (As := [.int r9]) (rest := []) ⟨hx, hb, hml, hown, hts⟩ (cx_find l dC dI cI cQ t1 t2 bs top xo la ko kc nt lo lc hg c md cu kp kcu nf r9 r11 e12 H.size) (cwV 1 hts (gs_V lk_80 lk_82 lk_83 lk_37 lk_81) rfl rfl rfl (by decide +kernel) ⟨Nat.le_of_ble_eq_true rfl, Nat.le_of_ble_eq_true rfl⟩) (pr_V gk_W (va_recv hG.1 hP (q0 := 0) rfl rfl) ⟨(gk_S hG hS (bb_A hg)), hP⟩) rfl rfl hl.1 rfl (lv_room (Nat.le_of_ble_eq_true rfl)) dX2_write_24 ⟨Nat.zero_le _, Nat.zero_le _⟩) ?_
        obtain ⟨r13, e14, hf⟩ := ob_s hf
        try dsimp only at hf
        refine pu_calli (va_runS (As := [.int r11]) (rest := []) ⟨hx, hb, hml, hown, hts⟩ (cx_isDirectory l dC dI cI cQ t1 t2 bs r11 r13 e14 H.size) (va_cwS 1 hts (gs_S lk_61 lk_63 lk_37 lk_62) rfl rfl rfl (by decide +kernel) ⟨Nat.le_of_ble_eq_true rfl, Nat.le_of_ble_eq_true rfl⟩) (pr_S gk_W ⟨(gk_S hG hS (bb_A hg)), pz_0⟩) rfl rfl hl.1 rfl (lv_room (Nat.le_of_ble_eq_true rfl)) dX2_write_27 ⟨Nat.zero_le _, Nat.zero_le _⟩) ?_
        refine lv_if_ne (tgt := 36) hx hb dX2_write_30 (by decide) (fun hc => ?_) (fun hc => ?_)
        · rw [if_neg hc] at hf
          refine lv_aload_n hx hb dX2_write_36 rfl (lv_at hl 1 rfl) ?_
          refine lv_iload_n hx hb dX2_write_37 rfl (lv_at hl 0 rfl) ?_
          obtain ⟨r15, e16, hf⟩ := ob_s hf
          try dsimp only at hf
          refine pu_calli (va_runV (As := [.int r7]) (rest := []) ⟨hx, hb, hml, hown, hts⟩ (cx_find l dC dI cI cQ t1 t2 bs top xo la ko kc nt lo lc hg c md cu kp kcu nf r7 r15 e16 H.size) (cwV 1 hts (gs_V lk_80 lk_82 lk_83 lk_37 lk_81) rfl rfl rfl (by decide +kernel) ⟨Nat.le_of_ble_eq_true rfl, Nat.le_of_ble_eq_true rfl⟩) (pr_V gk_W (va_recv hG.1 hP (q0 := 0) rfl rfl) ⟨(gk_S hG hS (bb_A hg)), hP⟩) rfl rfl hl.1 rfl (lv_room (Nat.le_of_ble_eq_true rfl)) dX2_write_38 ⟨Nat.zero_le _, Nat.zero_le _⟩) ?_
          refine lv_istore (lv' := [(4, .int r15), (3, .int r7), (0, .ref xo), (1, .int x1), (2, .int x2)]) hx hb dX2_write_41 hl (by decide) rfl (fun ls hl => ?_)
          refine lv_iload hx hb dX2_write_43 (lv_at hl 0 rfl) ?_
          obtain ⟨r17, e18, hf⟩ := ob_s hf
          try dsimp only at hf
          refine pu_calli (va_runS (As := [.int r15]) (rest := []) ⟨hx, hb, hml, hown, hts⟩ (cx_isDirectory l dC dI cI cQ t1 t2 bs r15 r17 e18 H.size) (va_cwS 1 hts (gs_S lk_61 lk_63 lk_37 lk_62) rfl rfl rfl (by decide +kernel) ⟨Nat.le_of_ble_eq_true rfl, Nat.le_of_ble_eq_true rfl⟩) (pr_S gk_W ⟨(gk_S hG hS (bb_A hg)), pz_0⟩) rfl rfl hl.1 rfl (lv_room (Nat.le_of_ble_eq_true rfl)) dX2_write_45 ⟨Nat.zero_le _, Nat.zero_le _⟩) ?_
          refine lv_if_eq (tgt := 54) hx hb dX2_write_48 (by decide) (fun hc => ?_) (fun hc => ?_)
          · rw [if_pos hc] at hf
            refine lv_aload_n hx hb dX2_write_54 rfl (lv_at hl 2 rfl) ?_
            obtain ⟨r19, e20, hf⟩ := ob_s hf
            try dsimp only at hf
            refine im_callv (va_runV (As := []) (rest := []) ⟨hx, hb, hml, hown, hts⟩ (cx_keepUpper l dC dI cI cQ t1 t2 bs top xo la ko kc nt lo lc hg c md cu kp kcu nf r19 e20 H.size) (cwV 0 hts (gs_V lk_141 lk_143 lk_144 lk_37 lk_142) rfl rfl rfl (by decide +kernel) ⟨Nat.le_of_ble_eq_true rfl, Nat.le_of_ble_eq_true rfl⟩) (pr_V gk_W (va_recv hG.1 hP (q0 := 0) rfl rfl) ⟨(gk_S hG hS (bb_A hg)), hP⟩) rfl rfl hl.1 rfl (lv_room (Nat.le_of_ble_eq_true rfl)) dX2_write_55 ⟨Nat.zero_le _, Nat.zero_le _⟩) hS (fun _ h => h) (fun H locs hP1 hk1 hS => ?_)
            have hP : va_P (dC, dI) vwCl (wx_X cI cQ top xo la ko kc nt lo lc c md cu r19.1 r19.2 nf) H := hP1
            refine lv_iload hx hb dX2_write_58 (lv_at hl 0 rfl) ?_
            obtain ⟨r21, e22, hf⟩ := ob_s hf
            try dsimp only at hf
            refine pu_calli (va_runS (As := [.int r15]) (rest := []) ⟨hx, hb, hml, hown, hts⟩ (cx_isFile l dC dI cI cQ t1 t2 bs r15 r21 e22 H.size) (va_cwS 1 hts (gs_S lk_84 lk_86 lk_37 lk_85) rfl rfl rfl (by decide +kernel) ⟨Nat.le_of_ble_eq_true rfl, Nat.le_of_ble_eq_true rfl⟩) (pr_S gk_W ⟨(gk_S hG hS (bb_A hg)), pz_0⟩) rfl rfl hl.1 rfl (lv_room (Nat.le_of_ble_eq_true rfl)) dX2_write_60 ⟨Nat.zero_le _, Nat.zero_le _⟩) ?_
            refine lv_if_eq (tgt := 88) hx hb dX2_write_63 (by decide) (fun hc => ?_) (fun hc => ?_)
            · rw [if_pos hc] at hf
              exact B88 r7 r15 c cu r19.1 r19.2 H locs hP hS ls hf (lv_sub hl [2, 3, 4, 1, 0] rfl)
            · rw [if_neg hc] at hf
              refine lv_iload hx hb dX2_write_66 (lv_at hl 0 rfl) ?_
              obtain ⟨r23, e24, hf⟩ := ob_s hf
              try dsimp only at hf
              refine pu_calli (va_runS (As := [.int r15]) (rest := []) ⟨hx, hb, hml, hown, hts⟩ (cx_layerOfFile l dC dI cI cQ t1 t2 bs r15 r23 e24 H.size) (va_cwS 1 hts (gs_S lk_87 lk_89 lk_37 lk_88) rfl rfl rfl (by decide +kernel) ⟨Nat.le_of_ble_eq_true rfl, Nat.le_of_ble_eq_true rfl⟩) (pr_S gk_W ⟨(gk_S hG hS (bb_A hg)), pz_0⟩) rfl rfl hl.1 rfl (lv_room (Nat.le_of_ble_eq_true rfl)) dX2_write_68 ⟨Nat.zero_le _, Nat.zero_le _⟩) ?_
              refine lv_aload_n hx hb dX2_write_71 rfl (lv_at hl 2 rfl) ?_
              refine va_get (D := (dC, dI)) (ci := 1) (v := .int (nI top)) (C := RX2) (T := TX2) (N := 8) hx hb hts hiX2 hown hG.1 hP 0 rfl rfl 0 (by decide) (hts _ (tw_in lk_4)) (fun _ h9 => h9) rfl dX2_write_72 ?_
              refine lv_icmp_eq (tgt := 88) hx hb dX2_write_75 (by decide) (fun hc => ?_) (fun hc => ?_)
              · rw [if_pos hc] at hf
                exact B88 r7 r15 c cu r19.1 r19.2 H locs hP hS ls hf (lv_sub hl [2, 3, 4, 1, 0] rfl)
              · rw [if_neg hc] at hf
                refine lv_aload_n hx hb dX2_write_78 rfl (lv_at hl 2 rfl) ?_
                refine lv_dup hx hb dX2_write_79 rfl ?_
                refine va_get (D := (dC, dI)) (ci := 1) (v := .int cu) (C := RX2) (T := TX2) (N := 8) hx hb hts hiX2 hown hG.1 hP 0 rfl rfl 4 (by decide) (hts _ (tw_in lk_124)) (fun _ h9 => h9) rfl dX2_write_80 ?_
                refine lv_iconst (v := 1) hx hb dX2_write_83 (by decide) ?_
                refine lv_iadd hx hb dX2_write_84 ?_
                refine va_put (D := (dC, dI)) (ci := 1) (v := .int (cu + 1)) (ty := .int) (C := RX2) (T := TX2) (N := 8) hx hb hts hiX2 tyX2 tyX2_ok nmX2 hown hG.1 hP (dd_A hg mx_X) hS 0 rfl rfl 4 (by decide) (hts _ (tw_in lk_124)) (fun _ h9 => h9) rfl (by decide +kernel) rfl rfl (Nat.le_of_ble_eq_true rfl) dX2_write_85 (fun H locs hP _ hS => ?_)
                have hP : va_P (dC, dI) vwCl (wx_X cI cQ top xo la ko kc nt lo lc c md (cu + 1) r19.1 r19.2 nf) H := hP
                exact B88 r7 r15 c (cu + 1) r19.1 r19.2 H locs hP hS ls hf (lv_sub hl [2, 3, 4, 1, 0] rfl)
          · rw [if_neg hc] at hf
            refine lv_bipush (v := (-6)) hx hb dX2_write_51 (by decide) ?_
            obtain rfl := Option.some.inj hf
            rw [hQ]
            exact im_iret hx hb hr (vp_nar_int _) hS hP dX2_write_53 hlocks
        · rw [if_pos hc] at hf
          refine lv_bipush (v := (-4)) hx hb dX2_write_33 (by decide) ?_
          obtain rfl := Option.some.inj hf
          rw [hQ]
          exact im_iret hx hb hr (vp_nar_int _) hS hP dX2_write_35 hlocks
      · rw [if_neg hc] at hf
        refine lv_bipush (v := (-2)) hx hb dX2_write_16 (by decide) ?_
        obtain rfl := Option.some.inj hf
        rw [hQ]
        exact im_iret hx hb hr (vp_nar_int _) hS hP dX2_write_18 hlocks
    · rw [if_neg hc] at hf
      refine lv_iload_n hx hb dX2_write_10 rfl (lv_at hl 0 rfl) ?_
      obtain rfl := Option.some.inj hf
      rw [hQ]
      exact im_iret hx hb hr (vp_nar_int _) hS hP dX2_write_11 hlocks
  exact hgo s.heap [] hP va_S.rf
set_option maxHeartbeats 4000000 in
set_option maxRecDepth 100000 in
theorem cx_isFilledDirectory (l : Launch) (dC : Nat → ClassId) (dI : Nat → Nat → Nat) (cI cQ : ClassId) (t1 t2 bs : Nat) (top xo la ko kc nt : Nat) (lo lc : Nat → Nat) (hg : gd_A bs (ad_X top xo la ko kc nt lo lc)) (c : Nat → ls_T) (md : Int32) (cu : Int32) (kp : ls_T) (kcu : Int32) (nf : Nat → Int32) (x1 : Int32) (x2 : Int32) (v0 : Int32) (h : fx_isFilledDirectory top c x1 x2 = some v0) : pu_M l yX2_isFilledDirectory wsX2_isFilledDirectory rm_3_70 [.ref xo, .int x1, .int x2] (gk_G dC dI cI cQ t1 t2 bs (wx_X cI cQ top xo la ko kc nt lo lc c md cu kp kcu nf)) v0 := by
  intro sz
  refine Met.ofW (cc := cX2_isFilledDirectory) (maxL := 3) (ret := (some .boolean)) (by decide) rfl ?_
  intro p e s m args below meth c_ s₁ B hml hv
  obtain ⟨rfl, hsz, hG, hP⟩ := hv
  have hx := B.exec
  have hb := B.bytes
  have hr := B.returns
  have hts := atoms_spec (ws := wsX2_isFilledDirectory) B.pre
  have hown : s.vm.findClass RX2 = some m.cls := findClass_of_methodNamed B.named
  have hlocks := B.notSynchronized
  have hl := lv_entry ([.ref xo, .int x1, .int x2]) (n := 3) (Nat.le_of_ble_eq_true rfl)
  rw [lg_entry_eq]
  generalize (lg_sl ([.ref xo, .int x1, .int x2]) ++ List.replicate (3 - (lg_sl ([.ref xo, .int x1, .int x2])).length) Slot.unset).toArray = ls at hl ⊢
  have hl : lv_has ls 3 [(0, .ref xo), (1, .int x1), (2, .int x2)] := hl
  refine nm_Q (fun Q hQ => ?_)
  unfold fx_isFilledDirectory at h
  have hf := h
  refine lv_iload_n hx hb dX2_isFilledDirectory_0 rfl (lv_at hl 2 rfl) ?_
  obtain ⟨r1, e2, hf⟩ := ob_s hf
  try dsimp only at hf
  refine pu_calli (va_runS (As := [.int x2]) (rest := []) ⟨hx, hb, hml, hown, hts⟩ (cx_isDirectory l dC dI cI cQ t1 t2 bs x2 r1 e2 s.heap.size) (va_cwS 1 hts (gs_S lk_61 lk_63 lk_37 lk_62) rfl rfl rfl (by decide +kernel) ⟨Nat.le_of_ble_eq_true rfl, Nat.le_of_ble_eq_true rfl⟩) (pr_S gk_W ⟨hG, pz_0⟩) rfl rfl hl.1 rfl (lv_room (Nat.le_of_ble_eq_true rfl)) dX2_isFilledDirectory_1 ⟨Nat.zero_le _, Nat.zero_le _⟩) ?_
  refine lv_if_eq (tgt := 20) hx hb dX2_isFilledDirectory_4 (by decide) (fun hc => ?_) (fun hc => ?_)
  · rw [if_pos hc] at hf
    refine lv_iconst (v := 0) hx hb dX2_isFilledDirectory_20 (by decide) ?_
    obtain rfl := Option.some.inj hf
    rw [hQ]
    exact pu_iret hx hb hr (nb_0) hsz dX2_isFilledDirectory_21 hlocks
  · rw [if_neg hc] at hf
    refine lv_aload_n hx hb dX2_isFilledDirectory_7 rfl (lv_at hl 0 rfl) ?_
    refine lv_iload_n hx hb dX2_isFilledDirectory_8 rfl (lv_at hl 1 rfl) ?_
    refine lv_iload_n hx hb dX2_isFilledDirectory_9 rfl (lv_at hl 2 rfl) ?_
    obtain ⟨r3, e4, hf⟩ := ob_s hf
    try dsimp only at hf
    refine pu_calli (va_runV (As := [.int x1, .int x2]) (rest := []) ⟨hx, hb, hml, hown, hts⟩ (cx_countIn l dC dI cI cQ t1 t2 bs top xo la ko kc nt lo lc hg c md cu kp kcu nf x1 x2 r3 e4 s.heap.size) (cwV 2 hts (gs_V lk_99 lk_101 lk_102 lk_37 lk_100) rfl rfl rfl (by decide +kernel) ⟨Nat.le_of_ble_eq_true rfl, Nat.le_of_ble_eq_true rfl⟩) (pr_V gk_W (va_recv hG.1 hP (q0 := 0) rfl rfl) ⟨hG, hP⟩) rfl rfl hl.1 rfl (lv_room (Nat.le_of_ble_eq_true rfl)) dX2_isFilledDirectory_10 ⟨Nat.zero_le _, Nat.zero_le _⟩) ?_
    refine lv_if_le (tgt := 20) hx hb dX2_isFilledDirectory_13 (by decide) (fun hc => ?_) (fun hc => ?_)
    · rw [if_pos hc] at hf
      refine lv_iconst (v := 0) hx hb dX2_isFilledDirectory_20 (by decide) ?_
      obtain rfl := Option.some.inj hf
      rw [hQ]
      exact pu_iret hx hb hr (nb_0) hsz dX2_isFilledDirectory_21 hlocks
    · rw [if_neg hc] at hf
      refine lv_iconst (v := 1) hx hb dX2_isFilledDirectory_16 (by decide) ?_
      refine lv_goto (tgt := 21) hx hb dX2_isFilledDirectory_17 (by decide) ?_
      obtain rfl := Option.some.inj hf
      rw [hQ]
      exact pu_iret hx hb hr (nb_1) hsz dX2_isFilledDirectory_21 hlocks
set_option maxHeartbeats 4000000 in
set_option maxRecDepth 100000 in
theorem cx_unmakeAt (l : Launch) (dC : Nat → ClassId) (dI : Nat → Nat → Nat) (cI cQ : ClassId) (t1 t2 bs : Nat) (top xo la ko kc nt : Nat) (lo lc : Nat → Nat) (hg : gd_A bs (ad_X top xo la ko kc nt lo lc)) (c : Nat → ls_T) (md : Int32) (cu : Int32) (kp : ls_T) (kcu : Int32) (nf : Nat → Int32) (x1 : Int32) (v0 : (Nat → ls_T) × Int32) (h : fx_unmakeAt top c cu x1 = some v0) : im_V l yX2_unmakeAt wsX2_unmakeAt rm_4_91 [.ref xo, .int x1] (gk_G dC dI cI cQ t1 t2 bs (wx_X cI cQ top xo la ko kc nt lo lc c md cu kp kcu nf)) (va_P (dC, dI) vwCl (wx_X cI cQ top xo la ko kc nt lo lc v0.1 md v0.2 kp kcu nf)) (in_A (ad_X top xo la ko kc nt lo lc)) := by
  intro sz
  refine Met.ofW (cc := cX2_unmakeAt) (maxL := 2) (ret := none) (by decide) rfl ?_
  intro p e s m args below meth c_ s₁ B hml hv
  obtain ⟨rfl, hsz, hG, hP⟩ := hv
  have hx := B.exec
  have hb := B.bytes
  have hr := B.returns
  have hts := atoms_spec (ws := wsX2_unmakeAt) B.pre
  have hown : s.vm.findClass RX2 = some m.cls := findClass_of_methodNamed B.named
  have hlocks := B.notSynchronized
  have hiX2 : ∀ w ∈ u_ws RX2 TX2 8, w ∈ wsX2_unmakeAt := fun w hw => tw_in (usX2 w hw)
  have hl := lv_entry ([.ref xo, .int x1]) (n := 2) (Nat.le_of_ble_eq_true rfl)
  rw [lg_entry_eq]
  generalize (lg_sl ([.ref xo, .int x1]) ++ List.replicate (2 - (lg_sl ([.ref xo, .int x1])).length) Slot.unset).toArray = ls at hl ⊢
  have hl : lv_has ls 2 [(0, .ref xo), (1, .int x1)] := hl
  refine nm_Q (fun Q hQ => ?_)
  unfold fx_unmakeAt at h
  have hgo : ∀ (H : Heap) (locs : List Loc), va_P (dC, dI) vwCl (wx_X cI cQ top xo la ko kc nt lo lc c md cu kp kcu nf) H → va_S (in_A (ad_X top xo la ko kc nt lo lc)) s.heap H locs → W p l e (headSpec wsX2_unmakeAt rm_4_91).room s m ([.ref xo, .int x1] : List Value).toArray below meth c_ H locs 0 0 Q (F0 m 0 ls []) := by
    intro H locs hP hS
    have hf := h
    refine lv_aload_n hx hb dX2_unmakeAt_0 rfl (lv_at hl 0 rfl) ?_
    refine va_get (D := (dC, dI)) (ci := 1) (v := .ref (lo top)) (C := RX2) (T := TX2) (N := 8) hx hb hts hiX2 hown hG.1 hP 0 rfl rfl 2 (by decide) (hts _ (tw_in lk_22)) (fun _ h9 => h9) rfl dX2_unmakeAt_1 ?_
    refine lv_iload_n hx hb dX2_unmakeAt_4 rfl (lv_at hl 1 rfl) ?_
    obtain ⟨r1, e2, hf⟩ := ob_s hf
    try dsimp only at hf
    refine im_callv (va_runV (As := [.int x1]) (rest := []) ⟨hx, hb, hml, hown, hts⟩ (cy_clearFrom l dC dI cI cQ t1 t2 bs (lo top) (lc top) (gx_L hg (Nat.lt_succ_self top)) ((c top).1) ((c top).2.1) ((c top).2.2) x1 r1 e2 H.size) (cwV 1 hts (gs_V lk_133 lk_135 lk_136 lk_12 lk_134) rfl rfl rfl (by decide +kernel) ⟨Nat.le_of_ble_eq_true rfl, Nat.le_of_ble_eq_true rfl⟩) (pr_V gk_W (va_recv hG.1 (px_L hP (Nat.lt_succ_self top)) (q0 := 0) rfl rfl) ⟨(gk_S hG hS (bb_A hg)), (px_L hP (Nat.lt_succ_self top))⟩) rfl rfl hl.1 rfl (lv_room (Nat.le_of_ble_eq_true rfl)) dX2_unmakeAt_5 ⟨Nat.zero_le _, Nat.zero_le _⟩) hS (ax_L (Nat.lt_succ_self top)) (fun H locs hP1 hk1 hS => ?_)
    have hP : va_P (dC, dI) vwCl (wx_X cI cQ top xo la ko kc nt lo lc (va_up c top (r1.1, r1.2.1, r1.2.2)) md cu kp kcu nf) H := (jx_L hg (Nat.lt_succ_self top) hP hP1 hk1)
    refine lv_aload_n hx hb dX2_unmakeAt_8 rfl (lv_at hl 0 rfl) ?_
    refine lv_iload_n hx hb dX2_unmakeAt_9 rfl (lv_at hl 1 rfl) ?_
    obtain ⟨r3, e4, hf⟩ := ob_s hf
    try dsimp only at hf
    refine pu_calli (va_runV (As := [.int x1]) (rest := []) ⟨hx, hb, hml, hown, hts⟩ (cx_isCovered l dC dI cI cQ t1 t2 bs top xo la ko kc nt lo lc hg (va_up c top (r1.1, r1.2.1, r1.2.2)) md cu kp kcu nf x1 r3 e4 H.size) (cwV 1 hts (gs_V lk_137 lk_139 lk_140 lk_37 lk_138) rfl rfl rfl (by decide +kernel) ⟨Nat.le_of_ble_eq_true rfl, Nat.le_of_ble_eq_true rfl⟩) (pr_V gk_W (va_recv hG.1 hP (q0 := 0) rfl rfl) ⟨(gk_S hG hS (bb_A hg)), hP⟩) rfl rfl hl.1 rfl (lv_room (Nat.le_of_ble_eq_true rfl)) dX2_unmakeAt_10 ⟨Nat.zero_le _, Nat.zero_le _⟩) ?_
    refine lv_if_eq (tgt := 33) hx hb dX2_unmakeAt_13 (by decide) (fun hc => ?_) (fun hc => ?_)
    · rw [if_pos hc] at hf
      obtain rfl := Option.some.inj hf
      rw [hQ]
      exact im_vret hx hb hr hS hP dX2_unmakeAt_33 hlocks
    · rw [if_neg hc] at hf
      refine lv_aload_n hx hb dX2_unmakeAt_16 rfl (lv_at hl 0 rfl) ?_
      refine lv_iload_n hx hb dX2_unmakeAt_17 rfl (lv_at hl 1 rfl) ?_
      obtain ⟨r5, e6, hf⟩ := ob_s hf
      try dsimp only at hf
      refine pu_calli (va_runS (As := [.int x1]) (rest := [.ref xo]) ⟨hx, hb, hml, hown, hts⟩ (cp_parent l dC dI cI cQ t1 t2 bs x1 r5 e6 H.size) (va_cwS 1 hts (gs_S lk_29 lk_31 lk_1 lk_30) rfl rfl rfl (by decide +kernel) ⟨Nat.le_of_ble_eq_true rfl, Nat.le_of_ble_eq_true rfl⟩) (pr_S gk_W ⟨(gk_S hG hS (bb_A hg)), pz_0⟩) rfl rfl hl.1 rfl (lv_room (Nat.le_of_ble_eq_true rfl)) dX2_unmakeAt_18 ⟨Nat.zero_le _, Nat.zero_le _⟩) ?_
      obtain ⟨r7, e8, hf⟩ := ob_s hf
      try dsimp only at hf
      refine im_callv (va_runV (As := [.int r5]) (rest := []) ⟨hx, hb, hml, hown, hts⟩ (cx_raise l dC dI cI cQ t1 t2 bs top xo la ko kc nt lo lc hg (va_up c top (r1.1, r1.2.1, r1.2.2)) md cu kp kcu nf r5 r7 e8 H.size) (cwV 1 hts (gs_V lk_129 lk_131 lk_132 lk_37 lk_130) rfl rfl rfl (by decide +kernel) ⟨Nat.le_of_ble_eq_true rfl, Nat.le_of_ble_eq_true rfl⟩) (pr_V gk_W (va_recv hG.1 hP (q0 := 0) rfl rfl) ⟨(gk_S hG hS (bb_A hg)), hP⟩) rfl rfl hl.1 rfl (lv_room (Nat.le_of_ble_eq_true rfl)) dX2_unmakeAt_21 ⟨Nat.zero_le _, Nat.zero_le _⟩) hS (fun _ h => h) (fun H locs hP1 hk1 hS => ?_)
      have hP : va_P (dC, dI) vwCl (wx_X cI cQ top xo la ko kc nt lo lc r7.1 md r7.2 kp kcu nf) H := hP1
      refine lv_aload_n hx hb dX2_unmakeAt_24 rfl (lv_at hl 0 rfl) ?_
      refine va_get (D := (dC, dI)) (ci := 1) (v := .ref (lo top)) (C := RX2) (T := TX2) (N := 8) hx hb hts hiX2 hown hG.1 hP 0 rfl rfl 2 (by decide) (hts _ (tw_in lk_22)) (fun _ h9 => h9) rfl dX2_unmakeAt_25 ?_
      refine lv_iload_n hx hb dX2_unmakeAt_28 rfl (lv_at hl 1 rfl) ?_
      refine lv_iconst (v := 4) hx hb dX2_unmakeAt_29 (by decide) ?_
      obtain ⟨r9, e10, hf⟩ := ob_s hf
      try dsimp only at hf
      refine im_callv (va_runV (As := [.int x1, .int 4]) (rest := []) ⟨hx, hb, hml, hown, hts⟩ (cy_set l dC dI cI cQ t1 t2 bs (lo top) (lc top) (gx_L hg (Nat.lt_succ_self top)) ((r7.1 top).1) ((r7.1 top).2.1) ((r7.1 top).2.2) x1 4 r9 e10 H.size) (cwV 2 hts (gs_V lk_24 lk_26 lk_27 lk_12 lk_25) rfl rfl rfl (by decide +kernel) ⟨Nat.le_of_ble_eq_true rfl, Nat.le_of_ble_eq_true rfl⟩) (pr_V gk_W (va_recv hG.1 (px_L hP (Nat.lt_succ_self top)) (q0 := 0) rfl rfl) ⟨(gk_S hG hS (bb_A hg)), (px_L hP (Nat.lt_succ_self top))⟩) rfl rfl hl.1 rfl (lv_room (Nat.le_of_ble_eq_true rfl)) dX2_unmakeAt_30 ⟨Nat.zero_le _, Nat.zero_le _⟩) hS (ax_L (Nat.lt_succ_self top)) (fun H locs hP1 hk1 hS => ?_)
      have hP : va_P (dC, dI) vwCl (wx_X cI cQ top xo la ko kc nt lo lc (va_up r7.1 top (r9.1, r9.2.1, r9.2.2)) md r7.2 kp kcu nf) H := (jx_L hg (Nat.lt_succ_self top) hP hP1 hk1)
      obtain rfl := Option.some.inj hf
      rw [hQ]
      exact im_vret hx hb hr hS hP dX2_unmakeAt_33 hlocks
  exact hgo s.heap [] hP va_S.rf
set_option maxHeartbeats 4000000 in
set_option maxRecDepth 100000 in
theorem cx_remove (l : Launch) (dC : Nat → ClassId) (dI : Nat → Nat → Nat) (cI cQ : ClassId) (t1 t2 bs : Nat) (top xo la ko kc nt : Nat) (lo lc : Nat → Nat) (hg : gd_A bs (ad_X top xo la ko kc nt lo lc)) (c : Nat → ls_T) (md : Int32) (cu : Int32) (kp : ls_T) (kcu : Int32) (nf : Nat → Int32) (x1 : Int32) (v0 : Int32 × (Nat → ls_T) × Int32 × ls_T × Int32) (h : fx_remove top c md cu kp kcu x1 = some v0) : im_I l yX2_remove wsX2_remove rm_5_112 [.ref xo, .int x1] (gk_G dC dI cI cQ t1 t2 bs (wx_X cI cQ top xo la ko kc nt lo lc c md cu kp kcu nf)) v0.1 (va_P (dC, dI) vwCl (wx_X cI cQ top xo la ko kc nt lo lc v0.2.1 md v0.2.2.1 v0.2.2.2.1 v0.2.2.2.2 nf)) (in_A (ad_X top xo la ko kc nt lo lc)) := by
  intro sz
  refine Met.ofW (cc := cX2_remove) (maxL := 4) (ret := (some .int)) (by decide) rfl ?_
  intro p e s m args below meth c_ s₁ B hml hv
  obtain ⟨rfl, hsz, hG, hP⟩ := hv
  have hx := B.exec
  have hb := B.bytes
  have hr := B.returns
  have hts := atoms_spec (ws := wsX2_remove) B.pre
  have hown : s.vm.findClass RX2 = some m.cls := findClass_of_methodNamed B.named
  have hlocks := B.notSynchronized
  have hl := lv_entry ([.ref xo, .int x1]) (n := 4) (Nat.le_of_ble_eq_true rfl)
  rw [lg_entry_eq]
  generalize (lg_sl ([.ref xo, .int x1]) ++ List.replicate (4 - (lg_sl ([.ref xo, .int x1])).length) Slot.unset).toArray = ls at hl ⊢
  have hl : lv_has ls 4 [(0, .ref xo), (1, .int x1)] := hl
  refine nm_Q (fun Q hQ => ?_)
  unfold fx_remove at h
  have hgo : ∀ (H : Heap) (locs : List Loc), va_P (dC, dI) vwCl (wx_X cI cQ top xo la ko kc nt lo lc c md cu kp kcu nf) H → va_S (in_A (ad_X top xo la ko kc nt lo lc)) s.heap H locs → W p l e (headSpec wsX2_remove rm_5_112).room s m ([.ref xo, .int x1] : List Value).toArray below meth c_ H locs 0 0 Q (F0 m 0 ls []) := by
    intro H locs hP hS
    have hf := h
    refine lv_aload_n hx hb dX2_remove_0 rfl (lv_at hl 0 rfl) ?_
    refine lv_iload_n hx hb dX2_remove_1 rfl (lv_at hl 1 rfl) ?_
    obtain ⟨r1, e2, hf⟩ := ob_s hf
    try dsimp only at hf
    refine pu_calli (va_runV (As := [.int x1]) (rest := []) ⟨hx, hb, hml, hown, hts⟩ (cx_objectPlaceOrRefusal l dC dI cI cQ t1 t2 bs top xo la ko kc nt lo lc hg c md cu kp kcu nf x1 r1 e2 H.size) (cwV 1 hts (gs_V lk_107 lk_109 lk_110 lk_37 lk_108) rfl rfl rfl (by decide +kernel) ⟨Nat.le_of_ble_eq_true rfl, Nat.le_of_ble_eq_true rfl⟩) (pr_V gk_W (va_recv hG.1 hP (q0 := 0) rfl rfl) ⟨(gk_S hG hS (bb_A hg)), hP⟩) rfl rfl hl.1 rfl (lv_room (Nat.le_of_ble_eq_true rfl)) dX2_remove_2 ⟨Nat.zero_le _, Nat.zero_le _⟩) ?_
    refine lv_istore_n (lv' := [(2, .int r1), (0, .ref xo), (1, .int x1)]) hx hb dX2_remove_5 rfl hl (by decide) rfl (fun ls hl => ?_)
    refine lv_iload_n hx hb dX2_remove_6 rfl (lv_at hl 0 rfl) ?_
    refine lv_if_ge (tgt := 12) hx hb dX2_remove_7 (by decide) (fun hc => ?_) (fun hc => ?_)
    · rw [if_pos hc] at hf
      refine lv_aload_n hx hb dX2_remove_12 rfl (lv_at hl 1 rfl) ?_
      refine lv_iload_n hx hb dX2_remove_13 rfl (lv_at hl 0 rfl) ?_
      obtain ⟨r3, e4, hf⟩ := ob_s hf
      try dsimp only at hf
      refine pu_calli (va_runV (As := [.int r1]) (rest := []) ⟨hx, hb, hml, hown, hts⟩ (cx_find l dC dI cI cQ t1 t2 bs top xo la ko kc nt lo lc hg c md cu kp kcu nf r1 r3 e4 H.size) (cwV 1 hts (gs_V lk_80 lk_82 lk_83 lk_37 lk_81) rfl rfl rfl (by decide +kernel) ⟨Nat.le_of_ble_eq_true rfl, Nat.le_of_ble_eq_true rfl⟩) (pr_V gk_W (va_recv hG.1 hP (q0 := 0) rfl rfl) ⟨(gk_S hG hS (bb_A hg)), hP⟩) rfl rfl hl.1 rfl (lv_room (Nat.le_of_ble_eq_true rfl)) dX2_remove_14 ⟨Nat.zero_le _, Nat.zero_le _⟩) ?_
      refine lv_istore_n (lv' := [(3, .int r3), (2, .int r1), (0, .ref xo), (1, .int x1)]) hx hb dX2_remove_17 rfl hl (by decide) rfl (fun ls hl => ?_)
      refine lv_iload_n hx hb dX2_remove_18 rfl (lv_at hl 0 rfl) ?_
      refine lv_if_ne (tgt := 25) hx hb dX2_remove_19 (by decide) (fun hc => ?_) (fun hc => ?_)
      · rw [if_neg hc] at hf
        refine lv_aload_n hx hb dX2_remove_25 rfl (lv_at hl 2 rfl) ?_
        refine lv_iload_n hx hb dX2_remove_26 rfl (lv_at hl 1 rfl) ?_
        refine lv_iload_n hx hb dX2_remove_27 rfl (lv_at hl 0 rfl) ?_
        obtain ⟨r5, e6, hf⟩ := ob_s hf
        try dsimp only at hf
        refine pu_calli (va_runV (As := [.int r1, .int r3]) (rest := []) ⟨hx, hb, hml, hown, hts⟩ (cx_isFilledDirectory l dC dI cI cQ t1 t2 bs top xo la ko kc nt lo lc hg c md cu kp kcu nf r1 r3 r5 e6 H.size) (cwV 2 hts (gs_V lk_153 lk_155 lk_156 lk_37 lk_154) rfl rfl rfl (by decide +kernel) ⟨Nat.le_of_ble_eq_true rfl, Nat.le_of_ble_eq_true rfl⟩) (pr_V gk_W (va_recv hG.1 hP (q0 := 0) rfl rfl) ⟨(gk_S hG hS (bb_A hg)), hP⟩) rfl rfl hl.1 rfl (lv_room (Nat.le_of_ble_eq_true rfl)) dX2_remove_28 ⟨Nat.zero_le _, Nat.zero_le _⟩) ?_
        refine lv_if_eq (tgt := 37) hx hb dX2_remove_31 (by decide) (fun hc => ?_) (fun hc => ?_)
        · rw [if_pos hc] at hf
          refine lv_aload_n hx hb dX2_remove_37 rfl (lv_at hl 2 rfl) ?_
          obtain ⟨r7, e8, hf⟩ := ob_s hf
          try dsimp only at hf
          refine im_callv (va_runV (As := []) (rest := []) ⟨hx, hb, hml, hown, hts⟩ (cx_keepUpper l dC dI cI cQ t1 t2 bs top xo la ko kc nt lo lc hg c md cu kp kcu nf r7 e8 H.size) (cwV 0 hts (gs_V lk_141 lk_143 lk_144 lk_37 lk_142) rfl rfl rfl (by decide +kernel) ⟨Nat.le_of_ble_eq_true rfl, Nat.le_of_ble_eq_true rfl⟩) (pr_V gk_W (va_recv hG.1 hP (q0 := 0) rfl rfl) ⟨(gk_S hG hS (bb_A hg)), hP⟩) rfl rfl hl.1 rfl (lv_room (Nat.le_of_ble_eq_true rfl)) dX2_remove_38 ⟨Nat.zero_le _, Nat.zero_le _⟩) hS (fun _ h => h) (fun H locs hP1 hk1 hS => ?_)
          have hP : va_P (dC, dI) vwCl (wx_X cI cQ top xo la ko kc nt lo lc c md cu r7.1 r7.2 nf) H := hP1
          refine lv_aload_n hx hb dX2_remove_41 rfl (lv_at hl 2 rfl) ?_
          refine lv_iload_n hx hb dX2_remove_42 rfl (lv_at hl 1 rfl) ?_
          obtain ⟨r9, e10, hf⟩ := ob_s hf
          try dsimp only at hf
          refine im_callv (va_runV (As := [.int r1]) (rest := []) ⟨hx, hb, hml, hown, hts⟩ (cx_unmakeAt l dC dI cI cQ t1 t2 bs top xo la ko kc nt lo lc hg c md cu r7.1 r7.2 nf r1 r9 e10 H.size) (cwV 1 hts (gs_V lk_157 lk_159 lk_160 lk_37 lk_158) rfl rfl rfl (by decide +kernel) ⟨Nat.le_of_ble_eq_true rfl, Nat.le_of_ble_eq_true rfl⟩) (pr_V gk_W (va_recv hG.1 hP (q0 := 0) rfl rfl) ⟨(gk_S hG hS (bb_A hg)), hP⟩) rfl rfl hl.1 rfl (lv_room (Nat.le_of_ble_eq_true rfl)) dX2_remove_43 ⟨Nat.zero_le _, Nat.zero_le _⟩) hS (fun _ h => h) (fun H locs hP1 hk1 hS => ?_)
          have hP : va_P (dC, dI) vwCl (wx_X cI cQ top xo la ko kc nt lo lc r9.1 md r9.2 r7.1 r7.2 nf) H := hP1
          refine lv_aload_n hx hb dX2_remove_46 rfl (lv_at hl 2 rfl) ?_
          obtain ⟨r11, e12, hf⟩ := ob_s hf
          try dsimp only at hf
          refine im_calli (va_runV (As := []) (rest := []) ⟨hx, hb, hml, hown, hts⟩ (cx_settle l dC dI cI cQ t1 t2 bs top xo la ko kc nt lo lc hg r9.1 md r9.2 r7.1 r7.2 nf r11 e12 H.size) (cwV 0 hts (gs_V lk_149 lk_151 lk_152 lk_37 lk_150) rfl rfl rfl (by decide +kernel) ⟨Nat.le_of_ble_eq_true rfl, Nat.le_of_ble_eq_true rfl⟩) (pr_V gk_W (va_recv hG.1 hP (q0 := 0) rfl rfl) ⟨(gk_S hG hS (bb_A hg)), hP⟩) rfl rfl hl.1 rfl (lv_room (Nat.le_of_ble_eq_true rfl)) dX2_remove_47 ⟨Nat.zero_le _, Nat.zero_le _⟩) hS (fun _ h => h) (fun H locs hP1 hk1 hS => ?_)
          have hP : va_P (dC, dI) vwCl (wx_X cI cQ top xo la ko kc nt lo lc r11.2.1 md r11.2.2 r7.1 r7.2 nf) H := hP1
          obtain rfl := Option.some.inj hf
          rw [hQ]
          exact im_iret hx hb hr (vp_nar_int _) hS hP dX2_remove_50 hlocks
        · rw [if_neg hc] at hf
          refine lv_bipush (v := (-8)) hx hb dX2_remove_34 (by decide) ?_
          obtain rfl := Option.some.inj hf
          rw [hQ]
          exact im_iret hx hb hr (vp_nar_int _) hS hP dX2_remove_36 hlocks
      · rw [if_pos hc] at hf
        refine lv_bipush (v := (-3)) hx hb dX2_remove_22 (by decide) ?_
        obtain rfl := Option.some.inj hf
        rw [hQ]
        exact im_iret hx hb hr (vp_nar_int _) hS hP dX2_remove_24 hlocks
    · rw [if_neg hc] at hf
      refine lv_iload_n hx hb dX2_remove_10 rfl (lv_at hl 0 rfl) ?_
      obtain rfl := Option.some.inj hf
      rw [hQ]
      exact im_iret hx hb hr (vp_nar_int _) hS hP dX2_remove_11 hlocks
  exact hgo s.heap [] hP va_S.rf
set_option maxHeartbeats 4000000 in
set_option maxRecDepth 100000 in
theorem cx_refusalOfTarget (l : Launch) (dC : Nat → ClassId) (dI : Nat → Nat → Nat) (cI cQ : ClassId) (t1 t2 bs : Nat) (top xo la ko kc nt : Nat) (lo lc : Nat → Nat) (hg : gd_A bs (ad_X top xo la ko kc nt lo lc)) (c : Nat → ls_T) (md : Int32) (cu : Int32) (kp : ls_T) (kcu : Int32) (nf : Nat → Int32) (x1 : Int32) (x2 : Int32) (v0 : Int32) (h : fx_refusalOfTarget top c x1 x2 = some v0) : pu_M l yX2_refusalOfTarget wsX2_refusalOfTarget rm_4_92 [.ref xo, .int x1, .int x2] (gk_G dC dI cI cQ t1 t2 bs (wx_X cI cQ top xo la ko kc nt lo lc c md cu kp kcu nf)) v0 := by
  intro sz
  refine Met.ofW (cc := cX2_refusalOfTarget) (maxL := 5) (ret := (some .int)) (by decide) rfl ?_
  intro p e s m args below meth c_ s₁ B hml hv
  obtain ⟨rfl, hsz, hG, hP⟩ := hv
  have hx := B.exec
  have hb := B.bytes
  have hr := B.returns
  have hts := atoms_spec (ws := wsX2_refusalOfTarget) B.pre
  have hown : s.vm.findClass RX2 = some m.cls := findClass_of_methodNamed B.named
  have hlocks := B.notSynchronized
  have hl := lv_entry ([.ref xo, .int x1, .int x2]) (n := 5) (Nat.le_of_ble_eq_true rfl)
  rw [lg_entry_eq]
  generalize (lg_sl ([.ref xo, .int x1, .int x2]) ++ List.replicate (5 - (lg_sl ([.ref xo, .int x1, .int x2])).length) Slot.unset).toArray = ls at hl ⊢
  have hl : lv_has ls 5 [(0, .ref xo), (1, .int x1), (2, .int x2)] := hl
  refine nm_Q (fun Q hQ => ?_)
  have B77 : ∀ (x3 : Int32) (x4 : Int32), ∀ ls : Array Slot, fx_refusalOfTarget_77 top c x1 x2 x3 x4 = some v0 → lv_has ls 5 [(0, .ref xo), (1, .int x1), (2, .int x2), (3, .int x3), (4, .int x4)] → W p l e (headSpec wsX2_refusalOfTarget rm_4_92).room s m ([.ref xo, .int x1, .int x2] : List Value).toArray below meth c_ s.heap [] 0 0 Q (F0 m 77 ls []) := by
    intro x3 x4 ls hf hl
    unfold fx_refusalOfTarget_77 at hf
    refine lv_aload_n hx hb dX2_refusalOfTarget_77 rfl (lv_at hl 0 rfl) ?_
    refine lv_iload_n hx hb dX2_refusalOfTarget_78 rfl (lv_at hl 2 rfl) ?_
    refine lv_iload hx hb dX2_refusalOfTarget_79 (lv_at hl 4 rfl) ?_
    obtain ⟨r1, e2, hf⟩ := ob_s hf
    try dsimp only at hf
    refine pu_calli (va_runV (As := [.int x2, .int x4]) (rest := []) ⟨hx, hb, hml, hown, hts⟩ (cx_isFilledDirectory l dC dI cI cQ t1 t2 bs top xo la ko kc nt lo lc hg c md cu kp kcu nf x2 x4 r1 e2 s.heap.size) (cwV 2 hts (gs_V lk_153 lk_155 lk_156 lk_37 lk_154) rfl rfl rfl (by decide +kernel) ⟨Nat.le_of_ble_eq_true rfl, Nat.le_of_ble_eq_true rfl⟩) (pr_V gk_W (va_recv hG.1 hP (q0 := 0) rfl rfl) ⟨hG, hP⟩) rfl rfl hl.1 rfl (lv_room (Nat.le_of_ble_eq_true rfl)) dX2_refusalOfTarget_81 ⟨Nat.zero_le _, Nat.zero_le _⟩) ?_
    refine lv_if_eq (tgt := 92) hx hb dX2_refusalOfTarget_84 (by decide) (fun hc => ?_) (fun hc => ?_)
    · rw [if_pos hc] at hf
      refine lv_iconst (v := 0) hx hb dX2_refusalOfTarget_92 (by decide) ?_
      obtain rfl := Option.some.inj hf
      rw [hQ]
      exact pu_iret hx hb hr (vp_nar_int _) hsz dX2_refusalOfTarget_93 hlocks
    · rw [if_neg hc] at hf
      refine lv_bipush (v := (-8)) hx hb dX2_refusalOfTarget_87 (by decide) ?_
      refine lv_goto (tgt := 93) hx hb dX2_refusalOfTarget_89 (by decide) ?_
      obtain rfl := Option.some.inj hf
      rw [hQ]
      exact pu_iret hx hb hr (vp_nar_int _) hsz dX2_refusalOfTarget_93 hlocks
  have B59 : ∀ (x3 : Int32) (x4 : Int32), ∀ ls : Array Slot, fx_refusalOfTarget_59 top c x1 x2 x3 x4 = some v0 → lv_has ls 5 [(0, .ref xo), (1, .int x1), (2, .int x2), (3, .int x3), (4, .int x4)] → W p l e (headSpec wsX2_refusalOfTarget rm_4_92).room s m ([.ref xo, .int x1, .int x2] : List Value).toArray below meth c_ s.heap [] 0 0 Q (F0 m 59 ls []) := by
    intro x3 x4 ls hf hl
    unfold fx_refusalOfTarget_59 at hf
    refine lv_iload hx hb dX2_refusalOfTarget_59 (lv_at hl 4 rfl) ?_
    obtain ⟨r3, e4, hf⟩ := ob_s hf
    try dsimp only at hf
    refine pu_calli (va_runS (As := [.int x4]) (rest := []) ⟨hx, hb, hml, hown, hts⟩ (cx_isFile l dC dI cI cQ t1 t2 bs x4 r3 e4 s.heap.size) (va_cwS 1 hts (gs_S lk_84 lk_86 lk_37 lk_85) rfl rfl rfl (by decide +kernel) ⟨Nat.le_of_ble_eq_true rfl, Nat.le_of_ble_eq_true rfl⟩) (pr_S gk_W ⟨hG, pz_0⟩) rfl rfl hl.1 rfl (lv_room (Nat.le_of_ble_eq_true rfl)) dX2_refusalOfTarget_61 ⟨Nat.zero_le _, Nat.zero_le _⟩) ?_
    refine lv_if_eq (tgt := 77) hx hb dX2_refusalOfTarget_64 (by decide) (fun hc => ?_) (fun hc => ?_)
    · rw [if_pos hc] at hf
      exact B77 x3 x4 ls hf (lv_sub hl [0, 1, 2, 3, 4] rfl)
    · rw [if_neg hc] at hf
      refine lv_iload_n hx hb dX2_refusalOfTarget_67 rfl (lv_at hl 3 rfl) ?_
      obtain ⟨r5, e6, hf⟩ := ob_s hf
      try dsimp only at hf
      refine pu_calli (va_runS (As := [.int x3]) (rest := []) ⟨hx, hb, hml, hown, hts⟩ (cx_isDirectory l dC dI cI cQ t1 t2 bs x3 r5 e6 s.heap.size) (va_cwS 1 hts (gs_S lk_61 lk_63 lk_37 lk_62) rfl rfl rfl (by decide +kernel) ⟨Nat.le_of_ble_eq_true rfl, Nat.le_of_ble_eq_true rfl⟩) (pr_S gk_W ⟨hG, pz_0⟩) rfl rfl hl.1 rfl (lv_room (Nat.le_of_ble_eq_true rfl)) dX2_refusalOfTarget_68 ⟨Nat.zero_le _, Nat.zero_le _⟩) ?_
      refine lv_if_eq (tgt := 77) hx hb dX2_refusalOfTarget_71 (by decide) (fun hc => ?_) (fun hc => ?_)
      · rw [if_pos hc] at hf
        exact B77 x3 x4 ls hf (lv_sub hl [0, 1, 2, 3, 4] rfl)
      · rw [if_neg hc] at hf
        refine lv_bipush (v := (-7)) hx hb dX2_refusalOfTarget_74 (by decide) ?_
        obtain rfl := Option.some.inj hf
        rw [hQ]
        exact pu_iret hx hb hr (vp_nar_int _) hsz dX2_refusalOfTarget_76 hlocks
  unfold fx_refusalOfTarget at h
  have hf := h
  refine lv_iload_n hx hb dX2_refusalOfTarget_0 rfl (lv_at hl 2 rfl) ?_
  refine lv_iload_n hx hb dX2_refusalOfTarget_1 rfl (lv_at hl 1 rfl) ?_
  obtain ⟨r7, e8, hf⟩ := ob_s hf
  try dsimp only at hf
  refine pu_calli (va_runS (As := [.int x2, .int x1]) (rest := []) ⟨hx, hb, hml, hown, hts⟩ (cp_isBelow l dC dI cI cQ t1 t2 bs x2 x1 r7 e8 s.heap.size) (va_cwS 2 hts (gs_S lk_162 lk_164 lk_1 lk_163) rfl rfl rfl (by decide +kernel) ⟨Nat.le_of_ble_eq_true rfl, Nat.le_of_ble_eq_true rfl⟩) (pr_S gk_W ⟨hG, pz_0⟩) rfl rfl hl.1 rfl (lv_room (Nat.le_of_ble_eq_true rfl)) dX2_refusalOfTarget_2 ⟨Nat.zero_le _, Nat.zero_le _⟩) ?_
  refine lv_if_eq (tgt := 11) hx hb dX2_refusalOfTarget_5 (by decide) (fun hc => ?_) (fun hc => ?_)
  · rw [if_pos hc] at hf
    refine lv_aload_n hx hb dX2_refusalOfTarget_11 rfl (lv_at hl 0 rfl) ?_
    refine lv_iload_n hx hb dX2_refusalOfTarget_12 rfl (lv_at hl 2 rfl) ?_
    obtain ⟨r9, e10, hf⟩ := ob_s hf
    try dsimp only at hf
    refine pu_calli (va_runS (As := [.int x2]) (rest := [.ref xo]) ⟨hx, hb, hml, hown, hts⟩ (cp_parent l dC dI cI cQ t1 t2 bs x2 r9 e10 s.heap.size) (va_cwS 1 hts (gs_S lk_29 lk_31 lk_1 lk_30) rfl rfl rfl (by decide +kernel) ⟨Nat.le_of_ble_eq_true rfl, Nat.le_of_ble_eq_true rfl⟩) (pr_S gk_W ⟨hG, pz_0⟩) rfl rfl hl.1 rfl (lv_room (Nat.le_of_ble_eq_true rfl)) dX2_refusalOfTarget_13 ⟨Nat.zero_le _, Nat.zero_le _⟩) ?_
    obtain ⟨r11, e12, hf⟩ := ob_s hf
    try dsimp only at hf
    refine pu_calli (va_runV (As := [.int r9]) (rest := []) ⟨hx, hb, hml, hown, hts⟩ (cx_find l dC dI cI cQ t1 t2 bs top xo la ko kc nt lo lc hg c md cu kp kcu nf r9 r11 e12 s.heap.size) (cwV 1 hts (gs_V lk_80 lk_82 lk_83 lk_37 lk_81) rfl rfl rfl (by decide +kernel) ⟨Nat.le_of_ble_eq_true rfl, Nat.le_of_ble_eq_true rfl⟩) (pr_V gk_W (va_recv hG.1 hP (q0 := 0) rfl rfl) ⟨hG, hP⟩) rfl rfl hl.1 rfl (lv_room (Nat.le_of_ble_eq_true rfl)) dX2_refusalOfTarget_16 ⟨Nat.zero_le _, Nat.zero_le _⟩) ?_
    obtain ⟨r13, e14, hf⟩ := ob_s hf
    try dsimp only at hf
    refine pu_calli (va_runS (As := [.int r11]) (rest := []) ⟨hx, hb, hml, hown, hts⟩ (cx_isDirectory l dC dI cI cQ t1 t2 bs r11 r13 e14 s.heap.size) (va_cwS 1 hts (gs_S lk_61 lk_63 lk_37 lk_62) rfl rfl rfl (by decide +kernel) ⟨Nat.le_of_ble_eq_true rfl, Nat.le_of_ble_eq_true rfl⟩) (pr_S gk_W ⟨hG, pz_0⟩) rfl rfl hl.1 rfl (lv_room (Nat.le_of_ble_eq_true rfl)) dX2_refusalOfTarget_19 ⟨Nat.zero_le _, Nat.zero_le _⟩) ?_
    refine lv_if_ne (tgt := 28) hx hb dX2_refusalOfTarget_22 (by decide) (fun hc => ?_) (fun hc => ?_)
    · rw [if_neg hc] at hf
      refine lv_aload_n hx hb dX2_refusalOfTarget_28 rfl (lv_at hl 0 rfl) ?_
      refine lv_iload_n hx hb dX2_refusalOfTarget_29 rfl (lv_at hl 1 rfl) ?_
      obtain ⟨r15, e16, hf⟩ := ob_s hf
      try dsimp only at hf
      refine pu_calli (va_runV (As := [.int x1]) (rest := []) ⟨hx, hb, hml, hown, hts⟩ (cx_find l dC dI cI cQ t1 t2 bs top xo la ko kc nt lo lc hg c md cu kp kcu nf x1 r15 e16 s.heap.size) (cwV 1 hts (gs_V lk_80 lk_82 lk_83 lk_37 lk_81) rfl rfl rfl (by decide +kernel) ⟨Nat.le_of_ble_eq_true rfl, Nat.le_of_ble_eq_true rfl⟩) (pr_V gk_W (va_recv hG.1 hP (q0 := 0) rfl rfl) ⟨hG, hP⟩) rfl rfl hl.1 rfl (lv_room (Nat.le_of_ble_eq_true rfl)) dX2_refusalOfTarget_30 ⟨Nat.zero_le _, Nat.zero_le _⟩) ?_
      refine lv_istore_n (lv' := [(3, .int r15), (0, .ref xo), (1, .int x1), (2, .int x2)]) hx hb dX2_refusalOfTarget_33 rfl hl (by decide) rfl (fun ls hl => ?_)
      refine lv_aload_n hx hb dX2_refusalOfTarget_34 rfl (lv_at hl 1 rfl) ?_
      refine lv_iload_n hx hb dX2_refusalOfTarget_35 rfl (lv_at hl 3 rfl) ?_
      obtain ⟨r17, e18, hf⟩ := ob_s hf
      try dsimp only at hf
      refine pu_calli (va_runV (As := [.int x2]) (rest := []) ⟨hx, hb, hml, hown, hts⟩ (cx_find l dC dI cI cQ t1 t2 bs top xo la ko kc nt lo lc hg c md cu kp kcu nf x2 r17 e18 s.heap.size) (cwV 1 hts (gs_V lk_80 lk_82 lk_83 lk_37 lk_81) rfl rfl rfl (by decide +kernel) ⟨Nat.le_of_ble_eq_true rfl, Nat.le_of_ble_eq_true rfl⟩) (pr_V gk_W (va_recv hG.1 hP (q0 := 0) rfl rfl) ⟨hG, hP⟩) rfl rfl hl.1 rfl (lv_room (Nat.le_of_ble_eq_true rfl)) dX2_refusalOfTarget_36 ⟨Nat.zero_le _, Nat.zero_le _⟩) ?_
      refine lv_istore (lv' := [(4, .int r17), (3, .int r15), (0, .ref xo), (1, .int x1), (2, .int x2)]) hx hb dX2_refusalOfTarget_39 hl (by decide) rfl (fun ls hl => ?_)
      refine lv_iload hx hb dX2_refusalOfTarget_41 (lv_at hl 0 rfl) ?_
      obtain ⟨r19, e20, hf⟩ := ob_s hf
      try dsimp only at hf
      refine pu_calli (va_runS (As := [.int r17]) (rest := []) ⟨hx, hb, hml, hown, hts⟩ (cx_isDirectory l dC dI cI cQ t1 t2 bs r17 r19 e20 s.heap.size) (va_cwS 1 hts (gs_S lk_61 lk_63 lk_37 lk_62) rfl rfl rfl (by decide +kernel) ⟨Nat.le_of_ble_eq_true rfl, Nat.le_of_ble_eq_true rfl⟩) (pr_S gk_W ⟨hG, pz_0⟩) rfl rfl hl.1 rfl (lv_room (Nat.le_of_ble_eq_true rfl)) dX2_refusalOfTarget_43 ⟨Nat.zero_le _, Nat.zero_le _⟩) ?_
      refine lv_if_eq (tgt := 59) hx hb dX2_refusalOfTarget_46 (by decide) (fun hc => ?_) (fun hc => ?_)
      · rw [if_pos hc] at hf
        exact B59 r15 r17 ls hf (lv_sub hl [2, 3, 4, 1, 0] rfl)
      · rw [if_neg hc] at hf
        refine lv_iload_n hx hb dX2_refusalOfTarget_49 rfl (lv_at hl 1 rfl) ?_
        obtain ⟨r21, e22, hf⟩ := ob_s hf
        try dsimp only at hf
        refine pu_calli (va_runS (As := [.int r15]) (rest := []) ⟨hx, hb, hml, hown, hts⟩ (cx_isFile l dC dI cI cQ t1 t2 bs r15 r21 e22 s.heap.size) (va_cwS 1 hts (gs_S lk_84 lk_86 lk_37 lk_85) rfl rfl rfl (by decide +kernel) ⟨Nat.le_of_ble_eq_true rfl, Nat.le_of_ble_eq_true rfl⟩) (pr_S gk_W ⟨hG, pz_0⟩) rfl rfl hl.1 rfl (lv_room (Nat.le_of_ble_eq_true rfl)) dX2_refusalOfTarget_50 ⟨Nat.zero_le _, Nat.zero_le _⟩) ?_
        refine lv_if_eq (tgt := 59) hx hb dX2_refusalOfTarget_53 (by decide) (fun hc => ?_) (fun hc => ?_)
        · rw [if_pos hc] at hf
          exact B59 r15 r17 ls hf (lv_sub hl [2, 3, 4, 1, 0] rfl)
        · rw [if_neg hc] at hf
          refine lv_bipush (v := (-6)) hx hb dX2_refusalOfTarget_56 (by decide) ?_
          obtain rfl := Option.some.inj hf
          rw [hQ]
          exact pu_iret hx hb hr (vp_nar_int _) hsz dX2_refusalOfTarget_58 hlocks
    · rw [if_pos hc] at hf
      refine lv_bipush (v := (-4)) hx hb dX2_refusalOfTarget_25 (by decide) ?_
      obtain rfl := Option.some.inj hf
      rw [hQ]
      exact pu_iret hx hb hr (vp_nar_int _) hsz dX2_refusalOfTarget_27 hlocks
  · rw [if_neg hc] at hf
    refine lv_bipush (v := (-9)) hx hb dX2_refusalOfTarget_8 (by decide) ?_
    obtain rfl := Option.some.inj hf
    rw [hQ]
    exact pu_iret hx hb hr (vp_nar_int _) hsz dX2_refusalOfTarget_10 hlocks
set_option maxHeartbeats 4000000 in
set_option maxRecDepth 100000 in
theorem cx_cellOfObject (l : Launch) (dC : Nat → ClassId) (dI : Nat → Nat → Nat) (cI cQ : ClassId) (t1 t2 bs : Nat) (top xo la ko kc nt : Nat) (lo lc : Nat → Nat) (hg : gd_A bs (ad_X top xo la ko kc nt lo lc)) (c : Nat → ls_T) (md : Int32) (cu : Int32) (kp : ls_T) (kcu : Int32) (nf : Nat → Int32) (x1 : Int32) (v0 : Int32) (h : fx_cellOfObject top c x1 = some v0) : pu_M l yX2_cellOfObject wsX2_cellOfObject rm_3_69 [.ref xo, .int x1] (gk_G dC dI cI cQ t1 t2 bs (wx_X cI cQ top xo la ko kc nt lo lc c md cu kp kcu nf)) v0 := by
  intro sz
  refine Met.ofW (cc := cX2_cellOfObject) (maxL := 3) (ret := (some .int)) (by decide) rfl ?_
  intro p e s m args below meth c_ s₁ B hml hv
  obtain ⟨rfl, hsz, hG, hP⟩ := hv
  have hx := B.exec
  have hb := B.bytes
  have hr := B.returns
  have hts := atoms_spec (ws := wsX2_cellOfObject) B.pre
  have hown : s.vm.findClass RX2 = some m.cls := findClass_of_methodNamed B.named
  have hlocks := B.notSynchronized
  have hiX2 : ∀ w ∈ u_ws RX2 TX2 8, w ∈ wsX2_cellOfObject := fun w hw => tw_in (usX2 w hw)
  have hl := lv_entry ([.ref xo, .int x1]) (n := 3) (Nat.le_of_ble_eq_true rfl)
  rw [lg_entry_eq]
  generalize (lg_sl ([.ref xo, .int x1]) ++ List.replicate (3 - (lg_sl ([.ref xo, .int x1])).length) Slot.unset).toArray = ls at hl ⊢
  have hl : lv_has ls 3 [(0, .ref xo), (1, .int x1)] := hl
  refine nm_Q (fun Q hQ => ?_)
  unfold fx_cellOfObject at h
  have hf := h
  refine lv_iload_n hx hb dX2_cellOfObject_0 rfl (lv_at hl 1 rfl) ?_
  refine lv_sipush (v := 781) hx hb dX2_cellOfObject_1 (by decide) ?_
  refine lv_icmp_lt (tgt := 9) hx hb dX2_cellOfObject_4 (by decide) (fun hc => ?_) (fun hc => ?_)
  · rw [if_pos hc] at hf
    refine lv_aload_n hx hb dX2_cellOfObject_9 rfl (lv_at hl 0 rfl) ?_
    refine lv_iload_n hx hb dX2_cellOfObject_10 rfl (lv_at hl 1 rfl) ?_
    obtain ⟨r1, e2, hf⟩ := ob_s hf
    try dsimp only at hf
    refine pu_calli (va_runV (As := [.int x1]) (rest := []) ⟨hx, hb, hml, hown, hts⟩ (cx_find l dC dI cI cQ t1 t2 bs top xo la ko kc nt lo lc hg c md cu kp kcu nf x1 r1 e2 s.heap.size) (cwV 1 hts (gs_V lk_80 lk_82 lk_83 lk_37 lk_81) rfl rfl rfl (by decide +kernel) ⟨Nat.le_of_ble_eq_true rfl, Nat.le_of_ble_eq_true rfl⟩) (pr_V gk_W (va_recv hG.1 hP (q0 := 0) rfl rfl) ⟨hG, hP⟩) rfl rfl hl.1 rfl (lv_room (Nat.le_of_ble_eq_true rfl)) dX2_cellOfObject_11 ⟨Nat.zero_le _, Nat.zero_le _⟩) ?_
    refine lv_istore_n (lv' := [(2, .int r1), (0, .ref xo), (1, .int x1)]) hx hb dX2_cellOfObject_14 rfl hl (by decide) rfl (fun ls hl => ?_)
    refine lv_iload_n hx hb dX2_cellOfObject_15 rfl (lv_at hl 0 rfl) ?_
    obtain ⟨r3, e4, hf⟩ := ob_s hf
    try dsimp only at hf
    refine pu_calli (va_runS (As := [.int r1]) (rest := []) ⟨hx, hb, hml, hown, hts⟩ (cx_isFile l dC dI cI cQ t1 t2 bs r1 r3 e4 s.heap.size) (va_cwS 1 hts (gs_S lk_84 lk_86 lk_37 lk_85) rfl rfl rfl (by decide +kernel) ⟨Nat.le_of_ble_eq_true rfl, Nat.le_of_ble_eq_true rfl⟩) (pr_S gk_W ⟨hG, pz_0⟩) rfl rfl hl.1 rfl (lv_room (Nat.le_of_ble_eq_true rfl)) dX2_cellOfObject_16 ⟨Nat.zero_le _, Nat.zero_le _⟩) ?_
    refine lv_if_eq (tgt := 39) hx hb dX2_cellOfObject_19 (by decide) (fun hc => ?_) (fun hc => ?_)
    · rw [if_pos hc] at hf
      refine lv_iload_n hx hb dX2_cellOfObject_39 rfl (lv_at hl 0 rfl) ?_
      obtain ⟨r5, e6, hf⟩ := ob_s hf
      try dsimp only at hf
      refine pu_calli (va_runS (As := [.int r1]) (rest := []) ⟨hx, hb, hml, hown, hts⟩ (cx_isDirectory l dC dI cI cQ t1 t2 bs r1 r5 e6 s.heap.size) (va_cwS 1 hts (gs_S lk_61 lk_63 lk_37 lk_62) rfl rfl rfl (by decide +kernel) ⟨Nat.le_of_ble_eq_true rfl, Nat.le_of_ble_eq_true rfl⟩) (pr_S gk_W ⟨hG, pz_0⟩) rfl rfl hl.1 rfl (lv_room (Nat.le_of_ble_eq_true rfl)) dX2_cellOfObject_40 ⟨Nat.zero_le _, Nat.zero_le _⟩) ?_
      refine lv_if_eq (tgt := 50) hx hb dX2_cellOfObject_43 (by decide) (fun hc => ?_) (fun hc => ?_)
      · rw [if_pos hc] at hf
        refine lv_iconst (v := 0) hx hb dX2_cellOfObject_50 (by decide) ?_
        obtain rfl := Option.some.inj hf
        rw [hQ]
        exact pu_iret hx hb hr (vp_nar_int _) hsz dX2_cellOfObject_51 hlocks
      · rw [if_neg hc] at hf
        refine lv_iconst (v := 2) hx hb dX2_cellOfObject_46 (by decide) ?_
        refine lv_goto (tgt := 51) hx hb dX2_cellOfObject_47 (by decide) ?_
        obtain rfl := Option.some.inj hf
        rw [hQ]
        exact pu_iret hx hb hr (vp_nar_int _) hsz dX2_cellOfObject_51 hlocks
    · rw [if_neg hc] at hf
      refine lv_aload_n hx hb dX2_cellOfObject_22 rfl (lv_at hl 1 rfl) ?_
      refine va_get (D := (dC, dI)) (ci := 1) (v := .ref la) (C := RX2) (T := TX2) (N := 8) hx hb hts hiX2 hown hG.1 hP 0 rfl rfl 1 (by decide) (hts _ (tw_in lk_17)) (fun _ h9 => h9) rfl dX2_cellOfObject_23 ?_
      refine lv_iload_n hx hb dX2_cellOfObject_26 rfl (lv_at hl 0 rfl) ?_
      obtain ⟨r7, e8, hf⟩ := ob_s hf
      try dsimp only at hf
      refine pu_calli (va_runS (As := [.int r1]) (rest := [.ref la]) ⟨hx, hb, hml, hown, hts⟩ (cx_layerOfFile l dC dI cI cQ t1 t2 bs r1 r7 e8 s.heap.size) (va_cwS 1 hts (gs_S lk_87 lk_89 lk_37 lk_88) rfl rfl rfl (by decide +kernel) ⟨Nat.le_of_ble_eq_true rfl, Nat.le_of_ble_eq_true rfl⟩) (pr_S gk_W ⟨hG, pz_0⟩) rfl rfl hl.1 rfl (lv_room (Nat.le_of_ble_eq_true rfl)) dX2_cellOfObject_27 ⟨Nat.zero_le _, Nat.zero_le _⟩) ?_
      obtain ⟨hq, hf⟩ := ck_s hf
      have hi9 : r7.toNatClampNeg < top + 1 := Nat.not_le.mp (fun z => hq (Or.inr z))
      refine va_aldq hx hb hG.1 hP 1 1 rfl rfl hq dX2_cellOfObject_30 ?_
      refine W.eq (g2 := F0 m 31 ls [.ref (lo r7.toNatClampNeg)]) rfl ?_
      refine lv_iload_n hx hb dX2_cellOfObject_31 rfl (lv_at hl 2 rfl) ?_
      obtain ⟨r10, e11, hf⟩ := ob_s hf
      try dsimp only at hf
      refine pu_calli (va_runV (As := [.int x1]) (rest := []) ⟨hx, hb, hml, hown, hts⟩ (cy_valueAt l dC dI cI cQ t1 t2 bs (lo r7.toNatClampNeg) (lc r7.toNatClampNeg) (gx_L hg hi9) ((c r7.toNatClampNeg).1) ((c r7.toNatClampNeg).2.1) ((c r7.toNatClampNeg).2.2) x1 r10 e11 s.heap.size) (cwV 1 hts (gs_V lk_90 lk_92 lk_93 lk_12 lk_91) rfl rfl rfl (by decide +kernel) ⟨Nat.le_of_ble_eq_true rfl, Nat.le_of_ble_eq_true rfl⟩) (pr_V gk_W (va_recv hG.1 (px_L hP hi9) (q0 := 0) rfl rfl) ⟨hG, (px_L hP hi9)⟩) rfl rfl hl.1 rfl (lv_room (Nat.le_of_ble_eq_true rfl)) dX2_cellOfObject_32 ⟨Nat.zero_le _, Nat.zero_le _⟩) ?_
      obtain ⟨r12, e13, hf⟩ := ob_s hf
      try dsimp only at hf
      refine pu_calli (va_runS (As := [.int r10]) (rest := []) ⟨hx, hb, hml, hown, hts⟩ (cy_fileCell l dC dI cI cQ t1 t2 bs r10 r12 e13 s.heap.size) (va_cwS 1 hts (gs_S lk_41 lk_43 lk_12 lk_42) rfl rfl rfl (by decide +kernel) ⟨Nat.le_of_ble_eq_true rfl, Nat.le_of_ble_eq_true rfl⟩) (pr_S gk_W ⟨hG, pz_0⟩) rfl rfl hl.1 rfl (lv_room (Nat.le_of_ble_eq_true rfl)) dX2_cellOfObject_35 ⟨Nat.zero_le _, Nat.zero_le _⟩) ?_
      obtain rfl := Option.some.inj hf
      rw [hQ]
      exact pu_iret hx hb hr (vp_nar_int _) hsz dX2_cellOfObject_38 hlocks
  · rw [if_neg hc] at hf
    refine lv_iconst (v := 0) hx hb dX2_cellOfObject_7 (by decide) ?_
    obtain rfl := Option.some.inj hf
    rw [hQ]
    exact pu_iret hx hb hr (vp_nar_int _) hsz dX2_cellOfObject_8 hlocks
set_option maxHeartbeats 4000000 in
set_option maxRecDepth 100000 in
theorem cx_noteFrom (l : Launch) (dC : Nat → ClassId) (dI : Nat → Nat → Nat) (cI cQ : ClassId) (t1 t2 bs : Nat) (top xo la ko kc nt : Nat) (lo lc : Nat → Nat) (hg : gd_A bs (ad_X top xo la ko kc nt lo lc)) (c : Nat → ls_T) (md : Int32) (cu : Int32) (kp : ls_T) (kcu : Int32) (nf : Nat → Int32) (x1 : Int32) (v0 : (Nat → Int32)) (h : fx_noteFrom top c nf x1 = some v0) : im_V l yX2_noteFrom wsX2_noteFrom rm_4_91 [.ref xo, .int x1] (gk_G dC dI cI cQ t1 t2 bs (wx_X cI cQ top xo la ko kc nt lo lc c md cu kp kcu nf)) (va_P (dC, dI) vwCl (wx_X cI cQ top xo la ko kc nt lo lc c md cu kp kcu v0)) (in_A (ad_X top xo la ko kc nt lo lc)) := by
  intro sz
  refine Met.ofW (cc := cX2_noteFrom) (maxL := 4) (ret := none) (by decide) rfl ?_
  intro p e s m args below meth c_ s₁ B hml hv
  obtain ⟨rfl, hsz, hG, hP⟩ := hv
  have hx := B.exec
  have hb := B.bytes
  have hr := B.returns
  have hts := atoms_spec (ws := wsX2_noteFrom) B.pre
  have hown : s.vm.findClass RX2 = some m.cls := findClass_of_methodNamed B.named
  have hlocks := B.notSynchronized
  have hiX2 : ∀ w ∈ u_ws RX2 TX2 8, w ∈ wsX2_noteFrom := fun w hw => tw_in (usX2 w hw)
  have hl := lv_entry ([.ref xo, .int x1]) (n := 4) (Nat.le_of_ble_eq_true rfl)
  rw [lg_entry_eq]
  generalize (lg_sl ([.ref xo, .int x1]) ++ List.replicate (4 - (lg_sl ([.ref xo, .int x1])).length) Slot.unset).toArray = ls at hl ⊢
  have hl : lv_has ls 4 [(0, .ref xo), (1, .int x1)] := hl
  refine nm_Q (fun Q hQ => ?_)
  have B63 : ∀ (k13 : Int32 → (Nat → Int32) → Option ((Nat → Int32))) (hk13 : ∀ (x2 : Int32) (nf : Nat → Int32), ∀ (H : Heap) (locs : List Loc), va_P (dC, dI) vwCl (wx_X cI cQ top xo la ko kc nt lo lc c md cu kp kcu nf) H → va_S (in_A (ad_X top xo la ko kc nt lo lc)) s.heap H locs → ∀ ls : Array Slot, k13 x2 nf = some v0 → lv_has ls 4 [(0, .ref xo), (1, .int x1), (2, .int x2)] → W p l e (headSpec wsX2_noteFrom rm_4_91).room s m ([.ref xo, .int x1] : List Value).toArray below meth c_ H locs 0 0 Q (F0 m 13 ls [])), ∀ (x2 : Int32) (x3 : Int32) (z0 : Int32) (z1 : Int32) (nf : Nat → Int32), ∀ (H : Heap) (locs : List Loc), va_P (dC, dI) vwCl (wx_X cI cQ top xo la ko kc nt lo lc c md cu kp kcu nf) H → va_S (in_A (ad_X top xo la ko kc nt lo lc)) s.heap H locs → ∀ ls : Array Slot, fx_noteFrom_63 top c x1 k13 x2 x3 z0 z1 nf = some v0 → lv_has ls 4 [(0, .ref xo), (1, .int x1), (2, .int x2), (3, .int x3)] → W p l e (headSpec wsX2_noteFrom rm_4_91).room s m ([.ref xo, .int x1] : List Value).toArray below meth c_ H locs 0 0 Q (F0 m 63 ls [.int z0, .int z1, .ref nt]) := by
    intro k13 hk13
    intro x2 x3 z0 z1 nf H locs hP hS ls hf hl
    unfold fx_noteFrom_63 at hf
    obtain ⟨hq, hf⟩ := ck_s hf
    refine va_iast hx hb hG.1 hP (dd_A hg mx_X) hS 4 0 rfl rfl hq dX2_noteFrom_63 (fun H locs hP _ hS => ?_)
    have hP : va_P (dC, dI) vwCl (wx_X cI cQ top xo la ko kc nt lo lc c md cu kp kcu (upd nf z1.toNatClampNeg z0)) H := hP
    refine lv_iinc (k := 2) (v := x2 + 1) (lv' := [(2, .int (x2 + 1)), (0, .ref xo), (1, .int x1), (3, .int x3)]) hx hb dX2_noteFrom_64 hl rfl (by rfl) (by decide) rfl (fun ls hl => ?_)
    refine lv_goto (tgt := 13) hx hb dX2_noteFrom_67 (by decide) ?_
    exact hk13 (x2 + 1) (upd nf z1.toNatClampNeg z0) H locs hP hS ls hf (lv_sub hl [1, 2, 0] rfl)
  have B40 : ∀ (k13 : Int32 → (Nat → Int32) → Option ((Nat → Int32))) (hk13 : ∀ (x2 : Int32) (nf : Nat → Int32), ∀ (H : Heap) (locs : List Loc), va_P (dC, dI) vwCl (wx_X cI cQ top xo la ko kc nt lo lc c md cu kp kcu nf) H → va_S (in_A (ad_X top xo la ko kc nt lo lc)) s.heap H locs → ∀ ls : Array Slot, k13 x2 nf = some v0 → lv_has ls 4 [(0, .ref xo), (1, .int x1), (2, .int x2)] → W p l e (headSpec wsX2_noteFrom rm_4_91).room s m ([.ref xo, .int x1] : List Value).toArray below meth c_ H locs 0 0 Q (F0 m 13 ls [])), ∀ (x2 : Int32) (z0 : Int32) (nf : Nat → Int32), ∀ (H : Heap) (locs : List Loc), va_P (dC, dI) vwCl (wx_X cI cQ top xo la ko kc nt lo lc c md cu kp kcu nf) H → va_S (in_A (ad_X top xo la ko kc nt lo lc)) s.heap H locs → ∀ ls : Array Slot, fx_noteFrom_40 top c x1 k13 x2 z0 nf = some v0 → lv_has ls 4 [(0, .ref xo), (1, .int x1), (2, .int x2)] → W p l e (headSpec wsX2_noteFrom rm_4_91).room s m ([.ref xo, .int x1] : List Value).toArray below meth c_ H locs 0 0 Q (F0 m 40 ls [.int z0]) := by
    intro k13 hk13
    intro x2 z0 nf H locs hP hS ls hf hl
    unfold fx_noteFrom_40 at hf
    refine lv_istore_n (lv' := [(3, .int z0), (0, .ref xo), (1, .int x1), (2, .int x2)]) hx hb dX2_noteFrom_40 rfl hl (by decide) rfl (fun ls hl => ?_)
    refine lv_aload_n hx hb dX2_noteFrom_41 rfl (lv_at hl 1 rfl) ?_
    refine va_get (D := (dC, dI)) (ci := 1) (v := .ref nt) (C := RX2) (T := TX2) (N := 8) hx hb hts hiX2 hown hG.1 hP 0 rfl rfl 7 (by decide) (hts _ (tw_in lk_165)) (fun _ h9 => h9) rfl dX2_noteFrom_42 ?_
    refine lv_iload_n hx hb dX2_noteFrom_45 rfl (lv_at hl 3 rfl) ?_
    refine lv_iload_n hx hb dX2_noteFrom_46 rfl (lv_at hl 0 rfl) ?_
    refine lv_if_eq (tgt := 62) hx hb dX2_noteFrom_47 (by decide) (fun hc => ?_) (fun hc => ?_)
    · rw [if_pos hc] at hf
      refine lv_iconst (v := 0) hx hb dX2_noteFrom_62 (by decide) ?_
      exact B63 k13 hk13 x2 z0 0 x2 nf H locs hP hS ls hf (lv_sub hl [1, 2, 3, 0] rfl)
    · rw [if_neg hc] at hf
      refine lv_aload_n hx hb dX2_noteFrom_50 rfl (lv_at hl 1 rfl) ?_
      refine lv_iload_n hx hb dX2_noteFrom_51 rfl (lv_at hl 2 rfl) ?_
      refine lv_iload_n hx hb dX2_noteFrom_52 rfl (lv_at hl 3 rfl) ?_
      obtain ⟨r1, e2, hf⟩ := ob_s hf
      try dsimp only at hf
      refine pu_calli (va_runS (As := [.int x1, .int x2]) (rest := [.ref xo, .int x2, .ref nt]) ⟨hx, hb, hml, hown, hts⟩ (cp_below l dC dI cI cQ t1 t2 bs x1 x2 r1 e2 H.size) (va_cwS 2 hts (gs_S lk_166 lk_168 lk_1 lk_167) rfl rfl rfl (by decide +kernel) ⟨Nat.le_of_ble_eq_true rfl, Nat.le_of_ble_eq_true rfl⟩) (pr_S gk_W ⟨(gk_S hG hS (bb_A hg)), pz_0⟩) rfl rfl hl.1 rfl (lv_room (Nat.le_of_ble_eq_true rfl)) dX2_noteFrom_53 ⟨Nat.zero_le _, Nat.zero_le _⟩) ?_
      obtain ⟨r3, e4, hf⟩ := ob_s hf
      try dsimp only at hf
      refine pu_calli (va_runV (As := [.int r1]) (rest := [.int x2, .ref nt]) ⟨hx, hb, hml, hown, hts⟩ (cx_cellOfObject l dC dI cI cQ t1 t2 bs top xo la ko kc nt lo lc hg c md cu kp kcu nf r1 r3 e4 H.size) (cwV 1 hts (gs_V lk_169 lk_171 lk_172 lk_37 lk_170) rfl rfl rfl (by decide +kernel) ⟨Nat.le_of_ble_eq_true rfl, Nat.le_of_ble_eq_true rfl⟩) (pr_V gk_W (va_recv hG.1 hP (q0 := 0) rfl rfl) ⟨(gk_S hG hS (bb_A hg)), hP⟩) rfl rfl hl.1 rfl (lv_room (Nat.le_of_ble_eq_true rfl)) dX2_noteFrom_56 ⟨Nat.zero_le _, Nat.zero_le _⟩) ?_
      refine lv_goto (tgt := 63) hx hb dX2_noteFrom_59 (by decide) ?_
      exact B63 k13 hk13 x2 z0 r3 x2 nf H locs hP hS ls hf (lv_sub hl [1, 2, 3, 0] rfl)
  have B13 : ∀ n : Nat, ∀ (x2 : Int32) (nf : Nat → Int32), ∀ (H : Heap) (locs : List Loc), va_P (dC, dI) vwCl (wx_X cI cQ top xo la ko kc nt lo lc c md cu kp kcu nf) H → va_S (in_A (ad_X top xo la ko kc nt lo lc)) s.heap H locs → ∀ ls : Array Slot, fx_noteFrom_13 top c x1 n x2 nf = some v0 → lv_has ls 4 [(0, .ref xo), (1, .int x1), (2, .int x2)] → W p l e (headSpec wsX2_noteFrom rm_4_91).room s m ([.ref xo, .int x1] : List Value).toArray below meth c_ H locs 0 0 Q (F0 m 13 ls []) := by
    intro n
    induction n with
    | zero => 
      intro x2 nf H locs hP hS ls hf hl
      exact nomatch (show (none : Option ((Nat → Int32))) = some v0 from hf)
    | succ n ih =>
      intro x2 nf H locs hP hS ls hf hl
      rw [fx_noteFrom_13.eq_2] at hf
      try dsimp only at hf
      refine lv_iload_n hx hb dX2_noteFrom_13 rfl (lv_at hl 2 rfl) ?_
      refine lv_aload_n hx hb dX2_noteFrom_14 rfl (lv_at hl 0 rfl) ?_
      refine va_get (D := (dC, dI)) (ci := 1) (v := .ref nt) (C := RX2) (T := TX2) (N := 8) hx hb hts hiX2 hown hG.1 hP 0 rfl rfl 7 (by decide) (hts _ (tw_in lk_165)) (fun _ h9 => h9) rfl dX2_noteFrom_15 ?_
      refine va_alen (v := 156) hx hb hG.1 hP 4 0 rfl rfl rfl dX2_noteFrom_18 ?_
      refine lv_icmp_ge (tgt := 70) hx hb dX2_noteFrom_19 (by decide) (fun hc => ?_) (fun hc => ?_)
      · rw [if_pos hc] at hf
        obtain rfl := Option.some.inj hf
        rw [hQ]
        exact im_vret hx hb hr hS hP dX2_noteFrom_70 hlocks
      · rw [if_neg hc] at hf
        refine lv_aload_n hx hb dX2_noteFrom_22 rfl (lv_at hl 0 rfl) ?_
        refine va_get (D := (dC, dI)) (ci := 1) (v := .ref nt) (C := RX2) (T := TX2) (N := 8) hx hb hts hiX2 hown hG.1 hP 0 rfl rfl 7 (by decide) (hts _ (tw_in lk_165)) (fun _ h9 => h9) rfl dX2_noteFrom_23 ?_
        refine lv_iload_n hx hb dX2_noteFrom_26 rfl (lv_at hl 2 rfl) ?_
        obtain ⟨r5, e6, hf⟩ := ob_s hf
        try dsimp only at hf
        refine pu_calli (va_runS (As := [.int x2]) (rest := [.ref nt]) ⟨hx, hb, hml, hown, hts⟩ (cp_parent l dC dI cI cQ t1 t2 bs x2 r5 e6 H.size) (va_cwS 1 hts (gs_S lk_29 lk_31 lk_1 lk_30) rfl rfl rfl (by decide +kernel) ⟨Nat.le_of_ble_eq_true rfl, Nat.le_of_ble_eq_true rfl⟩) (pr_S gk_W ⟨(gk_S hG hS (bb_A hg)), pz_0⟩) rfl rfl hl.1 rfl (lv_room (Nat.le_of_ble_eq_true rfl)) dX2_noteFrom_27 ⟨Nat.zero_le _, Nat.zero_le _⟩) ?_
        obtain ⟨hq, hf⟩ := ck_s hf
        refine va_iald hx hb hG.1 hP 4 0 rfl rfl hq dX2_noteFrom_30 ?_
        refine lv_iconst (v := 2) hx hb dX2_noteFrom_31 (by decide) ?_
        refine lv_icmp_ne (tgt := 39) hx hb dX2_noteFrom_32 (by decide) (fun hc => ?_) (fun hc => ?_)
        · rw [if_neg hc] at hf
          refine lv_iconst (v := 0) hx hb dX2_noteFrom_39 (by decide) ?_
          exact B40 (fx_noteFrom_13 top c x1 n) ih x2 0 nf H locs hP hS ls hf (lv_sub hl [0, 1, 2] rfl)
        · rw [if_pos hc] at hf
          refine lv_iconst (v := 1) hx hb dX2_noteFrom_35 (by decide) ?_
          refine lv_goto (tgt := 40) hx hb dX2_noteFrom_36 (by decide) ?_
          exact B40 (fx_noteFrom_13 top c x1 n) ih x2 1 nf H locs hP hS ls hf (lv_sub hl [0, 1, 2] rfl)
  unfold fx_noteFrom at h
  have hgo : ∀ (H : Heap) (locs : List Loc), va_P (dC, dI) vwCl (wx_X cI cQ top xo la ko kc nt lo lc c md cu kp kcu nf) H → va_S (in_A (ad_X top xo la ko kc nt lo lc)) s.heap H locs → W p l e (headSpec wsX2_noteFrom rm_4_91).room s m ([.ref xo, .int x1] : List Value).toArray below meth c_ H locs 0 0 Q (F0 m 0 ls []) := by
    intro H locs hP hS
    have hf := h
    refine lv_aload_n hx hb dX2_noteFrom_0 rfl (lv_at hl 0 rfl) ?_
    refine va_get (D := (dC, dI)) (ci := 1) (v := .ref nt) (C := RX2) (T := TX2) (N := 8) hx hb hts hiX2 hown hG.1 hP 0 rfl rfl 7 (by decide) (hts _ (tw_in lk_165)) (fun _ h9 => h9) rfl dX2_noteFrom_1 ?_
    refine lv_iconst (v := 0) hx hb dX2_noteFrom_4 (by decide) ?_
    refine lv_aload_n hx hb dX2_noteFrom_5 rfl (lv_at hl 0 rfl) ?_
    refine lv_iload_n hx hb dX2_noteFrom_6 rfl (lv_at hl 1 rfl) ?_
    obtain ⟨r7, e8, hf⟩ := ob_s hf
    try dsimp only at hf
    refine pu_calli (va_runV (As := [.int x1]) (rest := [.int 0, .ref nt]) ⟨hx, hb, hml, hown, hts⟩ (cx_cellOfObject l dC dI cI cQ t1 t2 bs top xo la ko kc nt lo lc hg c md cu kp kcu nf x1 r7 e8 H.size) (cwV 1 hts (gs_V lk_169 lk_171 lk_172 lk_37 lk_170) rfl rfl rfl (by decide +kernel) ⟨Nat.le_of_ble_eq_true rfl, Nat.le_of_ble_eq_true rfl⟩) (pr_V gk_W (va_recv hG.1 hP (q0 := 0) rfl rfl) ⟨(gk_S hG hS (bb_A hg)), hP⟩) rfl rfl hl.1 rfl (lv_room (Nat.le_of_ble_eq_true rfl)) dX2_noteFrom_7 ⟨Nat.zero_le _, Nat.zero_le _⟩) ?_
    obtain ⟨hq, hf⟩ := ck_s hf
    refine va_iast hx hb hG.1 hP (dd_A hg mx_X) hS 4 0 rfl rfl hq dX2_noteFrom_10 (fun H locs hP _ hS => ?_)
    have hP : va_P (dC, dI) vwCl (wx_X cI cQ top xo la ko kc nt lo lc c md cu kp kcu (upd nf ((0 : Int32).toNatClampNeg) r7)) H := hP
    refine lv_iconst (v := 1) hx hb dX2_noteFrom_11 (by decide) ?_
    refine lv_istore_n (lv' := [(2, .int 1), (0, .ref xo), (1, .int x1)]) hx hb dX2_noteFrom_12 rfl hl (by decide) rfl (fun ls hl => ?_)
    exact B13 fu_n 1 (upd nf ((0 : Int32).toNatClampNeg) r7) H locs hP hS ls hf (lv_sub hl [1, 2, 0] rfl)
  exact hgo s.heap [] hP va_S.rf
set_option maxHeartbeats 4000000 in
set_option maxRecDepth 100000 in
theorem cx_depthOfNoted (l : Launch) (dC : Nat → ClassId) (dI : Nat → Nat → Nat) (cI cQ : ClassId) (t1 t2 bs : Nat) (top xo la ko kc nt : Nat) (lo lc : Nat → Nat) (hg : gd_A bs (ad_X top xo la ko kc nt lo lc)) (c : Nat → ls_T) (md : Int32) (cu : Int32) (kp : ls_T) (kcu : Int32) (nf : Nat → Int32) (v0 : Int32) (h : fx_depthOfNoted nf = some v0) : pu_M l yX2_depthOfNoted wsX2_depthOfNoted rm_1_21 [.ref xo] (gk_G dC dI cI cQ t1 t2 bs (wx_X cI cQ top xo la ko kc nt lo lc c md cu kp kcu nf)) v0 := by
  intro sz
  refine Met.ofW (cc := cX2_depthOfNoted) (maxL := 3) (ret := (some .int)) (by decide) rfl ?_
  intro p e s m args below meth c_ s₁ B hml hv
  obtain ⟨rfl, hsz, hG, hP⟩ := hv
  have hx := B.exec
  have hb := B.bytes
  have hr := B.returns
  have hts := atoms_spec (ws := wsX2_depthOfNoted) B.pre
  have hown : s.vm.findClass RX2 = some m.cls := findClass_of_methodNamed B.named
  have hlocks := B.notSynchronized
  have hiX2 : ∀ w ∈ u_ws RX2 TX2 8, w ∈ wsX2_depthOfNoted := fun w hw => tw_in (usX2 w hw)
  have hl := lv_entry ([.ref xo]) (n := 3) (Nat.le_of_ble_eq_true rfl)
  rw [lg_entry_eq]
  generalize (lg_sl ([.ref xo]) ++ List.replicate (3 - (lg_sl ([.ref xo])).length) Slot.unset).toArray = ls at hl ⊢
  have hl : lv_has ls 3 [(0, .ref xo)] := hl
  refine nm_Q (fun Q hQ => ?_)
  have B27 : ∀ (k4 : Int32 → Int32 → Option (Int32)) (hk4 : ∀ (x1 : Int32) (x2 : Int32), ∀ ls : Array Slot, k4 x1 x2 = some v0 → lv_has ls 3 [(0, .ref xo), (1, .int x1), (2, .int x2)] → W p l e (headSpec wsX2_depthOfNoted rm_1_21).room s m ([.ref xo] : List Value).toArray below meth c_ s.heap [] 0 0 Q (F0 m 4 ls [])), ∀ (x1 : Int32) (x2 : Int32), ∀ ls : Array Slot, fx_depthOfNoted_27 nf k4 x1 x2 = some v0 → lv_has ls 3 [(0, .ref xo), (1, .int x1), (2, .int x2)] → W p l e (headSpec wsX2_depthOfNoted rm_1_21).room s m ([.ref xo] : List Value).toArray below meth c_ s.heap [] 0 0 Q (F0 m 27 ls []) := by
    intro k4 hk4
    intro x1 x2 ls hf hl
    unfold fx_depthOfNoted_27 at hf
    refine lv_iinc (k := 2) (v := x2 + 1) (lv' := [(2, .int (x2 + 1)), (0, .ref xo), (1, .int x1)]) hx hb dX2_depthOfNoted_27 hl rfl (by rfl) (by decide) rfl (fun ls hl => ?_)
    refine lv_goto (tgt := 4) hx hb dX2_depthOfNoted_30 (by decide) ?_
    exact hk4 x1 (x2 + 1) ls hf (lv_sub hl [1, 2, 0] rfl)
  have B4 : ∀ n : Nat, ∀ (x1 : Int32) (x2 : Int32), ∀ ls : Array Slot, fx_depthOfNoted_4 nf n x1 x2 = some v0 → lv_has ls 3 [(0, .ref xo), (1, .int x1), (2, .int x2)] → W p l e (headSpec wsX2_depthOfNoted rm_1_21).room s m ([.ref xo] : List Value).toArray below meth c_ s.heap [] 0 0 Q (F0 m 4 ls []) := by
    intro n
    induction n with
    | zero => 
      intro x1 x2 ls hf hl
      exact nomatch (show (none : Option (Int32)) = some v0 from hf)
    | succ n ih =>
      intro x1 x2 ls hf hl
      rw [fx_depthOfNoted_4.eq_2] at hf
      try dsimp only at hf
      refine lv_iload_n hx hb dX2_depthOfNoted_4 rfl (lv_at hl 2 rfl) ?_
      refine lv_aload_n hx hb dX2_depthOfNoted_5 rfl (lv_at hl 0 rfl) ?_
      refine va_get (D := (dC, dI)) (ci := 1) (v := .ref nt) (C := RX2) (T := TX2) (N := 8) hx hb hts hiX2 hown hG.1 hP 0 rfl rfl 7 (by decide) (hts _ (tw_in lk_165)) (fun _ h9 => h9) rfl dX2_depthOfNoted_6 ?_
      refine va_alen (v := 156) hx hb hG.1 hP 4 0 rfl rfl rfl dX2_depthOfNoted_9 ?_
      refine lv_icmp_ge (tgt := 33) hx hb dX2_depthOfNoted_10 (by decide) (fun hc => ?_) (fun hc => ?_)
      · rw [if_pos hc] at hf
        refine lv_iload_n hx hb dX2_depthOfNoted_33 rfl (lv_at hl 1 rfl) ?_
        obtain rfl := Option.some.inj hf
        rw [hQ]
        exact pu_iret hx hb hr (vp_nar_int _) hsz dX2_depthOfNoted_34 hlocks
      · rw [if_neg hc] at hf
        refine lv_aload_n hx hb dX2_depthOfNoted_13 rfl (lv_at hl 0 rfl) ?_
        refine va_get (D := (dC, dI)) (ci := 1) (v := .ref nt) (C := RX2) (T := TX2) (N := 8) hx hb hts hiX2 hown hG.1 hP 0 rfl rfl 7 (by decide) (hts _ (tw_in lk_165)) (fun _ h9 => h9) rfl dX2_depthOfNoted_14 ?_
        refine lv_iload_n hx hb dX2_depthOfNoted_17 rfl (lv_at hl 2 rfl) ?_
        obtain ⟨hq, hf⟩ := ck_s hf
        refine va_iald hx hb hG.1 hP 4 0 rfl rfl hq dX2_depthOfNoted_18 ?_
        refine lv_if_eq (tgt := 27) hx hb dX2_depthOfNoted_19 (by decide) (fun hc => ?_) (fun hc => ?_)
        · rw [if_pos hc] at hf
          exact B27 (fx_depthOfNoted_4 nf n) ih x1 x2 ls hf (lv_sub hl [0, 1, 2] rfl)
        · rw [if_neg hc] at hf
          refine lv_iload_n hx hb dX2_depthOfNoted_22 rfl (lv_at hl 2 rfl) ?_
          obtain ⟨r1, e2, hf⟩ := ob_s hf
          try dsimp only at hf
          refine pu_calli (va_runS (As := [.int x2]) (rest := []) ⟨hx, hb, hml, hown, hts⟩ (cp_depth l dC dI cI cQ t1 t2 bs x2 r1 e2 s.heap.size) (va_cwS 1 hts (gs_S lk_73 lk_75 lk_1 lk_74) rfl rfl rfl (by decide +kernel) ⟨Nat.le_of_ble_eq_true rfl, Nat.le_of_ble_eq_true rfl⟩) (pr_S gk_W ⟨hG, pz_0⟩) rfl rfl hl.1 rfl (lv_room (Nat.le_of_ble_eq_true rfl)) dX2_depthOfNoted_23 ⟨Nat.zero_le _, Nat.zero_le _⟩) ?_
          refine lv_istore_n (lv' := [(1, .int r1), (0, .ref xo), (2, .int x2)]) hx hb dX2_depthOfNoted_26 rfl hl (by decide) rfl (fun ls hl => ?_)
          exact B27 (fx_depthOfNoted_4 nf n) ih r1 x2 ls hf (lv_sub hl [1, 0, 2] rfl)
  unfold fx_depthOfNoted at h
  have hf := h
  refine lv_iconst (v := 0) hx hb dX2_depthOfNoted_0 (by decide) ?_
  refine lv_istore_n (lv' := [(1, .int 0), (0, .ref xo)]) hx hb dX2_depthOfNoted_1 rfl hl (by decide) rfl (fun ls hl => ?_)
  refine lv_iconst (v := 0) hx hb dX2_depthOfNoted_2 (by decide) ?_
  refine lv_istore_n (lv' := [(2, .int 0), (1, .int 0), (0, .ref xo)]) hx hb dX2_depthOfNoted_3 rfl hl (by decide) rfl (fun ls hl => ?_)
  exact B4 fu_n 0 0 ls hf (lv_sub hl [2, 1, 0] rfl)
set_option maxHeartbeats 4000000 in
set_option maxRecDepth 100000 in
theorem cx_makeNotedAt (l : Launch) (dC : Nat → ClassId) (dI : Nat → Nat → Nat) (cI cQ : ClassId) (t1 t2 bs : Nat) (top xo la ko kc nt : Nat) (lo lc : Nat → Nat) (hg : gd_A bs (ad_X top xo la ko kc nt lo lc)) (c : Nat → ls_T) (md : Int32) (cu : Int32) (kp : ls_T) (kcu : Int32) (nf : Nat → Int32) (x1 : Int32) (v0 : (Nat → ls_T) × Int32) (h : fx_makeNotedAt top c cu nf x1 = some v0) : im_V l yX2_makeNotedAt wsX2_makeNotedAt rm_5_113 [.ref xo, .int x1] (gk_G dC dI cI cQ t1 t2 bs (wx_X cI cQ top xo la ko kc nt lo lc c md cu kp kcu nf)) (va_P (dC, dI) vwCl (wx_X cI cQ top xo la ko kc nt lo lc v0.1 md v0.2 kp kcu nf)) (in_A (ad_X top xo la ko kc nt lo lc)) := by
  intro sz
  refine Met.ofW (cc := cX2_makeNotedAt) (maxL := 3) (ret := none) (by decide) rfl ?_
  intro p e s m args below meth c_ s₁ B hml hv
  obtain ⟨rfl, hsz, hG, hP⟩ := hv
  have hx := B.exec
  have hb := B.bytes
  have hr := B.returns
  have hts := atoms_spec (ws := wsX2_makeNotedAt) B.pre
  have hown : s.vm.findClass RX2 = some m.cls := findClass_of_methodNamed B.named
  have hlocks := B.notSynchronized
  have hiX2 : ∀ w ∈ u_ws RX2 TX2 8, w ∈ wsX2_makeNotedAt := fun w hw => tw_in (usX2 w hw)
  have hl := lv_entry ([.ref xo, .int x1]) (n := 3) (Nat.le_of_ble_eq_true rfl)
  rw [lg_entry_eq]
  generalize (lg_sl ([.ref xo, .int x1]) ++ List.replicate (3 - (lg_sl ([.ref xo, .int x1])).length) Slot.unset).toArray = ls at hl ⊢
  have hl : lv_has ls 3 [(0, .ref xo), (1, .int x1)] := hl
  refine nm_Q (fun Q hQ => ?_)
  have B35 : ∀ (k2 : Int32 → (Nat → ls_T) → Int32 → Option ((Nat → ls_T) × Int32)) (hk2 : ∀ (x2 : Int32) (c : Nat → ls_T) (cu : Int32), ∀ (H : Heap) (locs : List Loc), va_P (dC, dI) vwCl (wx_X cI cQ top xo la ko kc nt lo lc c md cu kp kcu nf) H → va_S (in_A (ad_X top xo la ko kc nt lo lc)) s.heap H locs → ∀ ls : Array Slot, k2 x2 c cu = some v0 → lv_has ls 3 [(0, .ref xo), (1, .int x1), (2, .int x2)] → W p l e (headSpec wsX2_makeNotedAt rm_5_113).room s m ([.ref xo, .int x1] : List Value).toArray below meth c_ H locs 0 0 Q (F0 m 2 ls [])), ∀ (x2 : Int32) (c : Nat → ls_T) (cu : Int32), ∀ (H : Heap) (locs : List Loc), va_P (dC, dI) vwCl (wx_X cI cQ top xo la ko kc nt lo lc c md cu kp kcu nf) H → va_S (in_A (ad_X top xo la ko kc nt lo lc)) s.heap H locs → ∀ ls : Array Slot, fx_makeNotedAt_35 top nf x1 k2 x2 c cu = some v0 → lv_has ls 3 [(0, .ref xo), (1, .int x1), (2, .int x2)] → W p l e (headSpec wsX2_makeNotedAt rm_5_113).room s m ([.ref xo, .int x1] : List Value).toArray below meth c_ H locs 0 0 Q (F0 m 35 ls []) := by
    intro k2 hk2
    intro x2 c cu H locs hP hS ls hf hl
    unfold fx_makeNotedAt_35 at hf
    refine lv_iinc (k := 2) (v := x2 + 1) (lv' := [(2, .int (x2 + 1)), (0, .ref xo), (1, .int x1)]) hx hb dX2_makeNotedAt_35 hl rfl (by rfl) (by decide) rfl (fun ls hl => ?_)
    refine lv_goto (tgt := 2) hx hb dX2_makeNotedAt_38 (by decide) ?_
    exact hk2 (x2 + 1) c cu H locs hP hS ls hf (lv_sub hl [1, 2, 0] rfl)
  have B2 : ∀ n : Nat, ∀ (x2 : Int32) (c : Nat → ls_T) (cu : Int32), ∀ (H : Heap) (locs : List Loc), va_P (dC, dI) vwCl (wx_X cI cQ top xo la ko kc nt lo lc c md cu kp kcu nf) H → va_S (in_A (ad_X top xo la ko kc nt lo lc)) s.heap H locs → ∀ ls : Array Slot, fx_makeNotedAt_2 top nf x1 n x2 c cu = some v0 → lv_has ls 3 [(0, .ref xo), (1, .int x1), (2, .int x2)] → W p l e (headSpec wsX2_makeNotedAt rm_5_113).room s m ([.ref xo, .int x1] : List Value).toArray below meth c_ H locs 0 0 Q (F0 m 2 ls []) := by
    intro n
    induction n with
    | zero => 
      intro x2 c cu H locs hP hS ls hf hl
      exact nomatch (show (none : Option ((Nat → ls_T) × Int32)) = some v0 from hf)
    | succ n ih =>
      intro x2 c cu H locs hP hS ls hf hl
      rw [fx_makeNotedAt_2.eq_2] at hf
      try dsimp only at hf
      refine lv_iload_n hx hb dX2_makeNotedAt_2 rfl (lv_at hl 2 rfl) ?_
      refine lv_aload_n hx hb dX2_makeNotedAt_3 rfl (lv_at hl 0 rfl) ?_
      refine va_get (D := (dC, dI)) (ci := 1) (v := .ref nt) (C := RX2) (T := TX2) (N := 8) hx hb hts hiX2 hown hG.1 hP 0 rfl rfl 7 (by decide) (hts _ (tw_in lk_165)) (fun _ h9 => h9) rfl dX2_makeNotedAt_4 ?_
      refine va_alen (v := 156) hx hb hG.1 hP 4 0 rfl rfl rfl dX2_makeNotedAt_7 ?_
      refine lv_icmp_ge (tgt := 41) hx hb dX2_makeNotedAt_8 (by decide) (fun hc => ?_) (fun hc => ?_)
      · rw [if_pos hc] at hf
        obtain rfl := Option.some.inj hf
        rw [hQ]
        exact im_vret hx hb hr hS hP dX2_makeNotedAt_41 hlocks
      · rw [if_neg hc] at hf
        refine lv_aload_n hx hb dX2_makeNotedAt_11 rfl (lv_at hl 0 rfl) ?_
        refine va_get (D := (dC, dI)) (ci := 1) (v := .ref nt) (C := RX2) (T := TX2) (N := 8) hx hb hts hiX2 hown hG.1 hP 0 rfl rfl 7 (by decide) (hts _ (tw_in lk_165)) (fun _ h9 => h9) rfl dX2_makeNotedAt_12 ?_
        refine lv_iload_n hx hb dX2_makeNotedAt_15 rfl (lv_at hl 2 rfl) ?_
        obtain ⟨hq, hf⟩ := ck_s hf
        refine va_iald hx hb hG.1 hP 4 0 rfl rfl hq dX2_makeNotedAt_16 ?_
        refine lv_if_eq (tgt := 35) hx hb dX2_makeNotedAt_17 (by decide) (fun hc => ?_) (fun hc => ?_)
        · rw [if_pos hc] at hf
          exact B35 (fx_makeNotedAt_2 top nf x1 n) ih x2 c cu H locs hP hS ls hf (lv_sub hl [0, 1, 2] rfl)
        · rw [if_neg hc] at hf
          refine lv_aload_n hx hb dX2_makeNotedAt_20 rfl (lv_at hl 0 rfl) ?_
          refine lv_iload_n hx hb dX2_makeNotedAt_21 rfl (lv_at hl 1 rfl) ?_
          refine lv_iload_n hx hb dX2_makeNotedAt_22 rfl (lv_at hl 2 rfl) ?_
          obtain ⟨r1, e2, hf⟩ := ob_s hf
          try dsimp only at hf
          refine pu_calli (va_runS (As := [.int x1, .int x2]) (rest := [.ref xo]) ⟨hx, hb, hml, hown, hts⟩ (cp_below l dC dI cI cQ t1 t2 bs x1 x2 r1 e2 H.size) (va_cwS 2 hts (gs_S lk_166 lk_168 lk_1 lk_167) rfl rfl rfl (by decide +kernel) ⟨Nat.le_of_ble_eq_true rfl, Nat.le_of_ble_eq_true rfl⟩) (pr_S gk_W ⟨(gk_S hG hS (bb_A hg)), pz_0⟩) rfl rfl hl.1 rfl (lv_room (Nat.le_of_ble_eq_true rfl)) dX2_makeNotedAt_23 ⟨Nat.zero_le _, Nat.zero_le _⟩) ?_
          refine lv_aload_n hx hb dX2_makeNotedAt_26 rfl (lv_at hl 0 rfl) ?_
          refine va_get (D := (dC, dI)) (ci := 1) (v := .ref nt) (C := RX2) (T := TX2) (N := 8) hx hb hts hiX2 hown hG.1 hP 0 rfl rfl 7 (by decide) (hts _ (tw_in lk_165)) (fun _ h9 => h9) rfl dX2_makeNotedAt_27 ?_
          refine lv_iload_n hx hb dX2_makeNotedAt_30 rfl (lv_at hl 2 rfl) ?_
          obtain ⟨hq, hf⟩ := ck_s hf
          refine va_iald hx hb hG.1 hP 4 0 rfl rfl hq dX2_makeNotedAt_31 ?_
          obtain ⟨r3, e4, hf⟩ := ob_s hf
          try dsimp only at hf
          refine im_callv (va_runV (As := [.int r1, .int (nf x2.toNatClampNeg)]) (rest := []) ⟨hx, hb, hml, hown, hts⟩ (cx_makeAt l dC dI cI cQ t1 t2 bs top xo la ko kc nt lo lc hg c md cu kp kcu nf r1 (nf x2.toNatClampNeg) r3 e4 H.size) (cwV 2 hts (gs_V lk_145 lk_147 lk_148 lk_37 lk_146) rfl rfl rfl (by decide +kernel) ⟨Nat.le_of_ble_eq_true rfl, Nat.le_of_ble_eq_true rfl⟩) (pr_V gk_W (va_recv hG.1 hP (q0 := 0) rfl rfl) ⟨(gk_S hG hS (bb_A hg)), hP⟩) rfl rfl hl.1 rfl (lv_room (Nat.le_of_ble_eq_true rfl)) dX2_makeNotedAt_32 ⟨Nat.zero_le _, Nat.zero_le _⟩) hS (fun _ h => h) (fun H locs hP1 hk1 hS => ?_)
          have hP : va_P (dC, dI) vwCl (wx_X cI cQ top xo la ko kc nt lo lc r3.1 md r3.2 kp kcu nf) H := hP1
          exact B35 (fx_makeNotedAt_2 top nf x1 n) ih x2 r3.1 r3.2 H locs hP hS ls hf (lv_sub hl [0, 1, 2] rfl)
  unfold fx_makeNotedAt at h
  have hgo : ∀ (H : Heap) (locs : List Loc), va_P (dC, dI) vwCl (wx_X cI cQ top xo la ko kc nt lo lc c md cu kp kcu nf) H → va_S (in_A (ad_X top xo la ko kc nt lo lc)) s.heap H locs → W p l e (headSpec wsX2_makeNotedAt rm_5_113).room s m ([.ref xo, .int x1] : List Value).toArray below meth c_ H locs 0 0 Q (F0 m 0 ls []) := by
    intro H locs hP hS
    have hf := h
    refine lv_iconst (v := 0) hx hb dX2_makeNotedAt_0 (by decide) ?_
    refine lv_istore_n (lv' := [(2, .int 0), (0, .ref xo), (1, .int x1)]) hx hb dX2_makeNotedAt_1 rfl hl (by decide) rfl (fun ls hl => ?_)
    exact B2 fu_n 0 c cu H locs hP hS ls hf (lv_sub hl [1, 2, 0] rfl)
  exact hgo s.heap [] hP va_S.rf
set_option maxHeartbeats 4000000 in
set_option maxRecDepth 100000 in
theorem cx_rename (l : Launch) (dC : Nat → ClassId) (dI : Nat → Nat → Nat) (cI cQ : ClassId) (t1 t2 bs : Nat) (top xo la ko kc nt : Nat) (lo lc : Nat → Nat) (hg : gd_A bs (ad_X top xo la ko kc nt lo lc)) (c : Nat → ls_T) (md : Int32) (cu : Int32) (kp : ls_T) (kcu : Int32) (nf : Nat → Int32) (x1 : Int32) (x2 : Int32) (v0 : Int32 × (Nat → ls_T) × Int32 × ls_T × Int32 × (Nat → Int32)) (h : fx_rename top c md cu kp kcu nf x1 x2 = some v0) : im_I l yX2_rename wsX2_rename rm_6_135 [.ref xo, .int x1, .int x2] (gk_G dC dI cI cQ t1 t2 bs (wx_X cI cQ top xo la ko kc nt lo lc c md cu kp kcu nf)) v0.1 (va_P (dC, dI) vwCl (wx_X cI cQ top xo la ko kc nt lo lc v0.2.1 md v0.2.2.1 v0.2.2.2.1 v0.2.2.2.2.1 v0.2.2.2.2.2)) (in_A (ad_X top xo la ko kc nt lo lc)) := by
  intro sz
  refine Met.ofW (cc := cX2_rename) (maxL := 6) (ret := (some .int)) (by decide) rfl ?_
  intro p e s m args below meth c_ s₁ B hml hv
  obtain ⟨rfl, hsz, hG, hP⟩ := hv
  have hx := B.exec
  have hb := B.bytes
  have hr := B.returns
  have hts := atoms_spec (ws := wsX2_rename) B.pre
  have hown : s.vm.findClass RX2 = some m.cls := findClass_of_methodNamed B.named
  have hlocks := B.notSynchronized
  have hl := lv_entry ([.ref xo, .int x1, .int x2]) (n := 6) (Nat.le_of_ble_eq_true rfl)
  rw [lg_entry_eq]
  generalize (lg_sl ([.ref xo, .int x1, .int x2]) ++ List.replicate (6 - (lg_sl ([.ref xo, .int x1, .int x2])).length) Slot.unset).toArray = ls at hl ⊢
  have hl : lv_has ls 6 [(0, .ref xo), (1, .int x1), (2, .int x2)] := hl
  refine nm_Q (fun Q hQ => ?_)
  unfold fx_rename at h
  have hgo : ∀ (H : Heap) (locs : List Loc), va_P (dC, dI) vwCl (wx_X cI cQ top xo la ko kc nt lo lc c md cu kp kcu nf) H → va_S (in_A (ad_X top xo la ko kc nt lo lc)) s.heap H locs → W p l e (headSpec wsX2_rename rm_6_135).room s m ([.ref xo, .int x1, .int x2] : List Value).toArray below meth c_ H locs 0 0 Q (F0 m 0 ls []) := by
    intro H locs hP hS
    have hf := h
    refine lv_aload_n hx hb dX2_rename_0 rfl (lv_at hl 0 rfl) ?_
    refine lv_iload_n hx hb dX2_rename_1 rfl (lv_at hl 1 rfl) ?_
    obtain ⟨r1, e2, hf⟩ := ob_s hf
    try dsimp only at hf
    refine pu_calli (va_runV (As := [.int x1]) (rest := []) ⟨hx, hb, hml, hown, hts⟩ (cx_objectPlaceOrRefusal l dC dI cI cQ t1 t2 bs top xo la ko kc nt lo lc hg c md cu kp kcu nf x1 r1 e2 H.size) (cwV 1 hts (gs_V lk_107 lk_109 lk_110 lk_37 lk_108) rfl rfl rfl (by decide +kernel) ⟨Nat.le_of_ble_eq_true rfl, Nat.le_of_ble_eq_true rfl⟩) (pr_V gk_W (va_recv hG.1 hP (q0 := 0) rfl rfl) ⟨(gk_S hG hS (bb_A hg)), hP⟩) rfl rfl hl.1 rfl (lv_room (Nat.le_of_ble_eq_true rfl)) dX2_rename_2 ⟨Nat.zero_le _, Nat.zero_le _⟩) ?_
    refine lv_istore_n (lv' := [(3, .int r1), (0, .ref xo), (1, .int x1), (2, .int x2)]) hx hb dX2_rename_5 rfl hl (by decide) rfl (fun ls hl => ?_)
    refine lv_aload_n hx hb dX2_rename_6 rfl (lv_at hl 1 rfl) ?_
    refine lv_iload_n hx hb dX2_rename_7 rfl (lv_at hl 3 rfl) ?_
    obtain ⟨r3, e4, hf⟩ := ob_s hf
    try dsimp only at hf
    refine pu_calli (va_runV (As := [.int x2]) (rest := []) ⟨hx, hb, hml, hown, hts⟩ (cx_objectPlaceOrRefusal l dC dI cI cQ t1 t2 bs top xo la ko kc nt lo lc hg c md cu kp kcu nf x2 r3 e4 H.size) (cwV 1 hts (gs_V lk_107 lk_109 lk_110 lk_37 lk_108) rfl rfl rfl (by decide +kernel) ⟨Nat.le_of_ble_eq_true rfl, Nat.le_of_ble_eq_true rfl⟩) (pr_V gk_W (va_recv hG.1 hP (q0 := 0) rfl rfl) ⟨(gk_S hG hS (bb_A hg)), hP⟩) rfl rfl hl.1 rfl (lv_room (Nat.le_of_ble_eq_true rfl)) dX2_rename_8 ⟨Nat.zero_le _, Nat.zero_le _⟩) ?_
    refine lv_istore (lv' := [(4, .int r3), (3, .int r1), (0, .ref xo), (1, .int x1), (2, .int x2)]) hx hb dX2_rename_11 hl (by decide) rfl (fun ls hl => ?_)
    refine lv_iload_n hx hb dX2_rename_13 rfl (lv_at hl 1 rfl) ?_
    refine lv_if_ge (tgt := 19) hx hb dX2_rename_14 (by decide) (fun hc => ?_) (fun hc => ?_)
    · rw [if_pos hc] at hf
      refine lv_iload hx hb dX2_rename_19 (lv_at hl 0 rfl) ?_
      refine lv_if_ge (tgt := 27) hx hb dX2_rename_21 (by decide) (fun hc => ?_) (fun hc => ?_)
      · rw [if_pos hc] at hf
        refine lv_aload_n hx hb dX2_rename_27 rfl (lv_at hl 2 rfl) ?_
        refine lv_iload_n hx hb dX2_rename_28 rfl (lv_at hl 1 rfl) ?_
        obtain ⟨r5, e6, hf⟩ := ob_s hf
        try dsimp only at hf
        refine pu_calli (va_runV (As := [.int r1]) (rest := []) ⟨hx, hb, hml, hown, hts⟩ (cx_find l dC dI cI cQ t1 t2 bs top xo la ko kc nt lo lc hg c md cu kp kcu nf r1 r5 e6 H.size) (cwV 1 hts (gs_V lk_80 lk_82 lk_83 lk_37 lk_81) rfl rfl rfl (by decide +kernel) ⟨Nat.le_of_ble_eq_true rfl, Nat.le_of_ble_eq_true rfl⟩) (pr_V gk_W (va_recv hG.1 hP (q0 := 0) rfl rfl) ⟨(gk_S hG hS (bb_A hg)), hP⟩) rfl rfl hl.1 rfl (lv_room (Nat.le_of_ble_eq_true rfl)) dX2_rename_29 ⟨Nat.zero_le _, Nat.zero_le _⟩) ?_
        refine lv_if_ne (tgt := 38) hx hb dX2_rename_32 (by decide) (fun hc => ?_) (fun hc => ?_)
        · rw [if_neg hc] at hf
          refine lv_iload_n hx hb dX2_rename_38 rfl (lv_at hl 1 rfl) ?_
          refine lv_iload hx hb dX2_rename_39 (lv_at hl 0 rfl) ?_
          refine lv_icmp_ne (tgt := 46) hx hb dX2_rename_41 (by decide) (fun hc => ?_) (fun hc => ?_)
          · rw [if_neg hc] at hf
            refine lv_aload_n hx hb dX2_rename_46 rfl (lv_at hl 2 rfl) ?_
            refine lv_iload_n hx hb dX2_rename_47 rfl (lv_at hl 1 rfl) ?_
            refine lv_iload hx hb dX2_rename_48 (lv_at hl 0 rfl) ?_
            obtain ⟨r7, e8, hf⟩ := ob_s hf
            try dsimp only at hf
            refine pu_calli (va_runV (As := [.int r1, .int r3]) (rest := []) ⟨hx, hb, hml, hown, hts⟩ (cx_refusalOfTarget l dC dI cI cQ t1 t2 bs top xo la ko kc nt lo lc hg c md cu kp kcu nf r1 r3 r7 e8 H.size) (cwV 2 hts (gs_V lk_173 lk_175 lk_176 lk_37 lk_174) rfl rfl rfl (by decide +kernel) ⟨Nat.le_of_ble_eq_true rfl, Nat.le_of_ble_eq_true rfl⟩) (pr_V gk_W (va_recv hG.1 hP (q0 := 0) rfl rfl) ⟨(gk_S hG hS (bb_A hg)), hP⟩) rfl rfl hl.1 rfl (lv_room (Nat.le_of_ble_eq_true rfl)) dX2_rename_50 ⟨Nat.zero_le _, Nat.zero_le _⟩) ?_
            refine lv_istore (lv' := [(5, .int r7), (4, .int r3), (3, .int r1), (0, .ref xo), (1, .int x1), (2, .int x2)]) hx hb dX2_rename_53 hl (by decide) rfl (fun ls hl => ?_)
            refine lv_iload hx hb dX2_rename_55 (lv_at hl 0 rfl) ?_
            refine lv_if_eq (tgt := 63) hx hb dX2_rename_57 (by decide) (fun hc => ?_) (fun hc => ?_)
            · rw [if_pos hc] at hf
              refine lv_aload_n hx hb dX2_rename_63 rfl (lv_at hl 3 rfl) ?_
              refine lv_iload_n hx hb dX2_rename_64 rfl (lv_at hl 2 rfl) ?_
              obtain ⟨r9, e10, hf⟩ := ob_s hf
              try dsimp only at hf
              refine im_callv (va_runV (As := [.int r1]) (rest := []) ⟨hx, hb, hml, hown, hts⟩ (cx_noteFrom l dC dI cI cQ t1 t2 bs top xo la ko kc nt lo lc hg c md cu kp kcu nf r1 r9 e10 H.size) (cwV 1 hts (gs_V lk_177 lk_179 lk_180 lk_37 lk_178) rfl rfl rfl (by decide +kernel) ⟨Nat.le_of_ble_eq_true rfl, Nat.le_of_ble_eq_true rfl⟩) (pr_V gk_W (va_recv hG.1 hP (q0 := 0) rfl rfl) ⟨(gk_S hG hS (bb_A hg)), hP⟩) rfl rfl hl.1 rfl (lv_room (Nat.le_of_ble_eq_true rfl)) dX2_rename_65 ⟨Nat.zero_le _, Nat.zero_le _⟩) hS (fun _ h => h) (fun H locs hP1 hk1 hS => ?_)
              have hP : va_P (dC, dI) vwCl (wx_X cI cQ top xo la ko kc nt lo lc c md cu kp kcu r9) H := hP1
              refine lv_iload hx hb dX2_rename_68 (lv_at hl 1 rfl) ?_
              obtain ⟨r11, e12, hf⟩ := ob_s hf
              try dsimp only at hf
              refine pu_calli (va_runS (As := [.int r3]) (rest := []) ⟨hx, hb, hml, hown, hts⟩ (cp_depth l dC dI cI cQ t1 t2 bs r3 r11 e12 H.size) (va_cwS 1 hts (gs_S lk_73 lk_75 lk_1 lk_74) rfl rfl rfl (by decide +kernel) ⟨Nat.le_of_ble_eq_true rfl, Nat.le_of_ble_eq_true rfl⟩) (pr_S gk_W ⟨(gk_S hG hS (bb_A hg)), pz_0⟩) rfl rfl hl.1 rfl (lv_room (Nat.le_of_ble_eq_true rfl)) dX2_rename_70 ⟨Nat.zero_le _, Nat.zero_le _⟩) ?_
              refine lv_aload_n hx hb dX2_rename_73 rfl (lv_at hl 3 rfl) ?_
              obtain ⟨r13, e14, hf⟩ := ob_s hf
              try dsimp only at hf
              refine pu_calli (va_runV (As := []) (rest := [.int r11]) ⟨hx, hb, hml, hown, hts⟩ (cx_depthOfNoted l dC dI cI cQ t1 t2 bs top xo la ko kc nt lo lc hg c md cu kp kcu r9 r13 e14 H.size) (cwV 0 hts (gs_V lk_181 lk_183 lk_184 lk_37 lk_182) rfl rfl rfl (by decide +kernel) ⟨Nat.le_of_ble_eq_true rfl, Nat.le_of_ble_eq_true rfl⟩) (pr_V gk_W (va_recv hG.1 hP (q0 := 0) rfl rfl) ⟨(gk_S hG hS (bb_A hg)), hP⟩) rfl rfl hl.1 rfl (lv_room (Nat.le_of_ble_eq_true rfl)) dX2_rename_74 ⟨Nat.zero_le _, Nat.zero_le _⟩) ?_
              refine lv_iadd hx hb dX2_rename_77 ?_
              refine lv_iconst (v := 4) hx hb dX2_rename_78 (by decide) ?_
              refine lv_icmp_le (tgt := 85) hx hb dX2_rename_79 (by decide) (fun hc => ?_) (fun hc => ?_)
              · rw [if_pos hc] at hf
                refine lv_aload_n hx hb dX2_rename_85 rfl (lv_at hl 3 rfl) ?_
                obtain ⟨r15, e16, hf⟩ := ob_s hf
                try dsimp only at hf
                refine im_callv (va_runV (As := []) (rest := []) ⟨hx, hb, hml, hown, hts⟩ (cx_keepUpper l dC dI cI cQ t1 t2 bs top xo la ko kc nt lo lc hg c md cu kp kcu r9 r15 e16 H.size) (cwV 0 hts (gs_V lk_141 lk_143 lk_144 lk_37 lk_142) rfl rfl rfl (by decide +kernel) ⟨Nat.le_of_ble_eq_true rfl, Nat.le_of_ble_eq_true rfl⟩) (pr_V gk_W (va_recv hG.1 hP (q0 := 0) rfl rfl) ⟨(gk_S hG hS (bb_A hg)), hP⟩) rfl rfl hl.1 rfl (lv_room (Nat.le_of_ble_eq_true rfl)) dX2_rename_86 ⟨Nat.zero_le _, Nat.zero_le _⟩) hS (fun _ h => h) (fun H locs hP1 hk1 hS => ?_)
                have hP : va_P (dC, dI) vwCl (wx_X cI cQ top xo la ko kc nt lo lc c md cu r15.1 r15.2 r9) H := hP1
                refine lv_aload_n hx hb dX2_rename_89 rfl (lv_at hl 3 rfl) ?_
                refine lv_iload hx hb dX2_rename_90 (lv_at hl 1 rfl) ?_
                obtain ⟨r17, e18, hf⟩ := ob_s hf
                try dsimp only at hf
                refine im_callv (va_runV (As := [.int r3]) (rest := []) ⟨hx, hb, hml, hown, hts⟩ (cx_makeNotedAt l dC dI cI cQ t1 t2 bs top xo la ko kc nt lo lc hg c md cu r15.1 r15.2 r9 r3 r17 e18 H.size) (cwV 1 hts (gs_V lk_185 lk_187 lk_188 lk_37 lk_186) rfl rfl rfl (by decide +kernel) ⟨Nat.le_of_ble_eq_true rfl, Nat.le_of_ble_eq_true rfl⟩) (pr_V gk_W (va_recv hG.1 hP (q0 := 0) rfl rfl) ⟨(gk_S hG hS (bb_A hg)), hP⟩) rfl rfl hl.1 rfl (lv_room (Nat.le_of_ble_eq_true rfl)) dX2_rename_92 ⟨Nat.zero_le _, Nat.zero_le _⟩) hS (fun _ h => h) (fun H locs hP1 hk1 hS => ?_)
                have hP : va_P (dC, dI) vwCl (wx_X cI cQ top xo la ko kc nt lo lc r17.1 md r17.2 r15.1 r15.2 r9) H := hP1
                refine lv_aload_n hx hb dX2_rename_95 rfl (lv_at hl 3 rfl) ?_
                refine lv_iload_n hx hb dX2_rename_96 rfl (lv_at hl 2 rfl) ?_
                obtain ⟨r19, e20, hf⟩ := ob_s hf
                try dsimp only at hf
                refine im_callv (va_runV (As := [.int r1]) (rest := []) ⟨hx, hb, hml, hown, hts⟩ (cx_unmakeAt l dC dI cI cQ t1 t2 bs top xo la ko kc nt lo lc hg r17.1 md r17.2 r15.1 r15.2 r9 r1 r19 e20 H.size) (cwV 1 hts (gs_V lk_157 lk_159 lk_160 lk_37 lk_158) rfl rfl rfl (by decide +kernel) ⟨Nat.le_of_ble_eq_true rfl, Nat.le_of_ble_eq_true rfl⟩) (pr_V gk_W (va_recv hG.1 hP (q0 := 0) rfl rfl) ⟨(gk_S hG hS (bb_A hg)), hP⟩) rfl rfl hl.1 rfl (lv_room (Nat.le_of_ble_eq_true rfl)) dX2_rename_97 ⟨Nat.zero_le _, Nat.zero_le _⟩) hS (fun _ h => h) (fun H locs hP1 hk1 hS => ?_)
                have hP : va_P (dC, dI) vwCl (wx_X cI cQ top xo la ko kc nt lo lc r19.1 md r19.2 r15.1 r15.2 r9) H := hP1
                refine lv_aload_n hx hb dX2_rename_100 rfl (lv_at hl 3 rfl) ?_
                obtain ⟨r21, e22, hf⟩ := ob_s hf
                try dsimp only at hf
                refine im_calli (va_runV (As := []) (rest := []) ⟨hx, hb, hml, hown, hts⟩ (cx_settle l dC dI cI cQ t1 t2 bs top xo la ko kc nt lo lc hg r19.1 md r19.2 r15.1 r15.2 r9 r21 e22 H.size) (cwV 0 hts (gs_V lk_149 lk_151 lk_152 lk_37 lk_150) rfl rfl rfl (by decide +kernel) ⟨Nat.le_of_ble_eq_true rfl, Nat.le_of_ble_eq_true rfl⟩) (pr_V gk_W (va_recv hG.1 hP (q0 := 0) rfl rfl) ⟨(gk_S hG hS (bb_A hg)), hP⟩) rfl rfl hl.1 rfl (lv_room (Nat.le_of_ble_eq_true rfl)) dX2_rename_101 ⟨Nat.zero_le _, Nat.zero_le _⟩) hS (fun _ h => h) (fun H locs hP1 hk1 hS => ?_)
                have hP : va_P (dC, dI) vwCl (wx_X cI cQ top xo la ko kc nt lo lc r21.2.1 md r21.2.2 r15.1 r15.2 r9) H := hP1
                obtain rfl := Option.some.inj hf
                rw [hQ]
                exact im_iret hx hb hr (vp_nar_int _) hS hP dX2_rename_104 hlocks
              · rw [if_neg hc] at hf
                refine lv_bipush (v := (-10)) hx hb dX2_rename_82 (by decide) ?_
                obtain rfl := Option.some.inj hf
                rw [hQ]
                exact im_iret hx hb hr (vp_nar_int _) hS hP dX2_rename_84 hlocks
            · rw [if_neg hc] at hf
              refine lv_iload hx hb dX2_rename_60 (lv_at hl 0 rfl) ?_
              obtain rfl := Option.some.inj hf
              rw [hQ]
              exact im_iret hx hb hr (vp_nar_int _) hS hP dX2_rename_62 hlocks
          · rw [if_pos hc] at hf
            refine lv_iconst (v := 0) hx hb dX2_rename_44 (by decide) ?_
            obtain rfl := Option.some.inj hf
            rw [hQ]
            exact im_iret hx hb hr (vp_nar_int _) hS hP dX2_rename_45 hlocks
        · rw [if_pos hc] at hf
          refine lv_bipush (v := (-3)) hx hb dX2_rename_35 (by decide) ?_
          obtain rfl := Option.some.inj hf
          rw [hQ]
          exact im_iret hx hb hr (vp_nar_int _) hS hP dX2_rename_37 hlocks
      · rw [if_neg hc] at hf
        refine lv_iload hx hb dX2_rename_24 (lv_at hl 0 rfl) ?_
        obtain rfl := Option.some.inj hf
        rw [hQ]
        exact im_iret hx hb hr (vp_nar_int _) hS hP dX2_rename_26 hlocks
    · rw [if_neg hc] at hf
      refine lv_iload_n hx hb dX2_rename_17 rfl (lv_at hl 1 rfl) ?_
      obtain rfl := Option.some.inj hf
      rw [hQ]
      exact im_iret hx hb hr (vp_nar_int _) hS hP dX2_rename_18 hlocks
  exact hgo s.heap [] hP va_S.rf
set_option maxHeartbeats 4000000 in
set_option maxRecDepth 100000 in
theorem cx_entry (l : Launch) (dC : Nat → ClassId) (dI : Nat → Nat → Nat) (cI cQ : ClassId) (t1 t2 bs : Nat) (top xo la ko kc nt : Nat) (lo lc : Nat → Nat) (hg : gd_A bs (ad_X top xo la ko kc nt lo lc)) (c : Nat → ls_T) (md : Int32) (cu : Int32) (kp : ls_T) (kcu : Int32) (nf : Nat → Int32) (x1 : Int32) (x2 : Int32) (v0 : Int32) (h : fx_entry top c x1 x2 = some v0) : pu_M l yX2_entry wsX2_entry rm_2_44 [.ref xo, .int x1, .int x2] (gk_G dC dI cI cQ t1 t2 bs (wx_X cI cQ top xo la ko kc nt lo lc c md cu kp kcu nf)) v0 := by
  intro sz
  refine Met.ofW (cc := cX2_entry) (maxL := 4) (ret := (some .int)) (by decide) rfl ?_
  intro p e s m args below meth c_ s₁ B hml hv
  obtain ⟨rfl, hsz, hG, hP⟩ := hv
  have hx := B.exec
  have hb := B.bytes
  have hr := B.returns
  have hts := atoms_spec (ws := wsX2_entry) B.pre
  have hown : s.vm.findClass RX2 = some m.cls := findClass_of_methodNamed B.named
  have hlocks := B.notSynchronized
  have hiX2 : ∀ w ∈ u_ws RX2 TX2 8, w ∈ wsX2_entry := fun w hw => tw_in (usX2 w hw)
  have hl := lv_entry ([.ref xo, .int x1, .int x2]) (n := 4) (Nat.le_of_ble_eq_true rfl)
  rw [lg_entry_eq]
  generalize (lg_sl ([.ref xo, .int x1, .int x2]) ++ List.replicate (4 - (lg_sl ([.ref xo, .int x1, .int x2])).length) Slot.unset).toArray = ls at hl ⊢
  have hl : lv_has ls 4 [(0, .ref xo), (1, .int x1), (2, .int x2)] := hl
  refine nm_Q (fun Q hQ => ?_)
  unfold fx_entry at h
  have hf := h
  refine lv_iload_n hx hb dX2_entry_0 rfl (lv_at hl 2 rfl) ?_
  obtain ⟨r1, e2, hf⟩ := ob_s hf
  try dsimp only at hf
  refine pu_calli (va_runS (As := [.int x2]) (rest := []) ⟨hx, hb, hml, hown, hts⟩ (cp_ofPath l dC dI cI cQ t1 t2 bs x2 r1 e2 s.heap.size) (va_cwS 1 hts (gs_S lk_44 lk_46 lk_1 lk_45) rfl rfl rfl (by decide +kernel) ⟨Nat.le_of_ble_eq_true rfl, Nat.le_of_ble_eq_true rfl⟩) (pr_S gk_W ⟨hG, pz_0⟩) rfl rfl hl.1 rfl (lv_room (Nat.le_of_ble_eq_true rfl)) dX2_entry_1 ⟨Nat.zero_le _, Nat.zero_le _⟩) ?_
  refine lv_istore_n (lv' := [(3, .int r1), (0, .ref xo), (1, .int x1), (2, .int x2)]) hx hb dX2_entry_4 rfl hl (by decide) rfl (fun ls hl => ?_)
  refine lv_aload_n hx hb dX2_entry_5 rfl (lv_at hl 1 rfl) ?_
  refine lv_iload_n hx hb dX2_entry_6 rfl (lv_at hl 2 rfl) ?_
  obtain ⟨r3, e4, hf⟩ := ob_s hf
  try dsimp only at hf
  refine pu_calli (va_runV (As := [.int x1]) (rest := []) ⟨hx, hb, hml, hown, hts⟩ (cx_isLayer l dC dI cI cQ t1 t2 bs top xo la ko kc nt lo lc hg c md cu kp kcu nf x1 r3 e4 s.heap.size) (cwV 1 hts (gs_V lk_48 lk_50 lk_51 lk_37 lk_49) rfl rfl rfl (by decide +kernel) ⟨Nat.le_of_ble_eq_true rfl, Nat.le_of_ble_eq_true rfl⟩) (pr_V gk_W (va_recv hG.1 hP (q0 := 0) rfl rfl) ⟨hG, hP⟩) rfl rfl hl.1 rfl (lv_room (Nat.le_of_ble_eq_true rfl)) dX2_entry_7 ⟨Nat.zero_le _, Nat.zero_le _⟩) ?_
  refine lv_if_eq (tgt := 17) hx hb dX2_entry_10 (by decide) (fun hc => ?_) (fun hc => ?_)
  · rw [if_pos hc] at hf
    refine lv_bipush (v := (-2)) hx hb dX2_entry_17 (by decide) ?_
    obtain rfl := Option.some.inj hf
    rw [hQ]
    exact pu_iret hx hb hr (vp_nar_int _) hsz dX2_entry_19 hlocks
  · rw [if_neg hc] at hf
    refine lv_iload_n hx hb dX2_entry_13 rfl (lv_at hl 0 rfl) ?_
    refine lv_if_gt (tgt := 20) hx hb dX2_entry_14 (by decide) (fun hc => ?_) (fun hc => ?_)
    · rw [if_pos hc] at hf
      refine lv_aload_n hx hb dX2_entry_20 rfl (lv_at hl 1 rfl) ?_
      refine va_get (D := (dC, dI)) (ci := 1) (v := .ref la) (C := RX2) (T := TX2) (N := 8) hx hb hts hiX2 hown hG.1 hP 0 rfl rfl 1 (by decide) (hts _ (tw_in lk_17)) (fun _ h9 => h9) rfl dX2_entry_21 ?_
      refine lv_iload_n hx hb dX2_entry_24 rfl (lv_at hl 2 rfl) ?_
      obtain ⟨hq, hf⟩ := ck_s hf
      have hi5 : x1.toNatClampNeg < top + 1 := Nat.not_le.mp (fun z => hq (Or.inr z))
      refine va_aldq hx hb hG.1 hP 1 1 rfl rfl hq dX2_entry_25 ?_
      refine W.eq (g2 := F0 m 26 ls [.ref (lo x1.toNatClampNeg)]) rfl ?_
      refine lv_iload_n hx hb dX2_entry_26 rfl (lv_at hl 0 rfl) ?_
      obtain ⟨r6, e7, hf⟩ := ob_s hf
      try dsimp only at hf
      refine pu_calli (va_runV (As := [.int r1]) (rest := []) ⟨hx, hb, hml, hown, hts⟩ (cy_kindAt l dC dI cI cQ t1 t2 bs (lo x1.toNatClampNeg) (lc x1.toNatClampNeg) (gx_L hg hi5) ((c x1.toNatClampNeg).1) ((c x1.toNatClampNeg).2.1) ((c x1.toNatClampNeg).2.2) r1 r6 e7 s.heap.size) (cwV 1 hts (gs_V lk_28 lk_14 lk_15 lk_12 lk_13) rfl rfl rfl (by decide +kernel) ⟨Nat.le_of_ble_eq_true rfl, Nat.le_of_ble_eq_true rfl⟩) (pr_V gk_W (va_recv hG.1 (px_L hP hi5) (q0 := 0) rfl rfl) ⟨hG, (px_L hP hi5)⟩) rfl rfl hl.1 rfl (lv_room (Nat.le_of_ble_eq_true rfl)) dX2_entry_27 ⟨Nat.zero_le _, Nat.zero_le _⟩) ?_
      obtain rfl := Option.some.inj hf
      rw [hQ]
      exact pu_iret hx hb hr (vp_nar_int _) hsz dX2_entry_30 hlocks
    · rw [if_neg hc] at hf
      refine lv_bipush (v := (-2)) hx hb dX2_entry_17 (by decide) ?_
      obtain rfl := Option.some.inj hf
      rw [hQ]
      exact pu_iret hx hb hr (vp_nar_int _) hsz dX2_entry_19 hlocks
set_option maxHeartbeats 4000000 in
set_option maxRecDepth 100000 in
theorem cx_entryValue (l : Launch) (dC : Nat → ClassId) (dI : Nat → Nat → Nat) (cI cQ : ClassId) (t1 t2 bs : Nat) (top xo la ko kc nt : Nat) (lo lc : Nat → Nat) (hg : gd_A bs (ad_X top xo la ko kc nt lo lc)) (c : Nat → ls_T) (md : Int32) (cu : Int32) (kp : ls_T) (kcu : Int32) (nf : Nat → Int32) (x1 : Int32) (x2 : Int32) (v0 : Int32) (h : fx_entryValue top c x1 x2 = some v0) : pu_M l yX2_entryValue wsX2_entryValue rm_2_44 [.ref xo, .int x1, .int x2] (gk_G dC dI cI cQ t1 t2 bs (wx_X cI cQ top xo la ko kc nt lo lc c md cu kp kcu nf)) v0 := by
  intro sz
  refine Met.ofW (cc := cX2_entryValue) (maxL := 4) (ret := (some .int)) (by decide) rfl ?_
  intro p e s m args below meth c_ s₁ B hml hv
  obtain ⟨rfl, hsz, hG, hP⟩ := hv
  have hx := B.exec
  have hb := B.bytes
  have hr := B.returns
  have hts := atoms_spec (ws := wsX2_entryValue) B.pre
  have hown : s.vm.findClass RX2 = some m.cls := findClass_of_methodNamed B.named
  have hlocks := B.notSynchronized
  have hiX2 : ∀ w ∈ u_ws RX2 TX2 8, w ∈ wsX2_entryValue := fun w hw => tw_in (usX2 w hw)
  have hl := lv_entry ([.ref xo, .int x1, .int x2]) (n := 4) (Nat.le_of_ble_eq_true rfl)
  rw [lg_entry_eq]
  generalize (lg_sl ([.ref xo, .int x1, .int x2]) ++ List.replicate (4 - (lg_sl ([.ref xo, .int x1, .int x2])).length) Slot.unset).toArray = ls at hl ⊢
  have hl : lv_has ls 4 [(0, .ref xo), (1, .int x1), (2, .int x2)] := hl
  refine nm_Q (fun Q hQ => ?_)
  unfold fx_entryValue at h
  have hf := h
  refine lv_iload_n hx hb dX2_entryValue_0 rfl (lv_at hl 2 rfl) ?_
  obtain ⟨r1, e2, hf⟩ := ob_s hf
  try dsimp only at hf
  refine pu_calli (va_runS (As := [.int x2]) (rest := []) ⟨hx, hb, hml, hown, hts⟩ (cp_ofPath l dC dI cI cQ t1 t2 bs x2 r1 e2 s.heap.size) (va_cwS 1 hts (gs_S lk_44 lk_46 lk_1 lk_45) rfl rfl rfl (by decide +kernel) ⟨Nat.le_of_ble_eq_true rfl, Nat.le_of_ble_eq_true rfl⟩) (pr_S gk_W ⟨hG, pz_0⟩) rfl rfl hl.1 rfl (lv_room (Nat.le_of_ble_eq_true rfl)) dX2_entryValue_1 ⟨Nat.zero_le _, Nat.zero_le _⟩) ?_
  refine lv_istore_n (lv' := [(3, .int r1), (0, .ref xo), (1, .int x1), (2, .int x2)]) hx hb dX2_entryValue_4 rfl hl (by decide) rfl (fun ls hl => ?_)
  refine lv_aload_n hx hb dX2_entryValue_5 rfl (lv_at hl 1 rfl) ?_
  refine lv_iload_n hx hb dX2_entryValue_6 rfl (lv_at hl 2 rfl) ?_
  obtain ⟨r3, e4, hf⟩ := ob_s hf
  try dsimp only at hf
  refine pu_calli (va_runV (As := [.int x1]) (rest := []) ⟨hx, hb, hml, hown, hts⟩ (cx_isLayer l dC dI cI cQ t1 t2 bs top xo la ko kc nt lo lc hg c md cu kp kcu nf x1 r3 e4 s.heap.size) (cwV 1 hts (gs_V lk_48 lk_50 lk_51 lk_37 lk_49) rfl rfl rfl (by decide +kernel) ⟨Nat.le_of_ble_eq_true rfl, Nat.le_of_ble_eq_true rfl⟩) (pr_V gk_W (va_recv hG.1 hP (q0 := 0) rfl rfl) ⟨hG, hP⟩) rfl rfl hl.1 rfl (lv_room (Nat.le_of_ble_eq_true rfl)) dX2_entryValue_7 ⟨Nat.zero_le _, Nat.zero_le _⟩) ?_
  refine lv_if_eq (tgt := 17) hx hb dX2_entryValue_10 (by decide) (fun hc => ?_) (fun hc => ?_)
  · rw [if_pos hc] at hf
    refine lv_bipush (v := (-2)) hx hb dX2_entryValue_17 (by decide) ?_
    obtain rfl := Option.some.inj hf
    rw [hQ]
    exact pu_iret hx hb hr (vp_nar_int _) hsz dX2_entryValue_19 hlocks
  · rw [if_neg hc] at hf
    refine lv_iload_n hx hb dX2_entryValue_13 rfl (lv_at hl 0 rfl) ?_
    refine lv_if_gt (tgt := 20) hx hb dX2_entryValue_14 (by decide) (fun hc => ?_) (fun hc => ?_)
    · rw [if_pos hc] at hf
      refine lv_aload_n hx hb dX2_entryValue_20 rfl (lv_at hl 1 rfl) ?_
      refine va_get (D := (dC, dI)) (ci := 1) (v := .ref la) (C := RX2) (T := TX2) (N := 8) hx hb hts hiX2 hown hG.1 hP 0 rfl rfl 1 (by decide) (hts _ (tw_in lk_17)) (fun _ h9 => h9) rfl dX2_entryValue_21 ?_
      refine lv_iload_n hx hb dX2_entryValue_24 rfl (lv_at hl 2 rfl) ?_
      obtain ⟨hq, hf⟩ := ck_s hf
      have hi5 : x1.toNatClampNeg < top + 1 := Nat.not_le.mp (fun z => hq (Or.inr z))
      refine va_aldq hx hb hG.1 hP 1 1 rfl rfl hq dX2_entryValue_25 ?_
      refine W.eq (g2 := F0 m 26 ls [.ref (lo x1.toNatClampNeg)]) rfl ?_
      refine lv_iload_n hx hb dX2_entryValue_26 rfl (lv_at hl 0 rfl) ?_
      obtain ⟨r6, e7, hf⟩ := ob_s hf
      try dsimp only at hf
      refine pu_calli (va_runV (As := [.int r1]) (rest := []) ⟨hx, hb, hml, hown, hts⟩ (cy_kindAt l dC dI cI cQ t1 t2 bs (lo x1.toNatClampNeg) (lc x1.toNatClampNeg) (gx_L hg hi5) ((c x1.toNatClampNeg).1) ((c x1.toNatClampNeg).2.1) ((c x1.toNatClampNeg).2.2) r1 r6 e7 s.heap.size) (cwV 1 hts (gs_V lk_28 lk_14 lk_15 lk_12 lk_13) rfl rfl rfl (by decide +kernel) ⟨Nat.le_of_ble_eq_true rfl, Nat.le_of_ble_eq_true rfl⟩) (pr_V gk_W (va_recv hG.1 (px_L hP hi5) (q0 := 0) rfl rfl) ⟨hG, (px_L hP hi5)⟩) rfl rfl hl.1 rfl (lv_room (Nat.le_of_ble_eq_true rfl)) dX2_entryValue_27 ⟨Nat.zero_le _, Nat.zero_le _⟩) ?_
      refine lv_iconst (v := 1) hx hb dX2_entryValue_30 (by decide) ?_
      refine lv_icmp_ne (tgt := 47) hx hb dX2_entryValue_31 (by decide) (fun hc => ?_) (fun hc => ?_)
      · rw [if_neg hc] at hf
        refine lv_bipush (v := (-3)) hx hb dX2_entryValue_47 (by decide) ?_
        obtain rfl := Option.some.inj hf
        rw [hQ]
        exact pu_iret hx hb hr (vp_nar_int _) hsz dX2_entryValue_49 hlocks
      · rw [if_pos hc] at hf
        refine lv_aload_n hx hb dX2_entryValue_34 rfl (lv_at hl 1 rfl) ?_
        refine va_get (D := (dC, dI)) (ci := 1) (v := .ref la) (C := RX2) (T := TX2) (N := 8) hx hb hts hiX2 hown hG.1 hP 0 rfl rfl 1 (by decide) (hts _ (tw_in lk_17)) (fun _ h9 => h9) rfl dX2_entryValue_35 ?_
        refine lv_iload_n hx hb dX2_entryValue_38 rfl (lv_at hl 2 rfl) ?_
        obtain ⟨hq, hf⟩ := ck_s hf
        have hi8 : x1.toNatClampNeg < top + 1 := Nat.not_le.mp (fun z => hq (Or.inr z))
        refine va_aldq hx hb hG.1 hP 1 1 rfl rfl hq dX2_entryValue_39 ?_
        refine W.eq (g2 := F0 m 40 ls [.ref (lo x1.toNatClampNeg)]) rfl ?_
        refine lv_iload_n hx hb dX2_entryValue_40 rfl (lv_at hl 0 rfl) ?_
        obtain ⟨r9, e10, hf⟩ := ob_s hf
        try dsimp only at hf
        refine pu_calli (va_runV (As := [.int r1]) (rest := []) ⟨hx, hb, hml, hown, hts⟩ (cy_valueAt l dC dI cI cQ t1 t2 bs (lo x1.toNatClampNeg) (lc x1.toNatClampNeg) (gx_L hg hi8) ((c x1.toNatClampNeg).1) ((c x1.toNatClampNeg).2.1) ((c x1.toNatClampNeg).2.2) r1 r9 e10 s.heap.size) (cwV 1 hts (gs_V lk_90 lk_92 lk_93 lk_12 lk_91) rfl rfl rfl (by decide +kernel) ⟨Nat.le_of_ble_eq_true rfl, Nat.le_of_ble_eq_true rfl⟩) (pr_V gk_W (va_recv hG.1 (px_L hP hi8) (q0 := 0) rfl rfl) ⟨hG, (px_L hP hi8)⟩) rfl rfl hl.1 rfl (lv_room (Nat.le_of_ble_eq_true rfl)) dX2_entryValue_41 ⟨Nat.zero_le _, Nat.zero_le _⟩) ?_
        refine lv_goto (tgt := 49) hx hb dX2_entryValue_44 (by decide) ?_
        obtain rfl := Option.some.inj hf
        rw [hQ]
        exact pu_iret hx hb hr (vp_nar_int _) hsz dX2_entryValue_49 hlocks
    · rw [if_neg hc] at hf
      refine lv_bipush (v := (-2)) hx hb dX2_entryValue_17 (by decide) ?_
      obtain rfl := Option.some.inj hf
      rw [hQ]
      exact pu_iret hx hb hr (vp_nar_int _) hsz dX2_entryValue_19 hlocks
set_option maxHeartbeats 4000000 in
set_option maxRecDepth 100000 in
theorem cx_entries (l : Launch) (dC : Nat → ClassId) (dI : Nat → Nat → Nat) (cI cQ : ClassId) (t1 t2 bs : Nat) (top xo la ko kc nt : Nat) (lo lc : Nat → Nat) (hg : gd_A bs (ad_X top xo la ko kc nt lo lc)) (c : Nat → ls_T) (md : Int32) (cu : Int32) (kp : ls_T) (kcu : Int32) (nf : Nat → Int32) (x1 : Int32) (v0 : Int32) (h : fx_entries top c x1 = some v0) : pu_M l yX2_entries wsX2_entries rm_1_21 [.ref xo, .int x1] (gk_G dC dI cI cQ t1 t2 bs (wx_X cI cQ top xo la ko kc nt lo lc c md cu kp kcu nf)) v0 := by
  intro sz
  refine Met.ofW (cc := cX2_entries) (maxL := 2) (ret := (some .int)) (by decide) rfl ?_
  intro p e s m args below meth c_ s₁ B hml hv
  obtain ⟨rfl, hsz, hG, hP⟩ := hv
  have hx := B.exec
  have hb := B.bytes
  have hr := B.returns
  have hts := atoms_spec (ws := wsX2_entries) B.pre
  have hown : s.vm.findClass RX2 = some m.cls := findClass_of_methodNamed B.named
  have hlocks := B.notSynchronized
  have hiX2 : ∀ w ∈ u_ws RX2 TX2 8, w ∈ wsX2_entries := fun w hw => tw_in (usX2 w hw)
  have hl := lv_entry ([.ref xo, .int x1]) (n := 2) (Nat.le_of_ble_eq_true rfl)
  rw [lg_entry_eq]
  generalize (lg_sl ([.ref xo, .int x1]) ++ List.replicate (2 - (lg_sl ([.ref xo, .int x1])).length) Slot.unset).toArray = ls at hl ⊢
  have hl : lv_has ls 2 [(0, .ref xo), (1, .int x1)] := hl
  refine nm_Q (fun Q hQ => ?_)
  unfold fx_entries at h
  have hf := h
  refine lv_aload_n hx hb dX2_entries_0 rfl (lv_at hl 0 rfl) ?_
  refine lv_iload_n hx hb dX2_entries_1 rfl (lv_at hl 1 rfl) ?_
  obtain ⟨r1, e2, hf⟩ := ob_s hf
  try dsimp only at hf
  refine pu_calli (va_runV (As := [.int x1]) (rest := []) ⟨hx, hb, hml, hown, hts⟩ (cx_isLayer l dC dI cI cQ t1 t2 bs top xo la ko kc nt lo lc hg c md cu kp kcu nf x1 r1 e2 s.heap.size) (cwV 1 hts (gs_V lk_48 lk_50 lk_51 lk_37 lk_49) rfl rfl rfl (by decide +kernel) ⟨Nat.le_of_ble_eq_true rfl, Nat.le_of_ble_eq_true rfl⟩) (pr_V gk_W (va_recv hG.1 hP (q0 := 0) rfl rfl) ⟨hG, hP⟩) rfl rfl hl.1 rfl (lv_room (Nat.le_of_ble_eq_true rfl)) dX2_entries_2 ⟨Nat.zero_le _, Nat.zero_le _⟩) ?_
  refine lv_if_eq (tgt := 20) hx hb dX2_entries_5 (by decide) (fun hc => ?_) (fun hc => ?_)
  · rw [if_pos hc] at hf
    refine lv_bipush (v := (-2)) hx hb dX2_entries_20 (by decide) ?_
    obtain rfl := Option.some.inj hf
    rw [hQ]
    exact pu_iret hx hb hr (vp_nar_int _) hsz dX2_entries_22 hlocks
  · rw [if_neg hc] at hf
    refine lv_aload_n hx hb dX2_entries_8 rfl (lv_at hl 0 rfl) ?_
    refine va_get (D := (dC, dI)) (ci := 1) (v := .ref la) (C := RX2) (T := TX2) (N := 8) hx hb hts hiX2 hown hG.1 hP 0 rfl rfl 1 (by decide) (hts _ (tw_in lk_17)) (fun _ h9 => h9) rfl dX2_entries_9 ?_
    refine lv_iload_n hx hb dX2_entries_12 rfl (lv_at hl 1 rfl) ?_
    obtain ⟨hq, hf⟩ := ck_s hf
    have hi3 : x1.toNatClampNeg < top + 1 := Nat.not_le.mp (fun z => hq (Or.inr z))
    refine va_aldq hx hb hG.1 hP 1 1 rfl rfl hq dX2_entries_13 ?_
    refine W.eq (g2 := F0 m 14 ls [.ref (lo x1.toNatClampNeg)]) rfl ?_
    obtain ⟨r4, e5, hf⟩ := ob_s hf
    try dsimp only at hf
    refine pu_calli (va_runV (As := []) (rest := []) ⟨hx, hb, hml, hown, hts⟩ (cy_entryCount l dC dI cI cQ t1 t2 bs (lo x1.toNatClampNeg) (lc x1.toNatClampNeg) (gx_L hg hi3) ((c x1.toNatClampNeg).1) ((c x1.toNatClampNeg).2.1) ((c x1.toNatClampNeg).2.2) r4 e5 s.heap.size) (cwV 0 hts (gs_V lk_18 lk_20 lk_21 lk_12 lk_19) rfl rfl rfl (by decide +kernel) ⟨Nat.le_of_ble_eq_true rfl, Nat.le_of_ble_eq_true rfl⟩) (pr_V gk_W (va_recv hG.1 (px_L hP hi3) (q0 := 0) rfl rfl) ⟨hG, (px_L hP hi3)⟩) rfl rfl hl.1 rfl (lv_room (Nat.le_of_ble_eq_true rfl)) dX2_entries_14 ⟨Nat.zero_le _, Nat.zero_le _⟩) ?_
    refine lv_goto (tgt := 22) hx hb dX2_entries_17 (by decide) ?_
    obtain rfl := Option.some.inj hf
    rw [hQ]
    exact pu_iret hx hb hr (vp_nar_int _) hsz dX2_entries_22 hlocks
set_option maxHeartbeats 4000000 in
set_option maxRecDepth 100000 in
theorem cx_whiteouts (l : Launch) (dC : Nat → ClassId) (dI : Nat → Nat → Nat) (cI cQ : ClassId) (t1 t2 bs : Nat) (top xo la ko kc nt : Nat) (lo lc : Nat → Nat) (hg : gd_A bs (ad_X top xo la ko kc nt lo lc)) (c : Nat → ls_T) (md : Int32) (cu : Int32) (kp : ls_T) (kcu : Int32) (nf : Nat → Int32) (v0 : Int32) (h : fx_whiteouts top c = some v0) : pu_M l yX2_whiteouts wsX2_whiteouts rm_1_20 [.ref xo] (gk_G dC dI cI cQ t1 t2 bs (wx_X cI cQ top xo la ko kc nt lo lc c md cu kp kcu nf)) v0 := by
  intro sz
  refine Met.ofW (cc := cX2_whiteouts) (maxL := 1) (ret := (some .int)) (by decide) rfl ?_
  intro p e s m args below meth c_ s₁ B hml hv
  obtain ⟨rfl, hsz, hG, hP⟩ := hv
  have hx := B.exec
  have hb := B.bytes
  have hr := B.returns
  have hts := atoms_spec (ws := wsX2_whiteouts) B.pre
  have hown : s.vm.findClass RX2 = some m.cls := findClass_of_methodNamed B.named
  have hlocks := B.notSynchronized
  have hiX2 : ∀ w ∈ u_ws RX2 TX2 8, w ∈ wsX2_whiteouts := fun w hw => tw_in (usX2 w hw)
  have hl := lv_entry ([.ref xo]) (n := 1) (Nat.le_of_ble_eq_true rfl)
  rw [lg_entry_eq]
  generalize (lg_sl ([.ref xo]) ++ List.replicate (1 - (lg_sl ([.ref xo])).length) Slot.unset).toArray = ls at hl ⊢
  have hl : lv_has ls 1 [(0, .ref xo)] := hl
  refine nm_Q (fun Q hQ => ?_)
  unfold fx_whiteouts at h
  have hf := h
  refine lv_aload_n hx hb dX2_whiteouts_0 rfl (lv_at hl 0 rfl) ?_
  refine va_get (D := (dC, dI)) (ci := 1) (v := .ref (lo top)) (C := RX2) (T := TX2) (N := 8) hx hb hts hiX2 hown hG.1 hP 0 rfl rfl 2 (by decide) (hts _ (tw_in lk_22)) (fun _ h9 => h9) rfl dX2_whiteouts_1 ?_
  obtain ⟨r1, e2, hf⟩ := ob_s hf
  try dsimp only at hf
  refine pu_calli (va_runV (As := []) (rest := []) ⟨hx, hb, hml, hown, hts⟩ (cy_whiteoutCount l dC dI cI cQ t1 t2 bs (lo top) (lc top) (gx_L hg (Nat.lt_succ_self top)) ((c top).1) ((c top).2.1) ((c top).2.2) r1 e2 s.heap.size) (cwV 0 hts (gs_V lk_189 lk_191 lk_192 lk_12 lk_190) rfl rfl rfl (by decide +kernel) ⟨Nat.le_of_ble_eq_true rfl, Nat.le_of_ble_eq_true rfl⟩) (pr_V gk_W (va_recv hG.1 (px_L hP (Nat.lt_succ_self top)) (q0 := 0) rfl rfl) ⟨hG, (px_L hP (Nat.lt_succ_self top))⟩) rfl rfl hl.1 rfl (lv_room (Nat.le_of_ble_eq_true rfl)) dX2_whiteouts_4 ⟨Nat.zero_le _, Nat.zero_le _⟩) ?_
  obtain rfl := Option.some.inj hf
  rw [hQ]
  exact pu_iret hx hb hr (vp_nar_int _) hsz dX2_whiteouts_7 hlocks
set_option maxHeartbeats 4000000 in
set_option maxRecDepth 100000 in
theorem cx_copies (l : Launch) (dC : Nat → ClassId) (dI : Nat → Nat → Nat) (cI cQ : ClassId) (t1 t2 bs : Nat) (top xo la ko kc nt : Nat) (lo lc : Nat → Nat) (hg : gd_A bs (ad_X top xo la ko kc nt lo lc)) (c : Nat → ls_T) (md : Int32) (cu : Int32) (kp : ls_T) (kcu : Int32) (nf : Nat → Int32) (v0 : Int32) (h : fx_copies cu = some v0) : pu_M l yX2_copies wsX2_copies rm_0_0 [.ref xo] (gk_G dC dI cI cQ t1 t2 bs (wx_X cI cQ top xo la ko kc nt lo lc c md cu kp kcu nf)) v0 := by
  intro sz
  refine Met.ofW (cc := cX2_copies) (maxL := 1) (ret := (some .int)) (by decide) rfl ?_
  intro p e s m args below meth c_ s₁ B hml hv
  obtain ⟨rfl, hsz, hG, hP⟩ := hv
  have hx := B.exec
  have hb := B.bytes
  have hr := B.returns
  have hts := atoms_spec (ws := wsX2_copies) B.pre
  have hown : s.vm.findClass RX2 = some m.cls := findClass_of_methodNamed B.named
  have hlocks := B.notSynchronized
  have hiX2 : ∀ w ∈ u_ws RX2 TX2 8, w ∈ wsX2_copies := fun w hw => tw_in (usX2 w hw)
  have hl := lv_entry ([.ref xo]) (n := 1) (Nat.le_of_ble_eq_true rfl)
  rw [lg_entry_eq]
  generalize (lg_sl ([.ref xo]) ++ List.replicate (1 - (lg_sl ([.ref xo])).length) Slot.unset).toArray = ls at hl ⊢
  have hl : lv_has ls 1 [(0, .ref xo)] := hl
  refine nm_Q (fun Q hQ => ?_)
  unfold fx_copies at h
  have hf := h
  refine lv_aload_n hx hb dX2_copies_0 rfl (lv_at hl 0 rfl) ?_
  refine va_get (D := (dC, dI)) (ci := 1) (v := .int cu) (C := RX2) (T := TX2) (N := 8) hx hb hts hiX2 hown hG.1 hP 0 rfl rfl 4 (by decide) (hts _ (tw_in lk_124)) (fun _ h9 => h9) rfl dX2_copies_1 ?_
  obtain rfl := Option.some.inj hf
  rw [hQ]
  exact pu_iret hx hb hr (vp_nar_int _) hsz dX2_copies_4 hlocks
