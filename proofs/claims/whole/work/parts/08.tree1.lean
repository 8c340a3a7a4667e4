set_option maxHeartbeats 4000000 in
set_option maxRecDepth 100000 in
theorem cx_isLayer (l : Launch) (dC : Nat → ClassId) (dI : Nat → Nat → Nat) (cI cQ : ClassId) (t1 t2 bs : Nat) (top xo la ko kc nt : Nat) (lo lc : Nat → Nat) (hg : gd_A bs (ad_X top xo la ko kc nt lo lc)) (c : Nat → ls_T) (md : Int32) (cu : Int32) (kp : ls_T) (kcu : Int32) (nf : Nat → Int32) (x1 : Int32) (v0 : Int32) (h : fx_isLayer top x1 = some v0) : pu_M l yX2_isLayer wsX2_isLayer rm_0_0 [.ref xo, .int x1] (gk_G dC dI cI cQ t1 t2 bs (wx_X cI cQ top xo la ko kc nt lo lc c md cu kp kcu nf)) v0 := by
  intro sz
  refine Met.ofW (cc := cX2_isLayer) (maxL := 2) (ret := (some .boolean)) (by decide) rfl ?_
  intro p e s m args below meth c_ s₁ B hml hv
  obtain ⟨rfl, hsz, hG, hP⟩ := hv
  have hx := B.exec
  have hb := B.bytes
  have hr := B.returns
  have hts := atoms_spec (ws := wsX2_isLayer) B.pre
  have hown : s.vm.findClass RX2 = some m.cls := findClass_of_methodNamed B.named
  have hlocks := B.notSynchronized
  have hiX2 : ∀ w ∈ u_ws RX2 TX2 8, w ∈ wsX2_isLayer := fun w hw => tw_in (usX2 w hw)
  have hl := lv_entry ([.ref xo, .int x1]) (n := 2) (Nat.le_of_ble_eq_true rfl)
  rw [lg_entry_eq]
  generalize (lg_sl ([.ref xo, .int x1]) ++ List.replicate (2 - (lg_sl ([.ref xo, .int x1])).length) Slot.unset).toArray = ls at hl ⊢
  have hl : lv_has ls 2 [(0, .ref xo), (1, .int x1)] := hl
  refine nm_Q (fun Q hQ => ?_)
  unfold fx_isLayer at h
  have hf := h
  refine lv_iload_n hx hb dX2_isLayer_0 rfl (lv_at hl 1 rfl) ?_
  refine lv_if_lt (tgt := 16) hx hb dX2_isLayer_1 (by decide) (fun hc => ?_) (fun hc => ?_)
  · rw [if_pos hc] at hf
    refine lv_iconst (v := 0) hx hb dX2_isLayer_16 (by decide) ?_
    obtain rfl := Option.some.inj hf
    rw [hQ]
    exact pu_iret hx hb hr (nb_0) hsz dX2_isLayer_17 hlocks
  · rw [if_neg hc] at hf
    refine lv_iload_n hx hb dX2_isLayer_4 rfl (lv_at hl 1 rfl) ?_
    refine lv_aload_n hx hb dX2_isLayer_5 rfl (lv_at hl 0 rfl) ?_
    refine va_get (D := (dC, dI)) (ci := 1) (v := .int (nI top)) (C := RX2) (T := TX2) (N := 8) hx hb hts hiX2 hown hG.1 hP 0 rfl rfl 0 (by decide) (hts _ (tw_in lk_4)) (fun _ h9 => h9) rfl dX2_isLayer_6 ?_
    refine lv_icmp_gt (tgt := 16) hx hb dX2_isLayer_9 (by decide) (fun hc => ?_) (fun hc => ?_)
    · rw [if_pos hc] at hf
      refine lv_iconst (v := 0) hx hb dX2_isLayer_16 (by decide) ?_
      obtain rfl := Option.some.inj hf
      rw [hQ]
      exact pu_iret hx hb hr (nb_0) hsz dX2_isLayer_17 hlocks
    · rw [if_neg hc] at hf
      refine lv_iconst (v := 1) hx hb dX2_isLayer_12 (by decide) ?_
      refine lv_goto (tgt := 17) hx hb dX2_isLayer_13 (by decide) ?_
      obtain rfl := Option.some.inj hf
      rw [hQ]
      exact pu_iret hx hb hr (nb_1) hsz dX2_isLayer_17 hlocks
set_option maxHeartbeats 4000000 in
set_option maxRecDepth 100000 in
theorem cx_hasRoomIn (l : Launch) (dC : Nat → ClassId) (dI : Nat → Nat → Nat) (cI cQ : ClassId) (t1 t2 bs : Nat) (top xo la ko kc nt : Nat) (lo lc : Nat → Nat) (hg : gd_A bs (ad_X top xo la ko kc nt lo lc)) (c : Nat → ls_T) (md : Int32) (cu : Int32) (kp : ls_T) (kcu : Int32) (nf : Nat → Int32) (x1 : Int32) (v0 : Int32) (h : fx_hasRoomIn top c x1 = some v0) : pu_M l yX2_hasRoomIn wsX2_hasRoomIn rm_1_20 [.ref xo, .int x1] (gk_G dC dI cI cQ t1 t2 bs (wx_X cI cQ top xo la ko kc nt lo lc c md cu kp kcu nf)) v0 := by
  intro sz
  refine Met.ofW (cc := cX2_hasRoomIn) (maxL := 4) (ret := (some .boolean)) (by decide) rfl ?_
  intro p e s m args below meth c_ s₁ B hml hv
  obtain ⟨rfl, hsz, hG, hP⟩ := hv
  have hx := B.exec
  have hb := B.bytes
  have hr := B.returns
  have hts := atoms_spec (ws := wsX2_hasRoomIn) B.pre
  have hown : s.vm.findClass RX2 = some m.cls := findClass_of_methodNamed B.named
  have hlocks := B.notSynchronized
  have hiX2 : ∀ w ∈ u_ws RX2 TX2 8, w ∈ wsX2_hasRoomIn := fun w hw => tw_in (usX2 w hw)
  have hl := lv_entry ([.ref xo, .int x1]) (n := 4) (Nat.le_of_ble_eq_true rfl)
  rw [lg_entry_eq]
  generalize (lg_sl ([.ref xo, .int x1]) ++ List.replicate (4 - (lg_sl ([.ref xo, .int x1])).length) Slot.unset).toArray = ls at hl ⊢
  have hl : lv_has ls 4 [(0, .ref xo), (1, .int x1)] := hl
  refine nm_Q (fun Q hQ => ?_)
  have B30 : ∀ n : Nat, ∀ (x2 : Int32) (x3 : Int32), ∀ ls : Array Slot, fx_hasRoomIn_30 top c x1 n x2 x3 = some v0 → lv_has ls 4 [(0, .ref xo), (1, .int x1), (2, .int x2), (3, .int x3)] → W p l e (headSpec wsX2_hasRoomIn rm_1_20).room s m ([.ref xo, .int x1] : List Value).toArray below meth c_ s.heap [] 0 0 Q (F0 m 30 ls []) := by
    intro n
    induction n with
    | zero => 
      intro x2 x3 ls hf hl
      exact nomatch (show (none : Option (Int32)) = some v0 from hf)
    | succ n ih =>
      intro x2 x3 ls hf hl
      rw [fx_hasRoomIn_30.eq_2] at hf
      try dsimp only at hf
      refine lv_iload_n hx hb dX2_hasRoomIn_30 rfl (lv_at hl 3 rfl) ?_
      refine lv_aload_n hx hb dX2_hasRoomIn_31 rfl (lv_at hl 0 rfl) ?_
      refine va_get (D := (dC, dI)) (ci := 1) (v := .int (nI top)) (C := RX2) (T := TX2) (N := 8) hx hb hts hiX2 hown hG.1 hP 0 rfl rfl 0 (by decide) (hts _ (tw_in lk_4)) (fun _ h9 => h9) rfl dX2_hasRoomIn_32 ?_
      refine lv_icmp_ge (tgt := 56) hx hb dX2_hasRoomIn_35 (by decide) (fun hc => ?_) (fun hc => ?_)
      · rw [if_pos hc] at hf
        refine lv_iload_n hx hb dX2_hasRoomIn_56 rfl (lv_at hl 2 rfl) ?_
        refine lv_bipush (v := 60) hx hb dX2_hasRoomIn_57 (by decide) ?_
        refine lv_icmp_ge (tgt := 66) hx hb dX2_hasRoomIn_59 (by decide) (fun hc => ?_) (fun hc => ?_)
        · rw [if_pos hc] at hf
          refine lv_iconst (v := 0) hx hb dX2_hasRoomIn_66 (by decide) ?_
          obtain rfl := Option.some.inj hf
          rw [hQ]
          exact pu_iret hx hb hr (nb_0) hsz dX2_hasRoomIn_67 hlocks
        · rw [if_neg hc] at hf
          refine lv_iconst (v := 1) hx hb dX2_hasRoomIn_62 (by decide) ?_
          refine lv_goto (tgt := 67) hx hb dX2_hasRoomIn_63 (by decide) ?_
          obtain rfl := Option.some.inj hf
          rw [hQ]
          exact pu_iret hx hb hr (nb_1) hsz dX2_hasRoomIn_67 hlocks
      · rw [if_neg hc] at hf
        refine lv_iload_n hx hb dX2_hasRoomIn_38 rfl (lv_at hl 2 rfl) ?_
        refine lv_aload_n hx hb dX2_hasRoomIn_39 rfl (lv_at hl 0 rfl) ?_
        refine va_get (D := (dC, dI)) (ci := 1) (v := .ref la) (C := RX2) (T := TX2) (N := 8) hx hb hts hiX2 hown hG.1 hP 0 rfl rfl 1 (by decide) (hts _ (tw_in lk_17)) (fun _ h9 => h9) rfl dX2_hasRoomIn_40 ?_
        refine lv_iload_n hx hb dX2_hasRoomIn_43 rfl (lv_at hl 3 rfl) ?_
        obtain ⟨hq, hf⟩ := ck_s hf
        have hi1 : x3.toNatClampNeg < top + 1 := Nat.not_le.mp (fun z => hq (Or.inr z))
        refine va_aldq hx hb hG.1 hP 1 1 rfl rfl hq dX2_hasRoomIn_44 ?_
        refine W.eq (g2 := F0 m 45 ls [.ref (lo x3.toNatClampNeg), .int x2]) rfl ?_
        obtain ⟨r2, e3, hf⟩ := ob_s hf
        try dsimp only at hf
        refine pu_calli (va_runV (As := []) (rest := [.int x2]) ⟨hx, hb, hml, hown, hts⟩ (cy_entryCount l dC dI cI cQ t1 t2 bs (lo x3.toNatClampNeg) (lc x3.toNatClampNeg) (gx_L hg hi1) ((c x3.toNatClampNeg).1) ((c x3.toNatClampNeg).2.1) ((c x3.toNatClampNeg).2.2) r2 e3 s.heap.size) (cwV 0 hts (gs_V lk_18 lk_20 lk_21 lk_12 lk_19) rfl rfl rfl (by decide +kernel) ⟨Nat.le_of_ble_eq_true rfl, Nat.le_of_ble_eq_true rfl⟩) (pr_V gk_W (va_recv hG.1 (px_L hP hi1) (q0 := 0) rfl rfl) ⟨hG, (px_L hP hi1)⟩) rfl rfl hl.1 rfl (lv_room (Nat.le_of_ble_eq_true rfl)) dX2_hasRoomIn_45 ⟨Nat.zero_le _, Nat.zero_le _⟩) ?_
        refine lv_iadd hx hb dX2_hasRoomIn_48 ?_
        refine lv_istore_n (lv' := [(2, .int (x2 + r2)), (0, .ref xo), (1, .int x1), (3, .int x3)]) hx hb dX2_hasRoomIn_49 rfl hl (by decide) rfl (fun ls hl => ?_)
        refine lv_iinc (k := 3) (v := x3 + 1) (lv' := [(3, .int (x3 + 1)), (2, .int (x2 + r2)), (0, .ref xo), (1, .int x1)]) hx hb dX2_hasRoomIn_50 hl rfl (by rfl) (by decide) rfl (fun ls hl => ?_)
        refine lv_goto (tgt := 30) hx hb dX2_hasRoomIn_53 (by decide) ?_
        exact ih (x2 + r2) (x3 + 1) ls hf (lv_sub hl [2, 3, 1, 0] rfl)
  unfold fx_hasRoomIn at h
  have hf := h
  refine lv_iload_n hx hb dX2_hasRoomIn_0 rfl (lv_at hl 1 rfl) ?_
  refine lv_aload_n hx hb dX2_hasRoomIn_1 rfl (lv_at hl 0 rfl) ?_
  refine va_get (D := (dC, dI)) (ci := 1) (v := .int (nI top)) (C := RX2) (T := TX2) (N := 8) hx hb hts hiX2 hown hG.1 hP 0 rfl rfl 0 (by decide) (hts _ (tw_in lk_4)) (fun _ h9 => h9) rfl dX2_hasRoomIn_2 ?_
  refine lv_icmp_ne (tgt := 26) hx hb dX2_hasRoomIn_5 (by decide) (fun hc => ?_) (fun hc => ?_)
  · rw [if_neg hc] at hf
    refine lv_iconst (v := 0) hx hb dX2_hasRoomIn_26 (by decide) ?_
    refine lv_istore_n (lv' := [(2, .int 0), (0, .ref xo), (1, .int x1)]) hx hb dX2_hasRoomIn_27 rfl hl (by decide) rfl (fun ls hl => ?_)
    refine lv_iconst (v := 0) hx hb dX2_hasRoomIn_28 (by decide) ?_
    refine lv_istore_n (lv' := [(3, .int 0), (2, .int 0), (0, .ref xo), (1, .int x1)]) hx hb dX2_hasRoomIn_29 rfl hl (by decide) rfl (fun ls hl => ?_)
    exact B30 fu_n 0 0 ls hf (lv_sub hl [2, 3, 1, 0] rfl)
  · rw [if_pos hc] at hf
    refine lv_aload_n hx hb dX2_hasRoomIn_8 rfl (lv_at hl 0 rfl) ?_
    refine va_get (D := (dC, dI)) (ci := 1) (v := .ref (lo top)) (C := RX2) (T := TX2) (N := 8) hx hb hts hiX2 hown hG.1 hP 0 rfl rfl 2 (by decide) (hts _ (tw_in lk_22)) (fun _ h9 => h9) rfl dX2_hasRoomIn_9 ?_
    obtain ⟨r4, e5, hf⟩ := ob_s hf
    try dsimp only at hf
    refine pu_calli (va_runV (As := []) (rest := []) ⟨hx, hb, hml, hown, hts⟩ (cy_entryCount l dC dI cI cQ t1 t2 bs (lo top) (lc top) (gx_L hg (Nat.lt_succ_self top)) ((c top).1) ((c top).2.1) ((c top).2.2) r4 e5 s.heap.size) (cwV 0 hts (gs_V lk_18 lk_20 lk_21 lk_12 lk_19) rfl rfl rfl (by decide +kernel) ⟨Nat.le_of_ble_eq_true rfl, Nat.le_of_ble_eq_true rfl⟩) (pr_V gk_W (va_recv hG.1 (px_L hP (Nat.lt_succ_self top)) (q0 := 0) rfl rfl) ⟨hG, (px_L hP (Nat.lt_succ_self top))⟩) rfl rfl hl.1 rfl (lv_room (Nat.le_of_ble_eq_true rfl)) dX2_hasRoomIn_12 ⟨Nat.zero_le _, Nat.zero_le _⟩) ?_
    refine lv_bipush (v := 30) hx hb dX2_hasRoomIn_15 (by decide) ?_
    refine lv_icmp_ge (tgt := 24) hx hb dX2_hasRoomIn_17 (by decide) (fun hc => ?_) (fun hc => ?_)
    · rw [if_pos hc] at hf
      refine lv_iconst (v := 0) hx hb dX2_hasRoomIn_24 (by decide) ?_
      obtain rfl := Option.some.inj hf
      rw [hQ]
      exact pu_iret hx hb hr (nb_0) hsz dX2_hasRoomIn_25 hlocks
    · rw [if_neg hc] at hf
      refine lv_iconst (v := 1) hx hb dX2_hasRoomIn_20 (by decide) ?_
      refine lv_goto (tgt := 25) hx hb dX2_hasRoomIn_21 (by decide) ?_
      obtain rfl := Option.some.inj hf
      rw [hQ]
      exact pu_iret hx hb hr (nb_1) hsz dX2_hasRoomIn_25 hlocks
set_option maxHeartbeats 4000000 in
set_option maxRecDepth 100000 in
theorem cx_put (l : Launch) (dC : Nat → ClassId) (dI : Nat → Nat → Nat) (cI cQ : ClassId) (t1 t2 bs : Nat) (top xo la ko kc nt : Nat) (lo lc : Nat → Nat) (hg : gd_A bs (ad_X top xo la ko kc nt lo lc)) (c : Nat → ls_T) (md : Int32) (cu : Int32) (kp : ls_T) (kcu : Int32) (nf : Nat → Int32) (x1 : Int32) (x2 : Int32) (x3 : Int32) (x4 : Int32) (v0 : Int32 × (Nat → ls_T)) (h : fx_put top c md x1 x2 x3 x4 = some v0) : im_I l yX2_put wsX2_put rm_2_44 [.ref xo, .int x1, .int x2, .int x3, .int x4] (gk_G dC dI cI cQ t1 t2 bs (wx_X cI cQ top xo la ko kc nt lo lc c md cu kp kcu nf)) v0.1 (va_P (dC, dI) vwCl (wx_X cI cQ top xo la ko kc nt lo lc v0.2 md cu kp kcu nf)) (in_A (ad_X top xo la ko kc nt lo lc)) := by
  intro sz
  refine Met.ofW (cc := cX2_put) (maxL := 7) (ret := (some .boolean)) (by decide) rfl ?_
  intro p e s m args below meth c_ s₁ B hml hv
  obtain ⟨rfl, hsz, hG, hP⟩ := hv
  have hx := B.exec
  have hb := B.bytes
  have hr := B.returns
  have hts := atoms_spec (ws := wsX2_put) B.pre
  have hown : s.vm.findClass RX2 = some m.cls := findClass_of_methodNamed B.named
  have hlocks := B.notSynchronized
  have hiX2 : ∀ w ∈ u_ws RX2 TX2 8, w ∈ wsX2_put := fun w hw => tw_in (usX2 w hw)
  have hl := lv_entry ([.ref xo, .int x1, .int x2, .int x3, .int x4]) (n := 7) (Nat.le_of_ble_eq_true rfl)
  rw [lg_entry_eq]
  generalize (lg_sl ([.ref xo, .int x1, .int x2, .int x3, .int x4]) ++ List.replicate (7 - (lg_sl ([.ref xo, .int x1, .int x2, .int x3, .int x4])).length) Slot.unset).toArray = ls at hl ⊢
  have hl : lv_has ls 7 [(0, .ref xo), (1, .int x1), (2, .int x2), (3, .int x3), (4, .int x4)] := hl
  refine nm_Q (fun Q hQ => ?_)
  have B109 : ∀ (x5 : Int32) (z0 : Int32) (z1 : Int32) (c : Nat → ls_T), ∀ (H : Heap) (locs : List Loc), va_P (dC, dI) vwCl (wx_X cI cQ top xo la ko kc nt lo lc c md cu kp kcu nf) H → va_S (in_A (ad_X top xo la ko kc nt lo lc)) s.heap H locs → x1.toNatClampNeg < top + 1 → ∀ ls : Array Slot, fx_put_109 top md x1 x2 x3 x4 x5 z0 z1 c = some v0 → lv_has ls 7 [(0, .ref xo), (1, .int x1), (2, .int x2), (3, .int x3), (4, .int x4), (5, .int x5), (6, .ref (lo x1.toNatClampNeg))] → W p l e (headSpec wsX2_put rm_2_44).room s m ([.ref xo, .int x1, .int x2, .int x3, .int x4] : List Value).toArray below meth c_ H locs 0 0 Q (F0 m 109 ls [.int z0, .int z1, .ref (lo x1.toNatClampNeg)]) := by
    intro x5 z0 z1 c H locs hP hS hi_0 ls hf hl
    unfold fx_put_109 at hf
    obtain ⟨r1, e2, hf⟩ := ob_s hf
    try dsimp only at hf
    refine im_callv (va_runV (As := [.int z1, .int z0]) (rest := []) ⟨hx, hb, hml, hown, hts⟩ (cy_set l dC dI cI cQ t1 t2 bs (lo x1.toNatClampNeg) (lc x1.toNatClampNeg) (gx_L hg hi_0) ((c x1.toNatClampNeg).1) ((c x1.toNatClampNeg).2.1) ((c x1.toNatClampNeg).2.2) z1 z0 r1 e2 H.size) (cwV 2 hts (gs_V lk_24 lk_26 lk_27 lk_12 lk_25) rfl rfl rfl (by decide +kernel) ⟨Nat.le_of_ble_eq_true rfl, Nat.le_of_ble_eq_true rfl⟩) (pr_V gk_W (va_recv hG.1 (px_L hP hi_0) (q0 := 0) rfl rfl) ⟨(gk_S hG hS (bb_A hg)), (px_L hP hi_0)⟩) rfl rfl hl.1 rfl (lv_room (Nat.le_of_ble_eq_true rfl)) dX2_put_109 ⟨Nat.zero_le _, Nat.zero_le _⟩) hS (ax_L hi_0) (fun H locs hP1 hk1 hS => ?_)
    have hP : va_P (dC, dI) vwCl (wx_X cI cQ top xo la ko kc nt lo lc (va_up c x1.toNatClampNeg (r1.1, r1.2.1, r1.2.2)) md cu kp kcu nf) H := (jx_L hg hi_0 hP hP1 hk1)
    refine lv_iconst (v := 1) hx hb dX2_put_112 (by decide) ?_
    obtain rfl := Option.some.inj hf
    rw [hQ]
    exact im_iret hx hb hr (nb_1) hS hP dX2_put_113 hlocks
  have B50 : ∀ (x5 : Int32) (c : Nat → ls_T), ∀ (H : Heap) (locs : List Loc), va_P (dC, dI) vwCl (wx_X cI cQ top xo la ko kc nt lo lc c md cu kp kcu nf) H → va_S (in_A (ad_X top xo la ko kc nt lo lc)) s.heap H locs → ∀ ls : Array Slot, fx_put_50 top md x1 x2 x3 x4 x5 c = some v0 → lv_has ls 7 [(0, .ref xo), (1, .int x1), (2, .int x2), (3, .int x3), (4, .int x4), (5, .int x5)] → W p l e (headSpec wsX2_put rm_2_44).room s m ([.ref xo, .int x1, .int x2, .int x3, .int x4] : List Value).toArray below meth c_ H locs 0 0 Q (F0 m 50 ls []) := by
    intro x5 c H locs hP hS ls hf hl
    unfold fx_put_50 at hf
    refine lv_aload_n hx hb dX2_put_50 rfl (lv_at hl 0 rfl) ?_
    refine va_get (D := (dC, dI)) (ci := 1) (v := .ref la) (C := RX2) (T := TX2) (N := 8) hx hb hts hiX2 hown hG.1 hP 0 rfl rfl 1 (by decide) (hts _ (tw_in lk_17)) (fun _ h9 => h9) rfl dX2_put_51 ?_
    refine lv_iload_n hx hb dX2_put_54 rfl (lv_at hl 1 rfl) ?_
    obtain ⟨hq, hf⟩ := ck_s hf
    have hi3 : x1.toNatClampNeg < top + 1 := Nat.not_le.mp (fun z => hq (Or.inr z))
    refine va_aldq hx hb hG.1 hP 1 1 rfl rfl hq dX2_put_55 ?_
    refine W.eq (g2 := F0 m 56 ls [.ref (lo x1.toNatClampNeg)]) rfl ?_
    refine lv_astore (lv' := [(6, .ref (lo x1.toNatClampNeg)), (0, .ref xo), (1, .int x1), (2, .int x2), (3, .int x3), (4, .int x4), (5, .int x5)]) hx hb dX2_put_56 hl (by decide) rfl (fun ls hl => ?_)
    refine lv_aload hx hb dX2_put_58 (lv_at hl 0 rfl) ?_
    refine lv_iload hx hb dX2_put_60 (lv_at hl 6 rfl) ?_
    obtain ⟨r4, e5, hf⟩ := ob_s hf
    try dsimp only at hf
    refine pu_calli (va_runV (As := [.int x5]) (rest := []) ⟨hx, hb, hml, hown, hts⟩ (cy_kindAt l dC dI cI cQ t1 t2 bs (lo x1.toNatClampNeg) (lc x1.toNatClampNeg) (gx_L hg hi3) ((c x1.toNatClampNeg).1) ((c x1.toNatClampNeg).2.1) ((c x1.toNatClampNeg).2.2) x5 r4 e5 H.size) (cwV 1 hts (gs_V lk_28 lk_14 lk_15 lk_12 lk_13) rfl rfl rfl (by decide +kernel) ⟨Nat.le_of_ble_eq_true rfl, Nat.le_of_ble_eq_true rfl⟩) (pr_V gk_W (va_recv hG.1 (px_L hP hi3) (q0 := 0) rfl rfl) ⟨(gk_S hG hS (bb_A hg)), (px_L hP hi3)⟩) rfl rfl hl.1 rfl (lv_room (Nat.le_of_ble_eq_true rfl)) dX2_put_62 ⟨Nat.zero_le _, Nat.zero_le _⟩) ?_
    refine lv_if_ne (tgt := 89) hx hb dX2_put_65 (by decide) (fun hc => ?_) (fun hc => ?_)
    · rw [if_neg hc] at hf
      refine lv_iconst (v := 0) hx hb dX2_put_89 (by decide) ?_
      obtain rfl := Option.some.inj hf
      rw [hQ]
      exact im_iret hx hb hr (nb_0) hS hP dX2_put_90 hlocks
    · rw [if_pos hc] at hf
      refine lv_aload hx hb dX2_put_68 (lv_at hl 0 rfl) ?_
      refine lv_iload hx hb dX2_put_70 (lv_at hl 6 rfl) ?_
      obtain ⟨r6, e7, hf⟩ := ob_s hf
      try dsimp only at hf
      refine pu_calli (va_runS (As := [.int x5]) (rest := [.ref (lo x1.toNatClampNeg)]) ⟨hx, hb, hml, hown, hts⟩ (cp_parent l dC dI cI cQ t1 t2 bs x5 r6 e7 H.size) (va_cwS 1 hts (gs_S lk_29 lk_31 lk_1 lk_30) rfl rfl rfl (by decide +kernel) ⟨Nat.le_of_ble_eq_true rfl, Nat.le_of_ble_eq_true rfl⟩) (pr_S gk_W ⟨(gk_S hG hS (bb_A hg)), pz_0⟩) rfl rfl hl.1 rfl (lv_room (Nat.le_of_ble_eq_true rfl)) dX2_put_72 ⟨Nat.zero_le _, Nat.zero_le _⟩) ?_
      obtain ⟨r8, e9, hf⟩ := ob_s hf
      try dsimp only at hf
      refine pu_calli (va_runV (As := [.int r6]) (rest := []) ⟨hx, hb, hml, hown, hts⟩ (cy_canHoldIn l dC dI cI cQ t1 t2 bs (lo x1.toNatClampNeg) (lc x1.toNatClampNeg) (gx_L hg hi3) ((c x1.toNatClampNeg).1) ((c x1.toNatClampNeg).2.1) ((c x1.toNatClampNeg).2.2) r6 r8 e9 H.size) (cwV 1 hts (gs_V lk_32 lk_34 lk_35 lk_12 lk_33) rfl rfl rfl (by decide +kernel) ⟨Nat.le_of_ble_eq_true rfl, Nat.le_of_ble_eq_true rfl⟩) (pr_V gk_W (va_recv hG.1 (px_L hP hi3) (q0 := 0) rfl rfl) ⟨(gk_S hG hS (bb_A hg)), (px_L hP hi3)⟩) rfl rfl hl.1 rfl (lv_room (Nat.le_of_ble_eq_true rfl)) dX2_put_75 ⟨Nat.zero_le _, Nat.zero_le _⟩) ?_
      refine lv_if_eq (tgt := 89) hx hb dX2_put_78 (by decide) (fun hc => ?_) (fun hc => ?_)
      · rw [if_pos hc] at hf
        refine lv_iconst (v := 0) hx hb dX2_put_89 (by decide) ?_
        obtain rfl := Option.some.inj hf
        rw [hQ]
        exact im_iret hx hb hr (nb_0) hS hP dX2_put_90 hlocks
      · rw [if_neg hc] at hf
        refine lv_aload_n hx hb dX2_put_81 rfl (lv_at hl 1 rfl) ?_
        refine lv_iload_n hx hb dX2_put_82 rfl (lv_at hl 2 rfl) ?_
        obtain ⟨r10, e11, hf⟩ := ob_s hf
        try dsimp only at hf
        refine pu_calli (va_runV (As := [.int x1]) (rest := []) ⟨hx, hb, hml, hown, hts⟩ (cx_hasRoomIn l dC dI cI cQ t1 t2 bs top xo la ko kc nt lo lc hg c md cu kp kcu nf x1 r10 e11 H.size) (cwV 1 hts (gs_V lk_36 lk_39 lk_40 lk_37 lk_38) rfl rfl rfl (by decide +kernel) ⟨Nat.le_of_ble_eq_true rfl, Nat.le_of_ble_eq_true rfl⟩) (pr_V gk_W (va_recv hG.1 hP (q0 := 0) rfl rfl) ⟨(gk_S hG hS (bb_A hg)), hP⟩) rfl rfl hl.1 rfl (lv_room (Nat.le_of_ble_eq_true rfl)) dX2_put_83 ⟨Nat.zero_le _, Nat.zero_le _⟩) ?_
        refine lv_if_ne (tgt := 91) hx hb dX2_put_86 (by decide) (fun hc => ?_) (fun hc => ?_)
        · rw [if_neg hc] at hf
          refine lv_aload hx hb dX2_put_91 (lv_at hl 0 rfl) ?_
          refine lv_iload hx hb dX2_put_93 (lv_at hl 6 rfl) ?_
          refine lv_iload_n hx hb dX2_put_95 rfl (lv_at hl 4 rfl) ?_
          refine lv_iconst (v := 1) hx hb dX2_put_96 (by decide) ?_
          refine lv_icmp_ne (tgt := 108) hx hb dX2_put_97 (by decide) (fun hc => ?_) (fun hc => ?_)
          · rw [if_neg hc] at hf
            refine lv_iload_n hx hb dX2_put_108 rfl (lv_at hl 4 rfl) ?_
            exact B109 x5 x3 x5 c H locs hP hS hi3 ls hf (lv_sub hl [1, 2, 3, 4, 5, 6, 0] rfl)
          · rw [if_pos hc] at hf
            refine lv_iload hx hb dX2_put_100 (lv_at hl 5 rfl) ?_
            obtain ⟨r12, e13, hf⟩ := ob_s hf
            try dsimp only at hf
            refine pu_calli (va_runS (As := [.int x4]) (rest := [.int x5, .ref (lo x1.toNatClampNeg)]) ⟨hx, hb, hml, hown, hts⟩ (cy_fileCell l dC dI cI cQ t1 t2 bs x4 r12 e13 H.size) (va_cwS 1 hts (gs_S lk_41 lk_43 lk_12 lk_42) rfl rfl rfl (by decide +kernel) ⟨Nat.le_of_ble_eq_true rfl, Nat.le_of_ble_eq_true rfl⟩) (pr_S gk_W ⟨(gk_S hG hS (bb_A hg)), pz_0⟩) rfl rfl hl.1 rfl (lv_room (Nat.le_of_ble_eq_true rfl)) dX2_put_102 ⟨Nat.zero_le _, Nat.zero_le _⟩) ?_
            refine lv_goto (tgt := 109) hx hb dX2_put_105 (by decide) ?_
            exact B109 x5 r12 x5 c H locs hP hS hi3 ls hf (lv_sub hl [1, 2, 3, 4, 5, 6, 0] rfl)
        · rw [if_pos hc] at hf
          refine lv_iconst (v := 0) hx hb dX2_put_89 (by decide) ?_
          obtain rfl := Option.some.inj hf
          rw [hQ]
          exact im_iret hx hb hr (nb_0) hS hP dX2_put_90 hlocks
  unfold fx_put at h
  have hgo : ∀ (H : Heap) (locs : List Loc), va_P (dC, dI) vwCl (wx_X cI cQ top xo la ko kc nt lo lc c md cu kp kcu nf) H → va_S (in_A (ad_X top xo la ko kc nt lo lc)) s.heap H locs → W p l e (headSpec wsX2_put rm_2_44).room s m ([.ref xo, .int x1, .int x2, .int x3, .int x4] : List Value).toArray below meth c_ H locs 0 0 Q (F0 m 0 ls []) := by
    intro H locs hP hS
    have hf := h
    refine lv_iload_n hx hb dX2_put_0 rfl (lv_at hl 2 rfl) ?_
    obtain ⟨r14, e15, hf⟩ := ob_s hf
    try dsimp only at hf
    refine pu_calli (va_runS (As := [.int x2]) (rest := []) ⟨hx, hb, hml, hown, hts⟩ (cp_ofPath l dC dI cI cQ t1 t2 bs x2 r14 e15 H.size) (va_cwS 1 hts (gs_S lk_44 lk_46 lk_1 lk_45) rfl rfl rfl (by decide +kernel) ⟨Nat.le_of_ble_eq_true rfl, Nat.le_of_ble_eq_true rfl⟩) (pr_S gk_W ⟨(gk_S hG hS (bb_A hg)), pz_0⟩) rfl rfl hl.1 rfl (lv_room (Nat.le_of_ble_eq_true rfl)) dX2_put_1 ⟨Nat.zero_le _, Nat.zero_le _⟩) ?_
    refine lv_istore (lv' := [(5, .int r14), (0, .ref xo), (1, .int x1), (2, .int x2), (3, .int x3), (4, .int x4)]) hx hb dX2_put_4 hl (by decide) rfl (fun ls hl => ?_)
    refine lv_aload_n hx hb dX2_put_6 rfl (lv_at hl 1 rfl) ?_
    refine va_get (D := (dC, dI)) (ci := 1) (v := .int md) (C := RX2) (T := TX2) (N := 8) hx hb hts hiX2 hown hG.1 hP 0 rfl rfl 3 (by decide) (hts _ (tw_in lk_47)) (fun _ h9 => h9) rfl dX2_put_7 ?_
    refine lv_if_ne (tgt := 26) hx hb dX2_put_10 (by decide) (fun hc => ?_) (fun hc => ?_)
    · rw [if_neg hc] at hf
      refine lv_iconst (v := 0) hx hb dX2_put_26 (by decide) ?_
      obtain rfl := Option.some.inj hf
      rw [hQ]
      exact im_iret hx hb hr (nb_0) hS hP dX2_put_27 hlocks
    · rw [if_pos hc] at hf
      refine lv_aload_n hx hb dX2_put_13 rfl (lv_at hl 1 rfl) ?_
      refine lv_iload_n hx hb dX2_put_14 rfl (lv_at hl 2 rfl) ?_
      obtain ⟨r16, e17, hf⟩ := ob_s hf
      try dsimp only at hf
      refine pu_calli (va_runV (As := [.int x1]) (rest := []) ⟨hx, hb, hml, hown, hts⟩ (cx_isLayer l dC dI cI cQ t1 t2 bs top xo la ko kc nt lo lc hg c md cu kp kcu nf x1 r16 e17 H.size) (cwV 1 hts (gs_V lk_48 lk_50 lk_51 lk_37 lk_49) rfl rfl rfl (by decide +kernel) ⟨Nat.le_of_ble_eq_true rfl, Nat.le_of_ble_eq_true rfl⟩) (pr_V gk_W (va_recv hG.1 hP (q0 := 0) rfl rfl) ⟨(gk_S hG hS (bb_A hg)), hP⟩) rfl rfl hl.1 rfl (lv_room (Nat.le_of_ble_eq_true rfl)) dX2_put_15 ⟨Nat.zero_le _, Nat.zero_le _⟩) ?_
      refine lv_if_eq (tgt := 26) hx hb dX2_put_18 (by decide) (fun hc => ?_) (fun hc => ?_)
      · rw [if_pos hc] at hf
        refine lv_iconst (v := 0) hx hb dX2_put_26 (by decide) ?_
        obtain rfl := Option.some.inj hf
        rw [hQ]
        exact im_iret hx hb hr (nb_0) hS hP dX2_put_27 hlocks
      · rw [if_neg hc] at hf
        refine lv_iload hx hb dX2_put_21 (lv_at hl 0 rfl) ?_
        refine lv_if_gt (tgt := 28) hx hb dX2_put_23 (by decide) (fun hc => ?_) (fun hc => ?_)
        · rw [if_pos hc] at hf
          refine lv_iload_n hx hb dX2_put_28 rfl (lv_at hl 4 rfl) ?_
          refine lv_iconst (v := 1) hx hb dX2_put_29 (by decide) ?_
          refine lv_icmp_lt (tgt := 48) hx hb dX2_put_30 (by decide) (fun hc => ?_) (fun hc => ?_)
          · rw [if_pos hc] at hf
            refine lv_iconst (v := 0) hx hb dX2_put_48 (by decide) ?_
            obtain rfl := Option.some.inj hf
            rw [hQ]
            exact im_iret hx hb hr (nb_0) hS hP dX2_put_49 hlocks
          · rw [if_neg hc] at hf
            refine lv_iload_n hx hb dX2_put_33 rfl (lv_at hl 4 rfl) ?_
            refine lv_iconst (v := 4) hx hb dX2_put_34 (by decide) ?_
            refine lv_icmp_gt (tgt := 48) hx hb dX2_put_35 (by decide) (fun hc => ?_) (fun hc => ?_)
            · rw [if_pos hc] at hf
              refine lv_iconst (v := 0) hx hb dX2_put_48 (by decide) ?_
              obtain rfl := Option.some.inj hf
              rw [hQ]
              exact im_iret hx hb hr (nb_0) hS hP dX2_put_49 hlocks
            · rw [if_neg hc] at hf
              refine lv_iload_n hx hb dX2_put_38 rfl (lv_at hl 4 rfl) ?_
              refine lv_iconst (v := 1) hx hb dX2_put_39 (by decide) ?_
              refine lv_icmp_ne (tgt := 50) hx hb dX2_put_40 (by decide) (fun hc => ?_) (fun hc => ?_)
              · rw [if_neg hc] at hf
                exact B50 r14 c H locs hP hS ls hf (lv_sub hl [1, 2, 3, 4, 5, 0] rfl)
              · rw [if_pos hc] at hf
                refine lv_iload hx hb dX2_put_43 (lv_at hl 5 rfl) ?_
                refine lv_if_ge (tgt := 50) hx hb dX2_put_45 (by decide) (fun hc => ?_) (fun hc => ?_)
                · rw [if_pos hc] at hf
                  exact B50 r14 c H locs hP hS ls hf (lv_sub hl [1, 2, 3, 4, 5, 0] rfl)
                · rw [if_neg hc] at hf
                  refine lv_iconst (v := 0) hx hb dX2_put_48 (by decide) ?_
                  obtain rfl := Option.some.inj hf
                  rw [hQ]
                  exact im_iret hx hb hr (nb_0) hS hP dX2_put_49 hlocks
        · rw [if_neg hc] at hf
          refine lv_iconst (v := 0) hx hb dX2_put_26 (by decide) ?_
          obtain rfl := Option.some.inj hf
          rw [hQ]
          exact im_iret hx hb hr (nb_0) hS hP dX2_put_27 hlocks
  exact hgo s.heap [] hP va_S.rf
set_option maxHeartbeats 4000000 in
set_option maxRecDepth 100000 in
theorem cx_mount (l : Launch) (dC : Nat → ClassId) (dI : Nat → Nat → Nat) (cI cQ : ClassId) (t1 t2 bs : Nat) (top xo la ko kc nt : Nat) (lo lc : Nat → Nat) (hg : gd_A bs (ad_X top xo la ko kc nt lo lc)) (c : Nat → ls_T) (md : Int32) (cu : Int32) (kp : ls_T) (kcu : Int32) (nf : Nat → Int32) (v0 : Int32 × Int32) (h : fx_mount md = some v0) : im_I l yX2_mount wsX2_mount rm_0_0 [.ref xo] (gk_G dC dI cI cQ t1 t2 bs (wx_X cI cQ top xo la ko kc nt lo lc c md cu kp kcu nf)) v0.1 (va_P (dC, dI) vwCl (wx_X cI cQ top xo la ko kc nt lo lc c v0.2 cu kp kcu nf)) (in_A (ad_X top xo la ko kc nt lo lc)) := by
  intro sz
  refine Met.ofW (cc := cX2_mount) (maxL := 1) (ret := (some .boolean)) (by decide) rfl ?_
  intro p e s m args below meth c_ s₁ B hml hv
  obtain ⟨rfl, hsz, hG, hP⟩ := hv
  have hx := B.exec
  have hb := B.bytes
  have hr := B.returns
  have hts := atoms_spec (ws := wsX2_mount) B.pre
  have hown : s.vm.findClass RX2 = some m.cls := findClass_of_methodNamed B.named
  have hlocks := B.notSynchronized
  have hiX2 : ∀ w ∈ u_ws RX2 TX2 8, w ∈ wsX2_mount := fun w hw => tw_in (usX2 w hw)
  have hl := lv_entry ([.ref xo]) (n := 1) (Nat.le_of_ble_eq_true rfl)
  rw [lg_entry_eq]
  generalize (lg_sl ([.ref xo]) ++ List.replicate (1 - (lg_sl ([.ref xo])).length) Slot.unset).toArray = ls at hl ⊢
  have hl : lv_has ls 1 [(0, .ref xo)] := hl
  refine nm_Q (fun Q hQ => ?_)
  unfold fx_mount at h
  have hgo : ∀ (H : Heap) (locs : List Loc), va_P (dC, dI) vwCl (wx_X cI cQ top xo la ko kc nt lo lc c md cu kp kcu nf) H → va_S (in_A (ad_X top xo la ko kc nt lo lc)) s.heap H locs → W p l e (headSpec wsX2_mount rm_0_0).room s m ([.ref xo] : List Value).toArray below meth c_ H locs 0 0 Q (F0 m 0 ls []) := by
    intro H locs hP hS
    have hf := h
    refine lv_aload_n hx hb dX2_mount_0 rfl (lv_at hl 0 rfl) ?_
    refine va_get (D := (dC, dI)) (ci := 1) (v := .int md) (C := RX2) (T := TX2) (N := 8) hx hb hts hiX2 hown hG.1 hP 0 rfl rfl 3 (by decide) (hts _ (tw_in lk_47)) (fun _ h9 => h9) rfl dX2_mount_1 ?_
    refine lv_if_eq (tgt := 9) hx hb dX2_mount_4 (by decide) (fun hc => ?_) (fun hc => ?_)
    · rw [if_pos hc] at hf
      refine lv_aload_n hx hb dX2_mount_9 rfl (lv_at hl 0 rfl) ?_
      refine lv_iconst (v := 1) hx hb dX2_mount_10 (by decide) ?_
      refine va_put (D := (dC, dI)) (ci := 1) (v := .int 1) (ty := .boolean) (C := RX2) (T := TX2) (N := 8) hx hb hts hiX2 tyX2 tyX2_ok nmX2 hown hG.1 hP (dd_A hg mx_X) hS 0 rfl rfl 3 (by decide) (hts _ (tw_in lk_47)) (fun _ h9 => h9) rfl (by decide +kernel) rfl rfl (Nat.le_of_ble_eq_true rfl) dX2_mount_11 (fun H locs hP _ hS => ?_)
      have hP : va_P (dC, dI) vwCl (wx_X cI cQ top xo la ko kc nt lo lc c 1 cu kp kcu nf) H := hP
      refine lv_iconst (v := 1) hx hb dX2_mount_14 (by decide) ?_
      obtain rfl := Option.some.inj hf
      rw [hQ]
      exact im_iret hx hb hr (nb_1) hS hP dX2_mount_15 hlocks
    · rw [if_neg hc] at hf
      refine lv_iconst (v := 0) hx hb dX2_mount_7 (by decide) ?_
      obtain rfl := Option.some.inj hf
      rw [hQ]
      exact im_iret hx hb hr (nb_0) hS hP dX2_mount_8 hlocks
  exact hgo s.heap [] hP va_S.rf
set_option maxHeartbeats 4000000 in
set_option maxRecDepth 100000 in
theorem cx_placeOrRefusal (l : Launch) (dC : Nat → ClassId) (dI : Nat → Nat → Nat) (cI cQ : ClassId) (t1 t2 bs : Nat) (top xo la ko kc nt : Nat) (lo lc : Nat → Nat) (hg : gd_A bs (ad_X top xo la ko kc nt lo lc)) (c : Nat → ls_T) (md : Int32) (cu : Int32) (kp : ls_T) (kcu : Int32) (nf : Nat → Int32) (x1 : Int32) (v0 : Int32) (h : fx_placeOrRefusal md x1 = some v0) : pu_M l yX2_placeOrRefusal wsX2_placeOrRefusal rm_2_44 [.ref xo, .int x1] (gk_G dC dI cI cQ t1 t2 bs (wx_X cI cQ top xo la ko kc nt lo lc c md cu kp kcu nf)) v0 := by
  intro sz
  refine Met.ofW (cc := cX2_placeOrRefusal) (maxL := 3) (ret := (some .int)) (by decide) rfl ?_
  intro p e s m args below meth c_ s₁ B hml hv
  obtain ⟨rfl, hsz, hG, hP⟩ := hv
  have hx := B.exec
  have hb := B.bytes
  have hr := B.returns
  have hts := atoms_spec (ws := wsX2_placeOrRefusal) B.pre
  have hown : s.vm.findClass RX2 = some m.cls := findClass_of_methodNamed B.named
  have hlocks := B.notSynchronized
  have hiX2 : ∀ w ∈ u_ws RX2 TX2 8, w ∈ wsX2_placeOrRefusal := fun w hw => tw_in (usX2 w hw)
  have hl := lv_entry ([.ref xo, .int x1]) (n := 3) (Nat.le_of_ble_eq_true rfl)
  rw [lg_entry_eq]
  generalize (lg_sl ([.ref xo, .int x1]) ++ List.replicate (3 - (lg_sl ([.ref xo, .int x1])).length) Slot.unset).toArray = ls at hl ⊢
  have hl : lv_has ls 3 [(0, .ref xo), (1, .int x1)] := hl
  refine nm_Q (fun Q hQ => ?_)
  unfold fx_placeOrRefusal at h
  have hf := h
  refine lv_aload_n hx hb dX2_placeOrRefusal_0 rfl (lv_at hl 0 rfl) ?_
  refine va_get (D := (dC, dI)) (ci := 1) (v := .int md) (C := RX2) (T := TX2) (N := 8) hx hb hts hiX2 hown hG.1 hP 0 rfl rfl 3 (by decide) (hts _ (tw_in lk_47)) (fun _ h9 => h9) rfl dX2_placeOrRefusal_1 ?_
  refine lv_if_ne (tgt := 9) hx hb dX2_placeOrRefusal_4 (by decide) (fun hc => ?_) (fun hc => ?_)
  · rw [if_neg hc] at hf
    refine lv_iload_n hx hb dX2_placeOrRefusal_9 rfl (lv_at hl 1 rfl) ?_
    obtain ⟨r1, e2, hf⟩ := ob_s hf
    try dsimp only at hf
    refine pu_calli (va_runS (As := [.int x1]) (rest := []) ⟨hx, hb, hml, hown, hts⟩ (cp_ofPath l dC dI cI cQ t1 t2 bs x1 r1 e2 s.heap.size) (va_cwS 1 hts (gs_S lk_44 lk_46 lk_1 lk_45) rfl rfl rfl (by decide +kernel) ⟨Nat.le_of_ble_eq_true rfl, Nat.le_of_ble_eq_true rfl⟩) (pr_S gk_W ⟨hG, pz_0⟩) rfl rfl hl.1 rfl (lv_room (Nat.le_of_ble_eq_true rfl)) dX2_placeOrRefusal_10 ⟨Nat.zero_le _, Nat.zero_le _⟩) ?_
    refine lv_istore_n (lv' := [(2, .int r1), (0, .ref xo), (1, .int x1)]) hx hb dX2_placeOrRefusal_13 rfl hl (by decide) rfl (fun ls hl => ?_)
    refine lv_iload_n hx hb dX2_placeOrRefusal_14 rfl (lv_at hl 0 rfl) ?_
    refine lv_iconst (v := (-1)) hx hb dX2_placeOrRefusal_15 (by decide) ?_
    refine lv_icmp_ne (tgt := 24) hx hb dX2_placeOrRefusal_16 (by decide) (fun hc => ?_) (fun hc => ?_)
    · rw [if_neg hc] at hf
      refine lv_iload_n hx hb dX2_placeOrRefusal_24 rfl (lv_at hl 0 rfl) ?_
      obtain rfl := Option.some.inj hf
      rw [hQ]
      exact pu_iret hx hb hr (vp_nar_int _) hsz dX2_placeOrRefusal_25 hlocks
    · rw [if_pos hc] at hf
      refine lv_bipush (v := (-2)) hx hb dX2_placeOrRefusal_19 (by decide) ?_
      refine lv_goto (tgt := 25) hx hb dX2_placeOrRefusal_21 (by decide) ?_
      obtain rfl := Option.some.inj hf
      rw [hQ]
      exact pu_iret hx hb hr (vp_nar_int _) hsz dX2_placeOrRefusal_25 hlocks
  · rw [if_pos hc] at hf
    refine lv_iconst (v := (-1)) hx hb dX2_placeOrRefusal_7 (by decide) ?_
    obtain rfl := Option.some.inj hf
    rw [hQ]
    exact pu_iret hx hb hr (vp_nar_int _) hsz dX2_placeOrRefusal_8 hlocks
set_option maxHeartbeats 4000000 in
set_option maxRecDepth 100000 in
theorem cx_partOf (l : Launch) (dC : Nat → ClassId) (dI : Nat → Nat → Nat) (cI cQ : ClassId) (t1 t2 bs : Nat) (x0 : Int32) (v0 : Int32) (h : fx_partOf x0 = some v0) : pu_M l yX2_partOf wsX2_partOf rm_0_0 [.int x0] (gk_G dC dI cI cQ t1 t2 bs []) v0 := by
  intro sz
  refine Met.ofW (cc := cX2_partOf) (maxL := 1) (ret := (some .int)) (by decide) rfl ?_
  intro p e s m args below meth c_ s₁ B hml hv
  obtain ⟨rfl, hsz, hG, hP⟩ := hv
  have hx := B.exec
  have hb := B.bytes
  have hr := B.returns
  have hts := atoms_spec (ws := wsX2_partOf) B.pre
  have hown : s.vm.findClass RX2 = some m.cls := findClass_of_methodNamed B.named
  have hlocks := B.notSynchronized
  have hl := lv_entry ([.int x0]) (n := 1) (Nat.le_of_ble_eq_true rfl)
  rw [lg_entry_eq]
  generalize (lg_sl ([.int x0]) ++ List.replicate (1 - (lg_sl ([.int x0])).length) Slot.unset).toArray = ls at hl ⊢
  have hl : lv_has ls 1 [(0, .int x0)] := hl
  refine nm_Q (fun Q hQ => ?_)
  unfold fx_partOf at h
  have hf := h
  refine lv_iconst (v := 1) hx hb dX2_partOf_0 (by decide) ?_
  refine lv_iload_n hx hb dX2_partOf_1 rfl (lv_at hl 0 rfl) ?_
  refine lv_ishl hx hb dX2_partOf_2 ?_
  obtain rfl := Option.some.inj hf
  rw [hQ]
  exact pu_iret hx hb hr (vp_nar_int _) hsz dX2_partOf_3 hlocks
set_option maxHeartbeats 4000000 in
set_option maxRecDepth 100000 in
theorem cx_allParts (l : Launch) (dC : Nat → ClassId) (dI : Nat → Nat → Nat) (cI cQ : ClassId) (t1 t2 bs : Nat) (top xo la ko kc nt : Nat) (lo lc : Nat → Nat) (hg : gd_A bs (ad_X top xo la ko kc nt lo lc)) (c : Nat → ls_T) (md : Int32) (cu : Int32) (kp : ls_T) (kcu : Int32) (nf : Nat → Int32) (v0 : Int32) (h : fx_allParts top = some v0) : pu_M l yX2_allParts wsX2_allParts rm_1_20 [.ref xo] (gk_G dC dI cI cQ t1 t2 bs (wx_X cI cQ top xo la ko kc nt lo lc c md cu kp kcu nf)) v0 := by
  intro sz
  refine Met.ofW (cc := cX2_allParts) (maxL := 1) (ret := (some .int)) (by decide) rfl ?_
  intro p e s m args below meth c_ s₁ B hml hv
  obtain ⟨rfl, hsz, hG, hP⟩ := hv
  have hx := B.exec
  have hb := B.bytes
  have hr := B.returns
  have hts := atoms_spec (ws := wsX2_allParts) B.pre
  have hown : s.vm.findClass RX2 = some m.cls := findClass_of_methodNamed B.named
  have hlocks := B.notSynchronized
  have hiX2 : ∀ w ∈ u_ws RX2 TX2 8, w ∈ wsX2_allParts := fun w hw => tw_in (usX2 w hw)
  have hl := lv_entry ([.ref xo]) (n := 1) (Nat.le_of_ble_eq_true rfl)
  rw [lg_entry_eq]
  generalize (lg_sl ([.ref xo]) ++ List.replicate (1 - (lg_sl ([.ref xo])).length) Slot.unset).toArray = ls at hl ⊢
  have hl : lv_has ls 1 [(0, .ref xo)] := hl
  refine nm_Q (fun Q hQ => ?_)
  unfold fx_allParts at h
  have hf := h
  refine lv_aload_n hx hb dX2_allParts_0 rfl (lv_at hl 0 rfl) ?_
  refine va_get (D := (dC, dI)) (ci := 1) (v := .int (nI top)) (C := RX2) (T := TX2) (N := 8) hx hb hts hiX2 hown hG.1 hP 0 rfl rfl 0 (by decide) (hts _ (tw_in lk_4)) (fun _ h9 => h9) rfl dX2_allParts_1 ?_
  refine lv_iconst (v := 1) hx hb dX2_allParts_4 (by decide) ?_
  refine lv_iadd hx hb dX2_allParts_5 ?_
  obtain ⟨r1, e2, hf⟩ := ob_s hf
  try dsimp only at hf
  refine pu_calli (va_runS (As := [.int ((nI top) + 1)]) (rest := []) ⟨hx, hb, hml, hown, hts⟩ (cx_partOf l dC dI cI cQ t1 t2 bs ((nI top) + 1) r1 e2 s.heap.size) (va_cwS 1 hts (gs_S lk_52 lk_54 lk_37 lk_53) rfl rfl rfl (by decide +kernel) ⟨Nat.le_of_ble_eq_true rfl, Nat.le_of_ble_eq_true rfl⟩) (pr_S gk_W ⟨hG, pz_0⟩) rfl rfl hl.1 rfl (lv_room (Nat.le_of_ble_eq_true rfl)) dX2_allParts_6 ⟨Nat.zero_le _, Nat.zero_le _⟩) ?_
  refine lv_iconst (v := 1) hx hb dX2_allParts_9 (by decide) ?_
  refine lv_isub hx hb dX2_allParts_10 ?_
  obtain rfl := Option.some.inj hf
  rw [hQ]
  exact pu_iret hx hb hr (vp_nar_int _) hsz dX2_allParts_11 hlocks
set_option maxHeartbeats 4000000 in
set_option maxRecDepth 100000 in
theorem cx_isDirectory (l : Launch) (dC : Nat → ClassId) (dI : Nat → Nat → Nat) (cI cQ : ClassId) (t1 t2 bs : Nat) (x0 : Int32) (v0 : Int32) (h : fx_isDirectory x0 = some v0) : pu_M l yX2_isDirectory wsX2_isDirectory rm_0_0 [.int x0] (gk_G dC dI cI cQ t1 t2 bs []) v0 := by
  intro sz
  refine Met.ofW (cc := cX2_isDirectory) (maxL := 1) (ret := (some .boolean)) (by decide) rfl ?_
  intro p e s m args below meth c_ s₁ B hml hv
  obtain ⟨rfl, hsz, hG, hP⟩ := hv
  have hx := B.exec
  have hb := B.bytes
  have hr := B.returns
  have hts := atoms_spec (ws := wsX2_isDirectory) B.pre
  have hown : s.vm.findClass RX2 = some m.cls := findClass_of_methodNamed B.named
  have hlocks := B.notSynchronized
  have hl := lv_entry ([.int x0]) (n := 1) (Nat.le_of_ble_eq_true rfl)
  rw [lg_entry_eq]
  generalize (lg_sl ([.int x0]) ++ List.replicate (1 - (lg_sl ([.int x0])).length) Slot.unset).toArray = ls at hl ⊢
  have hl : lv_has ls 1 [(0, .int x0)] := hl
  refine nm_Q (fun Q hQ => ?_)
  unfold fx_isDirectory at h
  have hf := h
  refine lv_iload_n hx hb dX2_isDirectory_0 rfl (lv_at hl 0 rfl) ?_
  refine lv_if_le (tgt := 8) hx hb dX2_isDirectory_1 (by decide) (fun hc => ?_) (fun hc => ?_)
  · rw [if_pos hc] at hf
    refine lv_iconst (v := 0) hx hb dX2_isDirectory_8 (by decide) ?_
    obtain rfl := Option.some.inj hf
    rw [hQ]
    exact pu_iret hx hb hr (nb_0) hsz dX2_isDirectory_9 hlocks
  · rw [if_neg hc] at hf
    refine lv_iconst (v := 1) hx hb dX2_isDirectory_4 (by decide) ?_
    refine lv_goto (tgt := 9) hx hb dX2_isDirectory_5 (by decide) ?_
    obtain rfl := Option.some.inj hf
    rw [hQ]
    exact pu_iret hx hb hr (nb_1) hsz dX2_isDirectory_9 hlocks
set_option maxHeartbeats 4000000 in
set_option maxRecDepth 100000 in
theorem cx_isPart (l : Launch) (dC : Nat → ClassId) (dI : Nat → Nat → Nat) (cI cQ : ClassId) (t1 t2 bs : Nat) (x0 : Int32) (x1 : Int32) (v0 : Int32) (h : fx_isPart x0 x1 = some v0) : pu_M l yX2_isPart wsX2_isPart rm_0_0 [.int x0, .int x1] (gk_G dC dI cI cQ t1 t2 bs []) v0 := by
  intro sz
  refine Met.ofW (cc := cX2_isPart) (maxL := 2) (ret := (some .boolean)) (by decide) rfl ?_
  intro p e s m args below meth c_ s₁ B hml hv
  obtain ⟨rfl, hsz, hG, hP⟩ := hv
  have hx := B.exec
  have hb := B.bytes
  have hr := B.returns
  have hts := atoms_spec (ws := wsX2_isPart) B.pre
  have hown : s.vm.findClass RX2 = some m.cls := findClass_of_methodNamed B.named
  have hlocks := B.notSynchronized
  have hl := lv_entry ([.int x0, .int x1]) (n := 2) (Nat.le_of_ble_eq_true rfl)
  rw [lg_entry_eq]
  generalize (lg_sl ([.int x0, .int x1]) ++ List.replicate (2 - (lg_sl ([.int x0, .int x1])).length) Slot.unset).toArray = ls at hl ⊢
  have hl : lv_has ls 2 [(0, .int x0), (1, .int x1)] := hl
  refine nm_Q (fun Q hQ => ?_)
  unfold fx_isPart at h
  have hf := h
  refine lv_iload_n hx hb dX2_isPart_0 rfl (lv_at hl 1 rfl) ?_
  refine lv_iload_n hx hb dX2_isPart_1 rfl (lv_at hl 0 rfl) ?_
  refine lv_ishr hx hb dX2_isPart_2 ?_
  refine lv_iconst (v := 1) hx hb dX2_isPart_3 (by decide) ?_
  refine lv_iand hx hb dX2_isPart_4 ?_
  refine lv_iconst (v := 1) hx hb dX2_isPart_5 (by decide) ?_
  refine lv_icmp_ne (tgt := 13) hx hb dX2_isPart_6 (by decide) (fun hc => ?_) (fun hc => ?_)
  · rw [if_neg hc] at hf
    refine lv_iconst (v := 0) hx hb dX2_isPart_13 (by decide) ?_
    obtain rfl := Option.some.inj hf
    rw [hQ]
    exact pu_iret hx hb hr (nb_0) hsz dX2_isPart_14 hlocks
  · rw [if_pos hc] at hf
    refine lv_iconst (v := 1) hx hb dX2_isPart_9 (by decide) ?_
    refine lv_goto (tgt := 14) hx hb dX2_isPart_10 (by decide) ?_
    obtain rfl := Option.some.inj hf
    rw [hQ]
    exact pu_iret hx hb hr (nb_1) hsz dX2_isPart_14 hlocks
set_option maxHeartbeats 4000000 in
set_option maxRecDepth 100000 in
theorem cx_foundFile (l : Launch) (dC : Nat → ClassId) (dI : Nat → Nat → Nat) (cI cQ : ClassId) (t1 t2 bs : Nat) (x0 : Int32) (v0 : Int32) (h : fx_foundFile x0 = some v0) : pu_M l yX2_foundFile wsX2_foundFile rm_0_0 [.int x0] (gk_G dC dI cI cQ t1 t2 bs []) v0 := by
  intro sz
  refine Met.ofW (cc := cX2_foundFile) (maxL := 1) (ret := (some .int)) (by decide) rfl ?_
  intro p e s m args below meth c_ s₁ B hml hv
  obtain ⟨rfl, hsz, hG, hP⟩ := hv
  have hx := B.exec
  have hb := B.bytes
  have hr := B.returns
  have hts := atoms_spec (ws := wsX2_foundFile) B.pre
  have hown : s.vm.findClass RX2 = some m.cls := findClass_of_methodNamed B.named
  have hlocks := B.notSynchronized
  have hl := lv_entry ([.int x0]) (n := 1) (Nat.le_of_ble_eq_true rfl)
  rw [lg_entry_eq]
  generalize (lg_sl ([.int x0]) ++ List.replicate (1 - (lg_sl ([.int x0])).length) Slot.unset).toArray = ls at hl ⊢
  have hl : lv_has ls 1 [(0, .int x0)] := hl
  refine nm_Q (fun Q hQ => ?_)
  unfold fx_foundFile at h
  have hf := h
  refine lv_iload_n hx hb dX2_foundFile_0 rfl (lv_at hl 0 rfl) ?_
  refine lv_iconst (v := (-1)) hx hb dX2_foundFile_1 (by decide) ?_
  refine lv_ixor hx hb dX2_foundFile_2 ?_
  obtain rfl := Option.some.inj hf
  rw [hQ]
  exact pu_iret hx hb hr (vp_nar_int _) hsz dX2_foundFile_3 hlocks
set_option maxHeartbeats 4000000 in
set_option maxRecDepth 100000 in
theorem cx_findAmong (l : Launch) (dC : Nat → ClassId) (dI : Nat → Nat → Nat) (cI cQ : ClassId) (t1 t2 bs : Nat) (top xo la ko kc nt : Nat) (lo lc : Nat → Nat) (hg : gd_A bs (ad_X top xo la ko kc nt lo lc)) (c : Nat → ls_T) (md : Int32) (cu : Int32) (kp : ls_T) (kcu : Int32) (nf : Nat → Int32) (x1 : Int32) (x2 : Int32) (v0 : Int32) (h : fx_findAmong top c x1 x2 = some v0) : pu_M l yX2_findAmong wsX2_findAmong rm_1_21 [.ref xo, .int x1, .int x2] (gk_G dC dI cI cQ t1 t2 bs (wx_X cI cQ top xo la ko kc nt lo lc c md cu kp kcu nf)) v0 := by
  intro sz
  refine Met.ofW (cc := cX2_findAmong) (maxL := 6) (ret := (some .int)) (by decide) rfl ?_
  intro p e s m args below meth c_ s₁ B hml hv
  obtain ⟨rfl, hsz, hG, hP⟩ := hv
  have hx := B.exec
  have hb := B.bytes
  have hr := B.returns
  have hts := atoms_spec (ws := wsX2_findAmong) B.pre
  have hown : s.vm.findClass RX2 = some m.cls := findClass_of_methodNamed B.named
  have hlocks := B.notSynchronized
  have hiX2 : ∀ w ∈ u_ws RX2 TX2 8, w ∈ wsX2_findAmong := fun w hw => tw_in (usX2 w hw)
  have hl := lv_entry ([.ref xo, .int x1, .int x2]) (n := 6) (Nat.le_of_ble_eq_true rfl)
  rw [lg_entry_eq]
  generalize (lg_sl ([.ref xo, .int x1, .int x2]) ++ List.replicate (6 - (lg_sl ([.ref xo, .int x1, .int x2])).length) Slot.unset).toArray = ls at hl ⊢
  have hl : lv_has ls 6 [(0, .ref xo), (1, .int x1), (2, .int x2)] := hl
  refine nm_Q (fun Q hQ => ?_)
  have B91 : ∀ (k8 : Int32 → Int32 → Option (Int32)) (hk8 : ∀ (x3 : Int32) (x4 : Int32), ∀ ls : Array Slot, k8 x3 x4 = some v0 → lv_has ls 6 [(0, .ref xo), (1, .int x1), (2, .int x2), (3, .int x3), (4, .int x4)] → W p l e (headSpec wsX2_findAmong rm_1_21).room s m ([.ref xo, .int x1, .int x2] : List Value).toArray below meth c_ s.heap [] 0 0 Q (F0 m 8 ls [])), ∀ (x3 : Int32) (x4 : Int32), ∀ ls : Array Slot, fx_findAmong_91 top c x1 x2 k8 x3 x4 = some v0 → lv_has ls 6 [(0, .ref xo), (1, .int x1), (2, .int x2), (3, .int x3), (4, .int x4)] → W p l e (headSpec wsX2_findAmong rm_1_21).room s m ([.ref xo, .int x1, .int x2] : List Value).toArray below meth c_ s.heap [] 0 0 Q (F0 m 91 ls []) := by
    intro k8 hk8
    intro x3 x4 ls hf hl
    unfold fx_findAmong_91 at hf
    refine lv_iinc (k := 4) (v := x4 + (-1)) (lv' := [(4, .int (x4 + (-1))), (0, .ref xo), (1, .int x1), (2, .int x2), (3, .int x3)]) hx hb dX2_findAmong_91 hl rfl (by rfl) (by decide) rfl (fun ls hl => ?_)
    refine lv_goto (tgt := 8) hx hb dX2_findAmong_94 (by decide) ?_
    exact hk8 x3 (x4 + (-1)) ls hf (lv_sub hl [1, 2, 3, 4, 0] rfl)
  have B8 : ∀ n : Nat, ∀ (x3 : Int32) (x4 : Int32), ∀ ls : Array Slot, fx_findAmong_8 top c x1 x2 n x3 x4 = some v0 → lv_has ls 6 [(0, .ref xo), (1, .int x1), (2, .int x2), (3, .int x3), (4, .int x4)] → W p l e (headSpec wsX2_findAmong rm_1_21).room s m ([.ref xo, .int x1, .int x2] : List Value).toArray below meth c_ s.heap [] 0 0 Q (F0 m 8 ls []) := by
    intro n
    induction n with
    | zero => 
      intro x3 x4 ls hf hl
      exact nomatch (show (none : Option (Int32)) = some v0 from hf)
    | succ n ih =>
      intro x3 x4 ls hf hl
      rw [fx_findAmong_8.eq_2] at hf
      try dsimp only at hf
      refine lv_iload hx hb dX2_findAmong_8 (lv_at hl 4 rfl) ?_
      refine lv_if_lt (tgt := 97) hx hb dX2_findAmong_10 (by decide) (fun hc => ?_) (fun hc => ?_)
      · rw [if_pos hc] at hf
        refine lv_iload_n hx hb dX2_findAmong_97 rfl (lv_at hl 3 rfl) ?_
        obtain rfl := Option.some.inj hf
        rw [hQ]
        exact pu_iret hx hb hr (vp_nar_int _) hsz dX2_findAmong_98 hlocks
      · rw [if_neg hc] at hf
        refine lv_iload hx hb dX2_findAmong_13 (lv_at hl 4 rfl) ?_
        refine lv_iload_n hx hb dX2_findAmong_15 rfl (lv_at hl 1 rfl) ?_
        obtain ⟨r1, e2, hf⟩ := ob_s hf
        try dsimp only at hf
        refine pu_calli (va_runS (As := [.int x4, .int x1]) (rest := []) ⟨hx, hb, hml, hown, hts⟩ (cx_isPart l dC dI cI cQ t1 t2 bs x4 x1 r1 e2 s.heap.size) (va_cwS 2 hts (gs_S lk_55 lk_57 lk_37 lk_56) rfl rfl rfl (by decide +kernel) ⟨Nat.le_of_ble_eq_true rfl, Nat.le_of_ble_eq_true rfl⟩) (pr_S gk_W ⟨hG, pz_0⟩) rfl rfl hl.1 rfl (lv_room (Nat.le_of_ble_eq_true rfl)) dX2_findAmong_16 ⟨Nat.zero_le _, Nat.zero_le _⟩) ?_
        refine lv_if_eq (tgt := 91) hx hb dX2_findAmong_19 (by decide) (fun hc => ?_) (fun hc => ?_)
        · rw [if_pos hc] at hf
          exact B91 (fx_findAmong_8 top c x1 x2 n) ih x3 x4 ls hf (lv_sub hl [0, 1, 2, 3, 4] rfl)
        · rw [if_neg hc] at hf
          refine lv_aload_n hx hb dX2_findAmong_22 rfl (lv_at hl 0 rfl) ?_
          refine va_get (D := (dC, dI)) (ci := 1) (v := .ref la) (C := RX2) (T := TX2) (N := 8) hx hb hts hiX2 hown hG.1 hP 0 rfl rfl 1 (by decide) (hts _ (tw_in lk_17)) (fun _ h9 => h9) rfl dX2_findAmong_23 ?_
          refine lv_iload hx hb dX2_findAmong_26 (lv_at hl 4 rfl) ?_
          obtain ⟨hq, hf⟩ := ck_s hf
          have hi3 : x4.toNatClampNeg < top + 1 := Nat.not_le.mp (fun z => hq (Or.inr z))
          refine va_aldq hx hb hG.1 hP 1 1 rfl rfl hq dX2_findAmong_28 ?_
          refine W.eq (g2 := F0 m 29 ls [.ref (lo x4.toNatClampNeg)]) rfl ?_
          refine lv_iload_n hx hb dX2_findAmong_29 rfl (lv_at hl 2 rfl) ?_
          obtain ⟨r4, e5, hf⟩ := ob_s hf
          try dsimp only at hf
          refine pu_calli (va_runV (As := [.int x2]) (rest := []) ⟨hx, hb, hml, hown, hts⟩ (cy_kindAt l dC dI cI cQ t1 t2 bs (lo x4.toNatClampNeg) (lc x4.toNatClampNeg) (gx_L hg hi3) ((c x4.toNatClampNeg).1) ((c x4.toNatClampNeg).2.1) ((c x4.toNatClampNeg).2.2) x2 r4 e5 s.heap.size) (cwV 1 hts (gs_V lk_28 lk_14 lk_15 lk_12 lk_13) rfl rfl rfl (by decide +kernel) ⟨Nat.le_of_ble_eq_true rfl, Nat.le_of_ble_eq_true rfl⟩) (pr_V gk_W (va_recv hG.1 (px_L hP hi3) (q0 := 0) rfl rfl) ⟨hG, (px_L hP hi3)⟩) rfl rfl hl.1 rfl (lv_room (Nat.le_of_ble_eq_true rfl)) dX2_findAmong_30 ⟨Nat.zero_le _, Nat.zero_le _⟩) ?_
          refine lv_istore (lv' := [(5, .int r4), (0, .ref xo), (1, .int x1), (2, .int x2), (3, .int x3), (4, .int x4)]) hx hb dX2_findAmong_33 hl (by decide) rfl (fun ls hl => ?_)
          refine lv_iload hx hb dX2_findAmong_35 (lv_at hl 0 rfl) ?_
          refine lv_iconst (v := 1) hx hb dX2_findAmong_37 (by decide) ?_
          refine lv_icmp_ne (tgt := 55) hx hb dX2_findAmong_38 (by decide) (fun hc => ?_) (fun hc => ?_)
          · rw [if_neg hc] at hf
            refine lv_iload hx hb dX2_findAmong_55 (lv_at hl 0 rfl) ?_
            refine lv_iconst (v := 4) hx hb dX2_findAmong_57 (by decide) ?_
            refine lv_icmp_ne (tgt := 63) hx hb dX2_findAmong_58 (by decide) (fun hc => ?_) (fun hc => ?_)
            · rw [if_neg hc] at hf
              refine lv_iload hx hb dX2_findAmong_63 (lv_at hl 0 rfl) ?_
              refine lv_iconst (v := 3) hx hb dX2_findAmong_65 (by decide) ?_
              refine lv_icmp_ne (tgt := 77) hx hb dX2_findAmong_66 (by decide) (fun hc => ?_) (fun hc => ?_)
              · rw [if_neg hc] at hf
                refine lv_iload hx hb dX2_findAmong_77 (lv_at hl 0 rfl) ?_
                refine lv_iconst (v := 2) hx hb dX2_findAmong_79 (by decide) ?_
                refine lv_icmp_ne (tgt := 91) hx hb dX2_findAmong_80 (by decide) (fun hc => ?_) (fun hc => ?_)
                · rw [if_neg hc] at hf
                  exact B91 (fx_findAmong_8 top c x1 x2 n) ih x3 x4 ls hf (lv_sub hl [1, 2, 3, 4, 5] rfl)
                · rw [if_pos hc] at hf
                  refine lv_iload_n hx hb dX2_findAmong_83 rfl (lv_at hl 4 rfl) ?_
                  refine lv_iload hx hb dX2_findAmong_84 (lv_at hl 5 rfl) ?_
                  obtain ⟨r6, e7, hf⟩ := ob_s hf
                  try dsimp only at hf
                  refine pu_calli (va_runS (As := [.int x4]) (rest := [.int x3]) ⟨hx, hb, hml, hown, hts⟩ (cx_partOf l dC dI cI cQ t1 t2 bs x4 r6 e7 s.heap.size) (va_cwS 1 hts (gs_S lk_52 lk_54 lk_37 lk_53) rfl rfl rfl (by decide +kernel) ⟨Nat.le_of_ble_eq_true rfl, Nat.le_of_ble_eq_true rfl⟩) (pr_S gk_W ⟨hG, pz_0⟩) rfl rfl hl.1 rfl (lv_room (Nat.le_of_ble_eq_true rfl)) dX2_findAmong_86 ⟨Nat.zero_le _, Nat.zero_le _⟩) ?_
                  refine lv_ior hx hb dX2_findAmong_89 ?_
                  refine lv_istore_n (lv' := [(3, .int (x3 ||| r6)), (5, .int r4), (0, .ref xo), (1, .int x1), (2, .int x2), (4, .int x4)]) hx hb dX2_findAmong_90 rfl hl (by decide) rfl (fun ls hl => ?_)
                  exact B91 (fx_findAmong_8 top c x1 x2 n) ih (x3 ||| r6) x4 ls hf (lv_sub hl [2, 3, 4, 0, 5] rfl)
              · rw [if_pos hc] at hf
                refine lv_iload_n hx hb dX2_findAmong_69 rfl (lv_at hl 4 rfl) ?_
                refine lv_iload hx hb dX2_findAmong_70 (lv_at hl 5 rfl) ?_
                obtain ⟨r8, e9, hf⟩ := ob_s hf
                try dsimp only at hf
                refine pu_calli (va_runS (As := [.int x4]) (rest := [.int x3]) ⟨hx, hb, hml, hown, hts⟩ (cx_partOf l dC dI cI cQ t1 t2 bs x4 r8 e9 s.heap.size) (va_cwS 1 hts (gs_S lk_52 lk_54 lk_37 lk_53) rfl rfl rfl (by decide +kernel) ⟨Nat.le_of_ble_eq_true rfl, Nat.le_of_ble_eq_true rfl⟩) (pr_S gk_W ⟨hG, pz_0⟩) rfl rfl hl.1 rfl (lv_room (Nat.le_of_ble_eq_true rfl)) dX2_findAmong_72 ⟨Nat.zero_le _, Nat.zero_le _⟩) ?_
                refine lv_ior hx hb dX2_findAmong_75 ?_
                obtain rfl := Option.some.inj hf
                rw [hQ]
                exact pu_iret hx hb hr (vp_nar_int _) hsz dX2_findAmong_76 hlocks
            · rw [if_pos hc] at hf
              refine lv_iload_n hx hb dX2_findAmong_61 rfl (lv_at hl 4 rfl) ?_
              obtain rfl := Option.some.inj hf
              rw [hQ]
              exact pu_iret hx hb hr (vp_nar_int _) hsz dX2_findAmong_62 hlocks
          · rw [if_pos hc] at hf
            refine lv_iload_n hx hb dX2_findAmong_41 rfl (lv_at hl 4 rfl) ?_
            refine lv_if_ne (tgt := 53) hx hb dX2_findAmong_42 (by decide) (fun hc => ?_) (fun hc => ?_)
            · rw [if_neg hc] at hf
              refine lv_iload_n hx hb dX2_findAmong_53 rfl (lv_at hl 4 rfl) ?_
              obtain rfl := Option.some.inj hf
              rw [hQ]
              exact pu_iret hx hb hr (vp_nar_int _) hsz dX2_findAmong_54 hlocks
            · rw [if_pos hc] at hf
              refine lv_iload hx hb dX2_findAmong_45 (lv_at hl 5 rfl) ?_
              obtain ⟨r10, e11, hf⟩ := ob_s hf
              try dsimp only at hf
              refine pu_calli (va_runS (As := [.int x4]) (rest := []) ⟨hx, hb, hml, hown, hts⟩ (cx_foundFile l dC dI cI cQ t1 t2 bs x4 r10 e11 s.heap.size) (va_cwS 1 hts (gs_S lk_58 lk_60 lk_37 lk_59) rfl rfl rfl (by decide +kernel) ⟨Nat.le_of_ble_eq_true rfl, Nat.le_of_ble_eq_true rfl⟩) (pr_S gk_W ⟨hG, pz_0⟩) rfl rfl hl.1 rfl (lv_room (Nat.le_of_ble_eq_true rfl)) dX2_findAmong_47 ⟨Nat.zero_le _, Nat.zero_le _⟩) ?_
              refine lv_goto (tgt := 54) hx hb dX2_findAmong_50 (by decide) ?_
              obtain rfl := Option.some.inj hf
              rw [hQ]
              exact pu_iret hx hb hr (vp_nar_int _) hsz dX2_findAmong_54 hlocks
  unfold fx_findAmong at h
  have hf := h
  refine lv_iconst (v := 0) hx hb dX2_findAmong_0 (by decide) ?_
  refine lv_istore_n (lv' := [(3, .int 0), (0, .ref xo), (1, .int x1), (2, .int x2)]) hx hb dX2_findAmong_1 rfl hl (by decide) rfl (fun ls hl => ?_)
  refine lv_aload_n hx hb dX2_findAmong_2 rfl (lv_at hl 1 rfl) ?_
  refine va_get (D := (dC, dI)) (ci := 1) (v := .int (nI top)) (C := RX2) (T := TX2) (N := 8) hx hb hts hiX2 hown hG.1 hP 0 rfl rfl 0 (by decide) (hts _ (tw_in lk_4)) (fun _ h9 => h9) rfl dX2_findAmong_3 ?_
  refine lv_istore (lv' := [(4, .int (nI top)), (3, .int 0), (0, .ref xo), (1, .int x1), (2, .int x2)]) hx hb dX2_findAmong_6 hl (by decide) rfl (fun ls hl => ?_)
  exact B8 fu_n 0 (nI top) ls hf (lv_sub hl [2, 3, 4, 1, 0] rfl)
set_option maxHeartbeats 4000000 in
set_option maxRecDepth 100000 in
theorem cx_find (l : Launch) (dC : Nat → ClassId) (dI : Nat → Nat → Nat) (cI cQ : ClassId) (t1 t2 bs : Nat) (top xo la ko kc nt : Nat) (lo lc : Nat → Nat) (hg : gd_A bs (ad_X top xo la ko kc nt lo lc)) (c : Nat → ls_T) (md : Int32) (cu : Int32) (kp : ls_T) (kcu : Int32) (nf : Nat → Int32) (x1 : Int32) (v0 : Int32) (h : fx_find top c x1 = some v0) : pu_M l yX2_find wsX2_find rm_2_46 [.ref xo, .int x1] (gk_G dC dI cI cQ t1 t2 bs (wx_X cI cQ top xo la ko kc nt lo lc c md cu kp kcu nf)) v0 := by
  intro sz
  refine Met.ofW (cc := cX2_find) (maxL := 4) (ret := (some .int)) (by decide) rfl ?_
  intro p e s m args below meth c_ s₁ B hml hv
  obtain ⟨rfl, hsz, hG, hP⟩ := hv
  have hx := B.exec
  have hb := B.bytes
  have hr := B.returns
  have hts := atoms_spec (ws := wsX2_find) B.pre
  have hown : s.vm.findClass RX2 = some m.cls := findClass_of_methodNamed B.named
  have hlocks := B.notSynchronized
  have hl := lv_entry ([.ref xo, .int x1]) (n := 4) (Nat.le_of_ble_eq_true rfl)
  rw [lg_entry_eq]
  generalize (lg_sl ([.ref xo, .int x1]) ++ List.replicate (4 - (lg_sl ([.ref xo, .int x1])).length) Slot.unset).toArray = ls at hl ⊢
  have hl : lv_has ls 4 [(0, .ref xo), (1, .int x1)] := hl
  refine nm_Q (fun Q hQ => ?_)
  have B12 : ∀ n : Nat, ∀ (x2 : Int32) (x3 : Int32), ∀ ls : Array Slot, fx_find_12 top c x1 n x2 x3 = some v0 → lv_has ls 4 [(0, .ref xo), (1, .int x1), (2, .int x2), (3, .int x3)] → W p l e (headSpec wsX2_find rm_2_46).room s m ([.ref xo, .int x1] : List Value).toArray below meth c_ s.heap [] 0 0 Q (F0 m 12 ls []) := by
    intro n
    induction n with
    | zero => 
      intro x2 x3 ls hf hl
      exact nomatch (show (none : Option (Int32)) = some v0 from hf)
    | succ n ih =>
      intro x2 x3 ls hf hl
      rw [fx_find_12.eq_2] at hf
      try dsimp only at hf
      refine lv_iload_n hx hb dX2_find_12 rfl (lv_at hl 3 rfl) ?_
      refine lv_if_lt (tgt := 42) hx hb dX2_find_13 (by decide) (fun hc => ?_) (fun hc => ?_)
      · rw [if_pos hc] at hf
        refine lv_iload_n hx hb dX2_find_42 rfl (lv_at hl 2 rfl) ?_
        obtain rfl := Option.some.inj hf
        rw [hQ]
        exact pu_iret hx hb hr (vp_nar_int _) hsz dX2_find_43 hlocks
      · rw [if_neg hc] at hf
        refine lv_iload_n hx hb dX2_find_16 rfl (lv_at hl 2 rfl) ?_
        obtain ⟨r1, e2, hf⟩ := ob_s hf
        try dsimp only at hf
        refine pu_calli (va_runS (As := [.int x2]) (rest := []) ⟨hx, hb, hml, hown, hts⟩ (cx_isDirectory l dC dI cI cQ t1 t2 bs x2 r1 e2 s.heap.size) (va_cwS 1 hts (gs_S lk_61 lk_63 lk_37 lk_62) rfl rfl rfl (by decide +kernel) ⟨Nat.le_of_ble_eq_true rfl, Nat.le_of_ble_eq_true rfl⟩) (pr_S gk_W ⟨hG, pz_0⟩) rfl rfl hl.1 rfl (lv_room (Nat.le_of_ble_eq_true rfl)) dX2_find_17 ⟨Nat.zero_le _, Nat.zero_le _⟩) ?_
        refine lv_if_ne (tgt := 25) hx hb dX2_find_20 (by decide) (fun hc => ?_) (fun hc => ?_)
        · rw [if_neg hc] at hf
          refine lv_aload_n hx hb dX2_find_25 rfl (lv_at hl 0 rfl) ?_
          refine lv_iload_n hx hb dX2_find_26 rfl (lv_at hl 2 rfl) ?_
          refine lv_iload_n hx hb dX2_find_27 rfl (lv_at hl 1 rfl) ?_
          refine lv_iload_n hx hb dX2_find_28 rfl (lv_at hl 3 rfl) ?_
          obtain ⟨r3, e4, hf⟩ := ob_s hf
          try dsimp only at hf
          refine pu_calli (va_runS (As := [.int x1, .int x3]) (rest := [.int x2, .ref xo]) ⟨hx, hb, hml, hown, hts⟩ (cp_above l dC dI cI cQ t1 t2 bs x1 x3 r3 e4 s.heap.size) (va_cwS 2 hts (gs_S lk_64 lk_10 lk_1 lk_9) rfl rfl rfl (by decide +kernel) ⟨Nat.le_of_ble_eq_true rfl, Nat.le_of_ble_eq_true rfl⟩) (pr_S gk_W ⟨hG, pz_0⟩) rfl rfl hl.1 rfl (lv_room (Nat.le_of_ble_eq_true rfl)) dX2_find_29 ⟨Nat.zero_le _, Nat.zero_le _⟩) ?_
          obtain ⟨r5, e6, hf⟩ := ob_s hf
          try dsimp only at hf
          refine pu_calli (va_runV (As := [.int x2, .int r3]) (rest := []) ⟨hx, hb, hml, hown, hts⟩ (cx_findAmong l dC dI cI cQ t1 t2 bs top xo la ko kc nt lo lc hg c md cu kp kcu nf x2 r3 r5 e6 s.heap.size) (cwV 2 hts (gs_V lk_65 lk_67 lk_68 lk_37 lk_66) rfl rfl rfl (by decide +kernel) ⟨Nat.le_of_ble_eq_true rfl, Nat.le_of_ble_eq_true rfl⟩) (pr_V gk_W (va_recv hG.1 hP (q0 := 0) rfl rfl) ⟨hG, hP⟩) rfl rfl hl.1 rfl (lv_room (Nat.le_of_ble_eq_true rfl)) dX2_find_32 ⟨Nat.zero_le _, Nat.zero_le _⟩) ?_
          refine lv_istore_n (lv' := [(2, .int r5), (0, .ref xo), (1, .int x1), (3, .int x3)]) hx hb dX2_find_35 rfl hl (by decide) rfl (fun ls hl => ?_)
          refine lv_iinc (k := 3) (v := x3 + (-1)) (lv' := [(3, .int (x3 + (-1))), (2, .int r5), (0, .ref xo), (1, .int x1)]) hx hb dX2_find_36 hl rfl (by rfl) (by decide) rfl (fun ls hl => ?_)
          refine lv_goto (tgt := 12) hx hb dX2_find_39 (by decide) ?_
          exact ih r5 (x3 + (-1)) ls hf (lv_sub hl [2, 3, 1, 0] rfl)
        · rw [if_pos hc] at hf
          refine lv_iconst (v := 0) hx hb dX2_find_23 (by decide) ?_
          obtain rfl := Option.some.inj hf
          rw [hQ]
          exact pu_iret hx hb hr (vp_nar_int _) hsz dX2_find_24 hlocks
  unfold fx_find at h
  have hf := h
  refine lv_aload_n hx hb dX2_find_0 rfl (lv_at hl 0 rfl) ?_
  obtain ⟨r7, e8, hf⟩ := ob_s hf
  try dsimp only at hf
  refine pu_calli (va_runV (As := []) (rest := []) ⟨hx, hb, hml, hown, hts⟩ (cx_allParts l dC dI cI cQ t1 t2 bs top xo la ko kc nt lo lc hg c md cu kp kcu nf r7 e8 s.heap.size) (cwV 0 hts (gs_V lk_69 lk_71 lk_72 lk_37 lk_70) rfl rfl rfl (by decide +kernel) ⟨Nat.le_of_ble_eq_true rfl, Nat.le_of_ble_eq_true rfl⟩) (pr_V gk_W (va_recv hG.1 hP (q0 := 0) rfl rfl) ⟨hG, hP⟩) rfl rfl hl.1 rfl (lv_room (Nat.le_of_ble_eq_true rfl)) dX2_find_1 ⟨Nat.zero_le _, Nat.zero_le _⟩) ?_
  refine lv_istore_n (lv' := [(2, .int r7), (0, .ref xo), (1, .int x1)]) hx hb dX2_find_4 rfl hl (by decide) rfl (fun ls hl => ?_)
  refine lv_iload_n hx hb dX2_find_5 rfl (lv_at hl 2 rfl) ?_
  obtain ⟨r9, e10, hf⟩ := ob_s hf
  try dsimp only at hf
  refine pu_calli (va_runS (As := [.int x1]) (rest := []) ⟨hx, hb, hml, hown, hts⟩ (cp_depth l dC dI cI cQ t1 t2 bs x1 r9 e10 s.heap.size) (va_cwS 1 hts (gs_S lk_73 lk_75 lk_1 lk_74) rfl rfl rfl (by decide +kernel) ⟨Nat.le_of_ble_eq_true rfl, Nat.le_of_ble_eq_true rfl⟩) (pr_S gk_W ⟨hG, pz_0⟩) rfl rfl hl.1 rfl (lv_room (Nat.le_of_ble_eq_true rfl)) dX2_find_6 ⟨Nat.zero_le _, Nat.zero_le _⟩) ?_
  refine lv_iconst (v := 1) hx hb dX2_find_9 (by decide) ?_
  refine lv_isub hx hb dX2_find_10 ?_
  refine lv_istore_n (lv' := [(3, .int (r9 - 1)), (2, .int r7), (0, .ref xo), (1, .int x1)]) hx hb dX2_find_11 rfl hl (by decide) rfl (fun ls hl => ?_)
  exact B12 fu_n r7 (r9 - 1) ls hf (lv_sub hl [2, 3, 1, 0] rfl)
set_option maxHeartbeats 4000000 in
set_option maxRecDepth 100000 in
theorem cx_isFile (l : Launch) (dC : Nat → ClassId) (dI : Nat → Nat → Nat) (cI cQ : ClassId) (t1 t2 bs : Nat) (x0 : Int32) (v0 : Int32) (h : fx_isFile x0 = some v0) : pu_M l yX2_isFile wsX2_isFile rm_0_0 [.int x0] (gk_G dC dI cI cQ t1 t2 bs []) v0 := by
  intro sz
  refine Met.ofW (cc := cX2_isFile) (maxL := 1) (ret := (some .boolean)) (by decide) rfl ?_
  intro p e s m args below meth c_ s₁ B hml hv
  obtain ⟨rfl, hsz, hG, hP⟩ := hv
  have hx := B.exec
  have hb := B.bytes
  have hr := B.returns
  have hts := atoms_spec (ws := wsX2_isFile) B.pre
  have hown : s.vm.findClass RX2 = some m.cls := findClass_of_methodNamed B.named
  have hlocks := B.notSynchronized
  have hl := lv_entry ([.int x0]) (n := 1) (Nat.le_of_ble_eq_true rfl)
  rw [lg_entry_eq]
  generalize (lg_sl ([.int x0]) ++ List.replicate (1 - (lg_sl ([.int x0])).length) Slot.unset).toArray = ls at hl ⊢
  have hl : lv_has ls 1 [(0, .int x0)] := hl
  refine nm_Q (fun Q hQ => ?_)
  unfold fx_isFile at h
  have hf := h
  refine lv_iload_n hx hb dX2_isFile_0 rfl (lv_at hl 0 rfl) ?_
  refine lv_if_ge (tgt := 8) hx hb dX2_isFile_1 (by decide) (fun hc => ?_) (fun hc => ?_)
  · rw [if_pos hc] at hf
    refine lv_iconst (v := 0) hx hb dX2_isFile_8 (by decide) ?_
    obtain rfl := Option.some.inj hf
    rw [hQ]
    exact pu_iret hx hb hr (nb_0) hsz dX2_isFile_9 hlocks
  · rw [if_neg hc] at hf
    refine lv_iconst (v := 1) hx hb dX2_isFile_4 (by decide) ?_
    refine lv_goto (tgt := 9) hx hb dX2_isFile_5 (by decide) ?_
    obtain rfl := Option.some.inj hf
    rw [hQ]
    exact pu_iret hx hb hr (nb_1) hsz dX2_isFile_9 hlocks
set_option maxHeartbeats 4000000 in
set_option maxRecDepth 100000 in
theorem cx_kind (l : Launch) (dC : Nat → ClassId) (dI : Nat → Nat → Nat) (cI cQ : ClassId) (t1 t2 bs : Nat) (top xo la ko kc nt : Nat) (lo lc : Nat → Nat) (hg : gd_A bs (ad_X top xo la ko kc nt lo lc)) (c : Nat → ls_T) (md : Int32) (cu : Int32) (kp : ls_T) (kcu : Int32) (nf : Nat → Int32) (x1 : Int32) (v0 : Int32) (h : fx_kind top c md x1 = some v0) : pu_M l yX2_kind wsX2_kind rm_3_69 [.ref xo, .int x1] (gk_G dC dI cI cQ t1 t2 bs (wx_X cI cQ top xo la ko kc nt lo lc c md cu kp kcu nf)) v0 := by
  intro sz
  refine Met.ofW (cc := cX2_kind) (maxL := 4) (ret := (some .int)) (by decide) rfl ?_
  intro p e s m args below meth c_ s₁ B hml hv
  obtain ⟨rfl, hsz, hG, hP⟩ := hv
  have hx := B.exec
  have hb := B.bytes
  have hr := B.returns
  have hts := atoms_spec (ws := wsX2_kind) B.pre
  have hown : s.vm.findClass RX2 = some m.cls := findClass_of_methodNamed B.named
  have hlocks := B.notSynchronized
  have hl := lv_entry ([.ref xo, .int x1]) (n := 4) (Nat.le_of_ble_eq_true rfl)
  rw [lg_entry_eq]
  generalize (lg_sl ([.ref xo, .int x1]) ++ List.replicate (4 - (lg_sl ([.ref xo, .int x1])).length) Slot.unset).toArray = ls at hl ⊢
  have hl : lv_has ls 4 [(0, .ref xo), (1, .int x1)] := hl
  refine nm_Q (fun Q hQ => ?_)
  unfold fx_kind at h
  have hf := h
  refine lv_aload_n hx hb dX2_kind_0 rfl (lv_at hl 0 rfl) ?_
  refine lv_iload_n hx hb dX2_kind_1 rfl (lv_at hl 1 rfl) ?_
  obtain ⟨r1, e2, hf⟩ := ob_s hf
  try dsimp only at hf
  refine pu_calli (va_runV (As := [.int x1]) (rest := []) ⟨hx, hb, hml, hown, hts⟩ (cx_placeOrRefusal l dC dI cI cQ t1 t2 bs top xo la ko kc nt lo lc hg c md cu kp kcu nf x1 r1 e2 s.heap.size) (cwV 1 hts (gs_V lk_76 lk_78 lk_79 lk_37 lk_77) rfl rfl rfl (by decide +kernel) ⟨Nat.le_of_ble_eq_true rfl, Nat.le_of_ble_eq_true rfl⟩) (pr_V gk_W (va_recv hG.1 hP (q0 := 0) rfl rfl) ⟨hG, hP⟩) rfl rfl hl.1 rfl (lv_room (Nat.le_of_ble_eq_true rfl)) dX2_kind_2 ⟨Nat.zero_le _, Nat.zero_le _⟩) ?_
  refine lv_istore_n (lv' := [(2, .int r1), (0, .ref xo), (1, .int x1)]) hx hb dX2_kind_5 rfl hl (by decide) rfl (fun ls hl => ?_)
  refine lv_iload_n hx hb dX2_kind_6 rfl (lv_at hl 0 rfl) ?_
  refine lv_if_ge (tgt := 12) hx hb dX2_kind_7 (by decide) (fun hc => ?_) (fun hc => ?_)
  · rw [if_pos hc] at hf
    refine lv_aload_n hx hb dX2_kind_12 rfl (lv_at hl 1 rfl) ?_
    refine lv_iload_n hx hb dX2_kind_13 rfl (lv_at hl 0 rfl) ?_
    obtain ⟨r3, e4, hf⟩ := ob_s hf
    try dsimp only at hf
    refine pu_calli (va_runV (As := [.int r1]) (rest := []) ⟨hx, hb, hml, hown, hts⟩ (cx_find l dC dI cI cQ t1 t2 bs top xo la ko kc nt lo lc hg c md cu kp kcu nf r1 r3 e4 s.heap.size) (cwV 1 hts (gs_V lk_80 lk_82 lk_83 lk_37 lk_81) rfl rfl rfl (by decide +kernel) ⟨Nat.le_of_ble_eq_true rfl, Nat.le_of_ble_eq_true rfl⟩) (pr_V gk_W (va_recv hG.1 hP (q0 := 0) rfl rfl) ⟨hG, hP⟩) rfl rfl hl.1 rfl (lv_room (Nat.le_of_ble_eq_true rfl)) dX2_kind_14 ⟨Nat.zero_le _, Nat.zero_le _⟩) ?_
    refine lv_istore_n (lv' := [(3, .int r3), (2, .int r1), (0, .ref xo), (1, .int x1)]) hx hb dX2_kind_17 rfl hl (by decide) rfl (fun ls hl => ?_)
    refine lv_iload_n hx hb dX2_kind_18 rfl (lv_at hl 0 rfl) ?_
    refine lv_if_ne (tgt := 24) hx hb dX2_kind_19 (by decide) (fun hc => ?_) (fun hc => ?_)
    · rw [if_neg hc] at hf
      refine lv_iload_n hx hb dX2_kind_24 rfl (lv_at hl 0 rfl) ?_
      obtain ⟨r5, e6, hf⟩ := ob_s hf
      try dsimp only at hf
      refine pu_calli (va_runS (As := [.int r3]) (rest := []) ⟨hx, hb, hml, hown, hts⟩ (cx_isFile l dC dI cI cQ t1 t2 bs r3 r5 e6 s.heap.size) (va_cwS 1 hts (gs_S lk_84 lk_86 lk_37 lk_85) rfl rfl rfl (by decide +kernel) ⟨Nat.le_of_ble_eq_true rfl, Nat.le_of_ble_eq_true rfl⟩) (pr_S gk_W ⟨hG, pz_0⟩) rfl rfl hl.1 rfl (lv_room (Nat.le_of_ble_eq_true rfl)) dX2_kind_25 ⟨Nat.zero_le _, Nat.zero_le _⟩) ?_
      refine lv_if_eq (tgt := 35) hx hb dX2_kind_28 (by decide) (fun hc => ?_) (fun hc => ?_)
      · rw [if_pos hc] at hf
        refine lv_iconst (v := 2) hx hb dX2_kind_35 (by decide) ?_
        obtain rfl := Option.some.inj hf
        rw [hQ]
        exact pu_iret hx hb hr (vp_nar_int _) hsz dX2_kind_36 hlocks
      · rw [if_neg hc] at hf
        refine lv_iconst (v := 1) hx hb dX2_kind_31 (by decide) ?_
        refine lv_goto (tgt := 36) hx hb dX2_kind_32 (by decide) ?_
        obtain rfl := Option.some.inj hf
        rw [hQ]
        exact pu_iret hx hb hr (vp_nar_int _) hsz dX2_kind_36 hlocks
    · rw [if_pos hc] at hf
      refine lv_iconst (v := 0) hx hb dX2_kind_22 (by decide) ?_
      obtain rfl := Option.some.inj hf
      rw [hQ]
      exact pu_iret hx hb hr (vp_nar_int _) hsz dX2_kind_23 hlocks
  · rw [if_neg hc] at hf
    refine lv_iload_n hx hb dX2_kind_10 rfl (lv_at hl 0 rfl) ?_
    obtain rfl := Option.some.inj hf
    rw [hQ]
    exact pu_iret hx hb hr (vp_nar_int _) hsz dX2_kind_11 hlocks
set_option maxHeartbeats 4000000 in
set_option maxRecDepth 100000 in
theorem cx_layerOfFile (l : Launch) (dC : Nat → ClassId) (dI : Nat → Nat → Nat) (cI cQ : ClassId) (t1 t2 bs : Nat) (x0 : Int32) (v0 : Int32) (h : fx_layerOfFile x0 = some v0) : pu_M l yX2_layerOfFile wsX2_layerOfFile rm_0_0 [.int x0] (gk_G dC dI cI cQ t1 t2 bs []) v0 := by
  intro sz
  refine Met.ofW (cc := cX2_layerOfFile) (maxL := 1) (ret := (some .int)) (by decide) rfl ?_
  intro p e s m args below meth c_ s₁ B hml hv
  obtain ⟨rfl, hsz, hG, hP⟩ := hv
  have hx := B.exec
  have hb := B.bytes
  have hr := B.returns
  have hts := atoms_spec (ws := wsX2_layerOfFile) B.pre
  have hown : s.vm.findClass RX2 = some m.cls := findClass_of_methodNamed B.named
  have hlocks := B.notSynchronized
  have hl := lv_entry ([.int x0]) (n := 1) (Nat.le_of_ble_eq_true rfl)
  rw [lg_entry_eq]
  generalize (lg_sl ([.int x0]) ++ List.replicate (1 - (lg_sl ([.int x0])).length) Slot.unset).toArray = ls at hl ⊢
  have hl : lv_has ls 1 [(0, .int x0)] := hl
  refine nm_Q (fun Q hQ => ?_)
  unfold fx_layerOfFile at h
  have hf := h
  refine lv_iload_n hx hb dX2_layerOfFile_0 rfl (lv_at hl 0 rfl) ?_
  refine lv_iconst (v := (-1)) hx hb dX2_layerOfFile_1 (by decide) ?_
  refine lv_ixor hx hb dX2_layerOfFile_2 ?_
  obtain rfl := Option.some.inj hf
  rw [hQ]
  exact pu_iret hx hb hr (vp_nar_int _) hsz dX2_layerOfFile_3 hlocks
set_option maxHeartbeats 4000000 in
set_option maxRecDepth 100000 in
theorem cx_read (l : Launch) (dC : Nat → ClassId) (dI : Nat → Nat → Nat) (cI cQ : ClassId) (t1 t2 bs : Nat) (top xo la ko kc nt : Nat) (lo lc : Nat → Nat) (hg : gd_A bs (ad_X top xo la ko kc nt lo lc)) (c : Nat → ls_T) (md : Int32) (cu : Int32) (kp : ls_T) (kcu : Int32) (nf : Nat → Int32) (x1 : Int32) (v0 : Int32) (h : fx_read top c md x1 = some v0) : pu_M l yX2_read wsX2_read rm_3_69 [.ref xo, .int x1] (gk_G dC dI cI cQ t1 t2 bs (wx_X cI cQ top xo la ko kc nt lo lc c md cu kp kcu nf)) v0 := by
  intro sz
  refine Met.ofW (cc := cX2_read) (maxL := 4) (ret := (some .int)) (by decide) rfl ?_
  intro p e s m args below meth c_ s₁ B hml hv
  obtain ⟨rfl, hsz, hG, hP⟩ := hv
  have hx := B.exec
  have hb := B.bytes
  have hr := B.returns
  have hts := atoms_spec (ws := wsX2_read) B.pre
  have hown : s.vm.findClass RX2 = some m.cls := findClass_of_methodNamed B.named
  have hlocks := B.notSynchronized
  have hiX2 : ∀ w ∈ u_ws RX2 TX2 8, w ∈ wsX2_read := fun w hw => tw_in (usX2 w hw)
  have hl := lv_entry ([.ref xo, .int x1]) (n := 4) (Nat.le_of_ble_eq_true rfl)
  rw [lg_entry_eq]
  generalize (lg_sl ([.ref xo, .int x1]) ++ List.replicate (4 - (lg_sl ([.ref xo, .int x1])).length) Slot.unset).toArray = ls at hl ⊢
  have hl : lv_has ls 4 [(0, .ref xo), (1, .int x1)] := hl
  refine nm_Q (fun Q hQ => ?_)
  unfold fx_read at h
  have hf := h
  refine lv_aload_n hx hb dX2_read_0 rfl (lv_at hl 0 rfl) ?_
  refine lv_iload_n hx hb dX2_read_1 rfl (lv_at hl 1 rfl) ?_
  obtain ⟨r1, e2, hf⟩ := ob_s hf
  try dsimp only at hf
  refine pu_calli (va_runV (As := [.int x1]) (rest := []) ⟨hx, hb, hml, hown, hts⟩ (cx_placeOrRefusal l dC dI cI cQ t1 t2 bs top xo la ko kc nt lo lc hg c md cu kp kcu nf x1 r1 e2 s.heap.size) (cwV 1 hts (gs_V lk_76 lk_78 lk_79 lk_37 lk_77) rfl rfl rfl (by decide +kernel) ⟨Nat.le_of_ble_eq_true rfl, Nat.le_of_ble_eq_true rfl⟩) (pr_V gk_W (va_recv hG.1 hP (q0 := 0) rfl rfl) ⟨hG, hP⟩) rfl rfl hl.1 rfl (lv_room (Nat.le_of_ble_eq_true rfl)) dX2_read_2 ⟨Nat.zero_le _, Nat.zero_le _⟩) ?_
  refine lv_istore_n (lv' := [(2, .int r1), (0, .ref xo), (1, .int x1)]) hx hb dX2_read_5 rfl hl (by decide) rfl (fun ls hl => ?_)
  refine lv_iload_n hx hb dX2_read_6 rfl (lv_at hl 0 rfl) ?_
  refine lv_if_ge (tgt := 12) hx hb dX2_read_7 (by decide) (fun hc => ?_) (fun hc => ?_)
  · rw [if_pos hc] at hf
    refine lv_aload_n hx hb dX2_read_12 rfl (lv_at hl 1 rfl) ?_
    refine lv_iload_n hx hb dX2_read_13 rfl (lv_at hl 0 rfl) ?_
    obtain ⟨r3, e4, hf⟩ := ob_s hf
    try dsimp only at hf
    refine pu_calli (va_runV (As := [.int r1]) (rest := []) ⟨hx, hb, hml, hown, hts⟩ (cx_find l dC dI cI cQ t1 t2 bs top xo la ko kc nt lo lc hg c md cu kp kcu nf r1 r3 e4 s.heap.size) (cwV 1 hts (gs_V lk_80 lk_82 lk_83 lk_37 lk_81) rfl rfl rfl (by decide +kernel) ⟨Nat.le_of_ble_eq_true rfl, Nat.le_of_ble_eq_true rfl⟩) (pr_V gk_W (va_recv hG.1 hP (q0 := 0) rfl rfl) ⟨hG, hP⟩) rfl rfl hl.1 rfl (lv_room (Nat.le_of_ble_eq_true rfl)) dX2_read_14 ⟨Nat.zero_le _, Nat.zero_le _⟩) ?_
    refine lv_istore_n (lv' := [(3, .int r3), (2, .int r1), (0, .ref xo), (1, .int x1)]) hx hb dX2_read_17 rfl hl (by decide) rfl (fun ls hl => ?_)
    refine lv_iload_n hx hb dX2_read_18 rfl (lv_at hl 0 rfl) ?_
    refine lv_if_ne (tgt := 25) hx hb dX2_read_19 (by decide) (fun hc => ?_) (fun hc => ?_)
    · rw [if_neg hc] at hf
      refine lv_iload_n hx hb dX2_read_25 rfl (lv_at hl 0 rfl) ?_
      obtain ⟨r5, e6, hf⟩ := ob_s hf
      try dsimp only at hf
      refine pu_calli (va_runS (As := [.int r3]) (rest := []) ⟨hx, hb, hml, hown, hts⟩ (cx_isFile l dC dI cI cQ t1 t2 bs r3 r5 e6 s.heap.size) (va_cwS 1 hts (gs_S lk_84 lk_86 lk_37 lk_85) rfl rfl rfl (by decide +kernel) ⟨Nat.le_of_ble_eq_true rfl, Nat.le_of_ble_eq_true rfl⟩) (pr_S gk_W ⟨hG, pz_0⟩) rfl rfl hl.1 rfl (lv_room (Nat.le_of_ble_eq_true rfl)) dX2_read_26 ⟨Nat.zero_le _, Nat.zero_le _⟩) ?_
      refine lv_if_eq (tgt := 48) hx hb dX2_read_29 (by decide) (fun hc => ?_) (fun hc => ?_)
      · rw [if_pos hc] at hf
        refine lv_bipush (v := (-6)) hx hb dX2_read_48 (by decide) ?_
        obtain rfl := Option.some.inj hf
        rw [hQ]
        exact pu_iret hx hb hr (vp_nar_int _) hsz dX2_read_50 hlocks
      · rw [if_neg hc] at hf
        refine lv_aload_n hx hb dX2_read_32 rfl (lv_at hl 2 rfl) ?_
        refine va_get (D := (dC, dI)) (ci := 1) (v := .ref la) (C := RX2) (T := TX2) (N := 8) hx hb hts hiX2 hown hG.1 hP 0 rfl rfl 1 (by decide) (hts _ (tw_in lk_17)) (fun _ h9 => h9) rfl dX2_read_33 ?_
        refine lv_iload_n hx hb dX2_read_36 rfl (lv_at hl 0 rfl) ?_
        obtain ⟨r7, e8, hf⟩ := ob_s hf
        try dsimp only at hf
        refine pu_calli (va_runS (As := [.int r3]) (rest := [.ref la]) ⟨hx, hb, hml, hown, hts⟩ (cx_layerOfFile l dC dI cI cQ t1 t2 bs r3 r7 e8 s.heap.size) (va_cwS 1 hts (gs_S lk_87 lk_89 lk_37 lk_88) rfl rfl rfl (by decide +kernel) ⟨Nat.le_of_ble_eq_true rfl, Nat.le_of_ble_eq_true rfl⟩) (pr_S gk_W ⟨hG, pz_0⟩) rfl rfl hl.1 rfl (lv_room (Nat.le_of_ble_eq_true rfl)) dX2_read_37 ⟨Nat.zero_le _, Nat.zero_le _⟩) ?_
        obtain ⟨hq, hf⟩ := ck_s hf
        have hi9 : r7.toNatClampNeg < top + 1 := Nat.not_le.mp (fun z => hq (Or.inr z))
        refine va_aldq hx hb hG.1 hP 1 1 rfl rfl hq dX2_read_40 ?_
        refine W.eq (g2 := F0 m 41 ls [.ref (lo r7.toNatClampNeg)]) rfl ?_
        refine lv_iload_n hx hb dX2_read_41 rfl (lv_at hl 1 rfl) ?_
        obtain ⟨r10, e11, hf⟩ := ob_s hf
        try dsimp only at hf
        refine pu_calli (va_runV (As := [.int r1]) (rest := []) ⟨hx, hb, hml, hown, hts⟩ (cy_valueAt l dC dI cI cQ t1 t2 bs (lo r7.toNatClampNeg) (lc r7.toNatClampNeg) (gx_L hg hi9) ((c r7.toNatClampNeg).1) ((c r7.toNatClampNeg).2.1) ((c r7.toNatClampNeg).2.2) r1 r10 e11 s.heap.size) (cwV 1 hts (gs_V lk_90 lk_92 lk_93 lk_12 lk_91) rfl rfl rfl (by decide +kernel) ⟨Nat.le_of_ble_eq_true rfl, Nat.le_of_ble_eq_true rfl⟩) (pr_V gk_W (va_recv hG.1 (px_L hP hi9) (q0 := 0) rfl rfl) ⟨hG, (px_L hP hi9)⟩) rfl rfl hl.1 rfl (lv_room (Nat.le_of_ble_eq_true rfl)) dX2_read_42 ⟨Nat.zero_le _, Nat.zero_le _⟩) ?_
        refine lv_goto (tgt := 50) hx hb dX2_read_45 (by decide) ?_
        obtain rfl := Option.some.inj hf
        rw [hQ]
        exact pu_iret hx hb hr (vp_nar_int _) hsz dX2_read_50 hlocks
    · rw [if_pos hc] at hf
      refine lv_bipush (v := (-3)) hx hb dX2_read_22 (by decide) ?_
      obtain rfl := Option.some.inj hf
      rw [hQ]
      exact pu_iret hx hb hr (vp_nar_int _) hsz dX2_read_24 hlocks
  · rw [if_neg hc] at hf
    refine lv_iload_n hx hb dX2_read_10 rfl (lv_at hl 0 rfl) ?_
    obtain rfl := Option.some.inj hf
    rw [hQ]
    exact pu_iret hx hb hr (vp_nar_int _) hsz dX2_read_11 hlocks
set_option maxHeartbeats 4000000 in
set_option maxRecDepth 100000 in
theorem cx_directoryPlaceOrRefusal (l : Launch) (dC : Nat → ClassId) (dI : Nat → Nat → Nat) (cI cQ : ClassId) (t1 t2 bs : Nat) (top xo la ko kc nt : Nat) (lo lc : Nat → Nat) (hg : gd_A bs (ad_X top xo la ko kc nt lo lc)) (c : Nat → ls_T) (md : Int32) (cu : Int32) (kp : ls_T) (kcu : Int32) (nf : Nat → Int32) (x1 : Int32) (v0 : Int32) (h : fx_directoryPlaceOrRefusal top c md x1 = some v0) : pu_M l yX2_directoryPlaceOrRefusal wsX2_directoryPlaceOrRefusal rm_3_69 [.ref xo, .int x1] (gk_G dC dI cI cQ t1 t2 bs (wx_X cI cQ top xo la ko kc nt lo lc c md cu kp kcu nf)) v0 := by
  intro sz
  refine Met.ofW (cc := cX2_directoryPlaceOrRefusal) (maxL := 4) (ret := (some .int)) (by decide) rfl ?_
  intro p e s m args below meth c_ s₁ B hml hv
  obtain ⟨rfl, hsz, hG, hP⟩ := hv
  have hx := B.exec
  have hb := B.bytes
  have hr := B.returns
  have hts := atoms_spec (ws := wsX2_directoryPlaceOrRefusal) B.pre
  have hown : s.vm.findClass RX2 = some m.cls := findClass_of_methodNamed B.named
  have hlocks := B.notSynchronized
  have hl := lv_entry ([.ref xo, .int x1]) (n := 4) (Nat.le_of_ble_eq_true rfl)
  rw [lg_entry_eq]
  generalize (lg_sl ([.ref xo, .int x1]) ++ List.replicate (4 - (lg_sl ([.ref xo, .int x1])).length) Slot.unset).toArray = ls at hl ⊢
  have hl : lv_has ls 4 [(0, .ref xo), (1, .int x1)] := hl
  refine nm_Q (fun Q hQ => ?_)
  unfold fx_directoryPlaceOrRefusal at h
  have hf := h
  refine lv_aload_n hx hb dX2_directoryPlaceOrRefusal_0 rfl (lv_at hl 0 rfl) ?_
  refine lv_iload_n hx hb dX2_directoryPlaceOrRefusal_1 rfl (lv_at hl 1 rfl) ?_
  obtain ⟨r1, e2, hf⟩ := ob_s hf
  try dsimp only at hf
  refine pu_calli (va_runV (As := [.int x1]) (rest := []) ⟨hx, hb, hml, hown, hts⟩ (cx_placeOrRefusal l dC dI cI cQ t1 t2 bs top xo la ko kc nt lo lc hg c md cu kp kcu nf x1 r1 e2 s.heap.size) (cwV 1 hts (gs_V lk_76 lk_78 lk_79 lk_37 lk_77) rfl rfl rfl (by decide +kernel) ⟨Nat.le_of_ble_eq_true rfl, Nat.le_of_ble_eq_true rfl⟩) (pr_V gk_W (va_recv hG.1 hP (q0 := 0) rfl rfl) ⟨hG, hP⟩) rfl rfl hl.1 rfl (lv_room (Nat.le_of_ble_eq_true rfl)) dX2_directoryPlaceOrRefusal_2 ⟨Nat.zero_le _, Nat.zero_le _⟩) ?_
  refine lv_istore_n (lv' := [(2, .int r1), (0, .ref xo), (1, .int x1)]) hx hb dX2_directoryPlaceOrRefusal_5 rfl hl (by decide) rfl (fun ls hl => ?_)
  refine lv_iload_n hx hb dX2_directoryPlaceOrRefusal_6 rfl (lv_at hl 0 rfl) ?_
  refine lv_if_ge (tgt := 12) hx hb dX2_directoryPlaceOrRefusal_7 (by decide) (fun hc => ?_) (fun hc => ?_)
  · rw [if_pos hc] at hf
    refine lv_aload_n hx hb dX2_directoryPlaceOrRefusal_12 rfl (lv_at hl 1 rfl) ?_
    refine lv_iload_n hx hb dX2_directoryPlaceOrRefusal_13 rfl (lv_at hl 0 rfl) ?_
    obtain ⟨r3, e4, hf⟩ := ob_s hf
    try dsimp only at hf
    refine pu_calli (va_runV (As := [.int r1]) (rest := []) ⟨hx, hb, hml, hown, hts⟩ (cx_find l dC dI cI cQ t1 t2 bs top xo la ko kc nt lo lc hg c md cu kp kcu nf r1 r3 e4 s.heap.size) (cwV 1 hts (gs_V lk_80 lk_82 lk_83 lk_37 lk_81) rfl rfl rfl (by decide +kernel) ⟨Nat.le_of_ble_eq_true rfl, Nat.le_of_ble_eq_true rfl⟩) (pr_V gk_W (va_recv hG.1 hP (q0 := 0) rfl rfl) ⟨hG, hP⟩) rfl rfl hl.1 rfl (lv_room (Nat.le_of_ble_eq_true rfl)) dX2_directoryPlaceOrRefusal_14 ⟨Nat.zero_le _, Nat.zero_le _⟩) ?_
    refine lv_istore_n (lv' := [(3, .int r3), (2, .int r1), (0, .ref xo), (1, .int x1)]) hx hb dX2_directoryPlaceOrRefusal_17 rfl hl (by decide) rfl (fun ls hl => ?_)
    refine lv_iload_n hx hb dX2_directoryPlaceOrRefusal_18 rfl (lv_at hl 0 rfl) ?_
    refine lv_if_ne (tgt := 25) hx hb dX2_directoryPlaceOrRefusal_19 (by decide) (fun hc => ?_) (fun hc => ?_)
    · rw [if_neg hc] at hf
      refine lv_iload_n hx hb dX2_directoryPlaceOrRefusal_25 rfl (lv_at hl 0 rfl) ?_
      obtain ⟨r5, e6, hf⟩ := ob_s hf
      try dsimp only at hf
      refine pu_calli (va_runS (As := [.int r3]) (rest := []) ⟨hx, hb, hml, hown, hts⟩ (cx_isFile l dC dI cI cQ t1 t2 bs r3 r5 e6 s.heap.size) (va_cwS 1 hts (gs_S lk_84 lk_86 lk_37 lk_85) rfl rfl rfl (by decide +kernel) ⟨Nat.le_of_ble_eq_true rfl, Nat.le_of_ble_eq_true rfl⟩) (pr_S gk_W ⟨hG, pz_0⟩) rfl rfl hl.1 rfl (lv_room (Nat.le_of_ble_eq_true rfl)) dX2_directoryPlaceOrRefusal_26 ⟨Nat.zero_le _, Nat.zero_le _⟩) ?_
      refine lv_if_eq (tgt := 37) hx hb dX2_directoryPlaceOrRefusal_29 (by decide) (fun hc => ?_) (fun hc => ?_)
      · rw [if_pos hc] at hf
        refine lv_iload_n hx hb dX2_directoryPlaceOrRefusal_37 rfl (lv_at hl 1 rfl) ?_
        obtain rfl := Option.some.inj hf
        rw [hQ]
        exact pu_iret hx hb hr (vp_nar_int _) hsz dX2_directoryPlaceOrRefusal_38 hlocks
      · rw [if_neg hc] at hf
        refine lv_bipush (v := (-7)) hx hb dX2_directoryPlaceOrRefusal_32 (by decide) ?_
        refine lv_goto (tgt := 38) hx hb dX2_directoryPlaceOrRefusal_34 (by decide) ?_
        obtain rfl := Option.some.inj hf
        rw [hQ]
        exact pu_iret hx hb hr (vp_nar_int _) hsz dX2_directoryPlaceOrRefusal_38 hlocks
    · rw [if_pos hc] at hf
      refine lv_bipush (v := (-3)) hx hb dX2_directoryPlaceOrRefusal_22 (by decide) ?_
      obtain rfl := Option.some.inj hf
      rw [hQ]
      exact pu_iret hx hb hr (vp_nar_int _) hsz dX2_directoryPlaceOrRefusal_24 hlocks
  · rw [if_neg hc] at hf
    refine lv_iload_n hx hb dX2_directoryPlaceOrRefusal_10 rfl (lv_at hl 0 rfl) ?_
    obtain rfl := Option.some.inj hf
    rw [hQ]
    exact pu_iret hx hb hr (vp_nar_int _) hsz dX2_directoryPlaceOrRefusal_11 hlocks
set_option maxHeartbeats 4000000 in
set_option maxRecDepth 100000 in
theorem cx_countIn (l : Launch) (dC : Nat → ClassId) (dI : Nat → Nat → Nat) (cI cQ : ClassId) (t1 t2 bs : Nat) (top xo la ko kc nt : Nat) (lo lc : Nat → Nat) (hg : gd_A bs (ad_X top xo la ko kc nt lo lc)) (c : Nat → ls_T) (md : Int32) (cu : Int32) (kp : ls_T) (kcu : Int32) (nf : Nat → Int32) (x1 : Int32) (x2 : Int32) (v0 : Int32) (h : fx_countIn top c x1 x2 = some v0) : pu_M l yX2_countIn wsX2_countIn rm_2_46 [.ref xo, .int x1, .int x2] (gk_G dC dI cI cQ t1 t2 bs (wx_X cI cQ top xo la ko kc nt lo lc c md cu kp kcu nf)) v0 := by
  intro sz
  refine Met.ofW (cc := cX2_countIn) (maxL := 5) (ret := (some .int)) (by decide) rfl ?_
  intro p e s m args below meth c_ s₁ B hml hv
  obtain ⟨rfl, hsz, hG, hP⟩ := hv
  have hx := B.exec
  have hb := B.bytes
  have hr := B.returns
  have hts := atoms_spec (ws := wsX2_countIn) B.pre
  have hown : s.vm.findClass RX2 = some m.cls := findClass_of_methodNamed B.named
  have hlocks := B.notSynchronized
  have hl := lv_entry ([.ref xo, .int x1, .int x2]) (n := 5) (Nat.le_of_ble_eq_true rfl)
  rw [lg_entry_eq]
  generalize (lg_sl ([.ref xo, .int x1, .int x2]) ++ List.replicate (5 - (lg_sl ([.ref xo, .int x1, .int x2])).length) Slot.unset).toArray = ls at hl ⊢
  have hl : lv_has ls 5 [(0, .ref xo), (1, .int x1), (2, .int x2)] := hl
  refine nm_Q (fun Q hQ => ?_)
  have B28 : ∀ (k5 : Int32 → Int32 → Option (Int32)) (hk5 : ∀ (x3 : Int32) (x4 : Int32), ∀ ls : Array Slot, k5 x3 x4 = some v0 → lv_has ls 5 [(0, .ref xo), (1, .int x1), (2, .int x2), (3, .int x3), (4, .int x4)] → W p l e (headSpec wsX2_countIn rm_2_46).room s m ([.ref xo, .int x1, .int x2] : List Value).toArray below meth c_ s.heap [] 0 0 Q (F0 m 5 ls [])), ∀ (x3 : Int32) (x4 : Int32), ∀ ls : Array Slot, fx_countIn_28 top c x1 x2 k5 x3 x4 = some v0 → lv_has ls 5 [(0, .ref xo), (1, .int x1), (2, .int x2), (3, .int x3), (4, .int x4)] → W p l e (headSpec wsX2_countIn rm_2_46).room s m ([.ref xo, .int x1, .int x2] : List Value).toArray below meth c_ s.heap [] 0 0 Q (F0 m 28 ls []) := by
    intro k5 hk5
    intro x3 x4 ls hf hl
    unfold fx_countIn_28 at hf
    refine lv_iinc (k := 4) (v := x4 + 1) (lv' := [(4, .int (x4 + 1)), (0, .ref xo), (1, .int x1), (2, .int x2), (3, .int x3)]) hx hb dX2_countIn_28 hl rfl (by rfl) (by decide) rfl (fun ls hl => ?_)
    refine lv_goto (tgt := 5) hx hb dX2_countIn_31 (by decide) ?_
    exact hk5 x3 (x4 + 1) ls hf (lv_sub hl [1, 2, 3, 4, 0] rfl)
  have B5 : ∀ n : Nat, ∀ (x3 : Int32) (x4 : Int32), ∀ ls : Array Slot, fx_countIn_5 top c x1 x2 n x3 x4 = some v0 → lv_has ls 5 [(0, .ref xo), (1, .int x1), (2, .int x2), (3, .int x3), (4, .int x4)] → W p l e (headSpec wsX2_countIn rm_2_46).room s m ([.ref xo, .int x1, .int x2] : List Value).toArray below meth c_ s.heap [] 0 0 Q (F0 m 5 ls []) := by
    intro n
    induction n with
    | zero => 
      intro x3 x4 ls hf hl
      exact nomatch (show (none : Option (Int32)) = some v0 from hf)
    | succ n ih =>
      intro x3 x4 ls hf hl
      rw [fx_countIn_5.eq_2] at hf
      try dsimp only at hf
      refine lv_iload hx hb dX2_countIn_5 (lv_at hl 4 rfl) ?_
      refine lv_iconst (v := 5) hx hb dX2_countIn_7 (by decide) ?_
      refine lv_icmp_gt (tgt := 34) hx hb dX2_countIn_8 (by decide) (fun hc => ?_) (fun hc => ?_)
      · rw [if_pos hc] at hf
        refine lv_iload_n hx hb dX2_countIn_34 rfl (lv_at hl 3 rfl) ?_
        obtain rfl := Option.some.inj hf
        rw [hQ]
        exact pu_iret hx hb hr (vp_nar_int _) hsz dX2_countIn_35 hlocks
      · rw [if_neg hc] at hf
        refine lv_aload_n hx hb dX2_countIn_11 rfl (lv_at hl 0 rfl) ?_
        refine lv_iload_n hx hb dX2_countIn_12 rfl (lv_at hl 2 rfl) ?_
        refine lv_iload_n hx hb dX2_countIn_13 rfl (lv_at hl 1 rfl) ?_
        refine lv_iload hx hb dX2_countIn_14 (lv_at hl 4 rfl) ?_
        obtain ⟨r1, e2, hf⟩ := ob_s hf
        try dsimp only at hf
        refine pu_calli (va_runS (As := [.int x1, .int x4]) (rest := [.int x2, .ref xo]) ⟨hx, hb, hml, hown, hts⟩ (cp_child l dC dI cI cQ t1 t2 bs x1 x4 r1 e2 s.heap.size) (va_cwS 2 hts (gs_S lk_94 lk_3 lk_1 lk_2) rfl rfl rfl (by decide +kernel) ⟨Nat.le_of_ble_eq_true rfl, Nat.le_of_ble_eq_true rfl⟩) (pr_S gk_W ⟨hG, pz_0⟩) rfl rfl hl.1 rfl (lv_room (Nat.le_of_ble_eq_true rfl)) dX2_countIn_16 ⟨Nat.zero_le _, Nat.zero_le _⟩) ?_
        obtain ⟨r3, e4, hf⟩ := ob_s hf
        try dsimp only at hf
        refine pu_calli (va_runV (As := [.int x2, .int r1]) (rest := []) ⟨hx, hb, hml, hown, hts⟩ (cx_findAmong l dC dI cI cQ t1 t2 bs top xo la ko kc nt lo lc hg c md cu kp kcu nf x2 r1 r3 e4 s.heap.size) (cwV 2 hts (gs_V lk_65 lk_67 lk_68 lk_37 lk_66) rfl rfl rfl (by decide +kernel) ⟨Nat.le_of_ble_eq_true rfl, Nat.le_of_ble_eq_true rfl⟩) (pr_V gk_W (va_recv hG.1 hP (q0 := 0) rfl rfl) ⟨hG, hP⟩) rfl rfl hl.1 rfl (lv_room (Nat.le_of_ble_eq_true rfl)) dX2_countIn_19 ⟨Nat.zero_le _, Nat.zero_le _⟩) ?_
        refine lv_if_eq (tgt := 28) hx hb dX2_countIn_22 (by decide) (fun hc => ?_) (fun hc => ?_)
        · rw [if_pos hc] at hf
          exact B28 (fx_countIn_5 top c x1 x2 n) ih x3 x4 ls hf (lv_sub hl [0, 1, 2, 3, 4] rfl)
        · rw [if_neg hc] at hf
          refine lv_iinc (k := 3) (v := x3 + 1) (lv' := [(3, .int (x3 + 1)), (0, .ref xo), (1, .int x1), (2, .int x2), (4, .int x4)]) hx hb dX2_countIn_25 hl rfl (by rfl) (by decide) rfl (fun ls hl => ?_)
          exact B28 (fx_countIn_5 top c x1 x2 n) ih (x3 + 1) x4 ls hf (lv_sub hl [1, 2, 3, 0, 4] rfl)
  unfold fx_countIn at h
  have hf := h
  refine lv_iconst (v := 0) hx hb dX2_countIn_0 (by decide) ?_
  refine lv_istore_n (lv' := [(3, .int 0), (0, .ref xo), (1, .int x1), (2, .int x2)]) hx hb dX2_countIn_1 rfl hl (by decide) rfl (fun ls hl => ?_)
  refine lv_iconst (v := 1) hx hb dX2_countIn_2 (by decide) ?_
  refine lv_istore (lv' := [(4, .int 1), (3, .int 0), (0, .ref xo), (1, .int x1), (2, .int x2)]) hx hb dX2_countIn_3 hl (by decide) rfl (fun ls hl => ?_)
  exact B5 fu_n 0 1 ls hf (lv_sub hl [2, 3, 4, 1, 0] rfl)
set_option maxHeartbeats 4000000 in
set_option maxRecDepth 100000 in
theorem cx_size (l : Launch) (dC : Nat → ClassId) (dI : Nat → Nat → Nat) (cI cQ : ClassId) (t1 t2 bs : Nat) (top xo la ko kc nt : Nat) (lo lc : Nat → Nat) (hg : gd_A bs (ad_X top xo la ko kc nt lo lc)) (c : Nat → ls_T) (md : Int32) (cu : Int32) (kp : ls_T) (kcu : Int32) (nf : Nat → Int32) (x1 : Int32) (v0 : Int32) (h : fx_size top c md x1 = some v0) : pu_M l yX2_size wsX2_size rm_4_92 [.ref xo, .int x1] (gk_G dC dI cI cQ t1 t2 bs (wx_X cI cQ top xo la ko kc nt lo lc c md cu kp kcu nf)) v0 := by
  intro sz
  refine Met.ofW (cc := cX2_size) (maxL := 3) (ret := (some .int)) (by decide) rfl ?_
  intro p e s m args below meth c_ s₁ B hml hv
  obtain ⟨rfl, hsz, hG, hP⟩ := hv
  have hx := B.exec
  have hb := B.bytes
  have hr := B.returns
  have hts := atoms_spec (ws := wsX2_size) B.pre
  have hown : s.vm.findClass RX2 = some m.cls := findClass_of_methodNamed B.named
  have hlocks := B.notSynchronized
  have hl := lv_entry ([.ref xo, .int x1]) (n := 3) (Nat.le_of_ble_eq_true rfl)
  rw [lg_entry_eq]
  generalize (lg_sl ([.ref xo, .int x1]) ++ List.replicate (3 - (lg_sl ([.ref xo, .int x1])).length) Slot.unset).toArray = ls at hl ⊢
  have hl : lv_has ls 3 [(0, .ref xo), (1, .int x1)] := hl
  refine nm_Q (fun Q hQ => ?_)
  unfold fx_size at h
  have hf := h
  refine lv_aload_n hx hb dX2_size_0 rfl (lv_at hl 0 rfl) ?_
  refine lv_iload_n hx hb dX2_size_1 rfl (lv_at hl 1 rfl) ?_
  obtain ⟨r1, e2, hf⟩ := ob_s hf
  try dsimp only at hf
  refine pu_calli (va_runV (As := [.int x1]) (rest := []) ⟨hx, hb, hml, hown, hts⟩ (cx_directoryPlaceOrRefusal l dC dI cI cQ t1 t2 bs top xo la ko kc nt lo lc hg c md cu kp kcu nf x1 r1 e2 s.heap.size) (cwV 1 hts (gs_V lk_95 lk_97 lk_98 lk_37 lk_96) rfl rfl rfl (by decide +kernel) ⟨Nat.le_of_ble_eq_true rfl, Nat.le_of_ble_eq_true rfl⟩) (pr_V gk_W (va_recv hG.1 hP (q0 := 0) rfl rfl) ⟨hG, hP⟩) rfl rfl hl.1 rfl (lv_room (Nat.le_of_ble_eq_true rfl)) dX2_size_2 ⟨Nat.zero_le _, Nat.zero_le _⟩) ?_
  refine lv_istore_n (lv' := [(2, .int r1), (0, .ref xo), (1, .int x1)]) hx hb dX2_size_5 rfl hl (by decide) rfl (fun ls hl => ?_)
  refine lv_iload_n hx hb dX2_size_6 rfl (lv_at hl 0 rfl) ?_
  refine lv_if_ge (tgt := 14) hx hb dX2_size_7 (by decide) (fun hc => ?_) (fun hc => ?_)
  · rw [if_pos hc] at hf
    refine lv_aload_n hx hb dX2_size_14 rfl (lv_at hl 1 rfl) ?_
    refine lv_iload_n hx hb dX2_size_15 rfl (lv_at hl 0 rfl) ?_
    refine lv_aload_n hx hb dX2_size_16 rfl (lv_at hl 1 rfl) ?_
    refine lv_iload_n hx hb dX2_size_17 rfl (lv_at hl 0 rfl) ?_
    obtain ⟨r3, e4, hf⟩ := ob_s hf
    try dsimp only at hf
    refine pu_calli (va_runV (As := [.int r1]) (rest := [.int r1, .ref xo]) ⟨hx, hb, hml, hown, hts⟩ (cx_find l dC dI cI cQ t1 t2 bs top xo la ko kc nt lo lc hg c md cu kp kcu nf r1 r3 e4 s.heap.size) (cwV 1 hts (gs_V lk_80 lk_82 lk_83 lk_37 lk_81) rfl rfl rfl (by decide +kernel) ⟨Nat.le_of_ble_eq_true rfl, Nat.le_of_ble_eq_true rfl⟩) (pr_V gk_W (va_recv hG.1 hP (q0 := 0) rfl rfl) ⟨hG, hP⟩) rfl rfl hl.1 rfl (lv_room (Nat.le_of_ble_eq_true rfl)) dX2_size_18 ⟨Nat.zero_le _, Nat.zero_le _⟩) ?_
    obtain ⟨r5, e6, hf⟩ := ob_s hf
    try dsimp only at hf
    refine pu_calli (va_runV (As := [.int r1, .int r3]) (rest := []) ⟨hx, hb, hml, hown, hts⟩ (cx_countIn l dC dI cI cQ t1 t2 bs top xo la ko kc nt lo lc hg c md cu kp kcu nf r1 r3 r5 e6 s.heap.size) (cwV 2 hts (gs_V lk_99 lk_101 lk_102 lk_37 lk_100) rfl rfl rfl (by decide +kernel) ⟨Nat.le_of_ble_eq_true rfl, Nat.le_of_ble_eq_true rfl⟩) (pr_V gk_W (va_recv hG.1 hP (q0 := 0) rfl rfl) ⟨hG, hP⟩) rfl rfl hl.1 rfl (lv_room (Nat.le_of_ble_eq_true rfl)) dX2_size_21 ⟨Nat.zero_le _, Nat.zero_le _⟩) ?_
    obtain rfl := Option.some.inj hf
    rw [hQ]
    exact pu_iret hx hb hr (vp_nar_int _) hsz dX2_size_24 hlocks
  · rw [if_neg hc] at hf
    refine lv_iload_n hx hb dX2_size_10 rfl (lv_at hl 0 rfl) ?_
    refine lv_goto (tgt := 24) hx hb dX2_size_11 (by decide) ?_
    obtain rfl := Option.some.inj hf
    rw [hQ]
    exact pu_iret hx hb hr (vp_nar_int _) hsz dX2_size_24 hlocks
set_option maxHeartbeats 4000000 in
set_option maxRecDepth 100000 in
theorem cx_name (l : Launch) (dC : Nat → ClassId) (dI : Nat → Nat → Nat) (cI cQ : ClassId) (t1 t2 bs : Nat) (top xo la ko kc nt : Nat) (lo lc : Nat → Nat) (hg : gd_A bs (ad_X top xo la ko kc nt lo lc)) (c : Nat → ls_T) (md : Int32) (cu : Int32) (kp : ls_T) (kcu : Int32) (nf : Nat → Int32) (x1 : Int32) (x2 : Int32) (v0 : Int32) (h : fx_name top c md x1 x2 = some v0) : pu_M l yX2_name wsX2_name rm_4_92 [.ref xo, .int x1, .int x2] (gk_G dC dI cI cQ t1 t2 bs (wx_X cI cQ top xo la ko kc nt lo lc c md cu kp kcu nf)) v0 := by
  intro sz
  refine Met.ofW (cc := cX2_name) (maxL := 7) (ret := (some .int)) (by decide) rfl ?_
  intro p e s m args below meth c_ s₁ B hml hv
  obtain ⟨rfl, hsz, hG, hP⟩ := hv
  have hx := B.exec
  have hb := B.bytes
  have hr := B.returns
  have hts := atoms_spec (ws := wsX2_name) B.pre
  have hown : s.vm.findClass RX2 = some m.cls := findClass_of_methodNamed B.named
  have hlocks := B.notSynchronized
  have hl := lv_entry ([.ref xo, .int x1, .int x2]) (n := 7) (Nat.le_of_ble_eq_true rfl)
  rw [lg_entry_eq]
  generalize (lg_sl ([.ref xo, .int x1, .int x2]) ++ List.replicate (7 - (lg_sl ([.ref xo, .int x1, .int x2])).length) Slot.unset).toArray = ls at hl ⊢
  have hl : lv_has ls 7 [(0, .ref xo), (1, .int x1), (2, .int x2)] := hl
  refine nm_Q (fun Q hQ => ?_)
  have B58 : ∀ (k25 : Int32 → Int32 → Int32 → Int32 → Option (Int32)) (hk25 : ∀ (x3 : Int32) (x4 : Int32) (x5 : Int32) (x6 : Int32), ∀ ls : Array Slot, k25 x3 x4 x5 x6 = some v0 → lv_has ls 7 [(0, .ref xo), (1, .int x1), (2, .int x2), (3, .int x3), (4, .int x4), (5, .int x5), (6, .int x6)] → W p l e (headSpec wsX2_name rm_4_92).room s m ([.ref xo, .int x1, .int x2] : List Value).toArray below meth c_ s.heap [] 0 0 Q (F0 m 25 ls [])), ∀ (x3 : Int32) (x4 : Int32) (x5 : Int32) (x6 : Int32), ∀ ls : Array Slot, fx_name_58 top c md x1 x2 k25 x3 x4 x5 x6 = some v0 → lv_has ls 7 [(0, .ref xo), (1, .int x1), (2, .int x2), (3, .int x3), (4, .int x4), (5, .int x5), (6, .int x6)] → W p l e (headSpec wsX2_name rm_4_92).room s m ([.ref xo, .int x1, .int x2] : List Value).toArray below meth c_ s.heap [] 0 0 Q (F0 m 58 ls []) := by
    intro k25 hk25
    intro x3 x4 x5 x6 ls hf hl
    unfold fx_name_58 at hf
    refine lv_iinc (k := 6) (v := x6 + 1) (lv' := [(6, .int (x6 + 1)), (0, .ref xo), (1, .int x1), (2, .int x2), (3, .int x3), (4, .int x4), (5, .int x5)]) hx hb dX2_name_58 hl rfl (by rfl) (by decide) rfl (fun ls hl => ?_)
    refine lv_goto (tgt := 25) hx hb dX2_name_61 (by decide) ?_
    exact hk25 x3 x4 x5 (x6 + 1) ls hf (lv_sub hl [1, 2, 3, 4, 5, 6, 0] rfl)
  have B25 : ∀ n : Nat, ∀ (x3 : Int32) (x4 : Int32) (x5 : Int32) (x6 : Int32), ∀ ls : Array Slot, fx_name_25 top c md x1 x2 n x3 x4 x5 x6 = some v0 → lv_has ls 7 [(0, .ref xo), (1, .int x1), (2, .int x2), (3, .int x3), (4, .int x4), (5, .int x5), (6, .int x6)] → W p l e (headSpec wsX2_name rm_4_92).room s m ([.ref xo, .int x1, .int x2] : List Value).toArray below meth c_ s.heap [] 0 0 Q (F0 m 25 ls []) := by
    intro n
    induction n with
    | zero => 
      intro x3 x4 x5 x6 ls hf hl
      exact nomatch (show (none : Option (Int32)) = some v0 from hf)
    | succ n ih =>
      intro x3 x4 x5 x6 ls hf hl
      rw [fx_name_25.eq_2] at hf
      try dsimp only at hf
      refine lv_iload hx hb dX2_name_25 (lv_at hl 6 rfl) ?_
      refine lv_iconst (v := 5) hx hb dX2_name_27 (by decide) ?_
      refine lv_icmp_gt (tgt := 64) hx hb dX2_name_28 (by decide) (fun hc => ?_) (fun hc => ?_)
      · rw [if_pos hc] at hf
        refine lv_bipush (v := (-3)) hx hb dX2_name_64 (by decide) ?_
        obtain rfl := Option.some.inj hf
        rw [hQ]
        exact pu_iret hx hb hr (vp_nar_int _) hsz dX2_name_66 hlocks
      · rw [if_neg hc] at hf
        refine lv_aload_n hx hb dX2_name_31 rfl (lv_at hl 0 rfl) ?_
        refine lv_iload hx hb dX2_name_32 (lv_at hl 4 rfl) ?_
        refine lv_iload_n hx hb dX2_name_34 rfl (lv_at hl 3 rfl) ?_
        refine lv_iload hx hb dX2_name_35 (lv_at hl 6 rfl) ?_
        obtain ⟨r1, e2, hf⟩ := ob_s hf
        try dsimp only at hf
        refine pu_calli (va_runS (As := [.int x3, .int x6]) (rest := [.int x4, .ref xo]) ⟨hx, hb, hml, hown, hts⟩ (cp_child l dC dI cI cQ t1 t2 bs x3 x6 r1 e2 s.heap.size) (va_cwS 2 hts (gs_S lk_94 lk_3 lk_1 lk_2) rfl rfl rfl (by decide +kernel) ⟨Nat.le_of_ble_eq_true rfl, Nat.le_of_ble_eq_true rfl⟩) (pr_S gk_W ⟨hG, pz_0⟩) rfl rfl hl.1 rfl (lv_room (Nat.le_of_ble_eq_true rfl)) dX2_name_37 ⟨Nat.zero_le _, Nat.zero_le _⟩) ?_
        obtain ⟨r3, e4, hf⟩ := ob_s hf
        try dsimp only at hf
        refine pu_calli (va_runV (As := [.int x4, .int r1]) (rest := []) ⟨hx, hb, hml, hown, hts⟩ (cx_findAmong l dC dI cI cQ t1 t2 bs top xo la ko kc nt lo lc hg c md cu kp kcu nf x4 r1 r3 e4 s.heap.size) (cwV 2 hts (gs_V lk_65 lk_67 lk_68 lk_37 lk_66) rfl rfl rfl (by decide +kernel) ⟨Nat.le_of_ble_eq_true rfl, Nat.le_of_ble_eq_true rfl⟩) (pr_V gk_W (va_recv hG.1 hP (q0 := 0) rfl rfl) ⟨hG, hP⟩) rfl rfl hl.1 rfl (lv_room (Nat.le_of_ble_eq_true rfl)) dX2_name_40 ⟨Nat.zero_le _, Nat.zero_le _⟩) ?_
        refine lv_if_eq (tgt := 58) hx hb dX2_name_43 (by decide) (fun hc => ?_) (fun hc => ?_)
        · rw [if_pos hc] at hf
          exact B58 (fx_name_25 top c md x1 x2 n) ih x3 x4 x5 x6 ls hf (lv_sub hl [0, 1, 2, 3, 4, 5, 6] rfl)
        · rw [if_neg hc] at hf
          refine lv_iload hx hb dX2_name_46 (lv_at hl 5 rfl) ?_
          refine lv_iload_n hx hb dX2_name_48 rfl (lv_at hl 2 rfl) ?_
          refine lv_icmp_ne (tgt := 55) hx hb dX2_name_49 (by decide) (fun hc => ?_) (fun hc => ?_)
          · rw [if_neg hc] at hf
            refine lv_iinc (k := 5) (v := x5 + 1) (lv' := [(5, .int (x5 + 1)), (0, .ref xo), (1, .int x1), (2, .int x2), (3, .int x3), (4, .int x4), (6, .int x6)]) hx hb dX2_name_55 hl rfl (by rfl) (by decide) rfl (fun ls hl => ?_)
            exact B58 (fx_name_25 top c md x1 x2 n) ih x3 x4 (x5 + 1) x6 ls hf (lv_sub hl [1, 2, 3, 4, 5, 0, 6] rfl)
          · rw [if_pos hc] at hf
            refine lv_iload hx hb dX2_name_52 (lv_at hl 6 rfl) ?_
            obtain rfl := Option.some.inj hf
            rw [hQ]
            exact pu_iret hx hb hr (vp_nar_int _) hsz dX2_name_54 hlocks
  unfold fx_name at h
  have hf := h
  refine lv_aload_n hx hb dX2_name_0 rfl (lv_at hl 0 rfl) ?_
  refine lv_iload_n hx hb dX2_name_1 rfl (lv_at hl 1 rfl) ?_
  obtain ⟨r5, e6, hf⟩ := ob_s hf
  try dsimp only at hf
  refine pu_calli (va_runV (As := [.int x1]) (rest := []) ⟨hx, hb, hml, hown, hts⟩ (cx_directoryPlaceOrRefusal l dC dI cI cQ t1 t2 bs top xo la ko kc nt lo lc hg c md cu kp kcu nf x1 r5 e6 s.heap.size) (cwV 1 hts (gs_V lk_95 lk_97 lk_98 lk_37 lk_96) rfl rfl rfl (by decide +kernel) ⟨Nat.le_of_ble_eq_true rfl, Nat.le_of_ble_eq_true rfl⟩) (pr_V gk_W (va_recv hG.1 hP (q0 := 0) rfl rfl) ⟨hG, hP⟩) rfl rfl hl.1 rfl (lv_room (Nat.le_of_ble_eq_true rfl)) dX2_name_2 ⟨Nat.zero_le _, Nat.zero_le _⟩) ?_
  refine lv_istore_n (lv' := [(3, .int r5), (0, .ref xo), (1, .int x1), (2, .int x2)]) hx hb dX2_name_5 rfl hl (by decide) rfl (fun ls hl => ?_)
  refine lv_iload_n hx hb dX2_name_6 rfl (lv_at hl 0 rfl) ?_
  refine lv_if_ge (tgt := 12) hx hb dX2_name_7 (by decide) (fun hc => ?_) (fun hc => ?_)
  · rw [if_pos hc] at hf
    refine lv_aload_n hx hb dX2_name_12 rfl (lv_at hl 1 rfl) ?_
    refine lv_iload_n hx hb dX2_name_13 rfl (lv_at hl 0 rfl) ?_
    obtain ⟨r7, e8, hf⟩ := ob_s hf
    try dsimp only at hf
    refine pu_calli (va_runV (As := [.int r5]) (rest := []) ⟨hx, hb, hml, hown, hts⟩ (cx_find l dC dI cI cQ t1 t2 bs top xo la ko kc nt lo lc hg c md cu kp kcu nf r5 r7 e8 s.heap.size) (cwV 1 hts (gs_V lk_80 lk_82 lk_83 lk_37 lk_81) rfl rfl rfl (by decide +kernel) ⟨Nat.le_of_ble_eq_true rfl, Nat.le_of_ble_eq_true rfl⟩) (pr_V gk_W (va_recv hG.1 hP (q0 := 0) rfl rfl) ⟨hG, hP⟩) rfl rfl hl.1 rfl (lv_room (Nat.le_of_ble_eq_true rfl)) dX2_name_14 ⟨Nat.zero_le _, Nat.zero_le _⟩) ?_
    refine lv_istore (lv' := [(4, .int r7), (3, .int r5), (0, .ref xo), (1, .int x1), (2, .int x2)]) hx hb dX2_name_17 hl (by decide) rfl (fun ls hl => ?_)
    refine lv_iconst (v := 0) hx hb dX2_name_19 (by decide) ?_
    refine lv_istore (lv' := [(5, .int 0), (4, .int r7), (3, .int r5), (0, .ref xo), (1, .int x1), (2, .int x2)]) hx hb dX2_name_20 hl (by decide) rfl (fun ls hl => ?_)
    refine lv_iconst (v := 1) hx hb dX2_name_22 (by decide) ?_
    refine lv_istore (lv' := [(6, .int 1), (5, .int 0), (4, .int r7), (3, .int r5), (0, .ref xo), (1, .int x1), (2, .int x2)]) hx hb dX2_name_23 hl (by decide) rfl (fun ls hl => ?_)
    exact B25 fu_n r5 r7 0 1 ls hf (lv_sub hl [4, 5, 6, 3, 2, 1, 0] rfl)
  · rw [if_neg hc] at hf
    refine lv_iload_n hx hb dX2_name_10 rfl (lv_at hl 0 rfl) ?_
    obtain rfl := Option.some.inj hf
    rw [hQ]
    exact pu_iret hx hb hr (vp_nar_int _) hsz dX2_name_11 hlocks
set_option maxHeartbeats 4000000 in
set_option maxRecDepth 100000 in
theorem cx_countBelow_B (n0 : Nat) (l : Launch) (dC : Nat → ClassId) (dI : Nat → Nat → Nat) (cI cQ : ClassId) (t1 t2 bs : Nat) (top xo la ko kc nt : Nat) (lo lc : Nat → Nat) (hg : gd_A bs (ad_X top xo la ko kc nt lo lc)) (c : Nat → ls_T) (md : Int32) (cu : Int32) (kp : ls_T) (kcu : Int32) (nf : Nat → Int32) (x1 : Int32) (x2 : Int32) (rc : Int32 → Int32 → Option Int32) (hrc : ∀ (x1 x2 : Int32) (v : Int32), rc x1 x2 = some v → pu_M l yX2_countBelow wsX2_countBelow (rc_R n0) [.ref xo, .int x1, .int x2] (gk_G dC dI cI cQ t1 t2 bs (wx_X cI cQ top xo la ko kc nt lo lc c md cu kp kcu nf)) v) (v0 : Int32) (h : fx_countBelow_B top c rc x1 x2 = some v0) : pu_M l yX2_countBelow wsX2_countBelow (rc_R (n0 + 1)) [.ref xo, .int x1, .int x2] (gk_G dC dI cI cQ t1 t2 bs (wx_X cI cQ top xo la ko kc nt lo lc c md cu kp kcu nf)) v0 := by
  intro sz
  refine Met.ofW (cc := cX2_countBelow) (maxL := 7) (ret := (some .int)) (by decide) rfl ?_
  intro p e s m args below meth c_ s₁ B hml hv
  obtain ⟨rfl, hsz, hG, hP⟩ := hv
  have hx := B.exec
  have hb := B.bytes
  have hr := B.returns
  have hts := atoms_spec (ws := wsX2_countBelow) B.pre
  have hown : s.vm.findClass RX2 = some m.cls := findClass_of_methodNamed B.named
  have hlocks := B.notSynchronized
  have hl := lv_entry ([.ref xo, .int x1, .int x2]) (n := 7) (Nat.le_of_ble_eq_true rfl)
  rw [lg_entry_eq]
  generalize (lg_sl ([.ref xo, .int x1, .int x2]) ++ List.replicate (7 - (lg_sl ([.ref xo, .int x1, .int x2])).length) Slot.unset).toArray = ls at hl ⊢
  have hl : lv_has ls 7 [(0, .ref xo), (1, .int x1), (2, .int x2)] := hl
  refine nm_Q (fun Q hQ => ?_)
  have B65 : ∀ (k15 : Int32 → Int32 → Option (Int32)) (hk15 : ∀ (x3 : Int32) (x4 : Int32), ∀ ls : Array Slot, k15 x3 x4 = some v0 → lv_has ls 7 [(0, .ref xo), (1, .int x1), (2, .int x2), (3, .int x3), (4, .int x4)] → W p l e (headSpec wsX2_countBelow (rc_R (n0 + 1))).room s m ([.ref xo, .int x1, .int x2] : List Value).toArray below meth c_ s.heap [] 0 0 Q (F0 m 15 ls [])), ∀ (x3 : Int32) (x4 : Int32) (x5 : Int32) (x6 : Int32), ∀ ls : Array Slot, fx_countBelow_65 top c rc x1 x2 k15 x3 x4 x5 x6 = some v0 → lv_has ls 7 [(0, .ref xo), (1, .int x1), (2, .int x2), (3, .int x3), (4, .int x4), (5, .int x5), (6, .int x6)] → W p l e (headSpec wsX2_countBelow (rc_R (n0 + 1))).room s m ([.ref xo, .int x1, .int x2] : List Value).toArray below meth c_ s.heap [] 0 0 Q (F0 m 65 ls []) := by
    intro k15 hk15
    intro x3 x4 x5 x6 ls hf hl
    unfold fx_countBelow_65 at hf
    refine lv_iinc (k := 4) (v := x4 + 1) (lv' := [(4, .int (x4 + 1)), (0, .ref xo), (1, .int x1), (2, .int x2), (3, .int x3), (5, .int x5), (6, .int x6)]) hx hb dX2_countBelow_65 hl rfl (by rfl) (by decide) rfl (fun ls hl => ?_)
    refine lv_goto (tgt := 15) hx hb dX2_countBelow_68 (by decide) ?_
    exact hk15 x3 (x4 + 1) ls hf (lv_sub hl [1, 2, 3, 4, 0] rfl)
  have B46 : ∀ (k15 : Int32 → Int32 → Option (Int32)) (hk15 : ∀ (x3 : Int32) (x4 : Int32), ∀ ls : Array Slot, k15 x3 x4 = some v0 → lv_has ls 7 [(0, .ref xo), (1, .int x1), (2, .int x2), (3, .int x3), (4, .int x4)] → W p l e (headSpec wsX2_countBelow (rc_R (n0 + 1))).room s m ([.ref xo, .int x1, .int x2] : List Value).toArray below meth c_ s.heap [] 0 0 Q (F0 m 15 ls [])), ∀ (x3 : Int32) (x4 : Int32) (x5 : Int32) (x6 : Int32), ∀ ls : Array Slot, fx_countBelow_46 top c rc x1 x2 k15 x3 x4 x5 x6 = some v0 → lv_has ls 7 [(0, .ref xo), (1, .int x1), (2, .int x2), (3, .int x3), (4, .int x4), (5, .int x5), (6, .int x6)] → W p l e (headSpec wsX2_countBelow (rc_R (n0 + 1))).room s m ([.ref xo, .int x1, .int x2] : List Value).toArray below meth c_ s.heap [] 0 0 Q (F0 m 46 ls []) := by
    intro k15 hk15
    intro x3 x4 x5 x6 ls hf hl
    unfold fx_countBelow_46 at hf
    refine lv_iload hx hb dX2_countBelow_46 (lv_at hl 6 rfl) ?_
    obtain ⟨r1, e2, hf⟩ := ob_s hf
    try dsimp only at hf
    refine pu_calli (va_runS (As := [.int x6]) (rest := []) ⟨hx, hb, hml, hown, hts⟩ (cx_isDirectory l dC dI cI cQ t1 t2 bs x6 r1 e2 s.heap.size) (va_cwS 1 hts (gs_S lk_61 lk_63 lk_37 lk_62) rfl rfl rfl (by decide +kernel) ⟨Nat.le_of_ble_eq_true rfl, Nat.le_of_ble_eq_true rfl⟩) (pr_S gk_W ⟨hG, pz_0⟩) rfl rfl hl.1 rfl (lv_room (Nat.le_of_ble_eq_true rfl)) dX2_countBelow_48 ⟨Nat.zero_le _, Nat.zero_le _⟩) ?_
    refine lv_if_eq (tgt := 65) hx hb dX2_countBelow_51 (by decide) (fun hc => ?_) (fun hc => ?_)
    · rw [if_pos hc] at hf
      exact B65 k15 hk15 x3 x4 x5 x6 ls hf (lv_sub hl [0, 1, 2, 3, 4, 5, 6] rfl)
    · rw [if_neg hc] at hf
      refine lv_iload_n hx hb dX2_countBelow_54 rfl (lv_at hl 3 rfl) ?_
      refine lv_aload_n hx hb dX2_countBelow_55 rfl (lv_at hl 0 rfl) ?_
      refine lv_iload hx hb dX2_countBelow_56 (lv_at hl 5 rfl) ?_
      refine lv_iload hx hb dX2_countBelow_58 (lv_at hl 6 rfl) ?_
      obtain ⟨r3, e4, hf⟩ := ob_s hf
      try dsimp only at hf
      refine pu_calli (va_runV (As := [.int x5, .int x6]) (rest := [.int x3]) ⟨hx, hb, hml, hown, hts⟩ (hrc x5 x6 r3 e4 s.heap.size) (cwV 2 hts (gs_V lk_103 lk_105 lk_106 lk_37 lk_104) rfl rfl rfl (by decide +kernel) ⟨by show n0 + 3 + 1 ≤ n0 + 1 + 3; omega, by show 8 + (7 + 11) + (30 * n0 + 100) ≤ 30 * (n0 + 1) + 100; omega⟩) (pr_V gk_W (va_recv hG.1 hP (q0 := 0) rfl rfl) ⟨hG, hP⟩) rfl rfl hl.1 rfl (lv_room (Nat.le_of_ble_eq_true rfl)) dX2_countBelow_60 ⟨Nat.zero_le _, Nat.zero_le _⟩) ?_
      refine lv_iadd hx hb dX2_countBelow_63 ?_
      refine lv_istore_n (lv' := [(3, .int (x3 + r3)), (0, .ref xo), (1, .int x1), (2, .int x2), (4, .int x4), (5, .int x5), (6, .int x6)]) hx hb dX2_countBelow_64 rfl hl (by decide) rfl (fun ls hl => ?_)
      exact B65 k15 hk15 (x3 + r3) x4 x5 x6 ls hf (lv_sub hl [1, 2, 3, 0, 4, 5, 6] rfl)
  have B15 : ∀ n : Nat, ∀ (x3 : Int32) (x4 : Int32), ∀ ls : Array Slot, fx_countBelow_15 top c rc x1 x2 n x3 x4 = some v0 → lv_has ls 7 [(0, .ref xo), (1, .int x1), (2, .int x2), (3, .int x3), (4, .int x4)] → W p l e (headSpec wsX2_countBelow (rc_R (n0 + 1))).room s m ([.ref xo, .int x1, .int x2] : List Value).toArray below meth c_ s.heap [] 0 0 Q (F0 m 15 ls []) := by
    intro n
    induction n with
    | zero => 
      intro x3 x4 ls hf hl
      exact nomatch (show (none : Option (Int32)) = some v0 from hf)
    | succ n ih =>
      intro x3 x4 ls hf hl
      rw [fx_countBelow_15.eq_2] at hf
      try dsimp only at hf
      refine lv_iload hx hb dX2_countBelow_15 (lv_at hl 4 rfl) ?_
      refine lv_iconst (v := 5) hx hb dX2_countBelow_17 (by decide) ?_
      refine lv_icmp_gt (tgt := 71) hx hb dX2_countBelow_18 (by decide) (fun hc => ?_) (fun hc => ?_)
      · rw [if_pos hc] at hf
        refine lv_iload_n hx hb dX2_countBelow_71 rfl (lv_at hl 3 rfl) ?_
        obtain rfl := Option.some.inj hf
        rw [hQ]
        exact pu_iret hx hb hr (vp_nar_int _) hsz dX2_countBelow_72 hlocks
      · rw [if_neg hc] at hf
        refine lv_iload_n hx hb dX2_countBelow_21 rfl (lv_at hl 1 rfl) ?_
        refine lv_iload hx hb dX2_countBelow_22 (lv_at hl 4 rfl) ?_
        obtain ⟨r5, e6, hf⟩ := ob_s hf
        try dsimp only at hf
        refine pu_calli (va_runS (As := [.int x1, .int x4]) (rest := []) ⟨hx, hb, hml, hown, hts⟩ (cp_child l dC dI cI cQ t1 t2 bs x1 x4 r5 e6 s.heap.size) (va_cwS 2 hts (gs_S lk_94 lk_3 lk_1 lk_2) rfl rfl rfl (by decide +kernel) ⟨Nat.le_of_ble_eq_true rfl, Nat.le_of_ble_eq_true rfl⟩) (pr_S gk_W ⟨hG, pz_0⟩) rfl rfl hl.1 rfl (lv_room (Nat.le_of_ble_eq_true rfl)) dX2_countBelow_24 ⟨Nat.zero_le _, Nat.zero_le _⟩) ?_
        refine lv_istore (lv' := [(5, .int r5), (0, .ref xo), (1, .int x1), (2, .int x2), (3, .int x3), (4, .int x4)]) hx hb dX2_countBelow_27 hl (by decide) rfl (fun ls hl => ?_)
        refine lv_aload_n hx hb dX2_countBelow_29 rfl (lv_at hl 1 rfl) ?_
        refine lv_iload_n hx hb dX2_countBelow_30 rfl (lv_at hl 3 rfl) ?_
        refine lv_iload hx hb dX2_countBelow_31 (lv_at hl 0 rfl) ?_
        obtain ⟨r7, e8, hf⟩ := ob_s hf
        try dsimp only at hf
        refine pu_calli (va_runV (As := [.int x2, .int r5]) (rest := []) ⟨hx, hb, hml, hown, hts⟩ (cx_findAmong l dC dI cI cQ t1 t2 bs top xo la ko kc nt lo lc hg c md cu kp kcu nf x2 r5 r7 e8 s.heap.size) (cwV 2 hts (gs_V lk_65 lk_67 lk_68 lk_37 lk_66) rfl rfl rfl (by decide +kernel) ⟨Nat.le_of_ble_eq_true rfl, Nat.le_of_ble_eq_true rfl⟩) (pr_V gk_W (va_recv hG.1 hP (q0 := 0) rfl rfl) ⟨hG, hP⟩) rfl rfl hl.1 rfl (lv_room (Nat.le_of_ble_eq_true rfl)) dX2_countBelow_33 ⟨Nat.zero_le _, Nat.zero_le _⟩) ?_
        refine lv_istore (lv' := [(6, .int r7), (5, .int r5), (0, .ref xo), (1, .int x1), (2, .int x2), (3, .int x3), (4, .int x4)]) hx hb dX2_countBelow_36 hl (by decide) rfl (fun ls hl => ?_)
        refine lv_iload hx hb dX2_countBelow_38 (lv_at hl 0 rfl) ?_
        refine lv_if_eq (tgt := 46) hx hb dX2_countBelow_40 (by decide) (fun hc => ?_) (fun hc => ?_)
        · rw [if_pos hc] at hf
          exact B46 (fx_countBelow_15 top c rc x1 x2 n) ih x3 x4 r5 r7 ls hf (lv_sub hl [2, 3, 4, 5, 6, 1, 0] rfl)
        · rw [if_neg hc] at hf
          refine lv_iinc (k := 5) (v := x3 + 1) (lv' := [(3, .int (x3 + 1)), (6, .int r7), (5, .int r5), (0, .ref xo), (1, .int x1), (2, .int x2), (4, .int x4)]) hx hb dX2_countBelow_43 hl rfl (by rfl) (by decide) rfl (fun ls hl => ?_)
          exact B46 (fx_countBelow_15 top c rc x1 x2 n) ih (x3 + 1) x4 r5 r7 ls hf (lv_sub hl [3, 4, 5, 0, 6, 2, 1] rfl)
  unfold fx_countBelow_B at h
  have hf := h
  refine lv_iload_n hx hb dX2_countBelow_0 rfl (lv_at hl 1 rfl) ?_
  obtain ⟨r9, e10, hf⟩ := ob_s hf
  try dsimp only at hf
  refine pu_calli (va_runS (As := [.int x1]) (rest := []) ⟨hx, hb, hml, hown, hts⟩ (cp_depth l dC dI cI cQ t1 t2 bs x1 r9 e10 s.heap.size) (va_cwS 1 hts (gs_S lk_73 lk_75 lk_1 lk_74) rfl rfl rfl (by decide +kernel) ⟨Nat.le_of_ble_eq_true rfl, Nat.le_of_ble_eq_true rfl⟩) (pr_S gk_W ⟨hG, pz_0⟩) rfl rfl hl.1 rfl (lv_room (Nat.le_of_ble_eq_true rfl)) dX2_countBelow_1 ⟨Nat.zero_le _, Nat.zero_le _⟩) ?_
  refine lv_iconst (v := 4) hx hb dX2_countBelow_4 (by decide) ?_
  refine lv_icmp_lt (tgt := 10) hx hb dX2_countBelow_5 (by decide) (fun hc => ?_) (fun hc => ?_)
  · rw [if_pos hc] at hf
    refine lv_iconst (v := 0) hx hb dX2_countBelow_10 (by decide) ?_
    refine lv_istore_n (lv' := [(3, .int 0), (0, .ref xo), (1, .int x1), (2, .int x2)]) hx hb dX2_countBelow_11 rfl hl (by decide) rfl (fun ls hl => ?_)
    refine lv_iconst (v := 1) hx hb dX2_countBelow_12 (by decide) ?_
    refine lv_istore (lv' := [(4, .int 1), (3, .int 0), (0, .ref xo), (1, .int x1), (2, .int x2)]) hx hb dX2_countBelow_13 hl (by decide) rfl (fun ls hl => ?_)
    exact B15 fu_n 0 1 ls hf (lv_sub hl [2, 3, 4, 1, 0] rfl)
  · rw [if_neg hc] at hf
    refine lv_iconst (v := 0) hx hb dX2_countBelow_8 (by decide) ?_
    obtain rfl := Option.some.inj hf
    rw [hQ]
    exact pu_iret hx hb hr (vp_nar_int _) hsz dX2_countBelow_9 hlocks
theorem cx_countBelow (k0 : Nat) (l : Launch) (dC : Nat → ClassId) (dI : Nat → Nat → Nat) (cI cQ : ClassId) (t1 t2 bs : Nat) (top xo la ko kc nt : Nat) (lo lc : Nat → Nat) (hg : gd_A bs (ad_X top xo la ko kc nt lo lc)) (c : Nat → ls_T) (md : Int32) (cu : Int32) (kp : ls_T) (kcu : Int32) (nf : Nat → Int32) (x1 x2 : Int32) (v0 : Int32) (h : fx_countBelow top c k0 x1 x2 = some v0) : pu_M l yX2_countBelow wsX2_countBelow (rc_R k0) [.ref xo, .int x1, .int x2] (gk_G dC dI cI cQ t1 t2 bs (wx_X cI cQ top xo la ko kc nt lo lc c md cu kp kcu nf)) v0 := by
  induction k0 generalizing x1 x2 v0 with
  | zero => exact nomatch (show (none : Option Int32) = some v0 from h)
  | succ n ih => exact cx_countBelow_B n l dC dI cI cQ t1 t2 bs top xo la ko kc nt lo lc hg c md cu kp kcu nf x1 x2 (fx_countBelow top c n) ih v0 h
set_option maxHeartbeats 4000000 in
set_option maxRecDepth 100000 in
theorem cx_objects (l : Launch) (dC : Nat → ClassId) (dI : Nat → Nat → Nat) (cI cQ : ClassId) (t1 t2 bs : Nat) (top xo la ko kc nt : Nat) (lo lc : Nat → Nat) (hg : gd_A bs (ad_X top xo la ko kc nt lo lc)) (c : Nat → ls_T) (md : Int32) (cu : Int32) (kp : ls_T) (kcu : Int32) (nf : Nat → Int32) (v0 : Int32) (h : fx_objects top c md = some v0) : pu_M l yX2_objects wsX2_objects rm_10_306 [.ref xo] (gk_G dC dI cI cQ t1 t2 bs (wx_X cI cQ top xo la ko kc nt lo lc c md cu kp kcu nf)) v0 := by
  intro sz
  refine Met.ofW (cc := cX2_objects) (maxL := 1) (ret := (some .int)) (by decide) rfl ?_
  intro p e s m args below meth c_ s₁ B hml hv
  obtain ⟨rfl, hsz, hG, hP⟩ := hv
  have hx := B.exec
  have hb := B.bytes
  have hr := B.returns
  have hts := atoms_spec (ws := wsX2_objects) B.pre
  have hown : s.vm.findClass RX2 = some m.cls := findClass_of_methodNamed B.named
  have hlocks := B.notSynchronized
  have hiX2 : ∀ w ∈ u_ws RX2 TX2 8, w ∈ wsX2_objects := fun w hw => tw_in (usX2 w hw)
  have hl := lv_entry ([.ref xo]) (n := 1) (Nat.le_of_ble_eq_true rfl)
  rw [lg_entry_eq]
  generalize (lg_sl ([.ref xo]) ++ List.replicate (1 - (lg_sl ([.ref xo])).length) Slot.unset).toArray = ls at hl ⊢
  have hl : lv_has ls 1 [(0, .ref xo)] := hl
  refine nm_Q (fun Q hQ => ?_)
  unfold fx_objects at h
  have hf := h
  refine lv_aload_n hx hb dX2_objects_0 rfl (lv_at hl 0 rfl) ?_
  refine va_get (D := (dC, dI)) (ci := 1) (v := .int md) (C := RX2) (T := TX2) (N := 8) hx hb hts hiX2 hown hG.1 hP 0 rfl rfl 3 (by decide) (hts _ (tw_in lk_47)) (fun _ h9 => h9) rfl dX2_objects_1 ?_
  refine lv_if_eq (tgt := 20) hx hb dX2_objects_4 (by decide) (fun hc => ?_) (fun hc => ?_)
  · rw [if_pos hc] at hf
    refine lv_iconst (v := (-1)) hx hb dX2_objects_20 (by decide) ?_
    obtain rfl := Option.some.inj hf
    rw [hQ]
    exact pu_iret hx hb hr (vp_nar_int _) hsz dX2_objects_21 hlocks
  · rw [if_neg hc] at hf
    refine lv_aload_n hx hb dX2_objects_7 rfl (lv_at hl 0 rfl) ?_
    refine lv_iconst (v := 0) hx hb dX2_objects_8 (by decide) ?_
    refine lv_aload_n hx hb dX2_objects_9 rfl (lv_at hl 0 rfl) ?_
    refine lv_iconst (v := 0) hx hb dX2_objects_10 (by decide) ?_
    obtain ⟨r1, e2, hf⟩ := ob_s hf
    try dsimp only at hf
    refine pu_calli (va_runV (As := [.int 0]) (rest := [.int 0, .ref xo]) ⟨hx, hb, hml, hown, hts⟩ (cx_find l dC dI cI cQ t1 t2 bs top xo la ko kc nt lo lc hg c md cu kp kcu nf 0 r1 e2 s.heap.size) (cwV 1 hts (gs_V lk_80 lk_82 lk_83 lk_37 lk_81) rfl rfl rfl (by decide +kernel) ⟨Nat.le_of_ble_eq_true rfl, Nat.le_of_ble_eq_true rfl⟩) (pr_V gk_W (va_recv hG.1 hP (q0 := 0) rfl rfl) ⟨hG, hP⟩) rfl rfl hl.1 rfl (lv_room (Nat.le_of_ble_eq_true rfl)) dX2_objects_11 ⟨Nat.zero_le _, Nat.zero_le _⟩) ?_
    obtain ⟨r3, e4, hf⟩ := ob_s hf
    try dsimp only at hf
    refine pu_calli (va_runV (As := [.int 0, .int r1]) (rest := []) ⟨hx, hb, hml, hown, hts⟩ (cx_countBelow 6  l dC dI cI cQ t1 t2 bs top xo la ko kc nt lo lc hg c md cu kp kcu nf 0 r1 r3 e4 s.heap.size) (cwV 2 hts (gs_V lk_103 lk_105 lk_106 lk_37 lk_104) rfl rfl rfl (by decide +kernel) ⟨Nat.le_of_ble_eq_true rfl, Nat.le_of_ble_eq_true rfl⟩) (pr_V gk_W (va_recv hG.1 hP (q0 := 0) rfl rfl) ⟨hG, hP⟩) rfl rfl hl.1 rfl (lv_room (Nat.le_of_ble_eq_true rfl)) dX2_objects_14 ⟨Nat.zero_le _, Nat.zero_le _⟩) ?_
    refine lv_goto (tgt := 21) hx hb dX2_objects_17 (by decide) ?_
    obtain rfl := Option.some.inj hf
    rw [hQ]
    exact pu_iret hx hb hr (vp_nar_int _) hsz dX2_objects_21 hlocks
set_option maxHeartbeats 4000000 in
set_option maxRecDepth 100000 in
theorem cx_objectPlaceOrRefusal (l : Launch) (dC : Nat → ClassId) (dI : Nat → Nat → Nat) (cI cQ : ClassId) (t1 t2 bs : Nat) (top xo la ko kc nt : Nat) (lo lc : Nat → Nat) (hg : gd_A bs (ad_X top xo la ko kc nt lo lc)) (c : Nat → ls_T) (md : Int32) (cu : Int32) (kp : ls_T) (kcu : Int32) (nf : Nat → Int32) (x1 : Int32) (v0 : Int32) (h : fx_objectPlaceOrRefusal md x1 = some v0) : pu_M l yX2_objectPlaceOrRefusal wsX2_objectPlaceOrRefusal rm_3_66 [.ref xo, .int x1] (gk_G dC dI cI cQ t1 t2 bs (wx_X cI cQ top xo la ko kc nt lo lc c md cu kp kcu nf)) v0 := by
  intro sz
  refine Met.ofW (cc := cX2_objectPlaceOrRefusal) (maxL := 3) (ret := (some .int)) (by decide) rfl ?_
  intro p e s m args below meth c_ s₁ B hml hv
  obtain ⟨rfl, hsz, hG, hP⟩ := hv
  have hx := B.exec
  have hb := B.bytes
  have hr := B.returns
  have hts := atoms_spec (ws := wsX2_objectPlaceOrRefusal) B.pre
  have hown : s.vm.findClass RX2 = some m.cls := findClass_of_methodNamed B.named
  have hlocks := B.notSynchronized
  have hl := lv_entry ([.ref xo, .int x1]) (n := 3) (Nat.le_of_ble_eq_true rfl)
  rw [lg_entry_eq]
  generalize (lg_sl ([.ref xo, .int x1]) ++ List.replicate (3 - (lg_sl ([.ref xo, .int x1])).length) Slot.unset).toArray = ls at hl ⊢
  have hl : lv_has ls 3 [(0, .ref xo), (1, .int x1)] := hl
  refine nm_Q (fun Q hQ => ?_)
  unfold fx_objectPlaceOrRefusal at h
  have hf := h
  refine lv_aload_n hx hb dX2_objectPlaceOrRefusal_0 rfl (lv_at hl 0 rfl) ?_
  refine lv_iload_n hx hb dX2_objectPlaceOrRefusal_1 rfl (lv_at hl 1 rfl) ?_
  obtain ⟨r1, e2, hf⟩ := ob_s hf
  try dsimp only at hf
  refine pu_calli (va_runV (As := [.int x1]) (rest := []) ⟨hx, hb, hml, hown, hts⟩ (cx_placeOrRefusal l dC dI cI cQ t1 t2 bs top xo la ko kc nt lo lc hg c md cu kp kcu nf x1 r1 e2 s.heap.size) (cwV 1 hts (gs_V lk_76 lk_78 lk_79 lk_37 lk_77) rfl rfl rfl (by decide +kernel) ⟨Nat.le_of_ble_eq_true rfl, Nat.le_of_ble_eq_true rfl⟩) (pr_V gk_W (va_recv hG.1 hP (q0 := 0) rfl rfl) ⟨hG, hP⟩) rfl rfl hl.1 rfl (lv_room (Nat.le_of_ble_eq_true rfl)) dX2_objectPlaceOrRefusal_2 ⟨Nat.zero_le _, Nat.zero_le _⟩) ?_
  refine lv_istore_n (lv' := [(2, .int r1), (0, .ref xo), (1, .int x1)]) hx hb dX2_objectPlaceOrRefusal_5 rfl hl (by decide) rfl (fun ls hl => ?_)
  refine lv_iload_n hx hb dX2_objectPlaceOrRefusal_6 rfl (lv_at hl 0 rfl) ?_
  refine lv_if_ne (tgt := 15) hx hb dX2_objectPlaceOrRefusal_7 (by decide) (fun hc => ?_) (fun hc => ?_)
  · rw [if_neg hc] at hf
    refine lv_iload_n hx hb dX2_objectPlaceOrRefusal_15 rfl (lv_at hl 0 rfl) ?_
    obtain rfl := Option.some.inj hf
    rw [hQ]
    exact pu_iret hx hb hr (vp_nar_int _) hsz dX2_objectPlaceOrRefusal_16 hlocks
  · rw [if_pos hc] at hf
    refine lv_bipush (v := (-2)) hx hb dX2_objectPlaceOrRefusal_10 (by decide) ?_
    refine lv_goto (tgt := 16) hx hb dX2_objectPlaceOrRefusal_12 (by decide) ?_
    obtain rfl := Option.some.inj hf
    rw [hQ]
    exact pu_iret hx hb hr (vp_nar_int _) hsz dX2_objectPlaceOrRefusal_16 hlocks
