set_option maxHeartbeats 4000000 in
set_option maxRecDepth 100000 in
theorem cq_placeOf (l : Launch) (dC : Nat → ClassId) (dI : Nat → Nat → Nat) (cI cQ : ClassId) (t1 t2 bs : Nat) (x0 : Int32) (v0 : Int32) (h : fq_placeOf x0 = some v0) : pu_M l yX3_placeOf wsX3_placeOf rm_0_0 [.int x0] (gk_G dC dI cI cQ t1 t2 bs []) v0 := by
  intro sz
  refine Met.ofW (cc := cX3_placeOf) (maxL := 4) (ret := (some .int)) (by decide) rfl ?_
  intro p e s m args below meth c_ s₁ B hml hv
  obtain ⟨rfl, hsz, hG, hP⟩ := hv
  have hx := B.exec
  have hb := B.bytes
  have hr := B.returns
  have hts := atoms_spec (ws := wsX3_placeOf) B.pre
  have hown : s.vm.findClass RX3 = some m.cls := findClass_of_methodNamed B.named
  have hlocks := B.notSynchronized
  have hl := lv_entry ([.int x0]) (n := 4) (Nat.le_of_ble_eq_true rfl)
  rw [lg_entry_eq]
  generalize (lg_sl ([.int x0]) ++ List.replicate (4 - (lg_sl ([.int x0])).length) Slot.unset).toArray = ls at hl ⊢
  have hl : lv_has ls 4 [(0, .int x0)] := hl
  refine nm_Q (fun Q hQ => ?_)
  have B47 : ∀ (k19 : Int32 → Int32 → Option (Int32)) (hk19 : ∀ (x1 : Int32) (x2 : Int32), ∀ ls : Array Slot, k19 x1 x2 = some v0 → lv_has ls 4 [(0, .int x0), (1, .int x1), (2, .int x2)] → W p l e (headSpec wsX3_placeOf rm_0_0).room s m ([.int x0] : List Value).toArray below meth c_ s.heap [] 0 0 Q (F0 m 19 ls [])), ∀ (x1 : Int32) (x2 : Int32) (x3 : Int32), ∀ ls : Array Slot, fq_placeOf_47 x0 k19 x1 x2 x3 = some v0 → lv_has ls 4 [(0, .int x0), (1, .int x1), (2, .int x2), (3, .int x3)] → W p l e (headSpec wsX3_placeOf rm_0_0).room s m ([.int x0] : List Value).toArray below meth c_ s.heap [] 0 0 Q (F0 m 47 ls []) := by
    intro k19 hk19
    intro x1 x2 x3 ls hf hl
    unfold fq_placeOf_47 at hf
    refine lv_bipush (v := 6) hx hb dX3_placeOf_47 (by decide) ?_
    refine lv_iload_n hx hb dX3_placeOf_49 rfl (lv_at hl 1 rfl) ?_
    refine lv_imul hx hb dX3_placeOf_50 ?_
    refine lv_iload_n hx hb dX3_placeOf_51 rfl (lv_at hl 3 rfl) ?_
    refine lv_iadd hx hb dX3_placeOf_52 ?_
    refine lv_istore_n (lv' := [(1, .int ((6 * x1) + x3)), (0, .int x0), (2, .int x2), (3, .int x3)]) hx hb dX3_placeOf_53 rfl hl (by decide) rfl (fun ls hl => ?_)
    refine lv_iload_n hx hb dX3_placeOf_54 rfl (lv_at hl 2 rfl) ?_
    refine lv_bipush (v := 10) hx hb dX3_placeOf_55 (by decide) ?_
    refine lv_idiv hx hb dX3_placeOf_57 (by decide) ?_
    refine lv_istore_n (lv' := [(2, .int (x2 / 10)), (1, .int ((6 * x1) + x3)), (0, .int x0), (3, .int x3)]) hx hb dX3_placeOf_58 rfl hl (by decide) rfl (fun ls hl => ?_)
    refine lv_goto (tgt := 19) hx hb dX3_placeOf_59 (by decide) ?_
    exact hk19 ((6 * x1) + x3) (x2 / 10) ls hf (lv_sub hl [2, 1, 0] rfl)
  have B19 : ∀ n : Nat, ∀ (x1 : Int32) (x2 : Int32), ∀ ls : Array Slot, fq_placeOf_19 x0 n x1 x2 = some v0 → lv_has ls 4 [(0, .int x0), (1, .int x1), (2, .int x2)] → W p l e (headSpec wsX3_placeOf rm_0_0).room s m ([.int x0] : List Value).toArray below meth c_ s.heap [] 0 0 Q (F0 m 19 ls []) := by
    intro n
    induction n with
    | zero => 
      intro x1 x2 ls hf hl
      exact nomatch (show (none : Option (Int32)) = some v0 from hf)
    | succ n ih =>
      intro x1 x2 ls hf hl
      rw [fq_placeOf_19.eq_2] at hf
      try dsimp only at hf
      refine lv_iload_n hx hb dX3_placeOf_19 rfl (lv_at hl 2 rfl) ?_
      refine lv_if_le (tgt := 62) hx hb dX3_placeOf_20 (by decide) (fun hc => ?_) (fun hc => ?_)
      · rw [if_pos hc] at hf
        refine lv_iload_n hx hb dX3_placeOf_62 rfl (lv_at hl 1 rfl) ?_
        obtain rfl := Option.some.inj hf
        rw [hQ]
        exact pu_iret hx hb hr (vp_nar_int _) hsz dX3_placeOf_63 hlocks
      · rw [if_neg hc] at hf
        refine lv_iload_n hx hb dX3_placeOf_23 rfl (lv_at hl 0 rfl) ?_
        refine lv_iload_n hx hb dX3_placeOf_24 rfl (lv_at hl 2 rfl) ?_
        obtain ⟨hq, hf⟩ := ck_s hf
        refine lv_idiv hx hb dX3_placeOf_25 hq ?_
        refine lv_bipush (v := 10) hx hb dX3_placeOf_26 (by decide) ?_
        refine lv_irem hx hb dX3_placeOf_28 (by decide) ?_
        refine lv_istore_n (lv' := [(3, .int ((x0 / x2) - (x0 / x2) / 10 * 10)), (0, .int x0), (1, .int x1), (2, .int x2)]) hx hb dX3_placeOf_29 rfl hl (by decide) rfl (fun ls hl => ?_)
        refine lv_iload_n hx hb dX3_placeOf_30 rfl (lv_at hl 1 rfl) ?_
        refine lv_iload_n hx hb dX3_placeOf_31 rfl (lv_at hl 3 rfl) ?_
        refine lv_icmp_lt (tgt := 47) hx hb dX3_placeOf_32 (by decide) (fun hc => ?_) (fun hc => ?_)
        · rw [if_pos hc] at hf
          exact B47 (fq_placeOf_19 x0 n) ih x1 x2 ((x0 / x2) - (x0 / x2) / 10 * 10) ls hf (lv_sub hl [1, 2, 3, 0] rfl)
        · rw [if_neg hc] at hf
          refine lv_iload_n hx hb dX3_placeOf_35 rfl (lv_at hl 0 rfl) ?_
          refine lv_iconst (v := 1) hx hb dX3_placeOf_36 (by decide) ?_
          refine lv_icmp_lt (tgt := 45) hx hb dX3_placeOf_37 (by decide) (fun hc => ?_) (fun hc => ?_)
          · rw [if_pos hc] at hf
            refine lv_iconst (v := (-1)) hx hb dX3_placeOf_45 (by decide) ?_
            obtain rfl := Option.some.inj hf
            rw [hQ]
            exact pu_iret hx hb hr (vp_nar_int _) hsz dX3_placeOf_46 hlocks
          · rw [if_neg hc] at hf
            refine lv_iload_n hx hb dX3_placeOf_40 rfl (lv_at hl 0 rfl) ?_
            refine lv_iconst (v := 5) hx hb dX3_placeOf_41 (by decide) ?_
            refine lv_icmp_le (tgt := 47) hx hb dX3_placeOf_42 (by decide) (fun hc => ?_) (fun hc => ?_)
            · rw [if_pos hc] at hf
              exact B47 (fq_placeOf_19 x0 n) ih x1 x2 ((x0 / x2) - (x0 / x2) / 10 * 10) ls hf (lv_sub hl [1, 2, 3, 0] rfl)
            · rw [if_neg hc] at hf
              refine lv_iconst (v := (-1)) hx hb dX3_placeOf_45 (by decide) ?_
              obtain rfl := Option.some.inj hf
              rw [hQ]
              exact pu_iret hx hb hr (vp_nar_int _) hsz dX3_placeOf_46 hlocks
  unfold fq_placeOf at h
  have hf := h
  refine lv_iload_n hx hb dX3_placeOf_0 rfl (lv_at hl 0 rfl) ?_
  refine lv_if_lt (tgt := 11) hx hb dX3_placeOf_1 (by decide) (fun hc => ?_) (fun hc => ?_)
  · rw [if_pos hc] at hf
    refine lv_iconst (v := (-1)) hx hb dX3_placeOf_11 (by decide) ?_
    obtain rfl := Option.some.inj hf
    rw [hQ]
    exact pu_iret hx hb hr (vp_nar_int _) hsz dX3_placeOf_12 hlocks
  · rw [if_neg hc] at hf
    refine lv_iload_n hx hb dX3_placeOf_4 rfl (lv_at hl 0 rfl) ?_
    refine lv_sipush (v := 5555) hx hb dX3_placeOf_5 (by decide) ?_
    refine lv_icmp_le (tgt := 13) hx hb dX3_placeOf_8 (by decide) (fun hc => ?_) (fun hc => ?_)
    · rw [if_pos hc] at hf
      refine lv_iconst (v := 0) hx hb dX3_placeOf_13 (by decide) ?_
      refine lv_istore_n (lv' := [(1, .int 0), (0, .int x0)]) hx hb dX3_placeOf_14 rfl hl (by decide) rfl (fun ls hl => ?_)
      refine lv_sipush (v := 1000) hx hb dX3_placeOf_15 (by decide) ?_
      refine lv_istore_n (lv' := [(2, .int 1000), (1, .int 0), (0, .int x0)]) hx hb dX3_placeOf_18 rfl hl (by decide) rfl (fun ls hl => ?_)
      exact B19 fu_n 0 1000 ls hf (lv_sub hl [2, 1, 0] rfl)
    · rw [if_neg hc] at hf
      refine lv_iconst (v := (-1)) hx hb dX3_placeOf_11 (by decide) ?_
      obtain rfl := Option.some.inj hf
      rw [hQ]
      exact pu_iret hx hb hr (vp_nar_int _) hsz dX3_placeOf_12 hlocks
set_option maxHeartbeats 4000000 in
set_option maxRecDepth 100000 in
theorem cq_depth (l : Launch) (dC : Nat → ClassId) (dI : Nat → Nat → Nat) (cI cQ : ClassId) (t1 t2 bs : Nat) (x0 : Int32) (v0 : Int32) (h : fq_depth x0 = some v0) : pu_M l yX3_depth wsX3_depth rm_0_0 [.int x0] (gk_G dC dI cI cQ t1 t2 bs []) v0 := by
  intro sz
  refine Met.ofW (cc := cX3_depth) (maxL := 1) (ret := (some .int)) (by decide) rfl ?_
  intro p e s m args below meth c_ s₁ B hml hv
  obtain ⟨rfl, hsz, hG, hP⟩ := hv
  have hx := B.exec
  have hb := B.bytes
  have hr := B.returns
  have hts := atoms_spec (ws := wsX3_depth) B.pre
  have hown : s.vm.findClass RX3 = some m.cls := findClass_of_methodNamed B.named
  have hlocks := B.notSynchronized
  have hl := lv_entry ([.int x0]) (n := 1) (Nat.le_of_ble_eq_true rfl)
  rw [lg_entry_eq]
  generalize (lg_sl ([.int x0]) ++ List.replicate (1 - (lg_sl ([.int x0])).length) Slot.unset).toArray = ls at hl ⊢
  have hl : lv_has ls 1 [(0, .int x0)] := hl
  refine nm_Q (fun Q hQ => ?_)
  unfold fq_depth at h
  have hf := h
  refine lv_iload_n hx hb dX3_depth_0 rfl (lv_at hl 0 rfl) ?_
  refine lv_if_ne (tgt := 8) hx hb dX3_depth_1 (by decide) (fun hc => ?_) (fun hc => ?_)
  · rw [if_neg hc] at hf
    refine lv_iload_n hx hb dX3_depth_8 rfl (lv_at hl 0 rfl) ?_
    refine lv_bipush (v := 6) hx hb dX3_depth_9 (by decide) ?_
    refine lv_icmp_ge (tgt := 18) hx hb dX3_depth_11 (by decide) (fun hc => ?_) (fun hc => ?_)
    · rw [if_pos hc] at hf
      refine lv_iload_n hx hb dX3_depth_18 rfl (lv_at hl 0 rfl) ?_
      refine lv_bipush (v := 36) hx hb dX3_depth_19 (by decide) ?_
      refine lv_icmp_ge (tgt := 28) hx hb dX3_depth_21 (by decide) (fun hc => ?_) (fun hc => ?_)
      · rw [if_pos hc] at hf
        refine lv_iload_n hx hb dX3_depth_28 rfl (lv_at hl 0 rfl) ?_
        refine lv_sipush (v := 216) hx hb dX3_depth_29 (by decide) ?_
        refine lv_icmp_ge (tgt := 39) hx hb dX3_depth_32 (by decide) (fun hc => ?_) (fun hc => ?_)
        · rw [if_pos hc] at hf
          refine lv_iconst (v := 4) hx hb dX3_depth_39 (by decide) ?_
          obtain rfl := Option.some.inj hf
          rw [hQ]
          exact pu_iret hx hb hr (vp_nar_int _) hsz dX3_depth_40 hlocks
        · rw [if_neg hc] at hf
          refine lv_iconst (v := 3) hx hb dX3_depth_35 (by decide) ?_
          refine lv_goto (tgt := 40) hx hb dX3_depth_36 (by decide) ?_
          obtain rfl := Option.some.inj hf
          rw [hQ]
          exact pu_iret hx hb hr (vp_nar_int _) hsz dX3_depth_40 hlocks
      · rw [if_neg hc] at hf
        refine lv_iconst (v := 2) hx hb dX3_depth_24 (by decide) ?_
        refine lv_goto (tgt := 40) hx hb dX3_depth_25 (by decide) ?_
        obtain rfl := Option.some.inj hf
        rw [hQ]
        exact pu_iret hx hb hr (vp_nar_int _) hsz dX3_depth_40 hlocks
    · rw [if_neg hc] at hf
      refine lv_iconst (v := 1) hx hb dX3_depth_14 (by decide) ?_
      refine lv_goto (tgt := 40) hx hb dX3_depth_15 (by decide) ?_
      obtain rfl := Option.some.inj hf
      rw [hQ]
      exact pu_iret hx hb hr (vp_nar_int _) hsz dX3_depth_40 hlocks
  · rw [if_pos hc] at hf
    refine lv_iconst (v := 0) hx hb dX3_depth_4 (by decide) ?_
    refine lv_goto (tgt := 40) hx hb dX3_depth_5 (by decide) ?_
    obtain rfl := Option.some.inj hf
    rw [hQ]
    exact pu_iret hx hb hr (vp_nar_int _) hsz dX3_depth_40 hlocks
set_option maxHeartbeats 4000000 in
set_option maxRecDepth 100000 in
theorem cq_without (l : Launch) (dC : Nat → ClassId) (dI : Nat → Nat → Nat) (cI cQ : ClassId) (t1 t2 bs : Nat) (x0 : Int32) (x1 : Int32) (v0 : Int32) (h : fq_without x0 x1 = some v0) : pu_M l yX3_without wsX3_without rm_0_0 [.int x0, .int x1] (gk_G dC dI cI cQ t1 t2 bs []) v0 := by
  intro sz
  refine Met.ofW (cc := cX3_without) (maxL := 4) (ret := (some .int)) (by decide) rfl ?_
  intro p e s m args below meth c_ s₁ B hml hv
  obtain ⟨rfl, hsz, hG, hP⟩ := hv
  have hx := B.exec
  have hb := B.bytes
  have hr := B.returns
  have hts := atoms_spec (ws := wsX3_without) B.pre
  have hown : s.vm.findClass RX3 = some m.cls := findClass_of_methodNamed B.named
  have hlocks := B.notSynchronized
  have hl := lv_entry ([.int x0, .int x1]) (n := 4) (Nat.le_of_ble_eq_true rfl)
  rw [lg_entry_eq]
  generalize (lg_sl ([.int x0, .int x1]) ++ List.replicate (4 - (lg_sl ([.int x0, .int x1])).length) Slot.unset).toArray = ls at hl ⊢
  have hl : lv_has ls 4 [(0, .int x0), (1, .int x1)] := hl
  refine nm_Q (fun Q hQ => ?_)
  have B4 : ∀ n : Nat, ∀ (x2 : Int32) (x3 : Int32), ∀ ls : Array Slot, fq_without_4 x0 x1 n x2 x3 = some v0 → lv_has ls 4 [(0, .int x0), (1, .int x1), (2, .int x2), (3, .int x3)] → W p l e (headSpec wsX3_without rm_0_0).room s m ([.int x0, .int x1] : List Value).toArray below meth c_ s.heap [] 0 0 Q (F0 m 4 ls []) := by
    intro n
    induction n with
    | zero => 
      intro x2 x3 ls hf hl
      exact nomatch (show (none : Option (Int32)) = some v0 from hf)
    | succ n ih =>
      intro x2 x3 ls hf hl
      rw [fq_without_4.eq_2] at hf
      try dsimp only at hf
      refine lv_iload_n hx hb dX3_without_4 rfl (lv_at hl 3 rfl) ?_
      refine lv_iload_n hx hb dX3_without_5 rfl (lv_at hl 1 rfl) ?_
      refine lv_icmp_ge (tgt := 20) hx hb dX3_without_6 (by decide) (fun hc => ?_) (fun hc => ?_)
      · rw [if_pos hc] at hf
        refine lv_iload_n hx hb dX3_without_20 rfl (lv_at hl 2 rfl) ?_
        obtain rfl := Option.some.inj hf
        rw [hQ]
        exact pu_iret hx hb hr (vp_nar_int _) hsz dX3_without_21 hlocks
      · rw [if_neg hc] at hf
        refine lv_iload_n hx hb dX3_without_9 rfl (lv_at hl 2 rfl) ?_
        refine lv_bipush (v := 6) hx hb dX3_without_10 (by decide) ?_
        refine lv_idiv hx hb dX3_without_12 (by decide) ?_
        refine lv_istore_n (lv' := [(2, .int (x2 / 6)), (0, .int x0), (1, .int x1), (3, .int x3)]) hx hb dX3_without_13 rfl hl (by decide) rfl (fun ls hl => ?_)
        refine lv_iinc (k := 3) (v := x3 + 1) (lv' := [(3, .int (x3 + 1)), (2, .int (x2 / 6)), (0, .int x0), (1, .int x1)]) hx hb dX3_without_14 hl rfl (by rfl) (by decide) rfl (fun ls hl => ?_)
        refine lv_goto (tgt := 4) hx hb dX3_without_17 (by decide) ?_
        exact ih (x2 / 6) (x3 + 1) ls hf (lv_sub hl [2, 3, 1, 0] rfl)
  unfold fq_without at h
  have hf := h
  refine lv_iload_n hx hb dX3_without_0 rfl (lv_at hl 0 rfl) ?_
  refine lv_istore_n (lv' := [(2, .int x0), (0, .int x0), (1, .int x1)]) hx hb dX3_without_1 rfl hl (by decide) rfl (fun ls hl => ?_)
  refine lv_iconst (v := 0) hx hb dX3_without_2 (by decide) ?_
  refine lv_istore_n (lv' := [(3, .int 0), (2, .int x0), (0, .int x0), (1, .int x1)]) hx hb dX3_without_3 rfl hl (by decide) rfl (fun ls hl => ?_)
  exact B4 fu_n x0 0 ls hf (lv_sub hl [2, 3, 1, 0] rfl)
set_option maxHeartbeats 4000000 in
set_option maxRecDepth 100000 in
theorem cq_isPath (l : Launch) (dC : Nat → ClassId) (dI : Nat → Nat → Nat) (cI cQ : ClassId) (t1 t2 bs : Nat) (x0 : Int32) (v0 : Int32) (h : fq_isPath x0 = some v0) : pu_M l yX3_isPath wsX3_isPath rm_0_0 [.int x0] (gk_G dC dI cI cQ t1 t2 bs []) v0 := by
  intro sz
  refine Met.ofW (cc := cX3_isPath) (maxL := 3) (ret := (some .boolean)) (by decide) rfl ?_
  intro p e s m args below meth c_ s₁ B hml hv
  obtain ⟨rfl, hsz, hG, hP⟩ := hv
  have hx := B.exec
  have hb := B.bytes
  have hr := B.returns
  have hts := atoms_spec (ws := wsX3_isPath) B.pre
  have hown : s.vm.findClass RX3 = some m.cls := findClass_of_methodNamed B.named
  have hlocks := B.notSynchronized
  have hl := lv_entry ([.int x0]) (n := 3) (Nat.le_of_ble_eq_true rfl)
  rw [lg_entry_eq]
  generalize (lg_sl ([.int x0]) ++ List.replicate (3 - (lg_sl ([.int x0])).length) Slot.unset).toArray = ls at hl ⊢
  have hl : lv_has ls 3 [(0, .int x0)] := hl
  refine nm_Q (fun Q hQ => ?_)
  have B32 : ∀ (k12 : Int32 → Int32 → Option (Int32)) (hk12 : ∀ (x1 : Int32) (x2 : Int32), ∀ ls : Array Slot, k12 x1 x2 = some v0 → lv_has ls 3 [(0, .int x0), (1, .int x1), (2, .int x2)] → W p l e (headSpec wsX3_isPath rm_0_0).room s m ([.int x0] : List Value).toArray below meth c_ s.heap [] 0 0 Q (F0 m 12 ls [])), ∀ (x1 : Int32) (x2 : Int32) (z0 : Int32), ∀ ls : Array Slot, fq_isPath_32 x0 k12 x1 x2 z0 = some v0 → lv_has ls 3 [(0, .int x0), (1, .int x1), (2, .int x2)] → W p l e (headSpec wsX3_isPath rm_0_0).room s m ([.int x0] : List Value).toArray below meth c_ s.heap [] 0 0 Q (F0 m 32 ls [.int z0]) := by
    intro k12 hk12
    intro x1 x2 z0 ls hf hl
    unfold fq_isPath_32 at hf
    refine lv_istore_n (lv' := [(1, .int z0), (0, .int x0), (2, .int x2)]) hx hb dX3_isPath_32 rfl hl (by decide) rfl (fun ls hl => ?_)
    refine lv_iload_n hx hb dX3_isPath_33 rfl (lv_at hl 2 rfl) ?_
    refine lv_bipush (v := 6) hx hb dX3_isPath_34 (by decide) ?_
    refine lv_idiv hx hb dX3_isPath_36 (by decide) ?_
    refine lv_istore_n (lv' := [(2, .int (x2 / 6)), (1, .int z0), (0, .int x0)]) hx hb dX3_isPath_37 rfl hl (by decide) rfl (fun ls hl => ?_)
    refine lv_goto (tgt := 12) hx hb dX3_isPath_38 (by decide) ?_
    exact hk12 z0 (x2 / 6) ls hf (lv_sub hl [2, 1, 0] rfl)
  have B31 : ∀ (k12 : Int32 → Int32 → Option (Int32)) (hk12 : ∀ (x1 : Int32) (x2 : Int32), ∀ ls : Array Slot, k12 x1 x2 = some v0 → lv_has ls 3 [(0, .int x0), (1, .int x1), (2, .int x2)] → W p l e (headSpec wsX3_isPath rm_0_0).room s m ([.int x0] : List Value).toArray below meth c_ s.heap [] 0 0 Q (F0 m 12 ls [])), ∀ (x1 : Int32) (x2 : Int32), ∀ ls : Array Slot, fq_isPath_31 x0 k12 x1 x2 = some v0 → lv_has ls 3 [(0, .int x0), (1, .int x1), (2, .int x2)] → W p l e (headSpec wsX3_isPath rm_0_0).room s m ([.int x0] : List Value).toArray below meth c_ s.heap [] 0 0 Q (F0 m 31 ls []) := by
    intro k12 hk12
    intro x1 x2 ls hf hl
    unfold fq_isPath_31 at hf
    refine lv_iconst (v := 0) hx hb dX3_isPath_31 (by decide) ?_
    exact B32 k12 hk12 x1 x2 0 ls hf (lv_sub hl [0, 1, 2] rfl)
  have B12 : ∀ n : Nat, ∀ (x1 : Int32) (x2 : Int32), ∀ ls : Array Slot, fq_isPath_12 x0 n x1 x2 = some v0 → lv_has ls 3 [(0, .int x0), (1, .int x1), (2, .int x2)] → W p l e (headSpec wsX3_isPath rm_0_0).room s m ([.int x0] : List Value).toArray below meth c_ s.heap [] 0 0 Q (F0 m 12 ls []) := by
    intro n
    induction n with
    | zero => 
      intro x1 x2 ls hf hl
      exact nomatch (show (none : Option (Int32)) = some v0 from hf)
    | succ n ih =>
      intro x1 x2 ls hf hl
      rw [fq_isPath_12.eq_2] at hf
      try dsimp only at hf
      refine lv_iload_n hx hb dX3_isPath_12 rfl (lv_at hl 2 rfl) ?_
      refine lv_if_le (tgt := 41) hx hb dX3_isPath_13 (by decide) (fun hc => ?_) (fun hc => ?_)
      · rw [if_pos hc] at hf
        refine lv_iload_n hx hb dX3_isPath_41 rfl (lv_at hl 1 rfl) ?_
        obtain ⟨hq, hf⟩ := ck_s hf
        obtain rfl := Option.some.inj hf
        rw [hQ]
        exact pu_iret hx hb hr (nb_o hq) hsz dX3_isPath_42 hlocks
      · rw [if_neg hc] at hf
        refine lv_iload_n hx hb dX3_isPath_16 rfl (lv_at hl 1 rfl) ?_
        refine lv_if_eq (tgt := 31) hx hb dX3_isPath_17 (by decide) (fun hc => ?_) (fun hc => ?_)
        · rw [if_pos hc] at hf
          exact B31 (fq_isPath_12 x0 n) ih x1 x2 ls hf (lv_sub hl [0, 1, 2] rfl)
        · rw [if_neg hc] at hf
          refine lv_iload_n hx hb dX3_isPath_20 rfl (lv_at hl 2 rfl) ?_
          refine lv_bipush (v := 6) hx hb dX3_isPath_21 (by decide) ?_
          refine lv_irem hx hb dX3_isPath_23 (by decide) ?_
          refine lv_if_le (tgt := 31) hx hb dX3_isPath_24 (by decide) (fun hc => ?_) (fun hc => ?_)
          · rw [if_pos hc] at hf
            exact B31 (fq_isPath_12 x0 n) ih x1 x2 ls hf (lv_sub hl [0, 1, 2] rfl)
          · rw [if_neg hc] at hf
            refine lv_iconst (v := 1) hx hb dX3_isPath_27 (by decide) ?_
            refine lv_goto (tgt := 32) hx hb dX3_isPath_28 (by decide) ?_
            exact B32 (fq_isPath_12 x0 n) ih x1 x2 1 ls hf (lv_sub hl [0, 1, 2] rfl)
  have B9 : ∀ (z0 : Int32), ∀ ls : Array Slot, fq_isPath_9 x0 z0 = some v0 → lv_has ls 3 [(0, .int x0)] → W p l e (headSpec wsX3_isPath rm_0_0).room s m ([.int x0] : List Value).toArray below meth c_ s.heap [] 0 0 Q (F0 m 9 ls [.int z0]) := by
    intro z0 ls hf hl
    unfold fq_isPath_9 at hf
    refine lv_istore_n (lv' := [(1, .int z0), (0, .int x0)]) hx hb dX3_isPath_9 rfl hl (by decide) rfl (fun ls hl => ?_)
    refine lv_iload_n hx hb dX3_isPath_10 rfl (lv_at hl 1 rfl) ?_
    refine lv_istore_n (lv' := [(2, .int x0), (1, .int z0), (0, .int x0)]) hx hb dX3_isPath_11 rfl hl (by decide) rfl (fun ls hl => ?_)
    exact B12 fu_n z0 x0 ls hf (lv_sub hl [2, 1, 0] rfl)
  unfold fq_isPath at h
  have hf := h
  refine lv_iload_n hx hb dX3_isPath_0 rfl (lv_at hl 0 rfl) ?_
  refine lv_if_le (tgt := 8) hx hb dX3_isPath_1 (by decide) (fun hc => ?_) (fun hc => ?_)
  · rw [if_pos hc] at hf
    refine lv_iconst (v := 0) hx hb dX3_isPath_8 (by decide) ?_
    exact B9 0 ls hf (lv_sub hl [0] rfl)
  · rw [if_neg hc] at hf
    refine lv_iconst (v := 1) hx hb dX3_isPath_4 (by decide) ?_
    refine lv_goto (tgt := 9) hx hb dX3_isPath_5 (by decide) ?_
    exact B9 1 ls hf (lv_sub hl [0] rfl)
set_option maxHeartbeats 4000000 in
set_option maxRecDepth 100000 in
theorem cq_isBelow (l : Launch) (dC : Nat → ClassId) (dI : Nat → Nat → Nat) (cI cQ : ClassId) (t1 t2 bs : Nat) (x0 : Int32) (x1 : Int32) (v0 : Int32) (h : fq_isBelow x0 x1 = some v0) : pu_M l yX3_isBelow wsX3_isBelow rm_1_23 [.int x0, .int x1] (gk_G dC dI cI cQ t1 t2 bs []) v0 := by
  intro sz
  refine Met.ofW (cc := cX3_isBelow) (maxL := 3) (ret := (some .boolean)) (by decide) rfl ?_
  intro p e s m args below meth c_ s₁ B hml hv
  obtain ⟨rfl, hsz, hG, hP⟩ := hv
  have hx := B.exec
  have hb := B.bytes
  have hr := B.returns
  have hts := atoms_spec (ws := wsX3_isBelow) B.pre
  have hown : s.vm.findClass RX3 = some m.cls := findClass_of_methodNamed B.named
  have hlocks := B.notSynchronized
  have hl := lv_entry ([.int x0, .int x1]) (n := 3) (Nat.le_of_ble_eq_true rfl)
  rw [lg_entry_eq]
  generalize (lg_sl ([.int x0, .int x1]) ++ List.replicate (3 - (lg_sl ([.int x0, .int x1])).length) Slot.unset).toArray = ls at hl ⊢
  have hl : lv_has ls 3 [(0, .int x0), (1, .int x1)] := hl
  refine nm_Q (fun Q hQ => ?_)
  unfold fq_isBelow at h
  have hf := h
  refine lv_iload_n hx hb dX3_isBelow_0 rfl (lv_at hl 0 rfl) ?_
  obtain ⟨r1, e2, hf⟩ := ob_s hf
  try dsimp only at hf
  refine pu_calli (va_runS (As := [.int x0]) (rest := []) ⟨hx, hb, hml, hown, hts⟩ (cq_depth l dC dI cI cQ t1 t2 bs x0 r1 e2 s.heap.size) (va_cwS 1 hts (gs_S lk_193 lk_196 lk_194 lk_195) rfl rfl rfl (by decide +kernel) ⟨Nat.le_of_ble_eq_true rfl, Nat.le_of_ble_eq_true rfl⟩) (pr_S gk_W ⟨hG, pz_0⟩) rfl rfl hl.1 rfl (lv_room (Nat.le_of_ble_eq_true rfl)) dX3_isBelow_1 ⟨Nat.zero_le _, Nat.zero_le _⟩) ?_
  refine lv_iload_n hx hb dX3_isBelow_4 rfl (lv_at hl 1 rfl) ?_
  obtain ⟨r3, e4, hf⟩ := ob_s hf
  try dsimp only at hf
  refine pu_calli (va_runS (As := [.int x1]) (rest := [.int r1]) ⟨hx, hb, hml, hown, hts⟩ (cq_depth l dC dI cI cQ t1 t2 bs x1 r3 e4 s.heap.size) (va_cwS 1 hts (gs_S lk_193 lk_196 lk_194 lk_195) rfl rfl rfl (by decide +kernel) ⟨Nat.le_of_ble_eq_true rfl, Nat.le_of_ble_eq_true rfl⟩) (pr_S gk_W ⟨hG, pz_0⟩) rfl rfl hl.1 rfl (lv_room (Nat.le_of_ble_eq_true rfl)) dX3_isBelow_5 ⟨Nat.zero_le _, Nat.zero_le _⟩) ?_
  refine lv_isub hx hb dX3_isBelow_8 ?_
  refine lv_istore_n (lv' := [(2, .int (r1 - r3)), (0, .int x0), (1, .int x1)]) hx hb dX3_isBelow_9 rfl hl (by decide) rfl (fun ls hl => ?_)
  refine lv_iload_n hx hb dX3_isBelow_10 rfl (lv_at hl 0 rfl) ?_
  refine lv_if_le (tgt := 27) hx hb dX3_isBelow_11 (by decide) (fun hc => ?_) (fun hc => ?_)
  · rw [if_pos hc] at hf
    refine lv_iconst (v := 0) hx hb dX3_isBelow_27 (by decide) ?_
    obtain rfl := Option.some.inj hf
    rw [hQ]
    exact pu_iret hx hb hr (nb_0) hsz dX3_isBelow_28 hlocks
  · rw [if_neg hc] at hf
    refine lv_iload_n hx hb dX3_isBelow_14 rfl (lv_at hl 1 rfl) ?_
    refine lv_iload_n hx hb dX3_isBelow_15 rfl (lv_at hl 0 rfl) ?_
    obtain ⟨r5, e6, hf⟩ := ob_s hf
    try dsimp only at hf
    refine pu_calli (va_runS (As := [.int x0, .int (r1 - r3)]) (rest := []) ⟨hx, hb, hml, hown, hts⟩ (cq_without l dC dI cI cQ t1 t2 bs x0 (r1 - r3) r5 e6 s.heap.size) (va_cwS 2 hts (gs_S lk_197 lk_199 lk_194 lk_198) rfl rfl rfl (by decide +kernel) ⟨Nat.le_of_ble_eq_true rfl, Nat.le_of_ble_eq_true rfl⟩) (pr_S gk_W ⟨hG, pz_0⟩) rfl rfl hl.1 rfl (lv_room (Nat.le_of_ble_eq_true rfl)) dX3_isBelow_16 ⟨Nat.zero_le _, Nat.zero_le _⟩) ?_
    refine lv_iload_n hx hb dX3_isBelow_19 rfl (lv_at hl 2 rfl) ?_
    refine lv_icmp_ne (tgt := 27) hx hb dX3_isBelow_20 (by decide) (fun hc => ?_) (fun hc => ?_)
    · rw [if_neg hc] at hf
      refine lv_iconst (v := 0) hx hb dX3_isBelow_27 (by decide) ?_
      obtain rfl := Option.some.inj hf
      rw [hQ]
      exact pu_iret hx hb hr (nb_0) hsz dX3_isBelow_28 hlocks
    · rw [if_pos hc] at hf
      refine lv_iconst (v := 1) hx hb dX3_isBelow_23 (by decide) ?_
      refine lv_goto (tgt := 28) hx hb dX3_isBelow_24 (by decide) ?_
      obtain rfl := Option.some.inj hf
      rw [hQ]
      exact pu_iret hx hb hr (nb_1) hsz dX3_isBelow_28 hlocks
set_option maxHeartbeats 4000000 in
set_option maxRecDepth 100000 in
theorem cq_resolve (l : Launch) (dC : Nat → ClassId) (dI : Nat → Nat → Nat) (cI cQ : ClassId) (t1 t2 bs : Nat) (top mo m1 m2 m3 m4 m5 m6 m7 : Nat) (hg : gd_A bs [mo, m1, m2, m3, m4, m5, m6, m7]) (mt : Int32) (cu : Int32) (kn : Nat → Int32) (vl : Nat → Int32) (ok : Nat → Int32) (ov : Nat → Int32) (fo : Int32) (pa : Int32) (fi : Int32) (va : Int32) (nd : Nat → Int32) (nk : Nat → Int32) (nv : Nat → Int32) (no : Int32) (x1 : Int32) (x2 : Int32) (x3 : Int32) (v0 : Int32 × Int32 × Int32 × Int32) (h : fq_resolve kn vl fo pa fi va x1 x2 x3 = some v0) : im_V l yX3_resolve wsX3_resolve rm_0_0 [.ref mo, .int x1, .int x2, .int x3] (gk_G dC dI cI cQ t1 t2 bs (wm_M cI top mo m1 m2 m3 m4 m5 m6 m7 mt cu kn vl ok ov fo pa fi va nd nk nv no)) (va_P (dC, dI) vwCl (wm_M cI top mo m1 m2 m3 m4 m5 m6 m7 mt cu kn vl ok ov v0.1 v0.2.1 v0.2.2.1 v0.2.2.2 nd nk nv no)) (in_A [mo, m1, m2, m3, m4, m5, m6, m7]) := by
  intro sz
  refine Met.ofW (cc := cX3_resolve) (maxL := 6) (ret := none) (by decide) rfl ?_
  intro p e s m args below meth c_ s₁ B hml hv
  obtain ⟨rfl, hsz, hG, hP⟩ := hv
  have hx := B.exec
  have hb := B.bytes
  have hr := B.returns
  have hts := atoms_spec (ws := wsX3_resolve) B.pre
  have hown : s.vm.findClass RX3 = some m.cls := findClass_of_methodNamed B.named
  have hlocks := B.notSynchronized
  have hiX3 : ∀ w ∈ u_ws RX3 TX3 15, w ∈ wsX3_resolve := fun w hw => tw_in (usX3 w hw)
  have hl := lv_entry ([.ref mo, .int x1, .int x2, .int x3]) (n := 6) (Nat.le_of_ble_eq_true rfl)
  rw [lg_entry_eq]
  generalize (lg_sl ([.ref mo, .int x1, .int x2, .int x3]) ++ List.replicate (6 - (lg_sl ([.ref mo, .int x1, .int x2, .int x3])).length) Slot.unset).toArray = ls at hl ⊢
  have hl : lv_has ls 6 [(0, .ref mo), (1, .int x1), (2, .int x2), (3, .int x3)] := hl
  refine nm_Q (fun Q hQ => ?_)
  have B154 : ∀ (k25 : Int32 → Int32 → Int32 → Int32 → Int32 → Option (Int32 × Int32 × Int32 × Int32)) (hk25 : ∀ (x4 : Int32) (fo : Int32) (pa : Int32) (fi : Int32) (va : Int32), ∀ (H : Heap) (locs : List Loc), va_P (dC, dI) vwCl (wm_M cI top mo m1 m2 m3 m4 m5 m6 m7 mt cu kn vl ok ov fo pa fi va nd nk nv no) H → va_S (in_A [mo, m1, m2, m3, m4, m5, m6, m7]) s.heap H locs → ∀ ls : Array Slot, k25 x4 fo pa fi va = some v0 → lv_has ls 6 [(0, .ref mo), (1, .int x1), (2, .int x2), (3, .int x3), (4, .int x4)] → W p l e (headSpec wsX3_resolve rm_0_0).room s m ([.ref mo, .int x1, .int x2, .int x3] : List Value).toArray below meth c_ H locs 0 0 Q (F0 m 25 ls [])), ∀ (x4 : Int32) (x5 : Int32) (fo : Int32) (pa : Int32) (fi : Int32) (va : Int32), ∀ (H : Heap) (locs : List Loc), va_P (dC, dI) vwCl (wm_M cI top mo m1 m2 m3 m4 m5 m6 m7 mt cu kn vl ok ov fo pa fi va nd nk nv no) H → va_S (in_A [mo, m1, m2, m3, m4, m5, m6, m7]) s.heap H locs → ∀ ls : Array Slot, fq_resolve_154 kn vl x1 x2 x3 k25 x4 x5 fo pa fi va = some v0 → lv_has ls 6 [(0, .ref mo), (1, .int x1), (2, .int x2), (3, .int x3), (4, .int x4), (5, .int x5)] → W p l e (headSpec wsX3_resolve rm_0_0).room s m ([.ref mo, .int x1, .int x2, .int x3] : List Value).toArray below meth c_ H locs 0 0 Q (F0 m 154 ls []) := by
    intro k25 hk25
    intro x4 x5 fo pa fi va H locs hP hS ls hf hl
    unfold fq_resolve_154 at hf
    refine lv_iload hx hb dX3_resolve_154 (lv_at hl 5 rfl) ?_
    refine lv_iconst (v := 1) hx hb dX3_resolve_156 (by decide) ?_
    refine lv_icmp_eq (tgt := 166) hx hb dX3_resolve_157 (by decide) (fun hc => ?_) (fun hc => ?_)
    · rw [if_pos hc] at hf
      obtain rfl := Option.some.inj hf
      rw [hQ]
      exact im_vret hx hb hr hS hP dX3_resolve_166 hlocks
    · rw [if_neg hc] at hf
      refine lv_iload hx hb dX3_resolve_160 (lv_at hl 5 rfl) ?_
      refine lv_iconst (v := 2) hx hb dX3_resolve_162 (by decide) ?_
      refine lv_icmp_le (tgt := 167) hx hb dX3_resolve_163 (by decide) (fun hc => ?_) (fun hc => ?_)
      · rw [if_pos hc] at hf
        refine lv_iinc (k := 4) (v := x4 + (-1)) (lv' := [(4, .int (x4 + (-1))), (0, .ref mo), (1, .int x1), (2, .int x2), (3, .int x3), (5, .int x5)]) hx hb dX3_resolve_167 hl rfl (by rfl) (by decide) rfl (fun ls hl => ?_)
        refine lv_goto (tgt := 25) hx hb dX3_resolve_170 (by decide) ?_
        exact hk25 (x4 + (-1)) fo pa fi va H locs hP hS ls hf (lv_sub hl [1, 2, 3, 4, 0] rfl)
      · rw [if_neg hc] at hf
        obtain rfl := Option.some.inj hf
        rw [hQ]
        exact im_vret hx hb hr hS hP dX3_resolve_166 hlocks
  have B141 : ∀ (k25 : Int32 → Int32 → Int32 → Int32 → Int32 → Option (Int32 × Int32 × Int32 × Int32)) (hk25 : ∀ (x4 : Int32) (fo : Int32) (pa : Int32) (fi : Int32) (va : Int32), ∀ (H : Heap) (locs : List Loc), va_P (dC, dI) vwCl (wm_M cI top mo m1 m2 m3 m4 m5 m6 m7 mt cu kn vl ok ov fo pa fi va nd nk nv no) H → va_S (in_A [mo, m1, m2, m3, m4, m5, m6, m7]) s.heap H locs → ∀ ls : Array Slot, k25 x4 fo pa fi va = some v0 → lv_has ls 6 [(0, .ref mo), (1, .int x1), (2, .int x2), (3, .int x3), (4, .int x4)] → W p l e (headSpec wsX3_resolve rm_0_0).room s m ([.ref mo, .int x1, .int x2, .int x3] : List Value).toArray below meth c_ H locs 0 0 Q (F0 m 25 ls [])), ∀ (x4 : Int32) (x5 : Int32) (fo : Int32) (pa : Int32) (fi : Int32) (va : Int32), ∀ (H : Heap) (locs : List Loc), va_P (dC, dI) vwCl (wm_M cI top mo m1 m2 m3 m4 m5 m6 m7 mt cu kn vl ok ov fo pa fi va nd nk nv no) H → va_S (in_A [mo, m1, m2, m3, m4, m5, m6, m7]) s.heap H locs → ∀ ls : Array Slot, fq_resolve_141 kn vl x1 x2 x3 k25 x4 x5 fo pa fi va = some v0 → lv_has ls 6 [(0, .ref mo), (1, .int x1), (2, .int x2), (3, .int x3), (4, .int x4), (5, .int x5)] → W p l e (headSpec wsX3_resolve rm_0_0).room s m ([.ref mo, .int x1, .int x2, .int x3] : List Value).toArray below meth c_ H locs 0 0 Q (F0 m 141 ls []) := by
    intro k25 hk25
    intro x4 x5 fo pa fi va H locs hP hS ls hf hl
    unfold fq_resolve_141 at hf
    refine lv_aload_n hx hb dX3_resolve_141 rfl (lv_at hl 0 rfl) ?_
    refine lv_dup hx hb dX3_resolve_142 rfl ?_
    refine va_get (D := (dC, dI)) (ci := 2) (v := .int pa) (C := RX3) (T := TX3) (N := 15) hx hb hts hiX3 hown hG.1 hP 0 rfl rfl 8 (by decide) (hts _ (tw_in lk_200)) (fun _ h9 => h9) rfl dX3_resolve_143 ?_
    refine lv_iconst (v := 1) hx hb dX3_resolve_146 (by decide) ?_
    refine lv_iload hx hb dX3_resolve_147 (lv_at hl 4 rfl) ?_
    refine lv_ishl hx hb dX3_resolve_149 ?_
    refine lv_ior hx hb dX3_resolve_150 ?_
    refine va_put (D := (dC, dI)) (ci := 2) (v := .int (pa ||| (1 <<< (x4 &&& 31)))) (ty := .int) (C := RX3) (T := TX3) (N := 15) hx hb hts hiX3 tyX3 tyX3_ok nmX3 hown hG.1 hP (dd_A hg rfl) hS 0 rfl rfl 8 (by decide) (hts _ (tw_in lk_200)) (fun _ h9 => h9) rfl (by decide +kernel) rfl rfl (Nat.le_of_ble_eq_true rfl) dX3_resolve_151 (fun H locs hP _ hS => ?_)
    have hP : va_P (dC, dI) vwCl (wm_M cI top mo m1 m2 m3 m4 m5 m6 m7 mt cu kn vl ok ov fo (pa ||| (1 <<< (x4 &&& 31))) fi va nd nk nv no) H := hP
    exact B154 k25 hk25 x4 x5 fo (pa ||| (1 <<< (x4 &&& 31))) fi va H locs hP hS ls hf (lv_sub hl [0, 1, 2, 3, 4, 5] rfl)
  have B129 : ∀ (k25 : Int32 → Int32 → Int32 → Int32 → Int32 → Option (Int32 × Int32 × Int32 × Int32)) (hk25 : ∀ (x4 : Int32) (fo : Int32) (pa : Int32) (fi : Int32) (va : Int32), ∀ (H : Heap) (locs : List Loc), va_P (dC, dI) vwCl (wm_M cI top mo m1 m2 m3 m4 m5 m6 m7 mt cu kn vl ok ov fo pa fi va nd nk nv no) H → va_S (in_A [mo, m1, m2, m3, m4, m5, m6, m7]) s.heap H locs → ∀ ls : Array Slot, k25 x4 fo pa fi va = some v0 → lv_has ls 6 [(0, .ref mo), (1, .int x1), (2, .int x2), (3, .int x3), (4, .int x4)] → W p l e (headSpec wsX3_resolve rm_0_0).room s m ([.ref mo, .int x1, .int x2, .int x3] : List Value).toArray below meth c_ H locs 0 0 Q (F0 m 25 ls [])), ∀ (x4 : Int32) (x5 : Int32) (fo : Int32) (pa : Int32) (fi : Int32) (va : Int32), ∀ (H : Heap) (locs : List Loc), va_P (dC, dI) vwCl (wm_M cI top mo m1 m2 m3 m4 m5 m6 m7 mt cu kn vl ok ov fo pa fi va nd nk nv no) H → va_S (in_A [mo, m1, m2, m3, m4, m5, m6, m7]) s.heap H locs → ∀ ls : Array Slot, fq_resolve_129 kn vl x1 x2 x3 k25 x4 x5 fo pa fi va = some v0 → lv_has ls 6 [(0, .ref mo), (1, .int x1), (2, .int x2), (3, .int x3), (4, .int x4), (5, .int x5)] → W p l e (headSpec wsX3_resolve rm_0_0).room s m ([.ref mo, .int x1, .int x2, .int x3] : List Value).toArray below meth c_ H locs 0 0 Q (F0 m 129 ls []) := by
    intro k25 hk25
    intro x4 x5 fo pa fi va H locs hP hS ls hf hl
    unfold fq_resolve_129 at hf
    refine lv_iload hx hb dX3_resolve_129 (lv_at hl 5 rfl) ?_
    refine lv_iconst (v := 2) hx hb dX3_resolve_131 (by decide) ?_
    refine lv_icmp_eq (tgt := 141) hx hb dX3_resolve_132 (by decide) (fun hc => ?_) (fun hc => ?_)
    · rw [if_pos hc] at hf
      exact B141 k25 hk25 x4 x5 fo pa fi va H locs hP hS ls hf (lv_sub hl [0, 1, 2, 3, 4, 5] rfl)
    · rw [if_neg hc] at hf
      refine lv_iload hx hb dX3_resolve_135 (lv_at hl 5 rfl) ?_
      refine lv_iconst (v := 3) hx hb dX3_resolve_137 (by decide) ?_
      refine lv_icmp_ne (tgt := 154) hx hb dX3_resolve_138 (by decide) (fun hc => ?_) (fun hc => ?_)
      · rw [if_neg hc] at hf
        exact B154 k25 hk25 x4 x5 fo pa fi va H locs hP hS ls hf (lv_sub hl [0, 1, 2, 3, 4, 5] rfl)
      · rw [if_pos hc] at hf
        exact B141 k25 hk25 x4 x5 fo pa fi va H locs hP hS ls hf (lv_sub hl [0, 1, 2, 3, 4, 5] rfl)
  have B126 : ∀ (k25 : Int32 → Int32 → Int32 → Int32 → Int32 → Option (Int32 × Int32 × Int32 × Int32)) (hk25 : ∀ (x4 : Int32) (fo : Int32) (pa : Int32) (fi : Int32) (va : Int32), ∀ (H : Heap) (locs : List Loc), va_P (dC, dI) vwCl (wm_M cI top mo m1 m2 m3 m4 m5 m6 m7 mt cu kn vl ok ov fo pa fi va nd nk nv no) H → va_S (in_A [mo, m1, m2, m3, m4, m5, m6, m7]) s.heap H locs → ∀ ls : Array Slot, k25 x4 fo pa fi va = some v0 → lv_has ls 6 [(0, .ref mo), (1, .int x1), (2, .int x2), (3, .int x3), (4, .int x4)] → W p l e (headSpec wsX3_resolve rm_0_0).room s m ([.ref mo, .int x1, .int x2, .int x3] : List Value).toArray below meth c_ H locs 0 0 Q (F0 m 25 ls [])), ∀ (x4 : Int32) (x5 : Int32) (z0 : Int32) (fo : Int32) (pa : Int32) (fi : Int32) (va : Int32), ∀ (H : Heap) (locs : List Loc), va_P (dC, dI) vwCl (wm_M cI top mo m1 m2 m3 m4 m5 m6 m7 mt cu kn vl ok ov fo pa fi va nd nk nv no) H → va_S (in_A [mo, m1, m2, m3, m4, m5, m6, m7]) s.heap H locs → ∀ ls : Array Slot, fq_resolve_126 kn vl x1 x2 x3 k25 x4 x5 z0 fo pa fi va = some v0 → lv_has ls 6 [(0, .ref mo), (1, .int x1), (2, .int x2), (3, .int x3), (4, .int x4), (5, .int x5)] → W p l e (headSpec wsX3_resolve rm_0_0).room s m ([.ref mo, .int x1, .int x2, .int x3] : List Value).toArray below meth c_ H locs 0 0 Q (F0 m 126 ls [.int z0, .ref mo]) := by
    intro k25 hk25
    intro x4 x5 z0 fo pa fi va H locs hP hS ls hf hl
    unfold fq_resolve_126 at hf
    refine va_put (D := (dC, dI)) (ci := 2) (v := .int z0) (ty := .int) (C := RX3) (T := TX3) (N := 15) hx hb hts hiX3 tyX3 tyX3_ok nmX3 hown hG.1 hP (dd_A hg rfl) hS 0 rfl rfl 10 (by decide) (hts _ (tw_in lk_201)) (fun _ h9 => h9) rfl (by decide +kernel) rfl rfl (Nat.le_of_ble_eq_true rfl) dX3_resolve_126 (fun H locs hP _ hS => ?_)
    have hP : va_P (dC, dI) vwCl (wm_M cI top mo m1 m2 m3 m4 m5 m6 m7 mt cu kn vl ok ov fo pa fi z0 nd nk nv no) H := hP
    exact B129 k25 hk25 x4 x5 fo pa fi z0 H locs hP hS ls hf (lv_sub hl [0, 1, 2, 3, 4, 5] rfl)
  have B99 : ∀ (k25 : Int32 → Int32 → Int32 → Int32 → Int32 → Option (Int32 × Int32 × Int32 × Int32)) (hk25 : ∀ (x4 : Int32) (fo : Int32) (pa : Int32) (fi : Int32) (va : Int32), ∀ (H : Heap) (locs : List Loc), va_P (dC, dI) vwCl (wm_M cI top mo m1 m2 m3 m4 m5 m6 m7 mt cu kn vl ok ov fo pa fi va nd nk nv no) H → va_S (in_A [mo, m1, m2, m3, m4, m5, m6, m7]) s.heap H locs → ∀ ls : Array Slot, k25 x4 fo pa fi va = some v0 → lv_has ls 6 [(0, .ref mo), (1, .int x1), (2, .int x2), (3, .int x3), (4, .int x4)] → W p l e (headSpec wsX3_resolve rm_0_0).room s m ([.ref mo, .int x1, .int x2, .int x3] : List Value).toArray below meth c_ H locs 0 0 Q (F0 m 25 ls [])), ∀ (x4 : Int32) (x5 : Int32) (z0 : Int32) (fo : Int32) (pa : Int32) (fi : Int32) (va : Int32), ∀ (H : Heap) (locs : List Loc), va_P (dC, dI) vwCl (wm_M cI top mo m1 m2 m3 m4 m5 m6 m7 mt cu kn vl ok ov fo pa fi va nd nk nv no) H → va_S (in_A [mo, m1, m2, m3, m4, m5, m6, m7]) s.heap H locs → ∀ ls : Array Slot, fq_resolve_99 kn vl x1 x2 x3 k25 x4 x5 z0 fo pa fi va = some v0 → lv_has ls 6 [(0, .ref mo), (1, .int x1), (2, .int x2), (3, .int x3), (4, .int x4), (5, .int x5)] → W p l e (headSpec wsX3_resolve rm_0_0).room s m ([.ref mo, .int x1, .int x2, .int x3] : List Value).toArray below meth c_ H locs 0 0 Q (F0 m 99 ls [.int z0, .ref mo]) := by
    intro k25 hk25
    intro x4 x5 z0 fo pa fi va H locs hP hS ls hf hl
    unfold fq_resolve_99 at hf
    refine va_put (D := (dC, dI)) (ci := 2) (v := .int z0) (ty := .int) (C := RX3) (T := TX3) (N := 15) hx hb hts hiX3 tyX3 tyX3_ok nmX3 hown hG.1 hP (dd_A hg rfl) hS 0 rfl rfl 7 (by decide) (hts _ (tw_in lk_202)) (fun _ h9 => h9) rfl (by decide +kernel) rfl rfl (Nat.le_of_ble_eq_true rfl) dX3_resolve_99 (fun H locs hP _ hS => ?_)
    have hP : va_P (dC, dI) vwCl (wm_M cI top mo m1 m2 m3 m4 m5 m6 m7 mt cu kn vl ok ov z0 pa fi va nd nk nv no) H := hP
    refine lv_aload_n hx hb dX3_resolve_102 rfl (lv_at hl 0 rfl) ?_
    refine lv_iload hx hb dX3_resolve_103 (lv_at hl 5 rfl) ?_
    refine lv_iconst (v := 1) hx hb dX3_resolve_105 (by decide) ?_
    refine lv_icmp_ne (tgt := 125) hx hb dX3_resolve_106 (by decide) (fun hc => ?_) (fun hc => ?_)
    · rw [if_neg hc] at hf
      refine lv_iconst (v := 0) hx hb dX3_resolve_125 (by decide) ?_
      exact B126 k25 hk25 x4 x5 0 z0 pa fi va H locs hP hS ls hf (lv_sub hl [0, 1, 2, 3, 4, 5] rfl)
    · rw [if_pos hc] at hf
      refine lv_aload_n hx hb dX3_resolve_109 rfl (lv_at hl 0 rfl) ?_
      refine va_get (D := (dC, dI)) (ci := 2) (v := .ref m2) (C := RX3) (T := TX3) (N := 15) hx hb hts hiX3 hown hG.1 hP 0 rfl rfl 4 (by decide) (hts _ (tw_in lk_203)) (fun _ h9 => h9) rfl dX3_resolve_110 ?_
      refine lv_sipush (v := 1296) hx hb dX3_resolve_113 (by decide) ?_
      refine lv_iload hx hb dX3_resolve_116 (lv_at hl 4 rfl) ?_
      refine lv_imul hx hb dX3_resolve_118 ?_
      refine lv_iload_n hx hb dX3_resolve_119 rfl (lv_at hl 1 rfl) ?_
      refine lv_iadd hx hb dX3_resolve_120 ?_
      obtain ⟨hq, hf⟩ := ck_s hf
      refine va_iald hx hb hG.1 hP 2 0 rfl rfl hq dX3_resolve_121 ?_
      refine lv_goto (tgt := 126) hx hb dX3_resolve_122 (by decide) ?_
      exact B126 k25 hk25 x4 x5 (vl ((1296 * x4) + x1).toNatClampNeg) z0 pa fi va H locs hP hS ls hf (lv_sub hl [0, 1, 2, 3, 4, 5] rfl)
  have B57 : ∀ (k25 : Int32 → Int32 → Int32 → Int32 → Int32 → Option (Int32 × Int32 × Int32 × Int32)) (hk25 : ∀ (x4 : Int32) (fo : Int32) (pa : Int32) (fi : Int32) (va : Int32), ∀ (H : Heap) (locs : List Loc), va_P (dC, dI) vwCl (wm_M cI top mo m1 m2 m3 m4 m5 m6 m7 mt cu kn vl ok ov fo pa fi va nd nk nv no) H → va_S (in_A [mo, m1, m2, m3, m4, m5, m6, m7]) s.heap H locs → ∀ ls : Array Slot, k25 x4 fo pa fi va = some v0 → lv_has ls 6 [(0, .ref mo), (1, .int x1), (2, .int x2), (3, .int x3), (4, .int x4)] → W p l e (headSpec wsX3_resolve rm_0_0).room s m ([.ref mo, .int x1, .int x2, .int x3] : List Value).toArray below meth c_ H locs 0 0 Q (F0 m 25 ls [])), ∀ (x4 : Int32) (z0 : Int32) (fo : Int32) (pa : Int32) (fi : Int32) (va : Int32), ∀ (H : Heap) (locs : List Loc), va_P (dC, dI) vwCl (wm_M cI top mo m1 m2 m3 m4 m5 m6 m7 mt cu kn vl ok ov fo pa fi va nd nk nv no) H → va_S (in_A [mo, m1, m2, m3, m4, m5, m6, m7]) s.heap H locs → ∀ ls : Array Slot, fq_resolve_57 kn vl x1 x2 x3 k25 x4 z0 fo pa fi va = some v0 → lv_has ls 6 [(0, .ref mo), (1, .int x1), (2, .int x2), (3, .int x3), (4, .int x4)] → W p l e (headSpec wsX3_resolve rm_0_0).room s m ([.ref mo, .int x1, .int x2, .int x3] : List Value).toArray below meth c_ H locs 0 0 Q (F0 m 57 ls [.int z0]) := by
    intro k25 hk25
    intro x4 z0 fo pa fi va H locs hP hS ls hf hl
    unfold fq_resolve_57 at hf
    refine lv_istore (lv' := [(5, .int z0), (0, .ref mo), (1, .int x1), (2, .int x2), (3, .int x3), (4, .int x4)]) hx hb dX3_resolve_57 hl (by decide) rfl (fun ls hl => ?_)
    refine lv_iload hx hb dX3_resolve_59 (lv_at hl 0 rfl) ?_
    refine lv_if_le (tgt := 129) hx hb dX3_resolve_61 (by decide) (fun hc => ?_) (fun hc => ?_)
    · rw [if_pos hc] at hf
      exact B129 k25 hk25 x4 z0 fo pa fi va H locs hP hS ls hf (lv_sub hl [1, 2, 3, 4, 5, 0] rfl)
    · rw [if_neg hc] at hf
      refine lv_aload_n hx hb dX3_resolve_64 rfl (lv_at hl 1 rfl) ?_
      refine va_get (D := (dC, dI)) (ci := 2) (v := .int fi) (C := RX3) (T := TX3) (N := 15) hx hb hts hiX3 hown hG.1 hP 0 rfl rfl 9 (by decide) (hts _ (tw_in lk_204)) (fun _ h9 => h9) rfl dX3_resolve_65 ?_
      refine lv_if_ge (tgt := 129) hx hb dX3_resolve_68 (by decide) (fun hc => ?_) (fun hc => ?_)
      · rw [if_pos hc] at hf
        exact B129 k25 hk25 x4 z0 fo pa fi va H locs hP hS ls hf (lv_sub hl [1, 2, 3, 4, 5, 0] rfl)
      · rw [if_neg hc] at hf
        refine lv_aload_n hx hb dX3_resolve_71 rfl (lv_at hl 1 rfl) ?_
        refine lv_iload hx hb dX3_resolve_72 (lv_at hl 5 rfl) ?_
        refine va_put (D := (dC, dI)) (ci := 2) (v := .int x4) (ty := .int) (C := RX3) (T := TX3) (N := 15) hx hb hts hiX3 tyX3 tyX3_ok nmX3 hown hG.1 hP (dd_A hg rfl) hS 0 rfl rfl 9 (by decide) (hts _ (tw_in lk_204)) (fun _ h9 => h9) rfl (by decide +kernel) rfl rfl (Nat.le_of_ble_eq_true rfl) dX3_resolve_74 (fun H locs hP _ hS => ?_)
        have hP : va_P (dC, dI) vwCl (wm_M cI top mo m1 m2 m3 m4 m5 m6 m7 mt cu kn vl ok ov fo pa x4 va nd nk nv no) H := hP
        refine lv_aload_n hx hb dX3_resolve_77 rfl (lv_at hl 1 rfl) ?_
        refine lv_iload hx hb dX3_resolve_78 (lv_at hl 0 rfl) ?_
        refine lv_iconst (v := 1) hx hb dX3_resolve_80 (by decide) ?_
        refine lv_icmp_ne (tgt := 88) hx hb dX3_resolve_81 (by decide) (fun hc => ?_) (fun hc => ?_)
        · rw [if_neg hc] at hf
          refine lv_iload hx hb dX3_resolve_88 (lv_at hl 0 rfl) ?_
          refine lv_iconst (v := 4) hx hb dX3_resolve_90 (by decide) ?_
          refine lv_icmp_ne (tgt := 98) hx hb dX3_resolve_91 (by decide) (fun hc => ?_) (fun hc => ?_)
          · rw [if_neg hc] at hf
            refine lv_iconst (v := 2) hx hb dX3_resolve_98 (by decide) ?_
            exact B99 k25 hk25 x4 z0 2 fo pa x4 va H locs hP hS ls hf (lv_sub hl [1, 2, 3, 4, 5, 0] rfl)
          · rw [if_pos hc] at hf
            refine lv_iconst (v := 0) hx hb dX3_resolve_94 (by decide) ?_
            refine lv_goto (tgt := 99) hx hb dX3_resolve_95 (by decide) ?_
            exact B99 k25 hk25 x4 z0 0 fo pa x4 va H locs hP hS ls hf (lv_sub hl [1, 2, 3, 4, 5, 0] rfl)
        · rw [if_pos hc] at hf
          refine lv_iconst (v := 1) hx hb dX3_resolve_84 (by decide) ?_
          refine lv_goto (tgt := 99) hx hb dX3_resolve_85 (by decide) ?_
          exact B99 k25 hk25 x4 z0 1 fo pa x4 va H locs hP hS ls hf (lv_sub hl [1, 2, 3, 4, 5, 0] rfl)
  have B25 : ∀ n : Nat, ∀ (x4 : Int32) (fo : Int32) (pa : Int32) (fi : Int32) (va : Int32), ∀ (H : Heap) (locs : List Loc), va_P (dC, dI) vwCl (wm_M cI top mo m1 m2 m3 m4 m5 m6 m7 mt cu kn vl ok ov fo pa fi va nd nk nv no) H → va_S (in_A [mo, m1, m2, m3, m4, m5, m6, m7]) s.heap H locs → ∀ ls : Array Slot, fq_resolve_25 kn vl x1 x2 x3 n x4 fo pa fi va = some v0 → lv_has ls 6 [(0, .ref mo), (1, .int x1), (2, .int x2), (3, .int x3), (4, .int x4)] → W p l e (headSpec wsX3_resolve rm_0_0).room s m ([.ref mo, .int x1, .int x2, .int x3] : List Value).toArray below meth c_ H locs 0 0 Q (F0 m 25 ls []) := by
    intro n
    induction n with
    | zero => 
      intro x4 fo pa fi va H locs hP hS ls hf hl
      exact nomatch (show (none : Option (Int32 × Int32 × Int32 × Int32)) = some v0 from hf)
    | succ n ih =>
      intro x4 fo pa fi va H locs hP hS ls hf hl
      rw [fq_resolve_25.eq_2] at hf
      try dsimp only at hf
      refine lv_iload hx hb dX3_resolve_25 (lv_at hl 4 rfl) ?_
      refine lv_if_lt (tgt := 173) hx hb dX3_resolve_27 (by decide) (fun hc => ?_) (fun hc => ?_)
      · rw [if_pos hc] at hf
        obtain rfl := Option.some.inj hf
        rw [hQ]
        exact im_vret hx hb hr hS hP dX3_resolve_173 hlocks
      · rw [if_neg hc] at hf
        refine lv_iload_n hx hb dX3_resolve_30 rfl (lv_at hl 2 rfl) ?_
        refine lv_iload hx hb dX3_resolve_31 (lv_at hl 4 rfl) ?_
        refine lv_ishr hx hb dX3_resolve_33 ?_
        refine lv_iconst (v := 1) hx hb dX3_resolve_34 (by decide) ?_
        refine lv_iand hx hb dX3_resolve_35 ?_
        refine lv_iconst (v := 1) hx hb dX3_resolve_36 (by decide) ?_
        refine lv_icmp_ne (tgt := 56) hx hb dX3_resolve_37 (by decide) (fun hc => ?_) (fun hc => ?_)
        · rw [if_neg hc] at hf
          refine lv_iconst (v := 0) hx hb dX3_resolve_56 (by decide) ?_
          exact B57 (fq_resolve_25 kn vl x1 x2 x3 n) ih x4 0 fo pa fi va H locs hP hS ls hf (lv_sub hl [0, 1, 2, 3, 4] rfl)
        · rw [if_pos hc] at hf
          refine lv_aload_n hx hb dX3_resolve_40 rfl (lv_at hl 0 rfl) ?_
          refine va_get (D := (dC, dI)) (ci := 2) (v := .ref m1) (C := RX3) (T := TX3) (N := 15) hx hb hts hiX3 hown hG.1 hP 0 rfl rfl 3 (by decide) (hts _ (tw_in lk_205)) (fun _ h9 => h9) rfl dX3_resolve_41 ?_
          refine lv_sipush (v := 1296) hx hb dX3_resolve_44 (by decide) ?_
          refine lv_iload hx hb dX3_resolve_47 (lv_at hl 4 rfl) ?_
          refine lv_imul hx hb dX3_resolve_49 ?_
          refine lv_iload_n hx hb dX3_resolve_50 rfl (lv_at hl 1 rfl) ?_
          refine lv_iadd hx hb dX3_resolve_51 ?_
          obtain ⟨hq, hf⟩ := ck_s hf
          refine va_iald hx hb hG.1 hP 1 0 rfl rfl hq dX3_resolve_52 ?_
          refine lv_goto (tgt := 57) hx hb dX3_resolve_53 (by decide) ?_
          exact B57 (fq_resolve_25 kn vl x1 x2 x3 n) ih x4 (kn ((1296 * x4) + x1).toNatClampNeg) fo pa fi va H locs hP hS ls hf (lv_sub hl [0, 1, 2, 3, 4] rfl)
  unfold fq_resolve at h
  have hgo : ∀ (H : Heap) (locs : List Loc), va_P (dC, dI) vwCl (wm_M cI top mo m1 m2 m3 m4 m5 m6 m7 mt cu kn vl ok ov fo pa fi va nd nk nv no) H → va_S (in_A [mo, m1, m2, m3, m4, m5, m6, m7]) s.heap H locs → W p l e (headSpec wsX3_resolve rm_0_0).room s m ([.ref mo, .int x1, .int x2, .int x3] : List Value).toArray below meth c_ H locs 0 0 Q (F0 m 0 ls []) := by
    intro H locs hP hS
    have hf := h
    refine lv_aload_n hx hb dX3_resolve_0 rfl (lv_at hl 0 rfl) ?_
    refine lv_iconst (v := 0) hx hb dX3_resolve_1 (by decide) ?_
    refine va_put (D := (dC, dI)) (ci := 2) (v := .int 0) (ty := .int) (C := RX3) (T := TX3) (N := 15) hx hb hts hiX3 tyX3 tyX3_ok nmX3 hown hG.1 hP (dd_A hg rfl) hS 0 rfl rfl 7 (by decide) (hts _ (tw_in lk_202)) (fun _ h9 => h9) rfl (by decide +kernel) rfl rfl (Nat.le_of_ble_eq_true rfl) dX3_resolve_2 (fun H locs hP _ hS => ?_)
    have hP : va_P (dC, dI) vwCl (wm_M cI top mo m1 m2 m3 m4 m5 m6 m7 mt cu kn vl ok ov 0 pa fi va nd nk nv no) H := hP
    refine lv_aload_n hx hb dX3_resolve_5 rfl (lv_at hl 0 rfl) ?_
    refine lv_iconst (v := 0) hx hb dX3_resolve_6 (by decide) ?_
    refine va_put (D := (dC, dI)) (ci := 2) (v := .int 0) (ty := .int) (C := RX3) (T := TX3) (N := 15) hx hb hts hiX3 tyX3 tyX3_ok nmX3 hown hG.1 hP (dd_A hg rfl) hS 0 rfl rfl 8 (by decide) (hts _ (tw_in lk_200)) (fun _ h9 => h9) rfl (by decide +kernel) rfl rfl (Nat.le_of_ble_eq_true rfl) dX3_resolve_7 (fun H locs hP _ hS => ?_)
    have hP : va_P (dC, dI) vwCl (wm_M cI top mo m1 m2 m3 m4 m5 m6 m7 mt cu kn vl ok ov 0 0 fi va nd nk nv no) H := hP
    refine lv_aload_n hx hb dX3_resolve_10 rfl (lv_at hl 0 rfl) ?_
    refine lv_iconst (v := (-1)) hx hb dX3_resolve_11 (by decide) ?_
    refine va_put (D := (dC, dI)) (ci := 2) (v := .int (-1)) (ty := .int) (C := RX3) (T := TX3) (N := 15) hx hb hts hiX3 tyX3 tyX3_ok nmX3 hown hG.1 hP (dd_A hg rfl) hS 0 rfl rfl 9 (by decide) (hts _ (tw_in lk_204)) (fun _ h9 => h9) rfl (by decide +kernel) rfl rfl (Nat.le_of_ble_eq_true rfl) dX3_resolve_12 (fun H locs hP _ hS => ?_)
    have hP : va_P (dC, dI) vwCl (wm_M cI top mo m1 m2 m3 m4 m5 m6 m7 mt cu kn vl ok ov 0 0 (-1) va nd nk nv no) H := hP
    refine lv_aload_n hx hb dX3_resolve_15 rfl (lv_at hl 0 rfl) ?_
    refine lv_iconst (v := 0) hx hb dX3_resolve_16 (by decide) ?_
    refine va_put (D := (dC, dI)) (ci := 2) (v := .int 0) (ty := .int) (C := RX3) (T := TX3) (N := 15) hx hb hts hiX3 tyX3 tyX3_ok nmX3 hown hG.1 hP (dd_A hg rfl) hS 0 rfl rfl 10 (by decide) (hts _ (tw_in lk_201)) (fun _ h9 => h9) rfl (by decide +kernel) rfl rfl (Nat.le_of_ble_eq_true rfl) dX3_resolve_17 (fun H locs hP _ hS => ?_)
    have hP : va_P (dC, dI) vwCl (wm_M cI top mo m1 m2 m3 m4 m5 m6 m7 mt cu kn vl ok ov 0 0 (-1) 0 nd nk nv no) H := hP
    refine lv_iload_n hx hb dX3_resolve_20 rfl (lv_at hl 3 rfl) ?_
    refine lv_iconst (v := 1) hx hb dX3_resolve_21 (by decide) ?_
    refine lv_isub hx hb dX3_resolve_22 ?_
    refine lv_istore (lv' := [(4, .int (x3 - 1)), (0, .ref mo), (1, .int x1), (2, .int x2), (3, .int x3)]) hx hb dX3_resolve_23 hl (by decide) rfl (fun ls hl => ?_)
    exact B25 fu_n (x3 - 1) 0 0 (-1) 0 H locs hP hS ls hf (lv_sub hl [1, 2, 3, 4, 0] rfl)
  exact hgo s.heap [] hP va_S.rf
set_option maxHeartbeats 4000000 in
set_option maxRecDepth 100000 in
theorem cq_look (l : Launch) (dC : Nat → ClassId) (dI : Nat → Nat → Nat) (cI cQ : ClassId) (t1 t2 bs : Nat) (top mo m1 m2 m3 m4 m5 m6 m7 : Nat) (hg : gd_A bs [mo, m1, m2, m3, m4, m5, m6, m7]) (mt : Int32) (cu : Int32) (kn : Nat → Int32) (vl : Nat → Int32) (ok : Nat → Int32) (ov : Nat → Int32) (fo : Int32) (pa : Int32) (fi : Int32) (va : Int32) (nd : Nat → Int32) (nk : Nat → Int32) (nv : Nat → Int32) (no : Int32) (x1 : Int32) (v0 : Int32 × Int32 × Int32 × Int32) (h : fq_look top kn vl fo pa fi va x1 = some v0) : im_V l yX3_look wsX3_look rm_1_25 [.ref mo, .int x1] (gk_G dC dI cI cQ t1 t2 bs (wm_M cI top mo m1 m2 m3 m4 m5 m6 m7 mt cu kn vl ok ov fo pa fi va nd nk nv no)) (va_P (dC, dI) vwCl (wm_M cI top mo m1 m2 m3 m4 m5 m6 m7 mt cu kn vl ok ov v0.1 v0.2.1 v0.2.2.1 v0.2.2.2 nd nk nv no)) (in_A [mo, m1, m2, m3, m4, m5, m6, m7]) := by
  intro sz
  refine Met.ofW (cc := cX3_look) (maxL := 4) (ret := none) (by decide) rfl ?_
  intro p e s m args below meth c_ s₁ B hml hv
  obtain ⟨rfl, hsz, hG, hP⟩ := hv
  have hx := B.exec
  have hb := B.bytes
  have hr := B.returns
  have hts := atoms_spec (ws := wsX3_look) B.pre
  have hown : s.vm.findClass RX3 = some m.cls := findClass_of_methodNamed B.named
  have hlocks := B.notSynchronized
  have hiX3 : ∀ w ∈ u_ws RX3 TX3 15, w ∈ wsX3_look := fun w hw => tw_in (usX3 w hw)
  have hl := lv_entry ([.ref mo, .int x1]) (n := 4) (Nat.le_of_ble_eq_true rfl)
  rw [lg_entry_eq]
  generalize (lg_sl ([.ref mo, .int x1]) ++ List.replicate (4 - (lg_sl ([.ref mo, .int x1])).length) Slot.unset).toArray = ls at hl ⊢
  have hl : lv_has ls 4 [(0, .ref mo), (1, .int x1)] := hl
  refine nm_Q (fun Q hQ => ?_)
  have B51 : ∀ (k31 : Int32 → Int32 → Int32 → Int32 → Int32 → Option (Int32 × Int32 × Int32 × Int32)) (hk31 : ∀ (x2 : Int32) (fo : Int32) (pa : Int32) (fi : Int32) (va : Int32), ∀ (H : Heap) (locs : List Loc), va_P (dC, dI) vwCl (wm_M cI top mo m1 m2 m3 m4 m5 m6 m7 mt cu kn vl ok ov fo pa fi va nd nk nv no) H → va_S (in_A [mo, m1, m2, m3, m4, m5, m6, m7]) s.heap H locs → ∀ ls : Array Slot, k31 x2 fo pa fi va = some v0 → lv_has ls 4 [(0, .ref mo), (1, .int x1), (2, .int x2)] → W p l e (headSpec wsX3_look rm_1_25).room s m ([.ref mo, .int x1] : List Value).toArray below meth c_ H locs 0 0 Q (F0 m 31 ls [])), ∀ (x2 : Int32) (z0 : Int32) (fo : Int32) (pa : Int32) (fi : Int32) (va : Int32), ∀ (H : Heap) (locs : List Loc), va_P (dC, dI) vwCl (wm_M cI top mo m1 m2 m3 m4 m5 m6 m7 mt cu kn vl ok ov fo pa fi va nd nk nv no) H → va_S (in_A [mo, m1, m2, m3, m4, m5, m6, m7]) s.heap H locs → ∀ ls : Array Slot, fq_look_51 top kn vl x1 k31 x2 z0 fo pa fi va = some v0 → lv_has ls 4 [(0, .ref mo), (1, .int x1), (2, .int x2)] → W p l e (headSpec wsX3_look rm_1_25).room s m ([.ref mo, .int x1] : List Value).toArray below meth c_ H locs 0 0 Q (F0 m 51 ls [.int z0]) := by
    intro k31 hk31
    intro x2 z0 fo pa fi va H locs hP hS ls hf hl
    unfold fq_look_51 at hf
    refine lv_istore_n (lv' := [(3, .int z0), (0, .ref mo), (1, .int x1), (2, .int x2)]) hx hb dX3_look_51 rfl hl (by decide) rfl (fun ls hl => ?_)
    refine lv_aload_n hx hb dX3_look_52 rfl (lv_at hl 1 rfl) ?_
    refine lv_iload_n hx hb dX3_look_53 rfl (lv_at hl 2 rfl) ?_
    refine lv_iload_n hx hb dX3_look_54 rfl (lv_at hl 3 rfl) ?_
    obtain ⟨r1, e2, hf⟩ := ob_s hf
    try dsimp only at hf
    refine pu_calli (va_runS (As := [.int x1, .int x2]) (rest := [.ref mo]) ⟨hx, hb, hml, hown, hts⟩ (cq_without l dC dI cI cQ t1 t2 bs x1 x2 r1 e2 H.size) (va_cwS 2 hts (gs_S lk_197 lk_199 lk_194 lk_198) rfl rfl rfl (by decide +kernel) ⟨Nat.le_of_ble_eq_true rfl, Nat.le_of_ble_eq_true rfl⟩) (pr_S gk_W ⟨(gk_S hG hS (bb_A hg)), pz_0⟩) rfl rfl hl.1 rfl (lv_room (Nat.le_of_ble_eq_true rfl)) dX3_look_55 ⟨Nat.zero_le _, Nat.zero_le _⟩) ?_
    refine lv_iload_n hx hb dX3_look_58 rfl (lv_at hl 0 rfl) ?_
    refine lv_aload_n hx hb dX3_look_59 rfl (lv_at hl 1 rfl) ?_
    refine va_get (D := (dC, dI)) (ci := 2) (v := .int (nI top)) (C := RX3) (T := TX3) (N := 15) hx hb hts hiX3 hown hG.1 hP 0 rfl rfl 0 (by decide) (hts _ (tw_in lk_206)) (fun _ h9 => h9) rfl dX3_look_60 ?_
    refine lv_iconst (v := 1) hx hb dX3_look_63 (by decide) ?_
    refine lv_iadd hx hb dX3_look_64 ?_
    obtain ⟨r3, e4, hf⟩ := ob_s hf
    try dsimp only at hf
    refine im_callv (va_runV (As := [.int r1, .int z0, .int ((nI top) + 1)]) (rest := []) ⟨hx, hb, hml, hown, hts⟩ (cq_resolve l dC dI cI cQ t1 t2 bs top mo m1 m2 m3 m4 m5 m6 m7 hg mt cu kn vl ok ov fo pa fi va nd nk nv no r1 z0 ((nI top) + 1) r3 e4 H.size) (cwV 3 hts (gs_V lk_207 lk_209 lk_210 lk_194 lk_208) rfl rfl rfl (by decide +kernel) ⟨Nat.le_of_ble_eq_true rfl, Nat.le_of_ble_eq_true rfl⟩) (pr_V gk_W (va_recv hG.1 hP (q0 := 0) rfl rfl) ⟨(gk_S hG hS (bb_A hg)), hP⟩) rfl rfl hl.1 rfl (lv_room (Nat.le_of_ble_eq_true rfl)) dX3_look_65 ⟨Nat.zero_le _, Nat.zero_le _⟩) hS (fun _ h => h) (fun H locs hP1 hk1 hS => ?_)
    have hP : va_P (dC, dI) vwCl (wm_M cI top mo m1 m2 m3 m4 m5 m6 m7 mt cu kn vl ok ov r3.1 r3.2.1 r3.2.2.1 r3.2.2.2 nd nk nv no) H := hP1
    refine lv_iinc (k := 3) (v := x2 + (-1)) (lv' := [(2, .int (x2 + (-1))), (3, .int z0), (0, .ref mo), (1, .int x1)]) hx hb dX3_look_68 hl rfl (by rfl) (by decide) rfl (fun ls hl => ?_)
    refine lv_goto (tgt := 31) hx hb dX3_look_71 (by decide) ?_
    exact hk31 (x2 + (-1)) r3.1 r3.2.1 r3.2.2.1 r3.2.2.2 H locs hP hS ls hf (lv_sub hl [2, 3, 0] rfl)
  have B31 : ∀ n : Nat, ∀ (x2 : Int32) (fo : Int32) (pa : Int32) (fi : Int32) (va : Int32), ∀ (H : Heap) (locs : List Loc), va_P (dC, dI) vwCl (wm_M cI top mo m1 m2 m3 m4 m5 m6 m7 mt cu kn vl ok ov fo pa fi va nd nk nv no) H → va_S (in_A [mo, m1, m2, m3, m4, m5, m6, m7]) s.heap H locs → ∀ ls : Array Slot, fq_look_31 top kn vl x1 n x2 fo pa fi va = some v0 → lv_has ls 4 [(0, .ref mo), (1, .int x1), (2, .int x2)] → W p l e (headSpec wsX3_look rm_1_25).room s m ([.ref mo, .int x1] : List Value).toArray below meth c_ H locs 0 0 Q (F0 m 31 ls []) := by
    intro n
    induction n with
    | zero => 
      intro x2 fo pa fi va H locs hP hS ls hf hl
      exact nomatch (show (none : Option (Int32 × Int32 × Int32 × Int32)) = some v0 from hf)
    | succ n ih =>
      intro x2 fo pa fi va H locs hP hS ls hf hl
      rw [fq_look_31.eq_2] at hf
      try dsimp only at hf
      refine lv_iload_n hx hb dX3_look_31 rfl (lv_at hl 2 rfl) ?_
      refine lv_if_lt (tgt := 74) hx hb dX3_look_32 (by decide) (fun hc => ?_) (fun hc => ?_)
      · rw [if_pos hc] at hf
        obtain rfl := Option.some.inj hf
        rw [hQ]
        exact im_vret hx hb hr hS hP dX3_look_74 hlocks
      · rw [if_neg hc] at hf
        refine lv_aload_n hx hb dX3_look_35 rfl (lv_at hl 0 rfl) ?_
        refine va_get (D := (dC, dI)) (ci := 2) (v := .int fo) (C := RX3) (T := TX3) (N := 15) hx hb hts hiX3 hown hG.1 hP 0 rfl rfl 7 (by decide) (hts _ (tw_in lk_202)) (fun _ h9 => h9) rfl dX3_look_36 ?_
        refine lv_iconst (v := 2) hx hb dX3_look_39 (by decide) ?_
        refine lv_icmp_ne (tgt := 50) hx hb dX3_look_40 (by decide) (fun hc => ?_) (fun hc => ?_)
        · rw [if_neg hc] at hf
          refine lv_iconst (v := 0) hx hb dX3_look_50 (by decide) ?_
          exact B51 (fq_look_31 top kn vl x1 n) ih x2 0 fo pa fi va H locs hP hS ls hf (lv_sub hl [0, 1, 2] rfl)
        · rw [if_pos hc] at hf
          refine lv_aload_n hx hb dX3_look_43 rfl (lv_at hl 0 rfl) ?_
          refine va_get (D := (dC, dI)) (ci := 2) (v := .int pa) (C := RX3) (T := TX3) (N := 15) hx hb hts hiX3 hown hG.1 hP 0 rfl rfl 8 (by decide) (hts _ (tw_in lk_200)) (fun _ h9 => h9) rfl dX3_look_44 ?_
          refine lv_goto (tgt := 51) hx hb dX3_look_47 (by decide) ?_
          exact B51 (fq_look_31 top kn vl x1 n) ih x2 pa fo pa fi va H locs hP hS ls hf (lv_sub hl [0, 1, 2] rfl)
  unfold fq_look at h
  have hgo : ∀ (H : Heap) (locs : List Loc), va_P (dC, dI) vwCl (wm_M cI top mo m1 m2 m3 m4 m5 m6 m7 mt cu kn vl ok ov fo pa fi va nd nk nv no) H → va_S (in_A [mo, m1, m2, m3, m4, m5, m6, m7]) s.heap H locs → W p l e (headSpec wsX3_look rm_1_25).room s m ([.ref mo, .int x1] : List Value).toArray below meth c_ H locs 0 0 Q (F0 m 0 ls []) := by
    intro H locs hP hS
    have hf := h
    refine lv_aload_n hx hb dX3_look_0 rfl (lv_at hl 0 rfl) ?_
    refine lv_iconst (v := 2) hx hb dX3_look_1 (by decide) ?_
    refine va_put (D := (dC, dI)) (ci := 2) (v := .int 2) (ty := .int) (C := RX3) (T := TX3) (N := 15) hx hb hts hiX3 tyX3 tyX3_ok nmX3 hown hG.1 hP (dd_A hg rfl) hS 0 rfl rfl 7 (by decide) (hts _ (tw_in lk_202)) (fun _ h9 => h9) rfl (by decide +kernel) rfl rfl (Nat.le_of_ble_eq_true rfl) dX3_look_2 (fun H locs hP _ hS => ?_)
    have hP : va_P (dC, dI) vwCl (wm_M cI top mo m1 m2 m3 m4 m5 m6 m7 mt cu kn vl ok ov 2 pa fi va nd nk nv no) H := hP
    refine lv_aload_n hx hb dX3_look_5 rfl (lv_at hl 0 rfl) ?_
    refine lv_iconst (v := 1) hx hb dX3_look_6 (by decide) ?_
    refine lv_aload_n hx hb dX3_look_7 rfl (lv_at hl 0 rfl) ?_
    refine va_get (D := (dC, dI)) (ci := 2) (v := .int (nI top)) (C := RX3) (T := TX3) (N := 15) hx hb hts hiX3 hown hG.1 hP 0 rfl rfl 0 (by decide) (hts _ (tw_in lk_206)) (fun _ h9 => h9) rfl dX3_look_8 ?_
    refine lv_iconst (v := 1) hx hb dX3_look_11 (by decide) ?_
    refine lv_iadd hx hb dX3_look_12 ?_
    refine lv_ishl hx hb dX3_look_13 ?_
    refine lv_iconst (v := 1) hx hb dX3_look_14 (by decide) ?_
    refine lv_isub hx hb dX3_look_15 ?_
    refine va_put (D := (dC, dI)) (ci := 2) (v := .int ((1 <<< (((nI top) + 1) &&& 31)) - 1)) (ty := .int) (C := RX3) (T := TX3) (N := 15) hx hb hts hiX3 tyX3 tyX3_ok nmX3 hown hG.1 hP (dd_A hg rfl) hS 0 rfl rfl 8 (by decide) (hts _ (tw_in lk_200)) (fun _ h9 => h9) rfl (by decide +kernel) rfl rfl (Nat.le_of_ble_eq_true rfl) dX3_look_16 (fun H locs hP _ hS => ?_)
    have hP : va_P (dC, dI) vwCl (wm_M cI top mo m1 m2 m3 m4 m5 m6 m7 mt cu kn vl ok ov 2 ((1 <<< (((nI top) + 1) &&& 31)) - 1) fi va nd nk nv no) H := hP
    refine lv_aload_n hx hb dX3_look_19 rfl (lv_at hl 0 rfl) ?_
    refine lv_iconst (v := (-1)) hx hb dX3_look_20 (by decide) ?_
    refine va_put (D := (dC, dI)) (ci := 2) (v := .int (-1)) (ty := .int) (C := RX3) (T := TX3) (N := 15) hx hb hts hiX3 tyX3 tyX3_ok nmX3 hown hG.1 hP (dd_A hg rfl) hS 0 rfl rfl 9 (by decide) (hts _ (tw_in lk_204)) (fun _ h9 => h9) rfl (by decide +kernel) rfl rfl (Nat.le_of_ble_eq_true rfl) dX3_look_21 (fun H locs hP _ hS => ?_)
    have hP : va_P (dC, dI) vwCl (wm_M cI top mo m1 m2 m3 m4 m5 m6 m7 mt cu kn vl ok ov 2 ((1 <<< (((nI top) + 1) &&& 31)) - 1) (-1) va nd nk nv no) H := hP
    refine lv_iload_n hx hb dX3_look_24 rfl (lv_at hl 1 rfl) ?_
    obtain ⟨r5, e6, hf⟩ := ob_s hf
    try dsimp only at hf
    refine pu_calli (va_runS (As := [.int x1]) (rest := []) ⟨hx, hb, hml, hown, hts⟩ (cq_depth l dC dI cI cQ t1 t2 bs x1 r5 e6 H.size) (va_cwS 1 hts (gs_S lk_193 lk_196 lk_194 lk_195) rfl rfl rfl (by decide +kernel) ⟨Nat.le_of_ble_eq_true rfl, Nat.le_of_ble_eq_true rfl⟩) (pr_S gk_W ⟨(gk_S hG hS (bb_A hg)), pz_0⟩) rfl rfl hl.1 rfl (lv_room (Nat.le_of_ble_eq_true rfl)) dX3_look_25 ⟨Nat.zero_le _, Nat.zero_le _⟩) ?_
    refine lv_iconst (v := 1) hx hb dX3_look_28 (by decide) ?_
    refine lv_isub hx hb dX3_look_29 ?_
    refine lv_istore_n (lv' := [(2, .int (r5 - 1)), (0, .ref mo), (1, .int x1)]) hx hb dX3_look_30 rfl hl (by decide) rfl (fun ls hl => ?_)
    exact B31 fu_n (r5 - 1) 2 ((1 <<< (((nI top) + 1) &&& 31)) - 1) (-1) va H locs hP hS ls hf (lv_sub hl [1, 2, 0] rfl)
  exact hgo s.heap [] hP va_S.rf
set_option maxHeartbeats 4000000 in
set_option maxRecDepth 100000 in
theorem cq_isCovered (l : Launch) (dC : Nat → ClassId) (dI : Nat → Nat → Nat) (cI cQ : ClassId) (t1 t2 bs : Nat) (top mo m1 m2 m3 m4 m5 m6 m7 : Nat) (hg : gd_A bs [mo, m1, m2, m3, m4, m5, m6, m7]) (mt : Int32) (cu : Int32) (kn : Nat → Int32) (vl : Nat → Int32) (ok : Nat → Int32) (ov : Nat → Int32) (fo : Int32) (pa : Int32) (fi : Int32) (va : Int32) (nd : Nat → Int32) (nk : Nat → Int32) (nv : Nat → Int32) (no : Int32) (x1 : Int32) (v0 : Int32 × Int32 × Int32 × Int32 × Int32) (h : fq_isCovered top kn vl fo pa fi va x1 = some v0) : im_I l yX3_isCovered wsX3_isCovered rm_2_48 [.ref mo, .int x1] (gk_G dC dI cI cQ t1 t2 bs (wm_M cI top mo m1 m2 m3 m4 m5 m6 m7 mt cu kn vl ok ov fo pa fi va nd nk nv no)) v0.1 (va_P (dC, dI) vwCl (wm_M cI top mo m1 m2 m3 m4 m5 m6 m7 mt cu kn vl ok ov v0.2.1 v0.2.2.1 v0.2.2.2.1 v0.2.2.2.2 nd nk nv no)) (in_A [mo, m1, m2, m3, m4, m5, m6, m7]) := by
  intro sz
  refine Met.ofW (cc := cX3_isCovered) (maxL := 3) (ret := (some .boolean)) (by decide) rfl ?_
  intro p e s m args below meth c_ s₁ B hml hv
  obtain ⟨rfl, hsz, hG, hP⟩ := hv
  have hx := B.exec
  have hb := B.bytes
  have hr := B.returns
  have hts := atoms_spec (ws := wsX3_isCovered) B.pre
  have hown : s.vm.findClass RX3 = some m.cls := findClass_of_methodNamed B.named
  have hlocks := B.notSynchronized
  have hiX3 : ∀ w ∈ u_ws RX3 TX3 15, w ∈ wsX3_isCovered := fun w hw => tw_in (usX3 w hw)
  have hl := lv_entry ([.ref mo, .int x1]) (n := 3) (Nat.le_of_ble_eq_true rfl)
  rw [lg_entry_eq]
  generalize (lg_sl ([.ref mo, .int x1]) ++ List.replicate (3 - (lg_sl ([.ref mo, .int x1])).length) Slot.unset).toArray = ls at hl ⊢
  have hl : lv_has ls 3 [(0, .ref mo), (1, .int x1)] := hl
  refine nm_Q (fun Q hQ => ?_)
  have B24 : ∀ (z0 : Int32) (fo : Int32) (pa : Int32) (fi : Int32) (va : Int32), ∀ (H : Heap) (locs : List Loc), va_P (dC, dI) vwCl (wm_M cI top mo m1 m2 m3 m4 m5 m6 m7 mt cu kn vl ok ov fo pa fi va nd nk nv no) H → va_S (in_A [mo, m1, m2, m3, m4, m5, m6, m7]) s.heap H locs → ∀ ls : Array Slot, fq_isCovered_24 top kn vl x1 z0 fo pa fi va = some v0 → lv_has ls 3 [(0, .ref mo), (1, .int x1)] → W p l e (headSpec wsX3_isCovered rm_2_48).room s m ([.ref mo, .int x1] : List Value).toArray below meth c_ H locs 0 0 Q (F0 m 24 ls [.int z0]) := by
    intro z0 fo pa fi va H locs hP hS ls hf hl
    unfold fq_isCovered_24 at hf
    refine lv_istore_n (lv' := [(2, .int z0), (0, .ref mo), (1, .int x1)]) hx hb dX3_isCovered_24 rfl hl (by decide) rfl (fun ls hl => ?_)
    refine lv_aload_n hx hb dX3_isCovered_25 rfl (lv_at hl 1 rfl) ?_
    refine lv_iload_n hx hb dX3_isCovered_26 rfl (lv_at hl 2 rfl) ?_
    refine lv_iload_n hx hb dX3_isCovered_27 rfl (lv_at hl 0 rfl) ?_
    refine lv_aload_n hx hb dX3_isCovered_28 rfl (lv_at hl 1 rfl) ?_
    refine va_get (D := (dC, dI)) (ci := 2) (v := .int (nI top)) (C := RX3) (T := TX3) (N := 15) hx hb hts hiX3 hown hG.1 hP 0 rfl rfl 0 (by decide) (hts _ (tw_in lk_206)) (fun _ h9 => h9) rfl dX3_isCovered_29 ?_
    obtain ⟨r1, e2, hf⟩ := ob_s hf
    try dsimp only at hf
    refine im_callv (va_runV (As := [.int x1, .int z0, .int (nI top)]) (rest := []) ⟨hx, hb, hml, hown, hts⟩ (cq_resolve l dC dI cI cQ t1 t2 bs top mo m1 m2 m3 m4 m5 m6 m7 hg mt cu kn vl ok ov fo pa fi va nd nk nv no x1 z0 (nI top) r1 e2 H.size) (cwV 3 hts (gs_V lk_207 lk_209 lk_210 lk_194 lk_208) rfl rfl rfl (by decide +kernel) ⟨Nat.le_of_ble_eq_true rfl, Nat.le_of_ble_eq_true rfl⟩) (pr_V gk_W (va_recv hG.1 hP (q0 := 0) rfl rfl) ⟨(gk_S hG hS (bb_A hg)), hP⟩) rfl rfl hl.1 rfl (lv_room (Nat.le_of_ble_eq_true rfl)) dX3_isCovered_32 ⟨Nat.zero_le _, Nat.zero_le _⟩) hS (fun _ h => h) (fun H locs hP1 hk1 hS => ?_)
    have hP : va_P (dC, dI) vwCl (wm_M cI top mo m1 m2 m3 m4 m5 m6 m7 mt cu kn vl ok ov r1.1 r1.2.1 r1.2.2.1 r1.2.2.2 nd nk nv no) H := hP1
    refine lv_aload_n hx hb dX3_isCovered_35 rfl (lv_at hl 1 rfl) ?_
    refine va_get (D := (dC, dI)) (ci := 2) (v := .int r1.1) (C := RX3) (T := TX3) (N := 15) hx hb hts hiX3 hown hG.1 hP 0 rfl rfl 7 (by decide) (hts _ (tw_in lk_202)) (fun _ h9 => h9) rfl dX3_isCovered_36 ?_
    refine lv_if_le (tgt := 46) hx hb dX3_isCovered_39 (by decide) (fun hc => ?_) (fun hc => ?_)
    · rw [if_pos hc] at hf
      refine lv_iconst (v := 0) hx hb dX3_isCovered_46 (by decide) ?_
      obtain rfl := Option.some.inj hf
      rw [hQ]
      exact im_iret hx hb hr (nb_0) hS hP dX3_isCovered_47 hlocks
    · rw [if_neg hc] at hf
      refine lv_iconst (v := 1) hx hb dX3_isCovered_42 (by decide) ?_
      refine lv_goto (tgt := 47) hx hb dX3_isCovered_43 (by decide) ?_
      obtain rfl := Option.some.inj hf
      rw [hQ]
      exact im_iret hx hb hr (nb_1) hS hP dX3_isCovered_47 hlocks
  unfold fq_isCovered at h
  have hgo : ∀ (H : Heap) (locs : List Loc), va_P (dC, dI) vwCl (wm_M cI top mo m1 m2 m3 m4 m5 m6 m7 mt cu kn vl ok ov fo pa fi va nd nk nv no) H → va_S (in_A [mo, m1, m2, m3, m4, m5, m6, m7]) s.heap H locs → W p l e (headSpec wsX3_isCovered rm_2_48).room s m ([.ref mo, .int x1] : List Value).toArray below meth c_ H locs 0 0 Q (F0 m 0 ls []) := by
    intro H locs hP hS
    have hf := h
    refine lv_aload_n hx hb dX3_isCovered_0 rfl (lv_at hl 0 rfl) ?_
    refine lv_iload_n hx hb dX3_isCovered_1 rfl (lv_at hl 1 rfl) ?_
    refine lv_bipush (v := 6) hx hb dX3_isCovered_2 (by decide) ?_
    refine lv_idiv hx hb dX3_isCovered_4 (by decide) ?_
    obtain ⟨r3, e4, hf⟩ := ob_s hf
    try dsimp only at hf
    refine im_callv (va_runV (As := [.int (x1 / 6)]) (rest := []) ⟨hx, hb, hml, hown, hts⟩ (cq_look l dC dI cI cQ t1 t2 bs top mo m1 m2 m3 m4 m5 m6 m7 hg mt cu kn vl ok ov fo pa fi va nd nk nv no (x1 / 6) r3 e4 H.size) (cwV 1 hts (gs_V lk_211 lk_213 lk_214 lk_194 lk_212) rfl rfl rfl (by decide +kernel) ⟨Nat.le_of_ble_eq_true rfl, Nat.le_of_ble_eq_true rfl⟩) (pr_V gk_W (va_recv hG.1 hP (q0 := 0) rfl rfl) ⟨(gk_S hG hS (bb_A hg)), hP⟩) rfl rfl hl.1 rfl (lv_room (Nat.le_of_ble_eq_true rfl)) dX3_isCovered_5 ⟨Nat.zero_le _, Nat.zero_le _⟩) hS (fun _ h => h) (fun H locs hP1 hk1 hS => ?_)
    have hP : va_P (dC, dI) vwCl (wm_M cI top mo m1 m2 m3 m4 m5 m6 m7 mt cu kn vl ok ov r3.1 r3.2.1 r3.2.2.1 r3.2.2.2 nd nk nv no) H := hP1
    refine lv_aload_n hx hb dX3_isCovered_8 rfl (lv_at hl 0 rfl) ?_
    refine va_get (D := (dC, dI)) (ci := 2) (v := .int r3.1) (C := RX3) (T := TX3) (N := 15) hx hb hts hiX3 hown hG.1 hP 0 rfl rfl 7 (by decide) (hts _ (tw_in lk_202)) (fun _ h9 => h9) rfl dX3_isCovered_9 ?_
    refine lv_iconst (v := 2) hx hb dX3_isCovered_12 (by decide) ?_
    refine lv_icmp_ne (tgt := 23) hx hb dX3_isCovered_13 (by decide) (fun hc => ?_) (fun hc => ?_)
    · rw [if_neg hc] at hf
      refine lv_iconst (v := 0) hx hb dX3_isCovered_23 (by decide) ?_
      exact B24 0 r3.1 r3.2.1 r3.2.2.1 r3.2.2.2 H locs hP hS ls hf (lv_sub hl [0, 1] rfl)
    · rw [if_pos hc] at hf
      refine lv_aload_n hx hb dX3_isCovered_16 rfl (lv_at hl 0 rfl) ?_
      refine va_get (D := (dC, dI)) (ci := 2) (v := .int r3.2.1) (C := RX3) (T := TX3) (N := 15) hx hb hts hiX3 hown hG.1 hP 0 rfl rfl 8 (by decide) (hts _ (tw_in lk_200)) (fun _ h9 => h9) rfl dX3_isCovered_17 ?_
      refine lv_goto (tgt := 24) hx hb dX3_isCovered_20 (by decide) ?_
      exact B24 r3.2.1 r3.1 r3.2.1 r3.2.2.1 r3.2.2.2 H locs hP hS ls hf (lv_sub hl [0, 1] rfl)
  exact hgo s.heap [] hP va_S.rf
set_option maxHeartbeats 4000000 in
set_option maxRecDepth 100000 in
theorem cq_children (l : Launch) (dC : Nat → ClassId) (dI : Nat → Nat → Nat) (cI cQ : ClassId) (t1 t2 bs : Nat) (top mo m1 m2 m3 m4 m5 m6 m7 : Nat) (hg : gd_A bs [mo, m1, m2, m3, m4, m5, m6, m7]) (mt : Int32) (cu : Int32) (kn : Nat → Int32) (vl : Nat → Int32) (ok : Nat → Int32) (ov : Nat → Int32) (fo : Int32) (pa : Int32) (fi : Int32) (va : Int32) (nd : Nat → Int32) (nk : Nat → Int32) (nv : Nat → Int32) (no : Int32) (x1 : Int32) (v0 : Int32 × Int32 × Int32 × Int32 × Int32) (h : fq_children top kn vl fo pa fi va x1 = some v0) : im_I l yX3_children wsX3_children rm_2_48 [.ref mo, .int x1] (gk_G dC dI cI cQ t1 t2 bs (wm_M cI top mo m1 m2 m3 m4 m5 m6 m7 mt cu kn vl ok ov fo pa fi va nd nk nv no)) v0.1 (va_P (dC, dI) vwCl (wm_M cI top mo m1 m2 m3 m4 m5 m6 m7 mt cu kn vl ok ov v0.2.1 v0.2.2.1 v0.2.2.2.1 v0.2.2.2.2 nd nk nv no)) (in_A [mo, m1, m2, m3, m4, m5, m6, m7]) := by
  intro sz
  refine Met.ofW (cc := cX3_children) (maxL := 4) (ret := (some .int)) (by decide) rfl ?_
  intro p e s m args below meth c_ s₁ B hml hv
  obtain ⟨rfl, hsz, hG, hP⟩ := hv
  have hx := B.exec
  have hb := B.bytes
  have hr := B.returns
  have hts := atoms_spec (ws := wsX3_children) B.pre
  have hown : s.vm.findClass RX3 = some m.cls := findClass_of_methodNamed B.named
  have hlocks := B.notSynchronized
  have hiX3 : ∀ w ∈ u_ws RX3 TX3 15, w ∈ wsX3_children := fun w hw => tw_in (usX3 w hw)
  have hl := lv_entry ([.ref mo, .int x1]) (n := 4) (Nat.le_of_ble_eq_true rfl)
  rw [lg_entry_eq]
  generalize (lg_sl ([.ref mo, .int x1]) ++ List.replicate (4 - (lg_sl ([.ref mo, .int x1])).length) Slot.unset).toArray = ls at hl ⊢
  have hl : lv_has ls 4 [(0, .ref mo), (1, .int x1)] := hl
  refine nm_Q (fun Q hQ => ?_)
  have B39 : ∀ (k4 : Int32 → Int32 → Int32 → Int32 → Int32 → Int32 → Option (Int32 × Int32 × Int32 × Int32 × Int32)) (hk4 : ∀ (x2 : Int32) (x3 : Int32) (fo : Int32) (pa : Int32) (fi : Int32) (va : Int32), ∀ (H : Heap) (locs : List Loc), va_P (dC, dI) vwCl (wm_M cI top mo m1 m2 m3 m4 m5 m6 m7 mt cu kn vl ok ov fo pa fi va nd nk nv no) H → va_S (in_A [mo, m1, m2, m3, m4, m5, m6, m7]) s.heap H locs → ∀ ls : Array Slot, k4 x2 x3 fo pa fi va = some v0 → lv_has ls 4 [(0, .ref mo), (1, .int x1), (2, .int x2), (3, .int x3)] → W p l e (headSpec wsX3_children rm_2_48).room s m ([.ref mo, .int x1] : List Value).toArray below meth c_ H locs 0 0 Q (F0 m 4 ls [])), ∀ (x2 : Int32) (x3 : Int32) (z0 : Int32) (z1 : Int32) (fo : Int32) (pa : Int32) (fi : Int32) (va : Int32), ∀ (H : Heap) (locs : List Loc), va_P (dC, dI) vwCl (wm_M cI top mo m1 m2 m3 m4 m5 m6 m7 mt cu kn vl ok ov fo pa fi va nd nk nv no) H → va_S (in_A [mo, m1, m2, m3, m4, m5, m6, m7]) s.heap H locs → ∀ ls : Array Slot, fq_children_39 top kn vl x1 k4 x2 x3 z0 z1 fo pa fi va = some v0 → lv_has ls 4 [(0, .ref mo), (1, .int x1), (2, .int x2), (3, .int x3)] → W p l e (headSpec wsX3_children rm_2_48).room s m ([.ref mo, .int x1] : List Value).toArray below meth c_ H locs 0 0 Q (F0 m 39 ls [.int z0, .int z1]) := by
    intro k4 hk4
    intro x2 x3 z0 z1 fo pa fi va H locs hP hS ls hf hl
    unfold fq_children_39 at hf
    refine lv_iadd hx hb dX3_children_39 ?_
    refine lv_istore_n (lv' := [(2, .int (z1 + z0)), (0, .ref mo), (1, .int x1), (3, .int x3)]) hx hb dX3_children_40 rfl hl (by decide) rfl (fun ls hl => ?_)
    refine lv_iinc (k := 3) (v := x3 + 1) (lv' := [(3, .int (x3 + 1)), (2, .int (z1 + z0)), (0, .ref mo), (1, .int x1)]) hx hb dX3_children_41 hl rfl (by rfl) (by decide) rfl (fun ls hl => ?_)
    refine lv_goto (tgt := 4) hx hb dX3_children_44 (by decide) ?_
    exact hk4 (z1 + z0) (x3 + 1) fo pa fi va H locs hP hS ls hf (lv_sub hl [2, 3, 1, 0] rfl)
  have B4 : ∀ n : Nat, ∀ (x2 : Int32) (x3 : Int32) (fo : Int32) (pa : Int32) (fi : Int32) (va : Int32), ∀ (H : Heap) (locs : List Loc), va_P (dC, dI) vwCl (wm_M cI top mo m1 m2 m3 m4 m5 m6 m7 mt cu kn vl ok ov fo pa fi va nd nk nv no) H → va_S (in_A [mo, m1, m2, m3, m4, m5, m6, m7]) s.heap H locs → ∀ ls : Array Slot, fq_children_4 top kn vl x1 n x2 x3 fo pa fi va = some v0 → lv_has ls 4 [(0, .ref mo), (1, .int x1), (2, .int x2), (3, .int x3)] → W p l e (headSpec wsX3_children rm_2_48).room s m ([.ref mo, .int x1] : List Value).toArray below meth c_ H locs 0 0 Q (F0 m 4 ls []) := by
    intro n
    induction n with
    | zero => 
      intro x2 x3 fo pa fi va H locs hP hS ls hf hl
      exact nomatch (show (none : Option (Int32 × Int32 × Int32 × Int32 × Int32)) = some v0 from hf)
    | succ n ih =>
      intro x2 x3 fo pa fi va H locs hP hS ls hf hl
      rw [fq_children_4.eq_2] at hf
      try dsimp only at hf
      refine lv_iload_n hx hb dX3_children_4 rfl (lv_at hl 3 rfl) ?_
      refine lv_iconst (v := 5) hx hb dX3_children_5 (by decide) ?_
      refine lv_icmp_gt (tgt := 47) hx hb dX3_children_6 (by decide) (fun hc => ?_) (fun hc => ?_)
      · rw [if_pos hc] at hf
        refine lv_iload_n hx hb dX3_children_47 rfl (lv_at hl 2 rfl) ?_
        obtain rfl := Option.some.inj hf
        rw [hQ]
        exact im_iret hx hb hr (vp_nar_int _) hS hP dX3_children_48 hlocks
      · rw [if_neg hc] at hf
        refine lv_iload_n hx hb dX3_children_9 rfl (lv_at hl 1 rfl) ?_
        refine lv_sipush (v := 216) hx hb dX3_children_10 (by decide) ?_
        refine lv_icmp_ge (tgt := 47) hx hb dX3_children_13 (by decide) (fun hc => ?_) (fun hc => ?_)
        · rw [if_pos hc] at hf
          refine lv_iload_n hx hb dX3_children_47 rfl (lv_at hl 2 rfl) ?_
          obtain rfl := Option.some.inj hf
          rw [hQ]
          exact im_iret hx hb hr (vp_nar_int _) hS hP dX3_children_48 hlocks
        · rw [if_neg hc] at hf
          refine lv_aload_n hx hb dX3_children_16 rfl (lv_at hl 0 rfl) ?_
          refine lv_bipush (v := 6) hx hb dX3_children_17 (by decide) ?_
          refine lv_iload_n hx hb dX3_children_19 rfl (lv_at hl 1 rfl) ?_
          refine lv_imul hx hb dX3_children_20 ?_
          refine lv_iload_n hx hb dX3_children_21 rfl (lv_at hl 3 rfl) ?_
          refine lv_iadd hx hb dX3_children_22 ?_
          obtain ⟨r1, e2, hf⟩ := ob_s hf
          try dsimp only at hf
          refine im_callv (va_runV (As := [.int ((6 * x1) + x3)]) (rest := []) ⟨hx, hb, hml, hown, hts⟩ (cq_look l dC dI cI cQ t1 t2 bs top mo m1 m2 m3 m4 m5 m6 m7 hg mt cu kn vl ok ov fo pa fi va nd nk nv no ((6 * x1) + x3) r1 e2 H.size) (cwV 1 hts (gs_V lk_211 lk_213 lk_214 lk_194 lk_212) rfl rfl rfl (by decide +kernel) ⟨Nat.le_of_ble_eq_true rfl, Nat.le_of_ble_eq_true rfl⟩) (pr_V gk_W (va_recv hG.1 hP (q0 := 0) rfl rfl) ⟨(gk_S hG hS (bb_A hg)), hP⟩) rfl rfl hl.1 rfl (lv_room (Nat.le_of_ble_eq_true rfl)) dX3_children_23 ⟨Nat.zero_le _, Nat.zero_le _⟩) hS (fun _ h => h) (fun H locs hP1 hk1 hS => ?_)
          have hP : va_P (dC, dI) vwCl (wm_M cI top mo m1 m2 m3 m4 m5 m6 m7 mt cu kn vl ok ov r1.1 r1.2.1 r1.2.2.1 r1.2.2.2 nd nk nv no) H := hP1
          refine lv_iload_n hx hb dX3_children_26 rfl (lv_at hl 2 rfl) ?_
          refine lv_aload_n hx hb dX3_children_27 rfl (lv_at hl 0 rfl) ?_
          refine va_get (D := (dC, dI)) (ci := 2) (v := .int r1.1) (C := RX3) (T := TX3) (N := 15) hx hb hts hiX3 hown hG.1 hP 0 rfl rfl 7 (by decide) (hts _ (tw_in lk_202)) (fun _ h9 => h9) rfl dX3_children_28 ?_
          refine lv_if_le (tgt := 38) hx hb dX3_children_31 (by decide) (fun hc => ?_) (fun hc => ?_)
          · rw [if_pos hc] at hf
            refine lv_iconst (v := 0) hx hb dX3_children_38 (by decide) ?_
            exact B39 (fq_children_4 top kn vl x1 n) ih x2 x3 0 x2 r1.1 r1.2.1 r1.2.2.1 r1.2.2.2 H locs hP hS ls hf (lv_sub hl [0, 1, 2, 3] rfl)
          · rw [if_neg hc] at hf
            refine lv_iconst (v := 1) hx hb dX3_children_34 (by decide) ?_
            refine lv_goto (tgt := 39) hx hb dX3_children_35 (by decide) ?_
            exact B39 (fq_children_4 top kn vl x1 n) ih x2 x3 1 x2 r1.1 r1.2.1 r1.2.2.1 r1.2.2.2 H locs hP hS ls hf (lv_sub hl [0, 1, 2, 3] rfl)
  unfold fq_children at h
  have hgo : ∀ (H : Heap) (locs : List Loc), va_P (dC, dI) vwCl (wm_M cI top mo m1 m2 m3 m4 m5 m6 m7 mt cu kn vl ok ov fo pa fi va nd nk nv no) H → va_S (in_A [mo, m1, m2, m3, m4, m5, m6, m7]) s.heap H locs → W p l e (headSpec wsX3_children rm_2_48).room s m ([.ref mo, .int x1] : List Value).toArray below meth c_ H locs 0 0 Q (F0 m 0 ls []) := by
    intro H locs hP hS
    have hf := h
    refine lv_iconst (v := 0) hx hb dX3_children_0 (by decide) ?_
    refine lv_istore_n (lv' := [(2, .int 0), (0, .ref mo), (1, .int x1)]) hx hb dX3_children_1 rfl hl (by decide) rfl (fun ls hl => ?_)
    refine lv_iconst (v := 1) hx hb dX3_children_2 (by decide) ?_
    refine lv_istore_n (lv' := [(3, .int 1), (2, .int 0), (0, .ref mo), (1, .int x1)]) hx hb dX3_children_3 rfl hl (by decide) rfl (fun ls hl => ?_)
    exact B4 fu_n 0 1 fo pa fi va H locs hP hS ls hf (lv_sub hl [2, 3, 1, 0] rfl)
  exact hgo s.heap [] hP va_S.rf
set_option maxHeartbeats 4000000 in
set_option maxRecDepth 100000 in
theorem cq_upper (l : Launch) (dC : Nat → ClassId) (dI : Nat → Nat → Nat) (cI cQ : ClassId) (t1 t2 bs : Nat) (top mo m1 m2 m3 m4 m5 m6 m7 : Nat) (hg : gd_A bs [mo, m1, m2, m3, m4, m5, m6, m7]) (mt : Int32) (cu : Int32) (kn : Nat → Int32) (vl : Nat → Int32) (ok : Nat → Int32) (ov : Nat → Int32) (fo : Int32) (pa : Int32) (fi : Int32) (va : Int32) (nd : Nat → Int32) (nk : Nat → Int32) (nv : Nat → Int32) (no : Int32) (x1 : Int32) (v0 : Int32) (h : fq_upper top kn x1 = some v0) : pu_M l yX3_upper wsX3_upper rm_0_0 [.ref mo, .int x1] (gk_G dC dI cI cQ t1 t2 bs (wm_M cI top mo m1 m2 m3 m4 m5 m6 m7 mt cu kn vl ok ov fo pa fi va nd nk nv no)) v0 := by
  intro sz
  refine Met.ofW (cc := cX3_upper) (maxL := 2) (ret := (some .int)) (by decide) rfl ?_
  intro p e s m args below meth c_ s₁ B hml hv
  obtain ⟨rfl, hsz, hG, hP⟩ := hv
  have hx := B.exec
  have hb := B.bytes
  have hr := B.returns
  have hts := atoms_spec (ws := wsX3_upper) B.pre
  have hown : s.vm.findClass RX3 = some m.cls := findClass_of_methodNamed B.named
  have hlocks := B.notSynchronized
  have hiX3 : ∀ w ∈ u_ws RX3 TX3 15, w ∈ wsX3_upper := fun w hw => tw_in (usX3 w hw)
  have hl := lv_entry ([.ref mo, .int x1]) (n := 2) (Nat.le_of_ble_eq_true rfl)
  rw [lg_entry_eq]
  generalize (lg_sl ([.ref mo, .int x1]) ++ List.replicate (2 - (lg_sl ([.ref mo, .int x1])).length) Slot.unset).toArray = ls at hl ⊢
  have hl : lv_has ls 2 [(0, .ref mo), (1, .int x1)] := hl
  refine nm_Q (fun Q hQ => ?_)
  unfold fq_upper at h
  have hf := h
  refine lv_aload_n hx hb dX3_upper_0 rfl (lv_at hl 0 rfl) ?_
  refine va_get (D := (dC, dI)) (ci := 2) (v := .ref m1) (C := RX3) (T := TX3) (N := 15) hx hb hts hiX3 hown hG.1 hP 0 rfl rfl 3 (by decide) (hts _ (tw_in lk_205)) (fun _ h9 => h9) rfl dX3_upper_1 ?_
  refine lv_sipush (v := 1296) hx hb dX3_upper_4 (by decide) ?_
  refine lv_aload_n hx hb dX3_upper_7 rfl (lv_at hl 0 rfl) ?_
  refine va_get (D := (dC, dI)) (ci := 2) (v := .int (nI top)) (C := RX3) (T := TX3) (N := 15) hx hb hts hiX3 hown hG.1 hP 0 rfl rfl 0 (by decide) (hts _ (tw_in lk_206)) (fun _ h9 => h9) rfl dX3_upper_8 ?_
  refine lv_imul hx hb dX3_upper_11 ?_
  refine lv_iload_n hx hb dX3_upper_12 rfl (lv_at hl 1 rfl) ?_
  refine lv_iadd hx hb dX3_upper_13 ?_
  obtain ⟨hq, hf⟩ := ck_s hf
  refine va_iald hx hb hG.1 hP 1 0 rfl rfl hq dX3_upper_14 ?_
  obtain rfl := Option.some.inj hf
  rw [hQ]
  exact pu_iret hx hb hr (vp_nar_int _) hsz dX3_upper_15 hlocks
set_option maxHeartbeats 4000000 in
set_option maxRecDepth 100000 in
theorem cq_set (l : Launch) (dC : Nat → ClassId) (dI : Nat → Nat → Nat) (cI cQ : ClassId) (t1 t2 bs : Nat) (top mo m1 m2 m3 m4 m5 m6 m7 : Nat) (hg : gd_A bs [mo, m1, m2, m3, m4, m5, m6, m7]) (mt : Int32) (cu : Int32) (kn : Nat → Int32) (vl : Nat → Int32) (ok : Nat → Int32) (ov : Nat → Int32) (fo : Int32) (pa : Int32) (fi : Int32) (va : Int32) (nd : Nat → Int32) (nk : Nat → Int32) (nv : Nat → Int32) (no : Int32) (x1 : Int32) (x2 : Int32) (x3 : Int32) (v0 : (Nat → Int32) × (Nat → Int32)) (h : fq_set top kn vl x1 x2 x3 = some v0) : im_V l yX3_set wsX3_set rm_0_0 [.ref mo, .int x1, .int x2, .int x3] (gk_G dC dI cI cQ t1 t2 bs (wm_M cI top mo m1 m2 m3 m4 m5 m6 m7 mt cu kn vl ok ov fo pa fi va nd nk nv no)) (va_P (dC, dI) vwCl (wm_M cI top mo m1 m2 m3 m4 m5 m6 m7 mt cu v0.1 v0.2 ok ov fo pa fi va nd nk nv no)) (in_A [mo, m1, m2, m3, m4, m5, m6, m7]) := by
  intro sz
  refine Met.ofW (cc := cX3_set) (maxL := 4) (ret := none) (by decide) rfl ?_
  intro p e s m args below meth c_ s₁ B hml hv
  obtain ⟨rfl, hsz, hG, hP⟩ := hv
  have hx := B.exec
  have hb := B.bytes
  have hr := B.returns
  have hts := atoms_spec (ws := wsX3_set) B.pre
  have hown : s.vm.findClass RX3 = some m.cls := findClass_of_methodNamed B.named
  have hlocks := B.notSynchronized
  have hiX3 : ∀ w ∈ u_ws RX3 TX3 15, w ∈ wsX3_set := fun w hw => tw_in (usX3 w hw)
  have hl := lv_entry ([.ref mo, .int x1, .int x2, .int x3]) (n := 4) (Nat.le_of_ble_eq_true rfl)
  rw [lg_entry_eq]
  generalize (lg_sl ([.ref mo, .int x1, .int x2, .int x3]) ++ List.replicate (4 - (lg_sl ([.ref mo, .int x1, .int x2, .int x3])).length) Slot.unset).toArray = ls at hl ⊢
  have hl : lv_has ls 4 [(0, .ref mo), (1, .int x1), (2, .int x2), (3, .int x3)] := hl
  refine nm_Q (fun Q hQ => ?_)
  unfold fq_set at h
  have hgo : ∀ (H : Heap) (locs : List Loc), va_P (dC, dI) vwCl (wm_M cI top mo m1 m2 m3 m4 m5 m6 m7 mt cu kn vl ok ov fo pa fi va nd nk nv no) H → va_S (in_A [mo, m1, m2, m3, m4, m5, m6, m7]) s.heap H locs → W p l e (headSpec wsX3_set rm_0_0).room s m ([.ref mo, .int x1, .int x2, .int x3] : List Value).toArray below meth c_ H locs 0 0 Q (F0 m 0 ls []) := by
    intro H locs hP hS
    have hf := h
    refine lv_aload_n hx hb dX3_set_0 rfl (lv_at hl 0 rfl) ?_
    refine va_get (D := (dC, dI)) (ci := 2) (v := .ref m1) (C := RX3) (T := TX3) (N := 15) hx hb hts hiX3 hown hG.1 hP 0 rfl rfl 3 (by decide) (hts _ (tw_in lk_205)) (fun _ h9 => h9) rfl dX3_set_1 ?_
    refine lv_sipush (v := 1296) hx hb dX3_set_4 (by decide) ?_
    refine lv_aload_n hx hb dX3_set_7 rfl (lv_at hl 0 rfl) ?_
    refine va_get (D := (dC, dI)) (ci := 2) (v := .int (nI top)) (C := RX3) (T := TX3) (N := 15) hx hb hts hiX3 hown hG.1 hP 0 rfl rfl 0 (by decide) (hts _ (tw_in lk_206)) (fun _ h9 => h9) rfl dX3_set_8 ?_
    refine lv_imul hx hb dX3_set_11 ?_
    refine lv_iload_n hx hb dX3_set_12 rfl (lv_at hl 1 rfl) ?_
    refine lv_iadd hx hb dX3_set_13 ?_
    refine lv_iload_n hx hb dX3_set_14 rfl (lv_at hl 2 rfl) ?_
    obtain ⟨hq, hf⟩ := ck_s hf
    refine va_iast hx hb hG.1 hP (dd_A hg rfl) hS 1 0 rfl rfl hq dX3_set_15 (fun H locs hP _ hS => ?_)
    have hP : va_P (dC, dI) vwCl (wm_M cI top mo m1 m2 m3 m4 m5 m6 m7 mt cu (upd kn (((1296 * (nI top)) + x1).toNatClampNeg) x2) vl ok ov fo pa fi va nd nk nv no) H := hP
    refine lv_aload_n hx hb dX3_set_16 rfl (lv_at hl 0 rfl) ?_
    refine va_get (D := (dC, dI)) (ci := 2) (v := .ref m2) (C := RX3) (T := TX3) (N := 15) hx hb hts hiX3 hown hG.1 hP 0 rfl rfl 4 (by decide) (hts _ (tw_in lk_203)) (fun _ h9 => h9) rfl dX3_set_17 ?_
    refine lv_sipush (v := 1296) hx hb dX3_set_20 (by decide) ?_
    refine lv_aload_n hx hb dX3_set_23 rfl (lv_at hl 0 rfl) ?_
    refine va_get (D := (dC, dI)) (ci := 2) (v := .int (nI top)) (C := RX3) (T := TX3) (N := 15) hx hb hts hiX3 hown hG.1 hP 0 rfl rfl 0 (by decide) (hts _ (tw_in lk_206)) (fun _ h9 => h9) rfl dX3_set_24 ?_
    refine lv_imul hx hb dX3_set_27 ?_
    refine lv_iload_n hx hb dX3_set_28 rfl (lv_at hl 1 rfl) ?_
    refine lv_iadd hx hb dX3_set_29 ?_
    refine lv_iload_n hx hb dX3_set_30 rfl (lv_at hl 3 rfl) ?_
    obtain ⟨hq, hf⟩ := ck_s hf
    refine va_iast hx hb hG.1 hP (dd_A hg rfl) hS 2 0 rfl rfl hq dX3_set_31 (fun H locs hP _ hS => ?_)
    have hP : va_P (dC, dI) vwCl (wm_M cI top mo m1 m2 m3 m4 m5 m6 m7 mt cu (upd kn (((1296 * (nI top)) + x1).toNatClampNeg) x2) (upd vl (((1296 * (nI top)) + x1).toNatClampNeg) x3) ok ov fo pa fi va nd nk nv no) H := hP
    obtain rfl := Option.some.inj hf
    rw [hQ]
    exact im_vret hx hb hr hS hP dX3_set_32 hlocks
  exact hgo s.heap [] hP va_S.rf
set_option maxHeartbeats 4000000 in
set_option maxRecDepth 100000 in
theorem cq_raise (l : Launch) (dC : Nat → ClassId) (dI : Nat → Nat → Nat) (cI cQ : ClassId) (t1 t2 bs : Nat) (top mo m1 m2 m3 m4 m5 m6 m7 : Nat) (hg : gd_A bs [mo, m1, m2, m3, m4, m5, m6, m7]) (mt : Int32) (cu : Int32) (kn : Nat → Int32) (vl : Nat → Int32) (ok : Nat → Int32) (ov : Nat → Int32) (fo : Int32) (pa : Int32) (fi : Int32) (va : Int32) (nd : Nat → Int32) (nk : Nat → Int32) (nv : Nat → Int32) (no : Int32) (x1 : Int32) (v0 : Int32 × (Nat → Int32) × (Nat → Int32)) (h : fq_raise top cu kn vl x1 = some v0) : im_V l yX3_raise wsX3_raise rm_1_23 [.ref mo, .int x1] (gk_G dC dI cI cQ t1 t2 bs (wm_M cI top mo m1 m2 m3 m4 m5 m6 m7 mt cu kn vl ok ov fo pa fi va nd nk nv no)) (va_P (dC, dI) vwCl (wm_M cI top mo m1 m2 m3 m4 m5 m6 m7 mt v0.1 v0.2.1 v0.2.2 ok ov fo pa fi va nd nk nv no)) (in_A [mo, m1, m2, m3, m4, m5, m6, m7]) := by
  intro sz
  refine Met.ofW (cc := cX3_raise) (maxL := 4) (ret := none) (by decide) rfl ?_
  intro p e s m args below meth c_ s₁ B hml hv
  obtain ⟨rfl, hsz, hG, hP⟩ := hv
  have hx := B.exec
  have hb := B.bytes
  have hr := B.returns
  have hts := atoms_spec (ws := wsX3_raise) B.pre
  have hown : s.vm.findClass RX3 = some m.cls := findClass_of_methodNamed B.named
  have hlocks := B.notSynchronized
  have hiX3 : ∀ w ∈ u_ws RX3 TX3 15, w ∈ wsX3_raise := fun w hw => tw_in (usX3 w hw)
  have hl := lv_entry ([.ref mo, .int x1]) (n := 4) (Nat.le_of_ble_eq_true rfl)
  rw [lg_entry_eq]
  generalize (lg_sl ([.ref mo, .int x1]) ++ List.replicate (4 - (lg_sl ([.ref mo, .int x1])).length) Slot.unset).toArray = ls at hl ⊢
  have hl : lv_has ls 4 [(0, .ref mo), (1, .int x1)] := hl
  refine nm_Q (fun Q hQ => ?_)
  have B42 : ∀ (k7 : Int32 → Int32 → (Nat → Int32) → (Nat → Int32) → Option (Int32 × (Nat → Int32) × (Nat → Int32))) (hk7 : ∀ (x2 : Int32) (cu : Int32) (kn : Nat → Int32) (vl : Nat → Int32), ∀ (H : Heap) (locs : List Loc), va_P (dC, dI) vwCl (wm_M cI top mo m1 m2 m3 m4 m5 m6 m7 mt cu kn vl ok ov fo pa fi va nd nk nv no) H → va_S (in_A [mo, m1, m2, m3, m4, m5, m6, m7]) s.heap H locs → ∀ ls : Array Slot, k7 x2 cu kn vl = some v0 → lv_has ls 4 [(0, .ref mo), (1, .int x1), (2, .int x2)] → W p l e (headSpec wsX3_raise rm_1_23).room s m ([.ref mo, .int x1] : List Value).toArray below meth c_ H locs 0 0 Q (F0 m 7 ls [])), ∀ (x2 : Int32) (x3 : Int32) (cu : Int32) (kn : Nat → Int32) (vl : Nat → Int32), ∀ (H : Heap) (locs : List Loc), va_P (dC, dI) vwCl (wm_M cI top mo m1 m2 m3 m4 m5 m6 m7 mt cu kn vl ok ov fo pa fi va nd nk nv no) H → va_S (in_A [mo, m1, m2, m3, m4, m5, m6, m7]) s.heap H locs → ∀ ls : Array Slot, fq_raise_42 top x1 k7 x2 x3 cu kn vl = some v0 → lv_has ls 4 [(0, .ref mo), (1, .int x1), (2, .int x2), (3, .int x3)] → W p l e (headSpec wsX3_raise rm_1_23).room s m ([.ref mo, .int x1] : List Value).toArray below meth c_ H locs 0 0 Q (F0 m 42 ls []) := by
    intro k7 hk7
    intro x2 x3 cu kn vl H locs hP hS ls hf hl
    unfold fq_raise_42 at hf
    refine lv_iinc (k := 2) (v := x2 + (-1)) (lv' := [(2, .int (x2 + (-1))), (0, .ref mo), (1, .int x1), (3, .int x3)]) hx hb dX3_raise_42 hl rfl (by rfl) (by decide) rfl (fun ls hl => ?_)
    refine lv_goto (tgt := 7) hx hb dX3_raise_45 (by decide) ?_
    exact hk7 (x2 + (-1)) cu kn vl H locs hP hS ls hf (lv_sub hl [1, 2, 0] rfl)
  have B7 : ∀ n : Nat, ∀ (x2 : Int32) (cu : Int32) (kn : Nat → Int32) (vl : Nat → Int32), ∀ (H : Heap) (locs : List Loc), va_P (dC, dI) vwCl (wm_M cI top mo m1 m2 m3 m4 m5 m6 m7 mt cu kn vl ok ov fo pa fi va nd nk nv no) H → va_S (in_A [mo, m1, m2, m3, m4, m5, m6, m7]) s.heap H locs → ∀ ls : Array Slot, fq_raise_7 top x1 n x2 cu kn vl = some v0 → lv_has ls 4 [(0, .ref mo), (1, .int x1), (2, .int x2)] → W p l e (headSpec wsX3_raise rm_1_23).room s m ([.ref mo, .int x1] : List Value).toArray below meth c_ H locs 0 0 Q (F0 m 7 ls []) := by
    intro n
    induction n with
    | zero => 
      intro x2 cu kn vl H locs hP hS ls hf hl
      exact nomatch (show (none : Option (Int32 × (Nat → Int32) × (Nat → Int32))) = some v0 from hf)
    | succ n ih =>
      intro x2 cu kn vl H locs hP hS ls hf hl
      rw [fq_raise_7.eq_2] at hf
      try dsimp only at hf
      refine lv_iload_n hx hb dX3_raise_7 rfl (lv_at hl 2 rfl) ?_
      refine lv_if_lt (tgt := 48) hx hb dX3_raise_8 (by decide) (fun hc => ?_) (fun hc => ?_)
      · rw [if_pos hc] at hf
        obtain rfl := Option.some.inj hf
        rw [hQ]
        exact im_vret hx hb hr hS hP dX3_raise_48 hlocks
      · rw [if_neg hc] at hf
        refine lv_iload_n hx hb dX3_raise_11 rfl (lv_at hl 1 rfl) ?_
        refine lv_iload_n hx hb dX3_raise_12 rfl (lv_at hl 2 rfl) ?_
        obtain ⟨r1, e2, hf⟩ := ob_s hf
        try dsimp only at hf
        refine pu_calli (va_runS (As := [.int x1, .int x2]) (rest := []) ⟨hx, hb, hml, hown, hts⟩ (cq_without l dC dI cI cQ t1 t2 bs x1 x2 r1 e2 H.size) (va_cwS 2 hts (gs_S lk_197 lk_199 lk_194 lk_198) rfl rfl rfl (by decide +kernel) ⟨Nat.le_of_ble_eq_true rfl, Nat.le_of_ble_eq_true rfl⟩) (pr_S gk_W ⟨(gk_S hG hS (bb_A hg)), pz_0⟩) rfl rfl hl.1 rfl (lv_room (Nat.le_of_ble_eq_true rfl)) dX3_raise_13 ⟨Nat.zero_le _, Nat.zero_le _⟩) ?_
        refine lv_istore_n (lv' := [(3, .int r1), (0, .ref mo), (1, .int x1), (2, .int x2)]) hx hb dX3_raise_16 rfl hl (by decide) rfl (fun ls hl => ?_)
        refine lv_aload_n hx hb dX3_raise_17 rfl (lv_at hl 1 rfl) ?_
        refine lv_iload_n hx hb dX3_raise_18 rfl (lv_at hl 0 rfl) ?_
        obtain ⟨r3, e4, hf⟩ := ob_s hf
        try dsimp only at hf
        refine pu_calli (va_runV (As := [.int r1]) (rest := []) ⟨hx, hb, hml, hown, hts⟩ (cq_upper l dC dI cI cQ t1 t2 bs top mo m1 m2 m3 m4 m5 m6 m7 hg mt cu kn vl ok ov fo pa fi va nd nk nv no r1 r3 e4 H.size) (cwV 1 hts (gs_V lk_215 lk_217 lk_218 lk_194 lk_216) rfl rfl rfl (by decide +kernel) ⟨Nat.le_of_ble_eq_true rfl, Nat.le_of_ble_eq_true rfl⟩) (pr_V gk_W (va_recv hG.1 hP (q0 := 0) rfl rfl) ⟨(gk_S hG hS (bb_A hg)), hP⟩) rfl rfl hl.1 rfl (lv_room (Nat.le_of_ble_eq_true rfl)) dX3_raise_19 ⟨Nat.zero_le _, Nat.zero_le _⟩) ?_
        refine lv_if_ne (tgt := 42) hx hb dX3_raise_22 (by decide) (fun hc => ?_) (fun hc => ?_)
        · rw [if_neg hc] at hf
          exact B42 (fq_raise_7 top x1 n) ih x2 r1 cu kn vl H locs hP hS ls hf (lv_sub hl [1, 2, 3, 0] rfl)
        · rw [if_pos hc] at hf
          refine lv_aload_n hx hb dX3_raise_25 rfl (lv_at hl 1 rfl) ?_
          refine lv_iload_n hx hb dX3_raise_26 rfl (lv_at hl 0 rfl) ?_
          refine lv_iconst (v := 2) hx hb dX3_raise_27 (by decide) ?_
          refine lv_iconst (v := 0) hx hb dX3_raise_28 (by decide) ?_
          obtain ⟨r5, e6, hf⟩ := ob_s hf
          try dsimp only at hf
          refine im_callv (va_runV (As := [.int r1, .int 2, .int 0]) (rest := []) ⟨hx, hb, hml, hown, hts⟩ (cq_set l dC dI cI cQ t1 t2 bs top mo m1 m2 m3 m4 m5 m6 m7 hg mt cu kn vl ok ov fo pa fi va nd nk nv no r1 2 0 r5 e6 H.size) (cwV 3 hts (gs_V lk_219 lk_221 lk_222 lk_194 lk_220) rfl rfl rfl (by decide +kernel) ⟨Nat.le_of_ble_eq_true rfl, Nat.le_of_ble_eq_true rfl⟩) (pr_V gk_W (va_recv hG.1 hP (q0 := 0) rfl rfl) ⟨(gk_S hG hS (bb_A hg)), hP⟩) rfl rfl hl.1 rfl (lv_room (Nat.le_of_ble_eq_true rfl)) dX3_raise_29 ⟨Nat.zero_le _, Nat.zero_le _⟩) hS (fun _ h => h) (fun H locs hP1 hk1 hS => ?_)
          have hP : va_P (dC, dI) vwCl (wm_M cI top mo m1 m2 m3 m4 m5 m6 m7 mt cu r5.1 r5.2 ok ov fo pa fi va nd nk nv no) H := hP1
          refine lv_aload_n hx hb dX3_raise_32 rfl (lv_at hl 1 rfl) ?_
          refine lv_dup hx hb dX3_raise_33 rfl ?_
          refine va_get (D := (dC, dI)) (ci := 2) (v := .int cu) (C := RX3) (T := TX3) (N := 15) hx hb hts hiX3 hown hG.1 hP 0 rfl rfl 2 (by decide) (hts _ (tw_in lk_223)) (fun _ h9 => h9) rfl dX3_raise_34 ?_
          refine lv_iconst (v := 1) hx hb dX3_raise_37 (by decide) ?_
          refine lv_iadd hx hb dX3_raise_38 ?_
          refine va_put (D := (dC, dI)) (ci := 2) (v := .int (cu + 1)) (ty := .int) (C := RX3) (T := TX3) (N := 15) hx hb hts hiX3 tyX3 tyX3_ok nmX3 hown hG.1 hP (dd_A hg rfl) hS 0 rfl rfl 2 (by decide) (hts _ (tw_in lk_223)) (fun _ h9 => h9) rfl (by decide +kernel) rfl rfl (Nat.le_of_ble_eq_true rfl) dX3_raise_39 (fun H locs hP _ hS => ?_)
          have hP : va_P (dC, dI) vwCl (wm_M cI top mo m1 m2 m3 m4 m5 m6 m7 mt (cu + 1) r5.1 r5.2 ok ov fo pa fi va nd nk nv no) H := hP
          exact B42 (fq_raise_7 top x1 n) ih x2 r1 (cu + 1) r5.1 r5.2 H locs hP hS ls hf (lv_sub hl [1, 2, 3, 0] rfl)
  unfold fq_raise at h
  have hgo : ∀ (H : Heap) (locs : List Loc), va_P (dC, dI) vwCl (wm_M cI top mo m1 m2 m3 m4 m5 m6 m7 mt cu kn vl ok ov fo pa fi va nd nk nv no) H → va_S (in_A [mo, m1, m2, m3, m4, m5, m6, m7]) s.heap H locs → W p l e (headSpec wsX3_raise rm_1_23).room s m ([.ref mo, .int x1] : List Value).toArray below meth c_ H locs 0 0 Q (F0 m 0 ls []) := by
    intro H locs hP hS
    have hf := h
    refine lv_iload_n hx hb dX3_raise_0 rfl (lv_at hl 1 rfl) ?_
    obtain ⟨r7, e8, hf⟩ := ob_s hf
    try dsimp only at hf
    refine pu_calli (va_runS (As := [.int x1]) (rest := []) ⟨hx, hb, hml, hown, hts⟩ (cq_depth l dC dI cI cQ t1 t2 bs x1 r7 e8 H.size) (va_cwS 1 hts (gs_S lk_193 lk_196 lk_194 lk_195) rfl rfl rfl (by decide +kernel) ⟨Nat.le_of_ble_eq_true rfl, Nat.le_of_ble_eq_true rfl⟩) (pr_S gk_W ⟨(gk_S hG hS (bb_A hg)), pz_0⟩) rfl rfl hl.1 rfl (lv_room (Nat.le_of_ble_eq_true rfl)) dX3_raise_1 ⟨Nat.zero_le _, Nat.zero_le _⟩) ?_
    refine lv_iconst (v := 1) hx hb dX3_raise_4 (by decide) ?_
    refine lv_isub hx hb dX3_raise_5 ?_
    refine lv_istore_n (lv' := [(2, .int (r7 - 1)), (0, .ref mo), (1, .int x1)]) hx hb dX3_raise_6 rfl hl (by decide) rfl (fun ls hl => ?_)
    exact B7 fu_n (r7 - 1) cu kn vl H locs hP hS ls hf (lv_sub hl [1, 2, 0] rfl)
  exact hgo s.heap [] hP va_S.rf
set_option maxHeartbeats 4000000 in
set_option maxRecDepth 100000 in
theorem cq_strip (l : Launch) (dC : Nat → ClassId) (dI : Nat → Nat → Nat) (cI cQ : ClassId) (t1 t2 bs : Nat) (top mo m1 m2 m3 m4 m5 m6 m7 : Nat) (hg : gd_A bs [mo, m1, m2, m3, m4, m5, m6, m7]) (mt : Int32) (cu : Int32) (kn : Nat → Int32) (vl : Nat → Int32) (ok : Nat → Int32) (ov : Nat → Int32) (fo : Int32) (pa : Int32) (fi : Int32) (va : Int32) (nd : Nat → Int32) (nk : Nat → Int32) (nv : Nat → Int32) (no : Int32) (x1 : Int32) (v0 : (Nat → Int32) × (Nat → Int32)) (h : fq_strip top kn vl x1 = some v0) : im_V l yX3_strip wsX3_strip rm_2_45 [.ref mo, .int x1] (gk_G dC dI cI cQ t1 t2 bs (wm_M cI top mo m1 m2 m3 m4 m5 m6 m7 mt cu kn vl ok ov fo pa fi va nd nk nv no)) (va_P (dC, dI) vwCl (wm_M cI top mo m1 m2 m3 m4 m5 m6 m7 mt cu v0.1 v0.2 ok ov fo pa fi va nd nk nv no)) (in_A [mo, m1, m2, m3, m4, m5, m6, m7]) := by
  intro sz
  refine Met.ofW (cc := cX3_strip) (maxL := 3) (ret := none) (by decide) rfl ?_
  intro p e s m args below meth c_ s₁ B hml hv
  obtain ⟨rfl, hsz, hG, hP⟩ := hv
  have hx := B.exec
  have hb := B.bytes
  have hr := B.returns
  have hts := atoms_spec (ws := wsX3_strip) B.pre
  have hown : s.vm.findClass RX3 = some m.cls := findClass_of_methodNamed B.named
  have hlocks := B.notSynchronized
  have hl := lv_entry ([.ref mo, .int x1]) (n := 3) (Nat.le_of_ble_eq_true rfl)
  rw [lg_entry_eq]
  generalize (lg_sl ([.ref mo, .int x1]) ++ List.replicate (3 - (lg_sl ([.ref mo, .int x1])).length) Slot.unset).toArray = ls at hl ⊢
  have hl : lv_has ls 3 [(0, .ref mo), (1, .int x1)] := hl
  refine nm_Q (fun Q hQ => ?_)
  have B29 : ∀ (k2 : Int32 → (Nat → Int32) → (Nat → Int32) → Option ((Nat → Int32) × (Nat → Int32))) (hk2 : ∀ (x2 : Int32) (kn : Nat → Int32) (vl : Nat → Int32), ∀ (H : Heap) (locs : List Loc), va_P (dC, dI) vwCl (wm_M cI top mo m1 m2 m3 m4 m5 m6 m7 mt cu kn vl ok ov fo pa fi va nd nk nv no) H → va_S (in_A [mo, m1, m2, m3, m4, m5, m6, m7]) s.heap H locs → ∀ ls : Array Slot, k2 x2 kn vl = some v0 → lv_has ls 3 [(0, .ref mo), (1, .int x1), (2, .int x2)] → W p l e (headSpec wsX3_strip rm_2_45).room s m ([.ref mo, .int x1] : List Value).toArray below meth c_ H locs 0 0 Q (F0 m 2 ls [])), ∀ (x2 : Int32) (kn : Nat → Int32) (vl : Nat → Int32), ∀ (H : Heap) (locs : List Loc), va_P (dC, dI) vwCl (wm_M cI top mo m1 m2 m3 m4 m5 m6 m7 mt cu kn vl ok ov fo pa fi va nd nk nv no) H → va_S (in_A [mo, m1, m2, m3, m4, m5, m6, m7]) s.heap H locs → ∀ ls : Array Slot, fq_strip_29 top x1 k2 x2 kn vl = some v0 → lv_has ls 3 [(0, .ref mo), (1, .int x1), (2, .int x2)] → W p l e (headSpec wsX3_strip rm_2_45).room s m ([.ref mo, .int x1] : List Value).toArray below meth c_ H locs 0 0 Q (F0 m 29 ls []) := by
    intro k2 hk2
    intro x2 kn vl H locs hP hS ls hf hl
    unfold fq_strip_29 at hf
    refine lv_iinc (k := 2) (v := x2 + 1) (lv' := [(2, .int (x2 + 1)), (0, .ref mo), (1, .int x1)]) hx hb dX3_strip_29 hl rfl (by rfl) (by decide) rfl (fun ls hl => ?_)
    refine lv_goto (tgt := 2) hx hb dX3_strip_32 (by decide) ?_
    exact hk2 (x2 + 1) kn vl H locs hP hS ls hf (lv_sub hl [1, 2, 0] rfl)
  have B22 : ∀ (k2 : Int32 → (Nat → Int32) → (Nat → Int32) → Option ((Nat → Int32) × (Nat → Int32))) (hk2 : ∀ (x2 : Int32) (kn : Nat → Int32) (vl : Nat → Int32), ∀ (H : Heap) (locs : List Loc), va_P (dC, dI) vwCl (wm_M cI top mo m1 m2 m3 m4 m5 m6 m7 mt cu kn vl ok ov fo pa fi va nd nk nv no) H → va_S (in_A [mo, m1, m2, m3, m4, m5, m6, m7]) s.heap H locs → ∀ ls : Array Slot, k2 x2 kn vl = some v0 → lv_has ls 3 [(0, .ref mo), (1, .int x1), (2, .int x2)] → W p l e (headSpec wsX3_strip rm_2_45).room s m ([.ref mo, .int x1] : List Value).toArray below meth c_ H locs 0 0 Q (F0 m 2 ls [])), ∀ (x2 : Int32) (kn : Nat → Int32) (vl : Nat → Int32), ∀ (H : Heap) (locs : List Loc), va_P (dC, dI) vwCl (wm_M cI top mo m1 m2 m3 m4 m5 m6 m7 mt cu kn vl ok ov fo pa fi va nd nk nv no) H → va_S (in_A [mo, m1, m2, m3, m4, m5, m6, m7]) s.heap H locs → ∀ ls : Array Slot, fq_strip_22 top x1 k2 x2 kn vl = some v0 → lv_has ls 3 [(0, .ref mo), (1, .int x1), (2, .int x2)] → W p l e (headSpec wsX3_strip rm_2_45).room s m ([.ref mo, .int x1] : List Value).toArray below meth c_ H locs 0 0 Q (F0 m 22 ls []) := by
    intro k2 hk2
    intro x2 kn vl H locs hP hS ls hf hl
    unfold fq_strip_22 at hf
    refine lv_aload_n hx hb dX3_strip_22 rfl (lv_at hl 0 rfl) ?_
    refine lv_iload_n hx hb dX3_strip_23 rfl (lv_at hl 2 rfl) ?_
    refine lv_iconst (v := 0) hx hb dX3_strip_24 (by decide) ?_
    refine lv_iconst (v := 0) hx hb dX3_strip_25 (by decide) ?_
    obtain ⟨r1, e2, hf⟩ := ob_s hf
    try dsimp only at hf
    refine im_callv (va_runV (As := [.int x2, .int 0, .int 0]) (rest := []) ⟨hx, hb, hml, hown, hts⟩ (cq_set l dC dI cI cQ t1 t2 bs top mo m1 m2 m3 m4 m5 m6 m7 hg mt cu kn vl ok ov fo pa fi va nd nk nv no x2 0 0 r1 e2 H.size) (cwV 3 hts (gs_V lk_219 lk_221 lk_222 lk_194 lk_220) rfl rfl rfl (by decide +kernel) ⟨Nat.le_of_ble_eq_true rfl, Nat.le_of_ble_eq_true rfl⟩) (pr_V gk_W (va_recv hG.1 hP (q0 := 0) rfl rfl) ⟨(gk_S hG hS (bb_A hg)), hP⟩) rfl rfl hl.1 rfl (lv_room (Nat.le_of_ble_eq_true rfl)) dX3_strip_26 ⟨Nat.zero_le _, Nat.zero_le _⟩) hS (fun _ h => h) (fun H locs hP1 hk1 hS => ?_)
    have hP : va_P (dC, dI) vwCl (wm_M cI top mo m1 m2 m3 m4 m5 m6 m7 mt cu r1.1 r1.2 ok ov fo pa fi va nd nk nv no) H := hP1
    exact B29 k2 hk2 x2 r1.1 r1.2 H locs hP hS ls hf (lv_sub hl [0, 1, 2] rfl)
  have B2 : ∀ n : Nat, ∀ (x2 : Int32) (kn : Nat → Int32) (vl : Nat → Int32), ∀ (H : Heap) (locs : List Loc), va_P (dC, dI) vwCl (wm_M cI top mo m1 m2 m3 m4 m5 m6 m7 mt cu kn vl ok ov fo pa fi va nd nk nv no) H → va_S (in_A [mo, m1, m2, m3, m4, m5, m6, m7]) s.heap H locs → ∀ ls : Array Slot, fq_strip_2 top x1 n x2 kn vl = some v0 → lv_has ls 3 [(0, .ref mo), (1, .int x1), (2, .int x2)] → W p l e (headSpec wsX3_strip rm_2_45).room s m ([.ref mo, .int x1] : List Value).toArray below meth c_ H locs 0 0 Q (F0 m 2 ls []) := by
    intro n
    induction n with
    | zero => 
      intro x2 kn vl H locs hP hS ls hf hl
      exact nomatch (show (none : Option ((Nat → Int32) × (Nat → Int32))) = some v0 from hf)
    | succ n ih =>
      intro x2 kn vl H locs hP hS ls hf hl
      rw [fq_strip_2.eq_2] at hf
      try dsimp only at hf
      refine lv_iload_n hx hb dX3_strip_2 rfl (lv_at hl 2 rfl) ?_
      refine lv_sipush (v := 1296) hx hb dX3_strip_3 (by decide) ?_
      refine lv_icmp_ge (tgt := 35) hx hb dX3_strip_6 (by decide) (fun hc => ?_) (fun hc => ?_)
      · rw [if_pos hc] at hf
        obtain rfl := Option.some.inj hf
        rw [hQ]
        exact im_vret hx hb hr hS hP dX3_strip_35 hlocks
      · rw [if_neg hc] at hf
        refine lv_iload_n hx hb dX3_strip_9 rfl (lv_at hl 2 rfl) ?_
        refine lv_iload_n hx hb dX3_strip_10 rfl (lv_at hl 1 rfl) ?_
        refine lv_icmp_eq (tgt := 22) hx hb dX3_strip_11 (by decide) (fun hc => ?_) (fun hc => ?_)
        · rw [if_pos hc] at hf
          exact B22 (fq_strip_2 top x1 n) ih x2 kn vl H locs hP hS ls hf (lv_sub hl [0, 1, 2] rfl)
        · rw [if_neg hc] at hf
          refine lv_iload_n hx hb dX3_strip_14 rfl (lv_at hl 2 rfl) ?_
          refine lv_iload_n hx hb dX3_strip_15 rfl (lv_at hl 1 rfl) ?_
          obtain ⟨r3, e4, hf⟩ := ob_s hf
          try dsimp only at hf
          refine pu_calli (va_runS (As := [.int x2, .int x1]) (rest := []) ⟨hx, hb, hml, hown, hts⟩ (cq_isBelow l dC dI cI cQ t1 t2 bs x2 x1 r3 e4 H.size) (va_cwS 2 hts (gs_S lk_224 lk_226 lk_194 lk_225) rfl rfl rfl (by decide +kernel) ⟨Nat.le_of_ble_eq_true rfl, Nat.le_of_ble_eq_true rfl⟩) (pr_S gk_W ⟨(gk_S hG hS (bb_A hg)), pz_0⟩) rfl rfl hl.1 rfl (lv_room (Nat.le_of_ble_eq_true rfl)) dX3_strip_16 ⟨Nat.zero_le _, Nat.zero_le _⟩) ?_
          refine lv_if_eq (tgt := 29) hx hb dX3_strip_19 (by decide) (fun hc => ?_) (fun hc => ?_)
          · rw [if_pos hc] at hf
            exact B29 (fq_strip_2 top x1 n) ih x2 kn vl H locs hP hS ls hf (lv_sub hl [0, 1, 2] rfl)
          · rw [if_neg hc] at hf
            exact B22 (fq_strip_2 top x1 n) ih x2 kn vl H locs hP hS ls hf (lv_sub hl [0, 1, 2] rfl)
  unfold fq_strip at h
  have hgo : ∀ (H : Heap) (locs : List Loc), va_P (dC, dI) vwCl (wm_M cI top mo m1 m2 m3 m4 m5 m6 m7 mt cu kn vl ok ov fo pa fi va nd nk nv no) H → va_S (in_A [mo, m1, m2, m3, m4, m5, m6, m7]) s.heap H locs → W p l e (headSpec wsX3_strip rm_2_45).room s m ([.ref mo, .int x1] : List Value).toArray below meth c_ H locs 0 0 Q (F0 m 0 ls []) := by
    intro H locs hP hS
    have hf := h
    refine lv_iconst (v := 1) hx hb dX3_strip_0 (by decide) ?_
    refine lv_istore_n (lv' := [(2, .int 1), (0, .ref mo), (1, .int x1)]) hx hb dX3_strip_1 rfl hl (by decide) rfl (fun ls hl => ?_)
    exact B2 fu_n 1 kn vl H locs hP hS ls hf (lv_sub hl [1, 2, 0] rfl)
  exact hgo s.heap [] hP va_S.rf
set_option maxHeartbeats 4000000 in
set_option maxRecDepth 100000 in
theorem cq_make (l : Launch) (dC : Nat → ClassId) (dI : Nat → Nat → Nat) (cI cQ : ClassId) (t1 t2 bs : Nat) (top mo m1 m2 m3 m4 m5 m6 m7 : Nat) (hg : gd_A bs [mo, m1, m2, m3, m4, m5, m6, m7]) (mt : Int32) (cu : Int32) (kn : Nat → Int32) (vl : Nat → Int32) (ok : Nat → Int32) (ov : Nat → Int32) (fo : Int32) (pa : Int32) (fi : Int32) (va : Int32) (nd : Nat → Int32) (nk : Nat → Int32) (nv : Nat → Int32) (no : Int32) (x1 : Int32) (x2 : Int32) (x3 : Int32) (v0 : Int32 × (Nat → Int32) × (Nat → Int32) × Int32 × Int32 × Int32 × Int32) (h : fq_make top cu kn vl fo pa fi va x1 x2 x3 = some v0) : im_V l yX3_make wsX3_make rm_3_70 [.ref mo, .int x1, .int x2, .int x3] (gk_G dC dI cI cQ t1 t2 bs (wm_M cI top mo m1 m2 m3 m4 m5 m6 m7 mt cu kn vl ok ov fo pa fi va nd nk nv no)) (va_P (dC, dI) vwCl (wm_M cI top mo m1 m2 m3 m4 m5 m6 m7 mt v0.1 v0.2.1 v0.2.2.1 ok ov v0.2.2.2.1 v0.2.2.2.2.1 v0.2.2.2.2.2.1 v0.2.2.2.2.2.2 nd nk nv no)) (in_A [mo, m1, m2, m3, m4, m5, m6, m7]) := by
  intro sz
  refine Met.ofW (cc := cX3_make) (maxL := 5) (ret := none) (by decide) rfl ?_
  intro p e s m args below meth c_ s₁ B hml hv
  obtain ⟨rfl, hsz, hG, hP⟩ := hv
  have hx := B.exec
  have hb := B.bytes
  have hr := B.returns
  have hts := atoms_spec (ws := wsX3_make) B.pre
  have hown : s.vm.findClass RX3 = some m.cls := findClass_of_methodNamed B.named
  have hlocks := B.notSynchronized
  have hl := lv_entry ([.ref mo, .int x1, .int x2, .int x3]) (n := 5) (Nat.le_of_ble_eq_true rfl)
  rw [lg_entry_eq]
  generalize (lg_sl ([.ref mo, .int x1, .int x2, .int x3]) ++ List.replicate (5 - (lg_sl ([.ref mo, .int x1, .int x2, .int x3])).length) Slot.unset).toArray = ls at hl ⊢
  have hl : lv_has ls 5 [(0, .ref mo), (1, .int x1), (2, .int x2), (3, .int x3)] := hl
  refine nm_Q (fun Q hQ => ?_)
  have B37 : ∀ (x4 : Int32) (z0 : Int32) (z1 : Int32) (cu : Int32) (kn : Nat → Int32) (vl : Nat → Int32) (fo : Int32) (pa : Int32) (fi : Int32) (va : Int32), ∀ (H : Heap) (locs : List Loc), va_P (dC, dI) vwCl (wm_M cI top mo m1 m2 m3 m4 m5 m6 m7 mt cu kn vl ok ov fo pa fi va nd nk nv no) H → va_S (in_A [mo, m1, m2, m3, m4, m5, m6, m7]) s.heap H locs → ∀ ls : Array Slot, fq_make_37 top x1 x2 x3 x4 z0 z1 cu kn vl fo pa fi va = some v0 → lv_has ls 5 [(0, .ref mo), (1, .int x1), (2, .int x2), (3, .int x3), (4, .int x4)] → W p l e (headSpec wsX3_make rm_3_70).room s m ([.ref mo, .int x1, .int x2, .int x3] : List Value).toArray below meth c_ H locs 0 0 Q (F0 m 37 ls [.int z0, .int z1, .ref mo]) := by
    intro x4 z0 z1 cu kn vl fo pa fi va H locs hP hS ls hf hl
    unfold fq_make_37 at hf
    refine lv_iload_n hx hb dX3_make_37 rfl (lv_at hl 3 rfl) ?_
    obtain ⟨r1, e2, hf⟩ := ob_s hf
    try dsimp only at hf
    refine im_callv (va_runV (As := [.int z1, .int z0, .int x3]) (rest := []) ⟨hx, hb, hml, hown, hts⟩ (cq_set l dC dI cI cQ t1 t2 bs top mo m1 m2 m3 m4 m5 m6 m7 hg mt cu kn vl ok ov fo pa fi va nd nk nv no z1 z0 x3 r1 e2 H.size) (cwV 3 hts (gs_V lk_219 lk_221 lk_222 lk_194 lk_220) rfl rfl rfl (by decide +kernel) ⟨Nat.le_of_ble_eq_true rfl, Nat.le_of_ble_eq_true rfl⟩) (pr_V gk_W (va_recv hG.1 hP (q0 := 0) rfl rfl) ⟨(gk_S hG hS (bb_A hg)), hP⟩) rfl rfl hl.1 rfl (lv_room (Nat.le_of_ble_eq_true rfl)) dX3_make_38 ⟨Nat.zero_le _, Nat.zero_le _⟩) hS (fun _ h => h) (fun H locs hP1 hk1 hS => ?_)
    have hP : va_P (dC, dI) vwCl (wm_M cI top mo m1 m2 m3 m4 m5 m6 m7 mt cu r1.1 r1.2 ok ov fo pa fi va nd nk nv no) H := hP1
    obtain rfl := Option.some.inj hf
    rw [hQ]
    exact im_vret hx hb hr hS hP dX3_make_41 hlocks
  have B36 : ∀ (x4 : Int32) (z0 : Int32) (cu : Int32) (kn : Nat → Int32) (vl : Nat → Int32) (fo : Int32) (pa : Int32) (fi : Int32) (va : Int32), ∀ (H : Heap) (locs : List Loc), va_P (dC, dI) vwCl (wm_M cI top mo m1 m2 m3 m4 m5 m6 m7 mt cu kn vl ok ov fo pa fi va nd nk nv no) H → va_S (in_A [mo, m1, m2, m3, m4, m5, m6, m7]) s.heap H locs → ∀ ls : Array Slot, fq_make_36 top x1 x2 x3 x4 z0 cu kn vl fo pa fi va = some v0 → lv_has ls 5 [(0, .ref mo), (1, .int x1), (2, .int x2), (3, .int x3), (4, .int x4)] → W p l e (headSpec wsX3_make rm_3_70).room s m ([.ref mo, .int x1, .int x2, .int x3] : List Value).toArray below meth c_ H locs 0 0 Q (F0 m 36 ls [.int z0, .ref mo]) := by
    intro x4 z0 cu kn vl fo pa fi va H locs hP hS ls hf hl
    unfold fq_make_36 at hf
    refine lv_iload_n hx hb dX3_make_36 rfl (lv_at hl 2 rfl) ?_
    exact B37 x4 x2 z0 cu kn vl fo pa fi va H locs hP hS ls hf (lv_sub hl [0, 1, 2, 3, 4] rfl)
  unfold fq_make at h
  have hgo : ∀ (H : Heap) (locs : List Loc), va_P (dC, dI) vwCl (wm_M cI top mo m1 m2 m3 m4 m5 m6 m7 mt cu kn vl ok ov fo pa fi va nd nk nv no) H → va_S (in_A [mo, m1, m2, m3, m4, m5, m6, m7]) s.heap H locs → W p l e (headSpec wsX3_make rm_3_70).room s m ([.ref mo, .int x1, .int x2, .int x3] : List Value).toArray below meth c_ H locs 0 0 Q (F0 m 0 ls []) := by
    intro H locs hP hS
    have hf := h
    refine lv_aload_n hx hb dX3_make_0 rfl (lv_at hl 0 rfl) ?_
    refine lv_iload_n hx hb dX3_make_1 rfl (lv_at hl 1 rfl) ?_
    refine lv_bipush (v := 6) hx hb dX3_make_2 (by decide) ?_
    refine lv_idiv hx hb dX3_make_4 (by decide) ?_
    obtain ⟨r3, e4, hf⟩ := ob_s hf
    try dsimp only at hf
    refine im_callv (va_runV (As := [.int (x1 / 6)]) (rest := []) ⟨hx, hb, hml, hown, hts⟩ (cq_raise l dC dI cI cQ t1 t2 bs top mo m1 m2 m3 m4 m5 m6 m7 hg mt cu kn vl ok ov fo pa fi va nd nk nv no (x1 / 6) r3 e4 H.size) (cwV 1 hts (gs_V lk_227 lk_229 lk_230 lk_194 lk_228) rfl rfl rfl (by decide +kernel) ⟨Nat.le_of_ble_eq_true rfl, Nat.le_of_ble_eq_true rfl⟩) (pr_V gk_W (va_recv hG.1 hP (q0 := 0) rfl rfl) ⟨(gk_S hG hS (bb_A hg)), hP⟩) rfl rfl hl.1 rfl (lv_room (Nat.le_of_ble_eq_true rfl)) dX3_make_5 ⟨Nat.zero_le _, Nat.zero_le _⟩) hS (fun _ h => h) (fun H locs hP1 hk1 hS => ?_)
    have hP : va_P (dC, dI) vwCl (wm_M cI top mo m1 m2 m3 m4 m5 m6 m7 mt r3.1 r3.2.1 r3.2.2 ok ov fo pa fi va nd nk nv no) H := hP1
    refine lv_aload_n hx hb dX3_make_8 rfl (lv_at hl 0 rfl) ?_
    refine lv_iload_n hx hb dX3_make_9 rfl (lv_at hl 1 rfl) ?_
    obtain ⟨r5, e6, hf⟩ := ob_s hf
    try dsimp only at hf
    refine im_calli (va_runV (As := [.int x1]) (rest := []) ⟨hx, hb, hml, hown, hts⟩ (cq_isCovered l dC dI cI cQ t1 t2 bs top mo m1 m2 m3 m4 m5 m6 m7 hg mt r3.1 r3.2.1 r3.2.2 ok ov fo pa fi va nd nk nv no x1 r5 e6 H.size) (cwV 1 hts (gs_V lk_231 lk_233 lk_234 lk_194 lk_232) rfl rfl rfl (by decide +kernel) ⟨Nat.le_of_ble_eq_true rfl, Nat.le_of_ble_eq_true rfl⟩) (pr_V gk_W (va_recv hG.1 hP (q0 := 0) rfl rfl) ⟨(gk_S hG hS (bb_A hg)), hP⟩) rfl rfl hl.1 rfl (lv_room (Nat.le_of_ble_eq_true rfl)) dX3_make_10 ⟨Nat.zero_le _, Nat.zero_le _⟩) hS (fun _ h => h) (fun H locs hP1 hk1 hS => ?_)
    have hP : va_P (dC, dI) vwCl (wm_M cI top mo m1 m2 m3 m4 m5 m6 m7 mt r3.1 r3.2.1 r3.2.2 ok ov r5.2.1 r5.2.2.1 r5.2.2.2.1 r5.2.2.2.2 nd nk nv no) H := hP1
    refine lv_istore (lv' := [(4, .int r5.1), (0, .ref mo), (1, .int x1), (2, .int x2), (3, .int x3)]) hx hb dX3_make_13 hl (by decide) rfl (fun ls hl => ?_)
    refine lv_aload_n hx hb dX3_make_15 rfl (lv_at hl 1 rfl) ?_
    refine lv_iload_n hx hb dX3_make_16 rfl (lv_at hl 2 rfl) ?_
    obtain ⟨r7, e8, hf⟩ := ob_s hf
    try dsimp only at hf
    refine im_callv (va_runV (As := [.int x1]) (rest := []) ⟨hx, hb, hml, hown, hts⟩ (cq_strip l dC dI cI cQ t1 t2 bs top mo m1 m2 m3 m4 m5 m6 m7 hg mt r3.1 r3.2.1 r3.2.2 ok ov r5.2.1 r5.2.2.1 r5.2.2.2.1 r5.2.2.2.2 nd nk nv no x1 r7 e8 H.size) (cwV 1 hts (gs_V lk_235 lk_237 lk_238 lk_194 lk_236) rfl rfl rfl (by decide +kernel) ⟨Nat.le_of_ble_eq_true rfl, Nat.le_of_ble_eq_true rfl⟩) (pr_V gk_W (va_recv hG.1 hP (q0 := 0) rfl rfl) ⟨(gk_S hG hS (bb_A hg)), hP⟩) rfl rfl hl.1 rfl (lv_room (Nat.le_of_ble_eq_true rfl)) dX3_make_17 ⟨Nat.zero_le _, Nat.zero_le _⟩) hS (fun _ h => h) (fun H locs hP1 hk1 hS => ?_)
    have hP : va_P (dC, dI) vwCl (wm_M cI top mo m1 m2 m3 m4 m5 m6 m7 mt r3.1 r7.1 r7.2 ok ov r5.2.1 r5.2.2.1 r5.2.2.2.1 r5.2.2.2.2 nd nk nv no) H := hP1
    refine lv_aload_n hx hb dX3_make_20 rfl (lv_at hl 1 rfl) ?_
    refine lv_iload_n hx hb dX3_make_21 rfl (lv_at hl 2 rfl) ?_
    refine lv_iload_n hx hb dX3_make_22 rfl (lv_at hl 3 rfl) ?_
    refine lv_iconst (v := 2) hx hb dX3_make_23 (by decide) ?_
    refine lv_icmp_ne (tgt := 36) hx hb dX3_make_24 (by decide) (fun hc => ?_) (fun hc => ?_)
    · rw [if_neg hc] at hf
      exact B36 r5.1 x1 r3.1 r7.1 r7.2 r5.2.1 r5.2.2.1 r5.2.2.2.1 r5.2.2.2.2 H locs hP hS ls hf (lv_sub hl [1, 2, 3, 4, 0] rfl)
    · rw [if_pos hc] at hf
      refine lv_iload hx hb dX3_make_27 (lv_at hl 0 rfl) ?_
      refine lv_if_eq (tgt := 36) hx hb dX3_make_29 (by decide) (fun hc => ?_) (fun hc => ?_)
      · rw [if_pos hc] at hf
        exact B36 r5.1 x1 r3.1 r7.1 r7.2 r5.2.1 r5.2.2.1 r5.2.2.2.1 r5.2.2.2.2 H locs hP hS ls hf (lv_sub hl [1, 2, 3, 4, 0] rfl)
      · rw [if_neg hc] at hf
        refine lv_iconst (v := 3) hx hb dX3_make_32 (by decide) ?_
        refine lv_goto (tgt := 37) hx hb dX3_make_33 (by decide) ?_
        exact B37 r5.1 3 x1 r3.1 r7.1 r7.2 r5.2.1 r5.2.2.1 r5.2.2.2.1 r5.2.2.2.2 H locs hP hS ls hf (lv_sub hl [1, 2, 3, 4, 0] rfl)
  exact hgo s.heap [] hP va_S.rf
set_option maxHeartbeats 4000000 in
set_option maxRecDepth 100000 in
theorem cq_unmake (l : Launch) (dC : Nat → ClassId) (dI : Nat → Nat → Nat) (cI cQ : ClassId) (t1 t2 bs : Nat) (top mo m1 m2 m3 m4 m5 m6 m7 : Nat) (hg : gd_A bs [mo, m1, m2, m3, m4, m5, m6, m7]) (mt : Int32) (cu : Int32) (kn : Nat → Int32) (vl : Nat → Int32) (ok : Nat → Int32) (ov : Nat → Int32) (fo : Int32) (pa : Int32) (fi : Int32) (va : Int32) (nd : Nat → Int32) (nk : Nat → Int32) (nv : Nat → Int32) (no : Int32) (x1 : Int32) (v0 : Int32 × (Nat → Int32) × (Nat → Int32) × Int32 × Int32 × Int32 × Int32) (h : fq_unmake top cu kn vl fo pa fi va x1 = some v0) : im_V l yX3_unmake wsX3_unmake rm_3_70 [.ref mo, .int x1] (gk_G dC dI cI cQ t1 t2 bs (wm_M cI top mo m1 m2 m3 m4 m5 m6 m7 mt cu kn vl ok ov fo pa fi va nd nk nv no)) (va_P (dC, dI) vwCl (wm_M cI top mo m1 m2 m3 m4 m5 m6 m7 mt v0.1 v0.2.1 v0.2.2.1 ok ov v0.2.2.2.1 v0.2.2.2.2.1 v0.2.2.2.2.2.1 v0.2.2.2.2.2.2 nd nk nv no)) (in_A [mo, m1, m2, m3, m4, m5, m6, m7]) := by
  intro sz
  refine Met.ofW (cc := cX3_unmake) (maxL := 2) (ret := none) (by decide) rfl ?_
  intro p e s m args below meth c_ s₁ B hml hv
  obtain ⟨rfl, hsz, hG, hP⟩ := hv
  have hx := B.exec
  have hb := B.bytes
  have hr := B.returns
  have hts := atoms_spec (ws := wsX3_unmake) B.pre
  have hown : s.vm.findClass RX3 = some m.cls := findClass_of_methodNamed B.named
  have hlocks := B.notSynchronized
  have hl := lv_entry ([.ref mo, .int x1]) (n := 2) (Nat.le_of_ble_eq_true rfl)
  rw [lg_entry_eq]
  generalize (lg_sl ([.ref mo, .int x1]) ++ List.replicate (2 - (lg_sl ([.ref mo, .int x1])).length) Slot.unset).toArray = ls at hl ⊢
  have hl : lv_has ls 2 [(0, .ref mo), (1, .int x1)] := hl
  refine nm_Q (fun Q hQ => ?_)
  unfold fq_unmake at h
  have hgo : ∀ (H : Heap) (locs : List Loc), va_P (dC, dI) vwCl (wm_M cI top mo m1 m2 m3 m4 m5 m6 m7 mt cu kn vl ok ov fo pa fi va nd nk nv no) H → va_S (in_A [mo, m1, m2, m3, m4, m5, m6, m7]) s.heap H locs → W p l e (headSpec wsX3_unmake rm_3_70).room s m ([.ref mo, .int x1] : List Value).toArray below meth c_ H locs 0 0 Q (F0 m 0 ls []) := by
    intro H locs hP hS
    have hf := h
    refine lv_aload_n hx hb dX3_unmake_0 rfl (lv_at hl 0 rfl) ?_
    refine lv_iload_n hx hb dX3_unmake_1 rfl (lv_at hl 1 rfl) ?_
    obtain ⟨r1, e2, hf⟩ := ob_s hf
    try dsimp only at hf
    refine im_callv (va_runV (As := [.int x1]) (rest := []) ⟨hx, hb, hml, hown, hts⟩ (cq_strip l dC dI cI cQ t1 t2 bs top mo m1 m2 m3 m4 m5 m6 m7 hg mt cu kn vl ok ov fo pa fi va nd nk nv no x1 r1 e2 H.size) (cwV 1 hts (gs_V lk_235 lk_237 lk_238 lk_194 lk_236) rfl rfl rfl (by decide +kernel) ⟨Nat.le_of_ble_eq_true rfl, Nat.le_of_ble_eq_true rfl⟩) (pr_V gk_W (va_recv hG.1 hP (q0 := 0) rfl rfl) ⟨(gk_S hG hS (bb_A hg)), hP⟩) rfl rfl hl.1 rfl (lv_room (Nat.le_of_ble_eq_true rfl)) dX3_unmake_2 ⟨Nat.zero_le _, Nat.zero_le _⟩) hS (fun _ h => h) (fun H locs hP1 hk1 hS => ?_)
    have hP : va_P (dC, dI) vwCl (wm_M cI top mo m1 m2 m3 m4 m5 m6 m7 mt cu r1.1 r1.2 ok ov fo pa fi va nd nk nv no) H := hP1
    refine lv_aload_n hx hb dX3_unmake_5 rfl (lv_at hl 0 rfl) ?_
    refine lv_iload_n hx hb dX3_unmake_6 rfl (lv_at hl 1 rfl) ?_
    obtain ⟨r3, e4, hf⟩ := ob_s hf
    try dsimp only at hf
    refine im_calli (va_runV (As := [.int x1]) (rest := []) ⟨hx, hb, hml, hown, hts⟩ (cq_isCovered l dC dI cI cQ t1 t2 bs top mo m1 m2 m3 m4 m5 m6 m7 hg mt cu r1.1 r1.2 ok ov fo pa fi va nd nk nv no x1 r3 e4 H.size) (cwV 1 hts (gs_V lk_231 lk_233 lk_234 lk_194 lk_232) rfl rfl rfl (by decide +kernel) ⟨Nat.le_of_ble_eq_true rfl, Nat.le_of_ble_eq_true rfl⟩) (pr_V gk_W (va_recv hG.1 hP (q0 := 0) rfl rfl) ⟨(gk_S hG hS (bb_A hg)), hP⟩) rfl rfl hl.1 rfl (lv_room (Nat.le_of_ble_eq_true rfl)) dX3_unmake_7 ⟨Nat.zero_le _, Nat.zero_le _⟩) hS (fun _ h => h) (fun H locs hP1 hk1 hS => ?_)
    have hP : va_P (dC, dI) vwCl (wm_M cI top mo m1 m2 m3 m4 m5 m6 m7 mt cu r1.1 r1.2 ok ov r3.2.1 r3.2.2.1 r3.2.2.2.1 r3.2.2.2.2 nd nk nv no) H := hP1
    refine lv_if_eq (tgt := 28) hx hb dX3_unmake_10 (by decide) (fun hc => ?_) (fun hc => ?_)
    · rw [if_pos hc] at hf
      obtain rfl := Option.some.inj hf
      rw [hQ]
      exact im_vret hx hb hr hS hP dX3_unmake_28 hlocks
    · rw [if_neg hc] at hf
      refine lv_aload_n hx hb dX3_unmake_13 rfl (lv_at hl 0 rfl) ?_
      refine lv_iload_n hx hb dX3_unmake_14 rfl (lv_at hl 1 rfl) ?_
      refine lv_bipush (v := 6) hx hb dX3_unmake_15 (by decide) ?_
      refine lv_idiv hx hb dX3_unmake_17 (by decide) ?_
      obtain ⟨r5, e6, hf⟩ := ob_s hf
      try dsimp only at hf
      refine im_callv (va_runV (As := [.int (x1 / 6)]) (rest := []) ⟨hx, hb, hml, hown, hts⟩ (cq_raise l dC dI cI cQ t1 t2 bs top mo m1 m2 m3 m4 m5 m6 m7 hg mt cu r1.1 r1.2 ok ov r3.2.1 r3.2.2.1 r3.2.2.2.1 r3.2.2.2.2 nd nk nv no (x1 / 6) r5 e6 H.size) (cwV 1 hts (gs_V lk_227 lk_229 lk_230 lk_194 lk_228) rfl rfl rfl (by decide +kernel) ⟨Nat.le_of_ble_eq_true rfl, Nat.le_of_ble_eq_true rfl⟩) (pr_V gk_W (va_recv hG.1 hP (q0 := 0) rfl rfl) ⟨(gk_S hG hS (bb_A hg)), hP⟩) rfl rfl hl.1 rfl (lv_room (Nat.le_of_ble_eq_true rfl)) dX3_unmake_18 ⟨Nat.zero_le _, Nat.zero_le _⟩) hS (fun _ h => h) (fun H locs hP1 hk1 hS => ?_)
      have hP : va_P (dC, dI) vwCl (wm_M cI top mo m1 m2 m3 m4 m5 m6 m7 mt r5.1 r5.2.1 r5.2.2 ok ov r3.2.1 r3.2.2.1 r3.2.2.2.1 r3.2.2.2.2 nd nk nv no) H := hP1
      refine lv_aload_n hx hb dX3_unmake_21 rfl (lv_at hl 0 rfl) ?_
      refine lv_iload_n hx hb dX3_unmake_22 rfl (lv_at hl 1 rfl) ?_
      refine lv_iconst (v := 4) hx hb dX3_unmake_23 (by decide) ?_
      refine lv_iconst (v := 0) hx hb dX3_unmake_24 (by decide) ?_
      obtain ⟨r7, e8, hf⟩ := ob_s hf
      try dsimp only at hf
      refine im_callv (va_runV (As := [.int x1, .int 4, .int 0]) (rest := []) ⟨hx, hb, hml, hown, hts⟩ (cq_set l dC dI cI cQ t1 t2 bs top mo m1 m2 m3 m4 m5 m6 m7 hg mt r5.1 r5.2.1 r5.2.2 ok ov r3.2.1 r3.2.2.1 r3.2.2.2.1 r3.2.2.2.2 nd nk nv no x1 4 0 r7 e8 H.size) (cwV 3 hts (gs_V lk_219 lk_221 lk_222 lk_194 lk_220) rfl rfl rfl (by decide +kernel) ⟨Nat.le_of_ble_eq_true rfl, Nat.le_of_ble_eq_true rfl⟩) (pr_V gk_W (va_recv hG.1 hP (q0 := 0) rfl rfl) ⟨(gk_S hG hS (bb_A hg)), hP⟩) rfl rfl hl.1 rfl (lv_room (Nat.le_of_ble_eq_true rfl)) dX3_unmake_25 ⟨Nat.zero_le _, Nat.zero_le _⟩) hS (fun _ h => h) (fun H locs hP1 hk1 hS => ?_)
      have hP : va_P (dC, dI) vwCl (wm_M cI top mo m1 m2 m3 m4 m5 m6 m7 mt r5.1 r7.1 r7.2 ok ov r3.2.1 r3.2.2.1 r3.2.2.2.1 r3.2.2.2.2 nd nk nv no) H := hP1
      obtain rfl := Option.some.inj hf
      rw [hQ]
      exact im_vret hx hb hr hS hP dX3_unmake_28 hlocks
  exact hgo s.heap [] hP va_S.rf
set_option maxHeartbeats 4000000 in
set_option maxRecDepth 100000 in
theorem cq_keep (l : Launch) (dC : Nat → ClassId) (dI : Nat → Nat → Nat) (cI cQ : ClassId) (t1 t2 bs : Nat) (top mo m1 m2 m3 m4 m5 m6 m7 : Nat) (hg : gd_A bs [mo, m1, m2, m3, m4, m5, m6, m7]) (mt : Int32) (cu : Int32) (kn : Nat → Int32) (vl : Nat → Int32) (ok : Nat → Int32) (ov : Nat → Int32) (fo : Int32) (pa : Int32) (fi : Int32) (va : Int32) (nd : Nat → Int32) (nk : Nat → Int32) (nv : Nat → Int32) (no : Int32) (v0 : (Nat → Int32) × (Nat → Int32)) (h : fq_keep top kn vl ok ov = some v0) : im_V l yX3_keep wsX3_keep rm_1_21 [.ref mo] (gk_G dC dI cI cQ t1 t2 bs (wm_M cI top mo m1 m2 m3 m4 m5 m6 m7 mt cu kn vl ok ov fo pa fi va nd nk nv no)) (va_P (dC, dI) vwCl (wm_M cI top mo m1 m2 m3 m4 m5 m6 m7 mt cu kn vl v0.1 v0.2 fo pa fi va nd nk nv no)) (in_A [mo, m1, m2, m3, m4, m5, m6, m7]) := by
  intro sz
  refine Met.ofW (cc := cX3_keep) (maxL := 2) (ret := none) (by decide) rfl ?_
  intro p e s m args below meth c_ s₁ B hml hv
  obtain ⟨rfl, hsz, hG, hP⟩ := hv
  have hx := B.exec
  have hb := B.bytes
  have hr := B.returns
  have hts := atoms_spec (ws := wsX3_keep) B.pre
  have hown : s.vm.findClass RX3 = some m.cls := findClass_of_methodNamed B.named
  have hlocks := B.notSynchronized
  have hiX3 : ∀ w ∈ u_ws RX3 TX3 15, w ∈ wsX3_keep := fun w hw => tw_in (usX3 w hw)
  have hl := lv_entry ([.ref mo]) (n := 2) (Nat.le_of_ble_eq_true rfl)
  rw [lg_entry_eq]
  generalize (lg_sl ([.ref mo]) ++ List.replicate (2 - (lg_sl ([.ref mo])).length) Slot.unset).toArray = ls at hl ⊢
  have hl : lv_has ls 2 [(0, .ref mo)] := hl
  refine nm_Q (fun Q hQ => ?_)
  have B2 : ∀ n : Nat, ∀ (x1 : Int32) (ok : Nat → Int32) (ov : Nat → Int32), ∀ (H : Heap) (locs : List Loc), va_P (dC, dI) vwCl (wm_M cI top mo m1 m2 m3 m4 m5 m6 m7 mt cu kn vl ok ov fo pa fi va nd nk nv no) H → va_S (in_A [mo, m1, m2, m3, m4, m5, m6, m7]) s.heap H locs → ∀ ls : Array Slot, fq_keep_2 top kn vl n x1 ok ov = some v0 → lv_has ls 2 [(0, .ref mo), (1, .int x1)] → W p l e (headSpec wsX3_keep rm_1_21).room s m ([.ref mo] : List Value).toArray below meth c_ H locs 0 0 Q (F0 m 2 ls []) := by
    intro n
    induction n with
    | zero => 
      intro x1 ok ov H locs hP hS ls hf hl
      exact nomatch (show (none : Option ((Nat → Int32) × (Nat → Int32))) = some v0 from hf)
    | succ n ih =>
      intro x1 ok ov H locs hP hS ls hf hl
      rw [fq_keep_2.eq_2] at hf
      try dsimp only at hf
      refine lv_iload_n hx hb dX3_keep_2 rfl (lv_at hl 1 rfl) ?_
      refine lv_sipush (v := 1296) hx hb dX3_keep_3 (by decide) ?_
      refine lv_icmp_ge (tgt := 47) hx hb dX3_keep_6 (by decide) (fun hc => ?_) (fun hc => ?_)
      · rw [if_pos hc] at hf
        obtain rfl := Option.some.inj hf
        rw [hQ]
        exact im_vret hx hb hr hS hP dX3_keep_47 hlocks
      · rw [if_neg hc] at hf
        refine lv_aload_n hx hb dX3_keep_9 rfl (lv_at hl 0 rfl) ?_
        refine va_get (D := (dC, dI)) (ci := 2) (v := .ref m3) (C := RX3) (T := TX3) (N := 15) hx hb hts hiX3 hown hG.1 hP 0 rfl rfl 5 (by decide) (hts _ (tw_in lk_239)) (fun _ h9 => h9) rfl dX3_keep_10 ?_
        refine lv_iload_n hx hb dX3_keep_13 rfl (lv_at hl 1 rfl) ?_
        refine lv_aload_n hx hb dX3_keep_14 rfl (lv_at hl 0 rfl) ?_
        refine lv_iload_n hx hb dX3_keep_15 rfl (lv_at hl 1 rfl) ?_
        obtain ⟨r1, e2, hf⟩ := ob_s hf
        try dsimp only at hf
        refine pu_calli (va_runV (As := [.int x1]) (rest := [.int x1, .ref m3]) ⟨hx, hb, hml, hown, hts⟩ (cq_upper l dC dI cI cQ t1 t2 bs top mo m1 m2 m3 m4 m5 m6 m7 hg mt cu kn vl ok ov fo pa fi va nd nk nv no x1 r1 e2 H.size) (cwV 1 hts (gs_V lk_215 lk_217 lk_218 lk_194 lk_216) rfl rfl rfl (by decide +kernel) ⟨Nat.le_of_ble_eq_true rfl, Nat.le_of_ble_eq_true rfl⟩) (pr_V gk_W (va_recv hG.1 hP (q0 := 0) rfl rfl) ⟨(gk_S hG hS (bb_A hg)), hP⟩) rfl rfl hl.1 rfl (lv_room (Nat.le_of_ble_eq_true rfl)) dX3_keep_16 ⟨Nat.zero_le _, Nat.zero_le _⟩) ?_
        obtain ⟨hq, hf⟩ := ck_s hf
        refine va_iast hx hb hG.1 hP (dd_A hg rfl) hS 3 0 rfl rfl hq dX3_keep_19 (fun H locs hP _ hS => ?_)
        have hP : va_P (dC, dI) vwCl (wm_M cI top mo m1 m2 m3 m4 m5 m6 m7 mt cu kn vl (upd ok x1.toNatClampNeg r1) ov fo pa fi va nd nk nv no) H := hP
        refine lv_aload_n hx hb dX3_keep_20 rfl (lv_at hl 0 rfl) ?_
        refine va_get (D := (dC, dI)) (ci := 2) (v := .ref m4) (C := RX3) (T := TX3) (N := 15) hx hb hts hiX3 hown hG.1 hP 0 rfl rfl 6 (by decide) (hts _ (tw_in lk_240)) (fun _ h9 => h9) rfl dX3_keep_21 ?_
        refine lv_iload_n hx hb dX3_keep_24 rfl (lv_at hl 1 rfl) ?_
        refine lv_aload_n hx hb dX3_keep_25 rfl (lv_at hl 0 rfl) ?_
        refine va_get (D := (dC, dI)) (ci := 2) (v := .ref m2) (C := RX3) (T := TX3) (N := 15) hx hb hts hiX3 hown hG.1 hP 0 rfl rfl 4 (by decide) (hts _ (tw_in lk_203)) (fun _ h9 => h9) rfl dX3_keep_26 ?_
        refine lv_sipush (v := 1296) hx hb dX3_keep_29 (by decide) ?_
        refine lv_aload_n hx hb dX3_keep_32 rfl (lv_at hl 0 rfl) ?_
        refine va_get (D := (dC, dI)) (ci := 2) (v := .int (nI top)) (C := RX3) (T := TX3) (N := 15) hx hb hts hiX3 hown hG.1 hP 0 rfl rfl 0 (by decide) (hts _ (tw_in lk_206)) (fun _ h9 => h9) rfl dX3_keep_33 ?_
        refine lv_imul hx hb dX3_keep_36 ?_
        refine lv_iload_n hx hb dX3_keep_37 rfl (lv_at hl 1 rfl) ?_
        refine lv_iadd hx hb dX3_keep_38 ?_
        obtain ⟨hq, hf⟩ := ck_s hf
        refine va_iald hx hb hG.1 hP 2 0 rfl rfl hq dX3_keep_39 ?_
        obtain ⟨hq, hf⟩ := ck_s hf
        refine va_iast hx hb hG.1 hP (dd_A hg rfl) hS 4 0 rfl rfl hq dX3_keep_40 (fun H locs hP _ hS => ?_)
        have hP : va_P (dC, dI) vwCl (wm_M cI top mo m1 m2 m3 m4 m5 m6 m7 mt cu kn vl (upd ok x1.toNatClampNeg r1) (upd ov x1.toNatClampNeg (vl ((1296 * (nI top)) + x1).toNatClampNeg)) fo pa fi va nd nk nv no) H := hP
        refine lv_iinc (k := 1) (v := x1 + 1) (lv' := [(1, .int (x1 + 1)), (0, .ref mo)]) hx hb dX3_keep_41 hl rfl (by rfl) (by decide) rfl (fun ls hl => ?_)
        refine lv_goto (tgt := 2) hx hb dX3_keep_44 (by decide) ?_
        exact ih (x1 + 1) (upd ok x1.toNatClampNeg r1) (upd ov x1.toNatClampNeg (vl ((1296 * (nI top)) + x1).toNatClampNeg)) H locs hP hS ls hf (lv_sub hl [1, 0] rfl)
  unfold fq_keep at h
  have hgo : ∀ (H : Heap) (locs : List Loc), va_P (dC, dI) vwCl (wm_M cI top mo m1 m2 m3 m4 m5 m6 m7 mt cu kn vl ok ov fo pa fi va nd nk nv no) H → va_S (in_A [mo, m1, m2, m3, m4, m5, m6, m7]) s.heap H locs → W p l e (headSpec wsX3_keep rm_1_21).room s m ([.ref mo] : List Value).toArray below meth c_ H locs 0 0 Q (F0 m 0 ls []) := by
    intro H locs hP hS
    have hf := h
    refine lv_iconst (v := 0) hx hb dX3_keep_0 (by decide) ?_
    refine lv_istore_n (lv' := [(1, .int 0), (0, .ref mo)]) hx hb dX3_keep_1 rfl hl (by decide) rfl (fun ls hl => ?_)
    exact B2 fu_n 0 ok ov H locs hP hS ls hf (lv_sub hl [1, 0] rfl)
  exact hgo s.heap [] hP va_S.rf
set_option maxHeartbeats 4000000 in
set_option maxRecDepth 100000 in
theorem cq_isLayer (l : Launch) (dC : Nat → ClassId) (dI : Nat → Nat → Nat) (cI cQ : ClassId) (t1 t2 bs : Nat) (top mo m1 m2 m3 m4 m5 m6 m7 : Nat) (hg : gd_A bs [mo, m1, m2, m3, m4, m5, m6, m7]) (mt : Int32) (cu : Int32) (kn : Nat → Int32) (vl : Nat → Int32) (ok : Nat → Int32) (ov : Nat → Int32) (fo : Int32) (pa : Int32) (fi : Int32) (va : Int32) (nd : Nat → Int32) (nk : Nat → Int32) (nv : Nat → Int32) (no : Int32) (x1 : Int32) (v0 : Int32) (h : fq_isLayer top x1 = some v0) : pu_M l yX3_isLayer wsX3_isLayer rm_0_0 [.ref mo, .int x1] (gk_G dC dI cI cQ t1 t2 bs (wm_M cI top mo m1 m2 m3 m4 m5 m6 m7 mt cu kn vl ok ov fo pa fi va nd nk nv no)) v0 := by
  intro sz
  refine Met.ofW (cc := cX3_isLayer) (maxL := 2) (ret := (some .boolean)) (by decide) rfl ?_
  intro p e s m args below meth c_ s₁ B hml hv
  obtain ⟨rfl, hsz, hG, hP⟩ := hv
  have hx := B.exec
  have hb := B.bytes
  have hr := B.returns
  have hts := atoms_spec (ws := wsX3_isLayer) B.pre
  have hown : s.vm.findClass RX3 = some m.cls := findClass_of_methodNamed B.named
  have hlocks := B.notSynchronized
  have hiX3 : ∀ w ∈ u_ws RX3 TX3 15, w ∈ wsX3_isLayer := fun w hw => tw_in (usX3 w hw)
  have hl := lv_entry ([.ref mo, .int x1]) (n := 2) (Nat.le_of_ble_eq_true rfl)
  rw [lg_entry_eq]
  generalize (lg_sl ([.ref mo, .int x1]) ++ List.replicate (2 - (lg_sl ([.ref mo, .int x1])).length) Slot.unset).toArray = ls at hl ⊢
  have hl : lv_has ls 2 [(0, .ref mo), (1, .int x1)] := hl
  refine nm_Q (fun Q hQ => ?_)
  unfold fq_isLayer at h
  have hf := h
  refine lv_iload_n hx hb dX3_isLayer_0 rfl (lv_at hl 1 rfl) ?_
  refine lv_if_lt (tgt := 16) hx hb dX3_isLayer_1 (by decide) (fun hc => ?_) (fun hc => ?_)
  · rw [if_pos hc] at hf
    refine lv_iconst (v := 0) hx hb dX3_isLayer_16 (by decide) ?_
    obtain rfl := Option.some.inj hf
    rw [hQ]
    exact pu_iret hx hb hr (nb_0) hsz dX3_isLayer_17 hlocks
  · rw [if_neg hc] at hf
    refine lv_iload_n hx hb dX3_isLayer_4 rfl (lv_at hl 1 rfl) ?_
    refine lv_aload_n hx hb dX3_isLayer_5 rfl (lv_at hl 0 rfl) ?_
    refine va_get (D := (dC, dI)) (ci := 2) (v := .int (nI top)) (C := RX3) (T := TX3) (N := 15) hx hb hts hiX3 hown hG.1 hP 0 rfl rfl 0 (by decide) (hts _ (tw_in lk_206)) (fun _ h9 => h9) rfl dX3_isLayer_6 ?_
    refine lv_icmp_gt (tgt := 16) hx hb dX3_isLayer_9 (by decide) (fun hc => ?_) (fun hc => ?_)
    · rw [if_pos hc] at hf
      refine lv_iconst (v := 0) hx hb dX3_isLayer_16 (by decide) ?_
      obtain rfl := Option.some.inj hf
      rw [hQ]
      exact pu_iret hx hb hr (nb_0) hsz dX3_isLayer_17 hlocks
    · rw [if_neg hc] at hf
      refine lv_iconst (v := 1) hx hb dX3_isLayer_12 (by decide) ?_
      refine lv_goto (tgt := 17) hx hb dX3_isLayer_13 (by decide) ?_
      obtain rfl := Option.some.inj hf
      rw [hQ]
      exact pu_iret hx hb hr (nb_1) hsz dX3_isLayer_17 hlocks
set_option maxHeartbeats 4000000 in
set_option maxRecDepth 100000 in
theorem cq_entries (l : Launch) (dC : Nat → ClassId) (dI : Nat → Nat → Nat) (cI cQ : ClassId) (t1 t2 bs : Nat) (top mo m1 m2 m3 m4 m5 m6 m7 : Nat) (hg : gd_A bs [mo, m1, m2, m3, m4, m5, m6, m7]) (mt : Int32) (cu : Int32) (kn : Nat → Int32) (vl : Nat → Int32) (ok : Nat → Int32) (ov : Nat → Int32) (fo : Int32) (pa : Int32) (fi : Int32) (va : Int32) (nd : Nat → Int32) (nk : Nat → Int32) (nv : Nat → Int32) (no : Int32) (x1 : Int32) (v0 : Int32) (h : fq_entries top kn x1 = some v0) : pu_M l yX3_entries wsX3_entries rm_1_21 [.ref mo, .int x1] (gk_G dC dI cI cQ t1 t2 bs (wm_M cI top mo m1 m2 m3 m4 m5 m6 m7 mt cu kn vl ok ov fo pa fi va nd nk nv no)) v0 := by
  intro sz
  refine Met.ofW (cc := cX3_entries) (maxL := 4) (ret := (some .int)) (by decide) rfl ?_
  intro p e s m args below meth c_ s₁ B hml hv
  obtain ⟨rfl, hsz, hG, hP⟩ := hv
  have hx := B.exec
  have hb := B.bytes
  have hr := B.returns
  have hts := atoms_spec (ws := wsX3_entries) B.pre
  have hown : s.vm.findClass RX3 = some m.cls := findClass_of_methodNamed B.named
  have hlocks := B.notSynchronized
  have hiX3 : ∀ w ∈ u_ws RX3 TX3 15, w ∈ wsX3_entries := fun w hw => tw_in (usX3 w hw)
  have hl := lv_entry ([.ref mo, .int x1]) (n := 4) (Nat.le_of_ble_eq_true rfl)
  rw [lg_entry_eq]
  generalize (lg_sl ([.ref mo, .int x1]) ++ List.replicate (4 - (lg_sl ([.ref mo, .int x1])).length) Slot.unset).toArray = ls at hl ⊢
  have hl : lv_has ls 4 [(0, .ref mo), (1, .int x1)] := hl
  refine nm_Q (fun Q hQ => ?_)
  have B43 : ∀ (k15 : Int32 → Int32 → Option (Int32)) (hk15 : ∀ (x2 : Int32) (x3 : Int32), ∀ ls : Array Slot, k15 x2 x3 = some v0 → lv_has ls 4 [(0, .ref mo), (1, .int x1), (2, .int x2), (3, .int x3)] → W p l e (headSpec wsX3_entries rm_1_21).room s m ([.ref mo, .int x1] : List Value).toArray below meth c_ s.heap [] 0 0 Q (F0 m 15 ls [])), ∀ (x2 : Int32) (x3 : Int32) (z0 : Int32) (z1 : Int32), ∀ ls : Array Slot, fq_entries_43 top kn x1 k15 x2 x3 z0 z1 = some v0 → lv_has ls 4 [(0, .ref mo), (1, .int x1), (2, .int x2), (3, .int x3)] → W p l e (headSpec wsX3_entries rm_1_21).room s m ([.ref mo, .int x1] : List Value).toArray below meth c_ s.heap [] 0 0 Q (F0 m 43 ls [.int z0, .int z1]) := by
    intro k15 hk15
    intro x2 x3 z0 z1 ls hf hl
    unfold fq_entries_43 at hf
    refine lv_iadd hx hb dX3_entries_43 ?_
    refine lv_istore_n (lv' := [(2, .int (z1 + z0)), (0, .ref mo), (1, .int x1), (3, .int x3)]) hx hb dX3_entries_44 rfl hl (by decide) rfl (fun ls hl => ?_)
    refine lv_iinc (k := 3) (v := x3 + 1) (lv' := [(3, .int (x3 + 1)), (2, .int (z1 + z0)), (0, .ref mo), (1, .int x1)]) hx hb dX3_entries_45 hl rfl (by rfl) (by decide) rfl (fun ls hl => ?_)
    refine lv_goto (tgt := 15) hx hb dX3_entries_48 (by decide) ?_
    exact hk15 (z1 + z0) (x3 + 1) ls hf (lv_sub hl [2, 3, 1, 0] rfl)
  have B15 : ∀ n : Nat, ∀ (x2 : Int32) (x3 : Int32), ∀ ls : Array Slot, fq_entries_15 top kn x1 n x2 x3 = some v0 → lv_has ls 4 [(0, .ref mo), (1, .int x1), (2, .int x2), (3, .int x3)] → W p l e (headSpec wsX3_entries rm_1_21).room s m ([.ref mo, .int x1] : List Value).toArray below meth c_ s.heap [] 0 0 Q (F0 m 15 ls []) := by
    intro n
    induction n with
    | zero => 
      intro x2 x3 ls hf hl
      exact nomatch (show (none : Option (Int32)) = some v0 from hf)
    | succ n ih =>
      intro x2 x3 ls hf hl
      rw [fq_entries_15.eq_2] at hf
      try dsimp only at hf
      refine lv_iload_n hx hb dX3_entries_15 rfl (lv_at hl 3 rfl) ?_
      refine lv_sipush (v := 1296) hx hb dX3_entries_16 (by decide) ?_
      refine lv_icmp_ge (tgt := 51) hx hb dX3_entries_19 (by decide) (fun hc => ?_) (fun hc => ?_)
      · rw [if_pos hc] at hf
        refine lv_iload_n hx hb dX3_entries_51 rfl (lv_at hl 2 rfl) ?_
        obtain rfl := Option.some.inj hf
        rw [hQ]
        exact pu_iret hx hb hr (vp_nar_int _) hsz dX3_entries_52 hlocks
      · rw [if_neg hc] at hf
        refine lv_iload_n hx hb dX3_entries_22 rfl (lv_at hl 2 rfl) ?_
        refine lv_aload_n hx hb dX3_entries_23 rfl (lv_at hl 0 rfl) ?_
        refine va_get (D := (dC, dI)) (ci := 2) (v := .ref m1) (C := RX3) (T := TX3) (N := 15) hx hb hts hiX3 hown hG.1 hP 0 rfl rfl 3 (by decide) (hts _ (tw_in lk_205)) (fun _ h9 => h9) rfl dX3_entries_24 ?_
        refine lv_sipush (v := 1296) hx hb dX3_entries_27 (by decide) ?_
        refine lv_iload_n hx hb dX3_entries_30 rfl (lv_at hl 1 rfl) ?_
        refine lv_imul hx hb dX3_entries_31 ?_
        refine lv_iload_n hx hb dX3_entries_32 rfl (lv_at hl 3 rfl) ?_
        refine lv_iadd hx hb dX3_entries_33 ?_
        obtain ⟨hq, hf⟩ := ck_s hf
        refine va_iald hx hb hG.1 hP 1 0 rfl rfl hq dX3_entries_34 ?_
        refine lv_if_le (tgt := 42) hx hb dX3_entries_35 (by decide) (fun hc => ?_) (fun hc => ?_)
        · rw [if_pos hc] at hf
          refine lv_iconst (v := 0) hx hb dX3_entries_42 (by decide) ?_
          exact B43 (fq_entries_15 top kn x1 n) ih x2 x3 0 x2 ls hf (lv_sub hl [0, 1, 2, 3] rfl)
        · rw [if_neg hc] at hf
          refine lv_iconst (v := 1) hx hb dX3_entries_38 (by decide) ?_
          refine lv_goto (tgt := 43) hx hb dX3_entries_39 (by decide) ?_
          exact B43 (fq_entries_15 top kn x1 n) ih x2 x3 1 x2 ls hf (lv_sub hl [0, 1, 2, 3] rfl)
  unfold fq_entries at h
  have hf := h
  refine lv_aload_n hx hb dX3_entries_0 rfl (lv_at hl 0 rfl) ?_
  refine lv_iload_n hx hb dX3_entries_1 rfl (lv_at hl 1 rfl) ?_
  obtain ⟨r1, e2, hf⟩ := ob_s hf
  try dsimp only at hf
  refine pu_calli (va_runV (As := [.int x1]) (rest := []) ⟨hx, hb, hml, hown, hts⟩ (cq_isLayer l dC dI cI cQ t1 t2 bs top mo m1 m2 m3 m4 m5 m6 m7 hg mt cu kn vl ok ov fo pa fi va nd nk nv no x1 r1 e2 s.heap.size) (cwV 1 hts (gs_V lk_241 lk_243 lk_244 lk_194 lk_242) rfl rfl rfl (by decide +kernel) ⟨Nat.le_of_ble_eq_true rfl, Nat.le_of_ble_eq_true rfl⟩) (pr_V gk_W (va_recv hG.1 hP (q0 := 0) rfl rfl) ⟨hG, hP⟩) rfl rfl hl.1 rfl (lv_room (Nat.le_of_ble_eq_true rfl)) dX3_entries_2 ⟨Nat.zero_le _, Nat.zero_le _⟩) ?_
  refine lv_if_ne (tgt := 11) hx hb dX3_entries_5 (by decide) (fun hc => ?_) (fun hc => ?_)
  · rw [if_neg hc] at hf
    refine lv_iconst (v := 0) hx hb dX3_entries_11 (by decide) ?_
    refine lv_istore_n (lv' := [(2, .int 0), (0, .ref mo), (1, .int x1)]) hx hb dX3_entries_12 rfl hl (by decide) rfl (fun ls hl => ?_)
    refine lv_iconst (v := 1) hx hb dX3_entries_13 (by decide) ?_
    refine lv_istore_n (lv' := [(3, .int 1), (2, .int 0), (0, .ref mo), (1, .int x1)]) hx hb dX3_entries_14 rfl hl (by decide) rfl (fun ls hl => ?_)
    exact B15 fu_n 0 1 ls hf (lv_sub hl [2, 3, 1, 0] rfl)
  · rw [if_pos hc] at hf
    refine lv_bipush (v := (-2)) hx hb dX3_entries_8 (by decide) ?_
    obtain rfl := Option.some.inj hf
    rw [hQ]
    exact pu_iret hx hb hr (vp_nar_int _) hsz dX3_entries_10 hlocks
set_option maxHeartbeats 4000000 in
set_option maxRecDepth 100000 in
theorem cq_end (l : Launch) (dC : Nat → ClassId) (dI : Nat → Nat → Nat) (cI cQ : ClassId) (t1 t2 bs : Nat) (top mo m1 m2 m3 m4 m5 m6 m7 : Nat) (hg : gd_A bs [mo, m1, m2, m3, m4, m5, m6, m7]) (mt : Int32) (cu : Int32) (kn : Nat → Int32) (vl : Nat → Int32) (ok : Nat → Int32) (ov : Nat → Int32) (fo : Int32) (pa : Int32) (fi : Int32) (va : Int32) (nd : Nat → Int32) (nk : Nat → Int32) (nv : Nat → Int32) (no : Int32) (x1 : Int32) (v0 : Int32 × Int32 × (Nat → Int32) × (Nat → Int32)) (h : fq_end top cu kn vl ok ov x1 = some v0) : im_I l yX3_end wsX3_end rm_2_44 [.ref mo, .int x1] (gk_G dC dI cI cQ t1 t2 bs (wm_M cI top mo m1 m2 m3 m4 m5 m6 m7 mt cu kn vl ok ov fo pa fi va nd nk nv no)) v0.1 (va_P (dC, dI) vwCl (wm_M cI top mo m1 m2 m3 m4 m5 m6 m7 mt v0.2.1 v0.2.2.1 v0.2.2.2 ok ov fo pa fi va nd nk nv no)) (in_A [mo, m1, m2, m3, m4, m5, m6, m7]) := by
  intro sz
  refine Met.ofW (cc := cX3_end) (maxL := 3) (ret := (some .int)) (by decide) rfl ?_
  intro p e s m args below meth c_ s₁ B hml hv
  obtain ⟨rfl, hsz, hG, hP⟩ := hv
  have hx := B.exec
  have hb := B.bytes
  have hr := B.returns
  have hts := atoms_spec (ws := wsX3_end) B.pre
  have hown : s.vm.findClass RX3 = some m.cls := findClass_of_methodNamed B.named
  have hlocks := B.notSynchronized
  have hiX3 : ∀ w ∈ u_ws RX3 TX3 15, w ∈ wsX3_end := fun w hw => tw_in (usX3 w hw)
  have hl := lv_entry ([.ref mo, .int x1]) (n := 3) (Nat.le_of_ble_eq_true rfl)
  rw [lg_entry_eq]
  generalize (lg_sl ([.ref mo, .int x1]) ++ List.replicate (3 - (lg_sl ([.ref mo, .int x1])).length) Slot.unset).toArray = ls at hl ⊢
  have hl : lv_has ls 3 [(0, .ref mo), (1, .int x1)] := hl
  refine nm_Q (fun Q hQ => ?_)
  have B17 : ∀ n : Nat, ∀ (x2 : Int32) (cu : Int32) (kn : Nat → Int32) (vl : Nat → Int32), ∀ (H : Heap) (locs : List Loc), va_P (dC, dI) vwCl (wm_M cI top mo m1 m2 m3 m4 m5 m6 m7 mt cu kn vl ok ov fo pa fi va nd nk nv no) H → va_S (in_A [mo, m1, m2, m3, m4, m5, m6, m7]) s.heap H locs → ∀ ls : Array Slot, fq_end_17 top ok ov x1 n x2 cu kn vl = some v0 → lv_has ls 3 [(0, .ref mo), (1, .int x1), (2, .int x2)] → W p l e (headSpec wsX3_end rm_2_44).room s m ([.ref mo, .int x1] : List Value).toArray below meth c_ H locs 0 0 Q (F0 m 17 ls []) := by
    intro n
    induction n with
    | zero => 
      intro x2 cu kn vl H locs hP hS ls hf hl
      exact nomatch (show (none : Option (Int32 × Int32 × (Nat → Int32) × (Nat → Int32))) = some v0 from hf)
    | succ n ih =>
      intro x2 cu kn vl H locs hP hS ls hf hl
      rw [fq_end_17.eq_2] at hf
      try dsimp only at hf
      refine lv_iload_n hx hb dX3_end_17 rfl (lv_at hl 2 rfl) ?_
      refine lv_sipush (v := 1296) hx hb dX3_end_18 (by decide) ?_
      refine lv_icmp_ge (tgt := 47) hx hb dX3_end_21 (by decide) (fun hc => ?_) (fun hc => ?_)
      · rw [if_pos hc] at hf
        refine lv_aload_n hx hb dX3_end_47 rfl (lv_at hl 0 rfl) ?_
        refine lv_iload_n hx hb dX3_end_48 rfl (lv_at hl 1 rfl) ?_
        refine va_put (D := (dC, dI)) (ci := 2) (v := .int x1) (ty := .int) (C := RX3) (T := TX3) (N := 15) hx hb hts hiX3 tyX3 tyX3_ok nmX3 hown hG.1 hP (dd_A hg rfl) hS 0 rfl rfl 2 (by decide) (hts _ (tw_in lk_223)) (fun _ h9 => h9) rfl (by decide +kernel) rfl rfl (Nat.le_of_ble_eq_true rfl) dX3_end_49 (fun H locs hP _ hS => ?_)
        have hP : va_P (dC, dI) vwCl (wm_M cI top mo m1 m2 m3 m4 m5 m6 m7 mt x1 kn vl ok ov fo pa fi va nd nk nv no) H := hP
        refine lv_bipush (v := (-11)) hx hb dX3_end_52 (by decide) ?_
        obtain rfl := Option.some.inj hf
        rw [hQ]
        exact im_iret hx hb hr (vp_nar_int _) hS hP dX3_end_54 hlocks
      · rw [if_neg hc] at hf
        refine lv_aload_n hx hb dX3_end_24 rfl (lv_at hl 0 rfl) ?_
        refine lv_iload_n hx hb dX3_end_25 rfl (lv_at hl 2 rfl) ?_
        refine lv_aload_n hx hb dX3_end_26 rfl (lv_at hl 0 rfl) ?_
        refine va_get (D := (dC, dI)) (ci := 2) (v := .ref m3) (C := RX3) (T := TX3) (N := 15) hx hb hts hiX3 hown hG.1 hP 0 rfl rfl 5 (by decide) (hts _ (tw_in lk_239)) (fun _ h9 => h9) rfl dX3_end_27 ?_
        refine lv_iload_n hx hb dX3_end_30 rfl (lv_at hl 2 rfl) ?_
        obtain ⟨hq, hf⟩ := ck_s hf
        refine va_iald hx hb hG.1 hP 3 0 rfl rfl hq dX3_end_31 ?_
        refine lv_aload_n hx hb dX3_end_32 rfl (lv_at hl 0 rfl) ?_
        refine va_get (D := (dC, dI)) (ci := 2) (v := .ref m4) (C := RX3) (T := TX3) (N := 15) hx hb hts hiX3 hown hG.1 hP 0 rfl rfl 6 (by decide) (hts _ (tw_in lk_240)) (fun _ h9 => h9) rfl dX3_end_33 ?_
        refine lv_iload_n hx hb dX3_end_36 rfl (lv_at hl 2 rfl) ?_
        obtain ⟨hq, hf⟩ := ck_s hf
        refine va_iald hx hb hG.1 hP 4 0 rfl rfl hq dX3_end_37 ?_
        obtain ⟨r1, e2, hf⟩ := ob_s hf
        try dsimp only at hf
        refine im_callv (va_runV (As := [.int x2, .int (ok x2.toNatClampNeg), .int (ov x2.toNatClampNeg)]) (rest := []) ⟨hx, hb, hml, hown, hts⟩ (cq_set l dC dI cI cQ t1 t2 bs top mo m1 m2 m3 m4 m5 m6 m7 hg mt cu kn vl ok ov fo pa fi va nd nk nv no x2 (ok x2.toNatClampNeg) (ov x2.toNatClampNeg) r1 e2 H.size) (cwV 3 hts (gs_V lk_219 lk_221 lk_222 lk_194 lk_220) rfl rfl rfl (by decide +kernel) ⟨Nat.le_of_ble_eq_true rfl, Nat.le_of_ble_eq_true rfl⟩) (pr_V gk_W (va_recv hG.1 hP (q0 := 0) rfl rfl) ⟨(gk_S hG hS (bb_A hg)), hP⟩) rfl rfl hl.1 rfl (lv_room (Nat.le_of_ble_eq_true rfl)) dX3_end_38 ⟨Nat.zero_le _, Nat.zero_le _⟩) hS (fun _ h => h) (fun H locs hP1 hk1 hS => ?_)
        have hP : va_P (dC, dI) vwCl (wm_M cI top mo m1 m2 m3 m4 m5 m6 m7 mt cu r1.1 r1.2 ok ov fo pa fi va nd nk nv no) H := hP1
        refine lv_iinc (k := 2) (v := x2 + 1) (lv' := [(2, .int (x2 + 1)), (0, .ref mo), (1, .int x1)]) hx hb dX3_end_41 hl rfl (by rfl) (by decide) rfl (fun ls hl => ?_)
        refine lv_goto (tgt := 17) hx hb dX3_end_44 (by decide) ?_
        exact ih (x2 + 1) cu r1.1 r1.2 H locs hP hS ls hf (lv_sub hl [1, 2, 0] rfl)
  unfold fq_end at h
  have hgo : ∀ (H : Heap) (locs : List Loc), va_P (dC, dI) vwCl (wm_M cI top mo m1 m2 m3 m4 m5 m6 m7 mt cu kn vl ok ov fo pa fi va nd nk nv no) H → va_S (in_A [mo, m1, m2, m3, m4, m5, m6, m7]) s.heap H locs → W p l e (headSpec wsX3_end rm_2_44).room s m ([.ref mo, .int x1] : List Value).toArray below meth c_ H locs 0 0 Q (F0 m 0 ls []) := by
    intro H locs hP hS
    have hf := h
    refine lv_aload_n hx hb dX3_end_0 rfl (lv_at hl 0 rfl) ?_
    refine lv_aload_n hx hb dX3_end_1 rfl (lv_at hl 0 rfl) ?_
    refine va_get (D := (dC, dI)) (ci := 2) (v := .int (nI top)) (C := RX3) (T := TX3) (N := 15) hx hb hts hiX3 hown hG.1 hP 0 rfl rfl 0 (by decide) (hts _ (tw_in lk_206)) (fun _ h9 => h9) rfl dX3_end_2 ?_
    obtain ⟨r3, e4, hf⟩ := ob_s hf
    try dsimp only at hf
    refine pu_calli (va_runV (As := [.int (nI top)]) (rest := []) ⟨hx, hb, hml, hown, hts⟩ (cq_entries l dC dI cI cQ t1 t2 bs top mo m1 m2 m3 m4 m5 m6 m7 hg mt cu kn vl ok ov fo pa fi va nd nk nv no (nI top) r3 e4 H.size) (cwV 1 hts (gs_V lk_245 lk_247 lk_248 lk_194 lk_246) rfl rfl rfl (by decide +kernel) ⟨Nat.le_of_ble_eq_true rfl, Nat.le_of_ble_eq_true rfl⟩) (pr_V gk_W (va_recv hG.1 hP (q0 := 0) rfl rfl) ⟨(gk_S hG hS (bb_A hg)), hP⟩) rfl rfl hl.1 rfl (lv_room (Nat.le_of_ble_eq_true rfl)) dX3_end_5 ⟨Nat.zero_le _, Nat.zero_le _⟩) ?_
    refine lv_bipush (v := 30) hx hb dX3_end_8 (by decide) ?_
    refine lv_icmp_gt (tgt := 15) hx hb dX3_end_10 (by decide) (fun hc => ?_) (fun hc => ?_)
    · rw [if_pos hc] at hf
      refine lv_iconst (v := 0) hx hb dX3_end_15 (by decide) ?_
      refine lv_istore_n (lv' := [(2, .int 0), (0, .ref mo), (1, .int x1)]) hx hb dX3_end_16 rfl hl (by decide) rfl (fun ls hl => ?_)
      exact B17 fu_n 0 cu kn vl H locs hP hS ls hf (lv_sub hl [1, 2, 0] rfl)
    · rw [if_neg hc] at hf
      refine lv_iconst (v := 0) hx hb dX3_end_13 (by decide) ?_
      obtain rfl := Option.some.inj hf
      rw [hQ]
      exact im_iret hx hb hr (vp_nar_int _) hS hP dX3_end_14 hlocks
  exact hgo s.heap [] hP va_S.rf
