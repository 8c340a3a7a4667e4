set_option maxHeartbeats 4000000 in
set_option maxRecDepth 100000 in
theorem cp_child (l : Launch) (dC : Nat → ClassId) (dI : Nat → Nat → Nat) (cI cQ : ClassId) (t1 t2 bs : Nat) (x0 : Int32) (x1 : Int32) (v0 : Int32) (h : fp_child x0 x1 = some v0) : pu_M l yX1_child wsX1_child rm_0_0 [.int x0, .int x1] (gk_G dC dI cI cQ t1 t2 bs []) v0 := by
  intro sz
  refine Met.ofW (cc := cX1_child) (maxL := 2) (ret := (some .int)) (by decide) rfl ?_
  intro p e s m args below meth c_ s₁ B hml hv
  obtain ⟨rfl, hsz, hG, hP⟩ := hv
  have hx := B.exec
  have hb := B.bytes
  have hr := B.returns
  have hts := atoms_spec (ws := wsX1_child) B.pre
  have hown : s.vm.findClass RX1 = some m.cls := findClass_of_methodNamed B.named
  have hlocks := B.notSynchronized
  have hl := lv_entry ([.int x0, .int x1]) (n := 2) (Nat.le_of_ble_eq_true rfl)
  rw [lg_entry_eq]
  generalize (lg_sl ([.int x0, .int x1]) ++ List.replicate (2 - (lg_sl ([.int x0, .int x1])).length) Slot.unset).toArray = ls at hl ⊢
  have hl : lv_has ls 2 [(0, .int x0), (1, .int x1)] := hl
  refine nm_Q (fun Q hQ => ?_)
  unfold fp_child at h
  have hf := h
  refine lv_iload_n hx hb dX1_child_0 rfl (lv_at hl 0 rfl) ?_
  refine lv_iconst (v := 5) hx hb dX1_child_1 (by decide) ?_
  refine lv_imul hx hb dX1_child_2 ?_
  refine lv_iload_n hx hb dX1_child_3 rfl (lv_at hl 1 rfl) ?_
  refine lv_iadd hx hb dX1_child_4 ?_
  obtain rfl := Option.some.inj hf
  rw [hQ]
  exact pu_iret hx hb hr (vp_nar_int _) hsz dX1_child_5 hlocks
set_option maxHeartbeats 4000000 in
set_option maxRecDepth 100000 in
theorem cp_ofPath (l : Launch) (dC : Nat → ClassId) (dI : Nat → Nat → Nat) (cI cQ : ClassId) (t1 t2 bs : Nat) (x0 : Int32) (v0 : Int32) (h : fp_ofPath x0 = some v0) : pu_M l yX1_ofPath wsX1_ofPath rm_1_21 [.int x0] (gk_G dC dI cI cQ t1 t2 bs []) v0 := by
  intro sz
  refine Met.ofW (cc := cX1_ofPath) (maxL := 4) (ret := (some .int)) (by decide) rfl ?_
  intro p e s m args below meth c_ s₁ B hml hv
  obtain ⟨rfl, hsz, hG, hP⟩ := hv
  have hx := B.exec
  have hb := B.bytes
  have hr := B.returns
  have hts := atoms_spec (ws := wsX1_ofPath) B.pre
  have hown : s.vm.findClass RX1 = some m.cls := findClass_of_methodNamed B.named
  have hlocks := B.notSynchronized
  have hl := lv_entry ([.int x0]) (n := 4) (Nat.le_of_ble_eq_true rfl)
  rw [lg_entry_eq]
  generalize (lg_sl ([.int x0]) ++ List.replicate (4 - (lg_sl ([.int x0])).length) Slot.unset).toArray = ls at hl ⊢
  have hl : lv_has ls 4 [(0, .int x0)] := hl
  refine nm_Q (fun Q hQ => ?_)
  have B53 : ∀ (k19 : Int32 → Int32 → Option (Int32)) (hk19 : ∀ (x1 : Int32) (x2 : Int32), ∀ ls : Array Slot, k19 x1 x2 = some v0 → lv_has ls 4 [(0, .int x0), (1, .int x1), (2, .int x2)] → W p l e (headSpec wsX1_ofPath rm_1_21).room s m ([.int x0] : List Value).toArray below meth c_ s.heap [] 0 0 Q (F0 m 19 ls [])), ∀ (x1 : Int32) (x2 : Int32), ∀ ls : Array Slot, fp_ofPath_53 x0 k19 x1 x2 = some v0 → lv_has ls 4 [(0, .int x0), (1, .int x1), (2, .int x2)] → W p l e (headSpec wsX1_ofPath rm_1_21).room s m ([.int x0] : List Value).toArray below meth c_ s.heap [] 0 0 Q (F0 m 53 ls []) := by
    intro k19 hk19
    intro x1 x2 ls hf hl
    unfold fp_ofPath_53 at hf
    refine lv_iload_n hx hb dX1_ofPath_53 rfl (lv_at hl 2 rfl) ?_
    refine lv_bipush (v := 10) hx hb dX1_ofPath_54 (by decide) ?_
    refine lv_idiv hx hb dX1_ofPath_56 (by decide) ?_
    refine lv_istore_n (lv' := [(2, .int (x2 / 10)), (0, .int x0), (1, .int x1)]) hx hb dX1_ofPath_57 rfl hl (by decide) rfl (fun ls hl => ?_)
    refine lv_goto (tgt := 19) hx hb dX1_ofPath_58 (by decide) ?_
    exact hk19 x1 (x2 / 10) ls hf (lv_sub hl [1, 2, 0] rfl)
  have B19 : ∀ n : Nat, ∀ (x1 : Int32) (x2 : Int32), ∀ ls : Array Slot, fp_ofPath_19 x0 n x1 x2 = some v0 → lv_has ls 4 [(0, .int x0), (1, .int x1), (2, .int x2)] → W p l e (headSpec wsX1_ofPath rm_1_21).room s m ([.int x0] : List Value).toArray below meth c_ s.heap [] 0 0 Q (F0 m 19 ls []) := by
    intro n
    induction n with
    | zero => 
      intro x1 x2 ls hf hl
      exact nomatch (show (none : Option (Int32)) = some v0 from hf)
    | succ n ih =>
      intro x1 x2 ls hf hl
      rw [fp_ofPath_19.eq_2] at hf
      try dsimp only at hf
      refine lv_iload_n hx hb dX1_ofPath_19 rfl (lv_at hl 2 rfl) ?_
      refine lv_if_le (tgt := 61) hx hb dX1_ofPath_20 (by decide) (fun hc => ?_) (fun hc => ?_)
      · rw [if_pos hc] at hf
        refine lv_iload_n hx hb dX1_ofPath_61 rfl (lv_at hl 1 rfl) ?_
        obtain rfl := Option.some.inj hf
        rw [hQ]
        exact pu_iret hx hb hr (vp_nar_int _) hsz dX1_ofPath_62 hlocks
      · rw [if_neg hc] at hf
        refine lv_iload_n hx hb dX1_ofPath_23 rfl (lv_at hl 0 rfl) ?_
        refine lv_iload_n hx hb dX1_ofPath_24 rfl (lv_at hl 2 rfl) ?_
        refine lv_icmp_lt (tgt := 53) hx hb dX1_ofPath_25 (by decide) (fun hc => ?_) (fun hc => ?_)
        · rw [if_pos hc] at hf
          exact B53 (fp_ofPath_19 x0 n) ih x1 x2 ls hf (lv_sub hl [0, 1, 2] rfl)
        · rw [if_neg hc] at hf
          refine lv_iload_n hx hb dX1_ofPath_28 rfl (lv_at hl 0 rfl) ?_
          refine lv_iload_n hx hb dX1_ofPath_29 rfl (lv_at hl 2 rfl) ?_
          obtain ⟨hq, hf⟩ := ck_s hf
          refine lv_idiv hx hb dX1_ofPath_30 hq ?_
          refine lv_bipush (v := 10) hx hb dX1_ofPath_31 (by decide) ?_
          refine lv_irem hx hb dX1_ofPath_33 (by decide) ?_
          refine lv_istore_n (lv' := [(3, .int ((x0 / x2) - (x0 / x2) / 10 * 10)), (0, .int x0), (1, .int x1), (2, .int x2)]) hx hb dX1_ofPath_34 rfl hl (by decide) rfl (fun ls hl => ?_)
          refine lv_iload_n hx hb dX1_ofPath_35 rfl (lv_at hl 0 rfl) ?_
          refine lv_iconst (v := 1) hx hb dX1_ofPath_36 (by decide) ?_
          refine lv_icmp_lt (tgt := 45) hx hb dX1_ofPath_37 (by decide) (fun hc => ?_) (fun hc => ?_)
          · rw [if_pos hc] at hf
            refine lv_iconst (v := (-1)) hx hb dX1_ofPath_45 (by decide) ?_
            obtain rfl := Option.some.inj hf
            rw [hQ]
            exact pu_iret hx hb hr (vp_nar_int _) hsz dX1_ofPath_46 hlocks
          · rw [if_neg hc] at hf
            refine lv_iload_n hx hb dX1_ofPath_40 rfl (lv_at hl 0 rfl) ?_
            refine lv_iconst (v := 5) hx hb dX1_ofPath_41 (by decide) ?_
            refine lv_icmp_le (tgt := 47) hx hb dX1_ofPath_42 (by decide) (fun hc => ?_) (fun hc => ?_)
            · rw [if_pos hc] at hf
              refine lv_iload_n hx hb dX1_ofPath_47 rfl (lv_at hl 2 rfl) ?_
              refine lv_iload_n hx hb dX1_ofPath_48 rfl (lv_at hl 0 rfl) ?_
              obtain ⟨r1, e2, hf⟩ := ob_s hf
              try dsimp only at hf
              refine pu_calli (va_runS (As := [.int x1, .int ((x0 / x2) - (x0 / x2) / 10 * 10)]) (rest := []) ⟨hx, hb, hml, hown, hts⟩ (cp_child l dC dI cI cQ t1 t2 bs x1 ((x0 / x2) - (x0 / x2) / 10 * 10) r1 e2 s.heap.size) (va_cwS 2 hts (gs_S lk_0 lk_3 lk_1 lk_2) rfl rfl rfl (by decide +kernel) ⟨Nat.le_of_ble_eq_true rfl, Nat.le_of_ble_eq_true rfl⟩) (pr_S gk_W ⟨hG, pz_0⟩) rfl rfl hl.1 rfl (lv_room (Nat.le_of_ble_eq_true rfl)) dX1_ofPath_49 ⟨Nat.zero_le _, Nat.zero_le _⟩) ?_
              refine lv_istore_n (lv' := [(1, .int r1), (3, .int ((x0 / x2) - (x0 / x2) / 10 * 10)), (0, .int x0), (2, .int x2)]) hx hb dX1_ofPath_52 rfl hl (by decide) rfl (fun ls hl => ?_)
              exact B53 (fp_ofPath_19 x0 n) ih r1 x2 ls hf (lv_sub hl [2, 0, 3] rfl)
            · rw [if_neg hc] at hf
              refine lv_iconst (v := (-1)) hx hb dX1_ofPath_45 (by decide) ?_
              obtain rfl := Option.some.inj hf
              rw [hQ]
              exact pu_iret hx hb hr (vp_nar_int _) hsz dX1_ofPath_46 hlocks
  unfold fp_ofPath at h
  have hf := h
  refine lv_iload_n hx hb dX1_ofPath_0 rfl (lv_at hl 0 rfl) ?_
  refine lv_if_lt (tgt := 11) hx hb dX1_ofPath_1 (by decide) (fun hc => ?_) (fun hc => ?_)
  · rw [if_pos hc] at hf
    refine lv_iconst (v := (-1)) hx hb dX1_ofPath_11 (by decide) ?_
    obtain rfl := Option.some.inj hf
    rw [hQ]
    exact pu_iret hx hb hr (vp_nar_int _) hsz dX1_ofPath_12 hlocks
  · rw [if_neg hc] at hf
    refine lv_iload_n hx hb dX1_ofPath_4 rfl (lv_at hl 0 rfl) ?_
    refine lv_sipush (v := 10000) hx hb dX1_ofPath_5 (by decide) ?_
    refine lv_icmp_lt (tgt := 13) hx hb dX1_ofPath_8 (by decide) (fun hc => ?_) (fun hc => ?_)
    · rw [if_pos hc] at hf
      refine lv_iconst (v := 0) hx hb dX1_ofPath_13 (by decide) ?_
      refine lv_istore_n (lv' := [(1, .int 0), (0, .int x0)]) hx hb dX1_ofPath_14 rfl hl (by decide) rfl (fun ls hl => ?_)
      refine lv_sipush (v := 1000) hx hb dX1_ofPath_15 (by decide) ?_
      refine lv_istore_n (lv' := [(2, .int 1000), (1, .int 0), (0, .int x0)]) hx hb dX1_ofPath_18 rfl hl (by decide) rfl (fun ls hl => ?_)
      exact B19 fu_n 0 1000 ls hf (lv_sub hl [2, 1, 0] rfl)
    · rw [if_neg hc] at hf
      refine lv_iconst (v := (-1)) hx hb dX1_ofPath_11 (by decide) ?_
      obtain rfl := Option.some.inj hf
      rw [hQ]
      exact pu_iret hx hb hr (vp_nar_int _) hsz dX1_ofPath_12 hlocks
set_option maxHeartbeats 4000000 in
set_option maxRecDepth 100000 in
theorem cp_above (l : Launch) (dC : Nat → ClassId) (dI : Nat → Nat → Nat) (cI cQ : ClassId) (t1 t2 bs : Nat) (x0 : Int32) (x1 : Int32) (v0 : Int32) (h : fp_above x0 x1 = some v0) : pu_M l yX1_above wsX1_above rm_0_0 [.int x0, .int x1] (gk_G dC dI cI cQ t1 t2 bs []) v0 := by
  intro sz
  refine Met.ofW (cc := cX1_above) (maxL := 2) (ret := (some .int)) (by decide) rfl ?_
  intro p e s m args below meth c_ s₁ B hml hv
  obtain ⟨rfl, hsz, hG, hP⟩ := hv
  have hx := B.exec
  have hb := B.bytes
  have hr := B.returns
  have hts := atoms_spec (ws := wsX1_above) B.pre
  have hown : s.vm.findClass RX1 = some m.cls := findClass_of_methodNamed B.named
  have hlocks := B.notSynchronized
  have hT1 := hG.2.2.1
  have hT2 := hG.2.2.2.2
  have hl := lv_entry ([.int x0, .int x1]) (n := 2) (Nat.le_of_ble_eq_true rfl)
  rw [lg_entry_eq]
  generalize (lg_sl ([.int x0, .int x1]) ++ List.replicate (2 - (lg_sl ([.int x0, .int x1])).length) Slot.unset).toArray = ls at hl ⊢
  have hl : lv_has ls 2 [(0, .int x0), (1, .int x1)] := hl
  refine nm_Q (fun Q hQ => ?_)
  unfold fp_above at h
  have hf := h
  refine lv_iload_n hx hb dX1_above_0 rfl (lv_at hl 0 rfl) ?_
  refine va_gets (C := RX1) hx hb hG.2.1 (va_S.rf (A := fun q => bs ≤ q)) hown (hts _ (tw_in lk_6)) (fun _ h9 => h9) dX1_above_1 ?_
  refine lv_iload_n hx hb dX1_above_4 rfl (lv_at hl 1 rfl) ?_
  obtain ⟨hq, hf⟩ := ck_s hf
  refine va_ti (N := 5) hx hb hT1 (va_S.rf (A := fun q => bs ≤ q)) hq rfl dX1_above_5 ?_
  refine lv_isub hx hb dX1_above_6 ?_
  refine va_gets (C := RX1) hx hb hG.2.2.2.1 (va_S.rf (A := fun q => bs ≤ q)) hown (hts _ (tw_in lk_7)) (fun _ h9 => h9) dX1_above_7 ?_
  refine lv_iload_n hx hb dX1_above_10 rfl (lv_at hl 1 rfl) ?_
  obtain ⟨hq, hf⟩ := ck_s hf
  refine va_ti (N := 5) hx hb hT2 (va_S.rf (A := fun q => bs ≤ q)) hq rfl dX1_above_11 ?_
  obtain ⟨hq, hf⟩ := ck_s hf
  refine lv_idiv hx hb dX1_above_12 hq ?_
  obtain rfl := Option.some.inj hf
  rw [hQ]
  exact pu_iret hx hb hr (vp_nar_int _) hsz dX1_above_13 hlocks
set_option maxHeartbeats 4000000 in
set_option maxRecDepth 100000 in
theorem cp_parent (l : Launch) (dC : Nat → ClassId) (dI : Nat → Nat → Nat) (cI cQ : ClassId) (t1 t2 bs : Nat) (x0 : Int32) (v0 : Int32) (h : fp_parent x0 = some v0) : pu_M l yX1_parent wsX1_parent rm_1_21 [.int x0] (gk_G dC dI cI cQ t1 t2 bs []) v0 := by
  intro sz
  refine Met.ofW (cc := cX1_parent) (maxL := 1) (ret := (some .int)) (by decide) rfl ?_
  intro p e s m args below meth c_ s₁ B hml hv
  obtain ⟨rfl, hsz, hG, hP⟩ := hv
  have hx := B.exec
  have hb := B.bytes
  have hr := B.returns
  have hts := atoms_spec (ws := wsX1_parent) B.pre
  have hown : s.vm.findClass RX1 = some m.cls := findClass_of_methodNamed B.named
  have hlocks := B.notSynchronized
  have hl := lv_entry ([.int x0]) (n := 1) (Nat.le_of_ble_eq_true rfl)
  rw [lg_entry_eq]
  generalize (lg_sl ([.int x0]) ++ List.replicate (1 - (lg_sl ([.int x0])).length) Slot.unset).toArray = ls at hl ⊢
  have hl : lv_has ls 1 [(0, .int x0)] := hl
  refine nm_Q (fun Q hQ => ?_)
  unfold fp_parent at h
  have hf := h
  refine lv_iload_n hx hb dX1_parent_0 rfl (lv_at hl 0 rfl) ?_
  refine lv_iconst (v := 1) hx hb dX1_parent_1 (by decide) ?_
  obtain ⟨r1, e2, hf⟩ := ob_s hf
  try dsimp only at hf
  refine pu_calli (va_runS (As := [.int x0, .int 1]) (rest := []) ⟨hx, hb, hml, hown, hts⟩ (cp_above l dC dI cI cQ t1 t2 bs x0 1 r1 e2 s.heap.size) (va_cwS 2 hts (gs_S lk_8 lk_10 lk_1 lk_9) rfl rfl rfl (by decide +kernel) ⟨Nat.le_of_ble_eq_true rfl, Nat.le_of_ble_eq_true rfl⟩) (pr_S gk_W ⟨hG, pz_0⟩) rfl rfl hl.1 rfl (lv_room (Nat.le_of_ble_eq_true rfl)) dX1_parent_2 ⟨Nat.zero_le _, Nat.zero_le _⟩) ?_
  obtain rfl := Option.some.inj hf
  rw [hQ]
  exact pu_iret hx hb hr (vp_nar_int _) hsz dX1_parent_5 hlocks
set_option maxHeartbeats 4000000 in
set_option maxRecDepth 100000 in
theorem cp_depth (l : Launch) (dC : Nat → ClassId) (dI : Nat → Nat → Nat) (cI cQ : ClassId) (t1 t2 bs : Nat) (x0 : Int32) (v0 : Int32) (h : fp_depth x0 = some v0) : pu_M l yX1_depth wsX1_depth rm_0_0 [.int x0] (gk_G dC dI cI cQ t1 t2 bs []) v0 := by
  intro sz
  refine Met.ofW (cc := cX1_depth) (maxL := 2) (ret := (some .int)) (by decide) rfl ?_
  intro p e s m args below meth c_ s₁ B hml hv
  obtain ⟨rfl, hsz, hG, hP⟩ := hv
  have hx := B.exec
  have hb := B.bytes
  have hr := B.returns
  have hts := atoms_spec (ws := wsX1_depth) B.pre
  have hown : s.vm.findClass RX1 = some m.cls := findClass_of_methodNamed B.named
  have hlocks := B.notSynchronized
  have hT1 := hG.2.2.1
  have hT2 := hG.2.2.2.2
  have hl := lv_entry ([.int x0]) (n := 2) (Nat.le_of_ble_eq_true rfl)
  rw [lg_entry_eq]
  generalize (lg_sl ([.int x0]) ++ List.replicate (2 - (lg_sl ([.int x0])).length) Slot.unset).toArray = ls at hl ⊢
  have hl : lv_has ls 2 [(0, .int x0)] := hl
  refine nm_Q (fun Q hQ => ?_)
  have B2 : ∀ n : Nat, ∀ (x1 : Int32), ∀ ls : Array Slot, fp_depth_2 x0 n x1 = some v0 → lv_has ls 2 [(0, .int x0), (1, .int x1)] → W p l e (headSpec wsX1_depth rm_0_0).room s m ([.int x0] : List Value).toArray below meth c_ s.heap [] 0 0 Q (F0 m 2 ls []) := by
    intro n
    induction n with
    | zero => 
      intro x1 ls hf hl
      exact nomatch (show (none : Option (Int32)) = some v0 from hf)
    | succ n ih =>
      intro x1 ls hf hl
      rw [fp_depth_2.eq_2] at hf
      try dsimp only at hf
      refine lv_iload_n hx hb dX1_depth_2 rfl (lv_at hl 1 rfl) ?_
      refine lv_if_le (tgt := 21) hx hb dX1_depth_3 (by decide) (fun hc => ?_) (fun hc => ?_)
      · rw [if_pos hc] at hf
        refine lv_iload_n hx hb dX1_depth_21 rfl (lv_at hl 1 rfl) ?_
        obtain rfl := Option.some.inj hf
        rw [hQ]
        exact pu_iret hx hb hr (vp_nar_int _) hsz dX1_depth_22 hlocks
      · rw [if_neg hc] at hf
        refine lv_iload_n hx hb dX1_depth_6 rfl (lv_at hl 0 rfl) ?_
        refine va_gets (C := RX1) hx hb hG.2.1 (va_S.rf (A := fun q => bs ≤ q)) hown (hts _ (tw_in lk_6)) (fun _ h9 => h9) dX1_depth_7 ?_
        refine lv_iload_n hx hb dX1_depth_10 rfl (lv_at hl 1 rfl) ?_
        obtain ⟨hq, hf⟩ := ck_s hf
        refine va_ti (N := 5) hx hb hT1 (va_S.rf (A := fun q => bs ≤ q)) hq rfl dX1_depth_11 ?_
        refine lv_icmp_ge (tgt := 21) hx hb dX1_depth_12 (by decide) (fun hc => ?_) (fun hc => ?_)
        · rw [if_pos hc] at hf
          refine lv_iload_n hx hb dX1_depth_21 rfl (lv_at hl 1 rfl) ?_
          obtain rfl := Option.some.inj hf
          rw [hQ]
          exact pu_iret hx hb hr (vp_nar_int _) hsz dX1_depth_22 hlocks
        · rw [if_neg hc] at hf
          refine lv_iinc (k := 1) (v := x1 + (-1)) (lv' := [(1, .int (x1 + (-1))), (0, .int x0)]) hx hb dX1_depth_15 hl rfl (by rfl) (by decide) rfl (fun ls hl => ?_)
          refine lv_goto (tgt := 2) hx hb dX1_depth_18 (by decide) ?_
          exact ih (x1 + (-1)) ls hf (lv_sub hl [1, 0] rfl)
  unfold fp_depth at h
  have hf := h
  refine lv_iconst (v := 4) hx hb dX1_depth_0 (by decide) ?_
  refine lv_istore_n (lv' := [(1, .int 4), (0, .int x0)]) hx hb dX1_depth_1 rfl hl (by decide) rfl (fun ls hl => ?_)
  exact B2 fu_n 4 ls hf (lv_sub hl [1, 0] rfl)
set_option maxHeartbeats 4000000 in
set_option maxRecDepth 100000 in
theorem cp_isBelow (l : Launch) (dC : Nat → ClassId) (dI : Nat → Nat → Nat) (cI cQ : ClassId) (t1 t2 bs : Nat) (x0 : Int32) (x1 : Int32) (v0 : Int32) (h : fp_isBelow x0 x1 = some v0) : pu_M l yX1_isBelow wsX1_isBelow rm_1_21 [.int x0, .int x1] (gk_G dC dI cI cQ t1 t2 bs []) v0 := by
  intro sz
  refine Met.ofW (cc := cX1_isBelow) (maxL := 3) (ret := (some .boolean)) (by decide) rfl ?_
  intro p e s m args below meth c_ s₁ B hml hv
  obtain ⟨rfl, hsz, hG, hP⟩ := hv
  have hx := B.exec
  have hb := B.bytes
  have hr := B.returns
  have hts := atoms_spec (ws := wsX1_isBelow) B.pre
  have hown : s.vm.findClass RX1 = some m.cls := findClass_of_methodNamed B.named
  have hlocks := B.notSynchronized
  have hl := lv_entry ([.int x0, .int x1]) (n := 3) (Nat.le_of_ble_eq_true rfl)
  rw [lg_entry_eq]
  generalize (lg_sl ([.int x0, .int x1]) ++ List.replicate (3 - (lg_sl ([.int x0, .int x1])).length) Slot.unset).toArray = ls at hl ⊢
  have hl : lv_has ls 3 [(0, .int x0), (1, .int x1)] := hl
  refine nm_Q (fun Q hQ => ?_)
  unfold fp_isBelow at h
  have hf := h
  refine lv_iload_n hx hb dX1_isBelow_0 rfl (lv_at hl 0 rfl) ?_
  obtain ⟨r1, e2, hf⟩ := ob_s hf
  try dsimp only at hf
  refine pu_calli (va_runS (As := [.int x0]) (rest := []) ⟨hx, hb, hml, hown, hts⟩ (cp_depth l dC dI cI cQ t1 t2 bs x0 r1 e2 s.heap.size) (va_cwS 1 hts (gs_S lk_161 lk_75 lk_1 lk_74) rfl rfl rfl (by decide +kernel) ⟨Nat.le_of_ble_eq_true rfl, Nat.le_of_ble_eq_true rfl⟩) (pr_S gk_W ⟨hG, pz_0⟩) rfl rfl hl.1 rfl (lv_room (Nat.le_of_ble_eq_true rfl)) dX1_isBelow_1 ⟨Nat.zero_le _, Nat.zero_le _⟩) ?_
  refine lv_iload_n hx hb dX1_isBelow_4 rfl (lv_at hl 1 rfl) ?_
  obtain ⟨r3, e4, hf⟩ := ob_s hf
  try dsimp only at hf
  refine pu_calli (va_runS (As := [.int x1]) (rest := [.int r1]) ⟨hx, hb, hml, hown, hts⟩ (cp_depth l dC dI cI cQ t1 t2 bs x1 r3 e4 s.heap.size) (va_cwS 1 hts (gs_S lk_161 lk_75 lk_1 lk_74) rfl rfl rfl (by decide +kernel) ⟨Nat.le_of_ble_eq_true rfl, Nat.le_of_ble_eq_true rfl⟩) (pr_S gk_W ⟨hG, pz_0⟩) rfl rfl hl.1 rfl (lv_room (Nat.le_of_ble_eq_true rfl)) dX1_isBelow_5 ⟨Nat.zero_le _, Nat.zero_le _⟩) ?_
  refine lv_isub hx hb dX1_isBelow_8 ?_
  refine lv_istore_n (lv' := [(2, .int (r1 - r3)), (0, .int x0), (1, .int x1)]) hx hb dX1_isBelow_9 rfl hl (by decide) rfl (fun ls hl => ?_)
  refine lv_iload_n hx hb dX1_isBelow_10 rfl (lv_at hl 0 rfl) ?_
  refine lv_if_le (tgt := 27) hx hb dX1_isBelow_11 (by decide) (fun hc => ?_) (fun hc => ?_)
  · rw [if_pos hc] at hf
    refine lv_iconst (v := 0) hx hb dX1_isBelow_27 (by decide) ?_
    obtain rfl := Option.some.inj hf
    rw [hQ]
    exact pu_iret hx hb hr (nb_0) hsz dX1_isBelow_28 hlocks
  · rw [if_neg hc] at hf
    refine lv_iload_n hx hb dX1_isBelow_14 rfl (lv_at hl 1 rfl) ?_
    refine lv_iload_n hx hb dX1_isBelow_15 rfl (lv_at hl 0 rfl) ?_
    obtain ⟨r5, e6, hf⟩ := ob_s hf
    try dsimp only at hf
    refine pu_calli (va_runS (As := [.int x0, .int (r1 - r3)]) (rest := []) ⟨hx, hb, hml, hown, hts⟩ (cp_above l dC dI cI cQ t1 t2 bs x0 (r1 - r3) r5 e6 s.heap.size) (va_cwS 2 hts (gs_S lk_8 lk_10 lk_1 lk_9) rfl rfl rfl (by decide +kernel) ⟨Nat.le_of_ble_eq_true rfl, Nat.le_of_ble_eq_true rfl⟩) (pr_S gk_W ⟨hG, pz_0⟩) rfl rfl hl.1 rfl (lv_room (Nat.le_of_ble_eq_true rfl)) dX1_isBelow_16 ⟨Nat.zero_le _, Nat.zero_le _⟩) ?_
    refine lv_iload_n hx hb dX1_isBelow_19 rfl (lv_at hl 2 rfl) ?_
    refine lv_icmp_ne (tgt := 27) hx hb dX1_isBelow_20 (by decide) (fun hc => ?_) (fun hc => ?_)
    · rw [if_neg hc] at hf
      refine lv_iconst (v := 0) hx hb dX1_isBelow_27 (by decide) ?_
      obtain rfl := Option.some.inj hf
      rw [hQ]
      exact pu_iret hx hb hr (nb_0) hsz dX1_isBelow_28 hlocks
    · rw [if_pos hc] at hf
      refine lv_iconst (v := 1) hx hb dX1_isBelow_23 (by decide) ?_
      refine lv_goto (tgt := 28) hx hb dX1_isBelow_24 (by decide) ?_
      obtain rfl := Option.some.inj hf
      rw [hQ]
      exact pu_iret hx hb hr (nb_1) hsz dX1_isBelow_28 hlocks
set_option maxHeartbeats 4000000 in
set_option maxRecDepth 100000 in
theorem cp_below (l : Launch) (dC : Nat → ClassId) (dI : Nat → Nat → Nat) (cI cQ : ClassId) (t1 t2 bs : Nat) (x0 : Int32) (x1 : Int32) (v0 : Int32) (h : fp_below x0 x1 = some v0) : pu_M l yX1_below wsX1_below rm_1_21 [.int x0, .int x1] (gk_G dC dI cI cQ t1 t2 bs []) v0 := by
  intro sz
  refine Met.ofW (cc := cX1_below) (maxL := 2) (ret := (some .int)) (by decide) rfl ?_
  intro p e s m args below meth c_ s₁ B hml hv
  obtain ⟨rfl, hsz, hG, hP⟩ := hv
  have hx := B.exec
  have hb := B.bytes
  have hr := B.returns
  have hts := atoms_spec (ws := wsX1_below) B.pre
  have hown : s.vm.findClass RX1 = some m.cls := findClass_of_methodNamed B.named
  have hlocks := B.notSynchronized
  have hT1 := hG.2.2.1
  have hT2 := hG.2.2.2.2
  have hl := lv_entry ([.int x0, .int x1]) (n := 2) (Nat.le_of_ble_eq_true rfl)
  rw [lg_entry_eq]
  generalize (lg_sl ([.int x0, .int x1]) ++ List.replicate (2 - (lg_sl ([.int x0, .int x1])).length) Slot.unset).toArray = ls at hl ⊢
  have hl : lv_has ls 2 [(0, .int x0), (1, .int x1)] := hl
  refine nm_Q (fun Q hQ => ?_)
  unfold fp_below at h
  have hf := h
  refine lv_iload_n hx hb dX1_below_0 rfl (lv_at hl 0 rfl) ?_
  refine va_gets (C := RX1) hx hb hG.2.2.2.1 (va_S.rf (A := fun q => bs ≤ q)) hown (hts _ (tw_in lk_7)) (fun _ h9 => h9) dX1_below_1 ?_
  refine lv_iload_n hx hb dX1_below_4 rfl (lv_at hl 1 rfl) ?_
  obtain ⟨r1, e2, hf⟩ := ob_s hf
  try dsimp only at hf
  refine pu_calli (va_runS (As := [.int x1]) (rest := [.ref t2, .int x0]) ⟨hx, hb, hml, hown, hts⟩ (cp_depth l dC dI cI cQ t1 t2 bs x1 r1 e2 s.heap.size) (va_cwS 1 hts (gs_S lk_161 lk_75 lk_1 lk_74) rfl rfl rfl (by decide +kernel) ⟨Nat.le_of_ble_eq_true rfl, Nat.le_of_ble_eq_true rfl⟩) (pr_S gk_W ⟨hG, pz_0⟩) rfl rfl hl.1 rfl (lv_room (Nat.le_of_ble_eq_true rfl)) dX1_below_5 ⟨Nat.zero_le _, Nat.zero_le _⟩) ?_
  obtain ⟨hq, hf⟩ := ck_s hf
  refine va_ti (N := 5) hx hb hT2 (va_S.rf (A := fun q => bs ≤ q)) hq rfl dX1_below_8 ?_
  refine lv_imul hx hb dX1_below_9 ?_
  refine lv_iload_n hx hb dX1_below_10 rfl (lv_at hl 1 rfl) ?_
  refine lv_iadd hx hb dX1_below_11 ?_
  obtain rfl := Option.some.inj hf
  rw [hQ]
  exact pu_iret hx hb hr (vp_nar_int _) hsz dX1_below_12 hlocks
