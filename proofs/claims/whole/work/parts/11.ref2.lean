set_option maxHeartbeats 4000000 in
set_option maxRecDepth 100000 in
theorem cq_room (l : Launch) (dC : Nat → ClassId) (dI : Nat → Nat → Nat) (cI cQ : ClassId) (t1 t2 bs : Nat) (top mo m1 m2 m3 m4 m5 m6 m7 : Nat) (hg : gd_A bs [mo, m1, m2, m3, m4, m5, m6, m7]) (mt : Int32) (cu : Int32) (kn : Nat → Int32) (vl : Nat → Int32) (ok : Nat → Int32) (ov : Nat → Int32) (fo : Int32) (pa : Int32) (fi : Int32) (va : Int32) (nd : Nat → Int32) (nk : Nat → Int32) (nv : Nat → Int32) (no : Int32) (x1 : Int32) (v0 : Int32) (h : fq_room top kn x1 = some v0) : pu_M l yX3_room wsX3_room rm_2_44 [.ref mo, .int x1] (gk_G dC dI cI cQ t1 t2 bs (wm_M cI top mo m1 m2 m3 m4 m5 m6 m7 mt cu kn vl ok ov fo pa fi va nd nk nv no)) v0 := by
  intro sz
  refine Met.ofW (cc := cX3_room) (maxL := 4) (ret := (some .boolean)) (by decide) rfl ?_
  intro p e s m args below meth c_ s₁ B hml hv
  obtain ⟨rfl, hsz, hG, hP⟩ := hv
  have hx := B.exec
  have hb := B.bytes
  have hr := B.returns
  have hts := atoms_spec (ws := wsX3_room) B.pre
  have hown : s.vm.findClass RX3 = some m.cls := findClass_of_methodNamed B.named
  have hlocks := B.notSynchronized
  have hiX3 : ∀ w ∈ u_ws RX3 TX3 15, w ∈ wsX3_room := fun w hw => tw_in (usX3 w hw)
  have hl := lv_entry ([.ref mo, .int x1]) (n := 4) (Nat.le_of_ble_eq_true rfl)
  rw [lg_entry_eq]
  generalize (lg_sl ([.ref mo, .int x1]) ++ List.replicate (4 - (lg_sl ([.ref mo, .int x1])).length) Slot.unset).toArray = ls at hl ⊢
  have hl : lv_has ls 4 [(0, .ref mo), (1, .int x1)] := hl
  refine nm_Q (fun Q hQ => ?_)
  have B4 : ∀ n : Nat, ∀ (x2 : Int32) (x3 : Int32), ∀ ls : Array Slot, fq_room_4 top kn x1 n x2 x3 = some v0 → lv_has ls 4 [(0, .ref mo), (1, .int x1), (2, .int x2), (3, .int x3)] → W p l e (headSpec wsX3_room rm_2_44).room s m ([.ref mo, .int x1] : List Value).toArray below meth c_ s.heap [] 0 0 Q (F0 m 4 ls []) := by
    intro n
    induction n with
    | zero => 
      intro x2 x3 ls hf hl
      exact nomatch (show (none : Option (Int32)) = some v0 from hf)
    | succ n ih =>
      intro x2 x3 ls hf hl
      rw [fq_room_4.eq_2] at hf
      try dsimp only at hf
      refine lv_iload_n hx hb dX3_room_4 rfl (lv_at hl 3 rfl) ?_
      refine lv_aload_n hx hb dX3_room_5 rfl (lv_at hl 0 rfl) ?_
      refine va_get (D := (dC, dI)) (ci := 2) (v := .int (nI top)) (C := RX3) (T := TX3) (N := 15) hx hb hts hiX3 hown hG.1 hP 0 rfl rfl 0 (by decide) (hts _ (tw_in lk_206)) (fun _ h9 => h9) rfl dX3_room_6 ?_
      refine lv_icmp_ge (tgt := 26) hx hb dX3_room_9 (by decide) (fun hc => ?_) (fun hc => ?_)
      · rw [if_pos hc] at hf
        refine lv_iload_n hx hb dX3_room_26 rfl (lv_at hl 1 rfl) ?_
        refine lv_aload_n hx hb dX3_room_27 rfl (lv_at hl 0 rfl) ?_
        refine va_get (D := (dC, dI)) (ci := 2) (v := .int (nI top)) (C := RX3) (T := TX3) (N := 15) hx hb hts hiX3 hown hG.1 hP 0 rfl rfl 0 (by decide) (hts _ (tw_in lk_206)) (fun _ h9 => h9) rfl dX3_room_28 ?_
        refine lv_icmp_ne (tgt := 55) hx hb dX3_room_31 (by decide) (fun hc => ?_) (fun hc => ?_)
        · rw [if_neg hc] at hf
          refine lv_iload_n hx hb dX3_room_55 rfl (lv_at hl 2 rfl) ?_
          refine lv_bipush (v := 60) hx hb dX3_room_56 (by decide) ?_
          refine lv_icmp_ge (tgt := 65) hx hb dX3_room_58 (by decide) (fun hc => ?_) (fun hc => ?_)
          · rw [if_pos hc] at hf
            refine lv_iconst (v := 0) hx hb dX3_room_65 (by decide) ?_
            obtain rfl := Option.some.inj hf
            rw [hQ]
            exact pu_iret hx hb hr (nb_0) hsz dX3_room_66 hlocks
          · rw [if_neg hc] at hf
            refine lv_iconst (v := 1) hx hb dX3_room_61 (by decide) ?_
            refine lv_goto (tgt := 66) hx hb dX3_room_62 (by decide) ?_
            obtain rfl := Option.some.inj hf
            rw [hQ]
            exact pu_iret hx hb hr (nb_1) hsz dX3_room_66 hlocks
        · rw [if_pos hc] at hf
          refine lv_aload_n hx hb dX3_room_34 rfl (lv_at hl 0 rfl) ?_
          refine lv_aload_n hx hb dX3_room_35 rfl (lv_at hl 0 rfl) ?_
          refine va_get (D := (dC, dI)) (ci := 2) (v := .int (nI top)) (C := RX3) (T := TX3) (N := 15) hx hb hts hiX3 hown hG.1 hP 0 rfl rfl 0 (by decide) (hts _ (tw_in lk_206)) (fun _ h9 => h9) rfl dX3_room_36 ?_
          obtain ⟨r1, e2, hf⟩ := ob_s hf
          try dsimp only at hf
          refine pu_calli (va_runV (As := [.int (nI top)]) (rest := []) ⟨hx, hb, hml, hown, hts⟩ (cq_entries l dC dI cI cQ t1 t2 bs top mo m1 m2 m3 m4 m5 m6 m7 hg mt cu kn vl ok ov fo pa fi va nd nk nv no (nI top) r1 e2 s.heap.size) (cwV 1 hts (gs_V lk_245 lk_247 lk_248 lk_194 lk_246) rfl rfl rfl (by decide +kernel) ⟨Nat.le_of_ble_eq_true rfl, Nat.le_of_ble_eq_true rfl⟩) (pr_V gk_W (va_recv hG.1 hP (q0 := 0) rfl rfl) ⟨hG, hP⟩) rfl rfl hl.1 rfl (lv_room (Nat.le_of_ble_eq_true rfl)) dX3_room_39 ⟨Nat.zero_le _, Nat.zero_le _⟩) ?_
          refine lv_bipush (v := 30) hx hb dX3_room_42 (by decide) ?_
          refine lv_icmp_ge (tgt := 51) hx hb dX3_room_44 (by decide) (fun hc => ?_) (fun hc => ?_)
          · rw [if_pos hc] at hf
            refine lv_iconst (v := 0) hx hb dX3_room_51 (by decide) ?_
            refine lv_goto (tgt := 66) hx hb dX3_room_52 (by decide) ?_
            obtain rfl := Option.some.inj hf
            rw [hQ]
            exact pu_iret hx hb hr (nb_0) hsz dX3_room_66 hlocks
          · rw [if_neg hc] at hf
            refine lv_iconst (v := 1) hx hb dX3_room_47 (by decide) ?_
            refine lv_goto (tgt := 66) hx hb dX3_room_48 (by decide) ?_
            obtain rfl := Option.some.inj hf
            rw [hQ]
            exact pu_iret hx hb hr (nb_1) hsz dX3_room_66 hlocks
      · rw [if_neg hc] at hf
        refine lv_iload_n hx hb dX3_room_12 rfl (lv_at hl 2 rfl) ?_
        refine lv_aload_n hx hb dX3_room_13 rfl (lv_at hl 0 rfl) ?_
        refine lv_iload_n hx hb dX3_room_14 rfl (lv_at hl 3 rfl) ?_
        obtain ⟨r3, e4, hf⟩ := ob_s hf
        try dsimp only at hf
        refine pu_calli (va_runV (As := [.int x3]) (rest := [.int x2]) ⟨hx, hb, hml, hown, hts⟩ (cq_entries l dC dI cI cQ t1 t2 bs top mo m1 m2 m3 m4 m5 m6 m7 hg mt cu kn vl ok ov fo pa fi va nd nk nv no x3 r3 e4 s.heap.size) (cwV 1 hts (gs_V lk_245 lk_247 lk_248 lk_194 lk_246) rfl rfl rfl (by decide +kernel) ⟨Nat.le_of_ble_eq_true rfl, Nat.le_of_ble_eq_true rfl⟩) (pr_V gk_W (va_recv hG.1 hP (q0 := 0) rfl rfl) ⟨hG, hP⟩) rfl rfl hl.1 rfl (lv_room (Nat.le_of_ble_eq_true rfl)) dX3_room_15 ⟨Nat.zero_le _, Nat.zero_le _⟩) ?_
        refine lv_iadd hx hb dX3_room_18 ?_
        refine lv_istore_n (lv' := [(2, .int (x2 + r3)), (0, .ref mo), (1, .int x1), (3, .int x3)]) hx hb dX3_room_19 rfl hl (by decide) rfl (fun ls hl => ?_)
        refine lv_iinc (k := 3) (v := x3 + 1) (lv' := [(3, .int (x3 + 1)), (2, .int (x2 + r3)), (0, .ref mo), (1, .int x1)]) hx hb dX3_room_20 hl rfl (by rfl) (by decide) rfl (fun ls hl => ?_)
        refine lv_goto (tgt := 4) hx hb dX3_room_23 (by decide) ?_
        exact ih (x2 + r3) (x3 + 1) ls hf (lv_sub hl [2, 3, 1, 0] rfl)
  unfold fq_room at h
  have hf := h
  refine lv_iconst (v := 0) hx hb dX3_room_0 (by decide) ?_
  refine lv_istore_n (lv' := [(2, .int 0), (0, .ref mo), (1, .int x1)]) hx hb dX3_room_1 rfl hl (by decide) rfl (fun ls hl => ?_)
  refine lv_iconst (v := 0) hx hb dX3_room_2 (by decide) ?_
  refine lv_istore_n (lv' := [(3, .int 0), (2, .int 0), (0, .ref mo), (1, .int x1)]) hx hb dX3_room_3 rfl hl (by decide) rfl (fun ls hl => ?_)
  exact B4 fu_n 0 0 ls hf (lv_sub hl [2, 3, 1, 0] rfl)
set_option maxHeartbeats 4000000 in
set_option maxRecDepth 100000 in
theorem cq_put (l : Launch) (dC : Nat → ClassId) (dI : Nat → Nat → Nat) (cI cQ : ClassId) (t1 t2 bs : Nat) (top mo m1 m2 m3 m4 m5 m6 m7 : Nat) (hg : gd_A bs [mo, m1, m2, m3, m4, m5, m6, m7]) (mt : Int32) (cu : Int32) (kn : Nat → Int32) (vl : Nat → Int32) (ok : Nat → Int32) (ov : Nat → Int32) (fo : Int32) (pa : Int32) (fi : Int32) (va : Int32) (nd : Nat → Int32) (nk : Nat → Int32) (nv : Nat → Int32) (no : Int32) (x1 : Int32) (x2 : Int32) (x3 : Int32) (x4 : Int32) (v0 : Int32 × (Nat → Int32) × (Nat → Int32)) (h : fq_put top mt kn vl x1 x2 x3 x4 = some v0) : im_I l yX3_put wsX3_put rm_3_67 [.ref mo, .int x1, .int x2, .int x3, .int x4] (gk_G dC dI cI cQ t1 t2 bs (wm_M cI top mo m1 m2 m3 m4 m5 m6 m7 mt cu kn vl ok ov fo pa fi va nd nk nv no)) v0.1 (va_P (dC, dI) vwCl (wm_M cI top mo m1 m2 m3 m4 m5 m6 m7 mt cu v0.2.1 v0.2.2 ok ov fo pa fi va nd nk nv no)) (in_A [mo, m1, m2, m3, m4, m5, m6, m7]) := by
  intro sz
  refine Met.ofW (cc := cX3_put) (maxL := 8) (ret := (some .boolean)) (by decide) rfl ?_
  intro p e s m args below meth c_ s₁ B hml hv
  obtain ⟨rfl, hsz, hG, hP⟩ := hv
  have hx := B.exec
  have hb := B.bytes
  have hr := B.returns
  have hts := atoms_spec (ws := wsX3_put) B.pre
  have hown : s.vm.findClass RX3 = some m.cls := findClass_of_methodNamed B.named
  have hlocks := B.notSynchronized
  have hiX3 : ∀ w ∈ u_ws RX3 TX3 15, w ∈ wsX3_put := fun w hw => tw_in (usX3 w hw)
  have hl := lv_entry ([.ref mo, .int x1, .int x2, .int x3, .int x4]) (n := 8) (Nat.le_of_ble_eq_true rfl)
  rw [lg_entry_eq]
  generalize (lg_sl ([.ref mo, .int x1, .int x2, .int x3, .int x4]) ++ List.replicate (8 - (lg_sl ([.ref mo, .int x1, .int x2, .int x3, .int x4])).length) Slot.unset).toArray = ls at hl ⊢
  have hl : lv_has ls 8 [(0, .ref mo), (1, .int x1), (2, .int x2), (3, .int x3), (4, .int x4)] := hl
  refine nm_Q (fun Q hQ => ?_)
  have B148 : ∀ (x5 : Int32) (x6 : Int32) (x7 : Int32) (z0 : Int32) (z1 : Int32) (kn : Nat → Int32) (vl : Nat → Int32), ∀ (H : Heap) (locs : List Loc), va_P (dC, dI) vwCl (wm_M cI top mo m1 m2 m3 m4 m5 m6 m7 mt cu kn vl ok ov fo pa fi va nd nk nv no) H → va_S (in_A [mo, m1, m2, m3, m4, m5, m6, m7]) s.heap H locs → ∀ ls : Array Slot, fq_put_148 top mt x1 x2 x3 x4 x5 x6 x7 z0 z1 kn vl = some v0 → lv_has ls 8 [(0, .ref mo), (1, .int x1), (2, .int x2), (3, .int x3), (4, .int x4), (5, .int x5), (6, .int x6), (7, .int x7)] → W p l e (headSpec wsX3_put rm_3_67).room s m ([.ref mo, .int x1, .int x2, .int x3, .int x4] : List Value).toArray below meth c_ H locs 0 0 Q (F0 m 148 ls [.int z0, .int z1, .ref m2]) := by
    intro x5 x6 x7 z0 z1 kn vl H locs hP hS ls hf hl
    unfold fq_put_148 at hf
    obtain ⟨hq, hf⟩ := ck_s hf
    refine va_iast hx hb hG.1 hP (dd_A hg rfl) hS 2 0 rfl rfl hq dX3_put_148 (fun H locs hP _ hS => ?_)
    have hP : va_P (dC, dI) vwCl (wm_M cI top mo m1 m2 m3 m4 m5 m6 m7 mt cu kn (upd vl z1.toNatClampNeg z0) ok ov fo pa fi va nd nk nv no) H := hP
    refine lv_iconst (v := 1) hx hb dX3_put_149 (by decide) ?_
    obtain rfl := Option.some.inj hf
    rw [hQ]
    exact im_iret hx hb hr (nb_1) hS hP dX3_put_150 hlocks
  have B107 : ∀ (x5 : Int32) (x6 : Int32) (x7 : Int32) (kn : Nat → Int32) (vl : Nat → Int32), ∀ (H : Heap) (locs : List Loc), va_P (dC, dI) vwCl (wm_M cI top mo m1 m2 m3 m4 m5 m6 m7 mt cu kn vl ok ov fo pa fi va nd nk nv no) H → va_S (in_A [mo, m1, m2, m3, m4, m5, m6, m7]) s.heap H locs → ∀ ls : Array Slot, fq_put_107 top mt x1 x2 x3 x4 x5 x6 x7 kn vl = some v0 → lv_has ls 8 [(0, .ref mo), (1, .int x1), (2, .int x2), (3, .int x3), (4, .int x4), (5, .int x5), (6, .int x6), (7, .int x7)] → W p l e (headSpec wsX3_put rm_3_67).room s m ([.ref mo, .int x1, .int x2, .int x3, .int x4] : List Value).toArray below meth c_ H locs 0 0 Q (F0 m 107 ls []) := by
    intro x5 x6 x7 kn vl H locs hP hS ls hf hl
    unfold fq_put_107 at hf
    refine lv_aload_n hx hb dX3_put_107 rfl (lv_at hl 0 rfl) ?_
    refine lv_iload_n hx hb dX3_put_108 rfl (lv_at hl 1 rfl) ?_
    obtain ⟨r1, e2, hf⟩ := ob_s hf
    try dsimp only at hf
    refine pu_calli (va_runV (As := [.int x1]) (rest := []) ⟨hx, hb, hml, hown, hts⟩ (cq_room l dC dI cI cQ t1 t2 bs top mo m1 m2 m3 m4 m5 m6 m7 hg mt cu kn vl ok ov fo pa fi va nd nk nv no x1 r1 e2 H.size) (cwV 1 hts (gs_V lk_249 lk_251 lk_252 lk_194 lk_250) rfl rfl rfl (by decide +kernel) ⟨Nat.le_of_ble_eq_true rfl, Nat.le_of_ble_eq_true rfl⟩) (pr_V gk_W (va_recv hG.1 hP (q0 := 0) rfl rfl) ⟨(gk_S hG hS (bb_A hg)), hP⟩) rfl rfl hl.1 rfl (lv_room (Nat.le_of_ble_eq_true rfl)) dX3_put_109 ⟨Nat.zero_le _, Nat.zero_le _⟩) ?_
    refine lv_if_ne (tgt := 117) hx hb dX3_put_112 (by decide) (fun hc => ?_) (fun hc => ?_)
    · rw [if_neg hc] at hf
      refine lv_aload_n hx hb dX3_put_117 rfl (lv_at hl 0 rfl) ?_
      refine va_get (D := (dC, dI)) (ci := 2) (v := .ref m1) (C := RX3) (T := TX3) (N := 15) hx hb hts hiX3 hown hG.1 hP 0 rfl rfl 3 (by decide) (hts _ (tw_in lk_205)) (fun _ h9 => h9) rfl dX3_put_118 ?_
      refine lv_iload hx hb dX3_put_121 (lv_at hl 6 rfl) ?_
      refine lv_iload hx hb dX3_put_123 (lv_at hl 5 rfl) ?_
      refine lv_iadd hx hb dX3_put_125 ?_
      refine lv_iload_n hx hb dX3_put_126 rfl (lv_at hl 3 rfl) ?_
      obtain ⟨hq, hf⟩ := ck_s hf
      refine va_iast hx hb hG.1 hP (dd_A hg rfl) hS 1 0 rfl rfl hq dX3_put_127 (fun H locs hP _ hS => ?_)
      have hP : va_P (dC, dI) vwCl (wm_M cI top mo m1 m2 m3 m4 m5 m6 m7 mt cu (upd kn ((x6 + x5).toNatClampNeg) x3) vl ok ov fo pa fi va nd nk nv no) H := hP
      refine lv_aload_n hx hb dX3_put_128 rfl (lv_at hl 0 rfl) ?_
      refine va_get (D := (dC, dI)) (ci := 2) (v := .ref m2) (C := RX3) (T := TX3) (N := 15) hx hb hts hiX3 hown hG.1 hP 0 rfl rfl 4 (by decide) (hts _ (tw_in lk_203)) (fun _ h9 => h9) rfl dX3_put_129 ?_
      refine lv_iload hx hb dX3_put_132 (lv_at hl 6 rfl) ?_
      refine lv_iload hx hb dX3_put_134 (lv_at hl 5 rfl) ?_
      refine lv_iadd hx hb dX3_put_136 ?_
      refine lv_iload_n hx hb dX3_put_137 rfl (lv_at hl 3 rfl) ?_
      refine lv_iconst (v := 1) hx hb dX3_put_138 (by decide) ?_
      refine lv_icmp_ne (tgt := 147) hx hb dX3_put_139 (by decide) (fun hc => ?_) (fun hc => ?_)
      · rw [if_neg hc] at hf
        refine lv_iconst (v := 0) hx hb dX3_put_147 (by decide) ?_
        exact B148 x5 x6 x7 0 (x6 + x5) (upd kn ((x6 + x5).toNatClampNeg) x3) vl H locs hP hS ls hf (lv_sub hl [0, 1, 2, 3, 4, 5, 6, 7] rfl)
      · rw [if_pos hc] at hf
        refine lv_iload hx hb dX3_put_142 (lv_at hl 4 rfl) ?_
        refine lv_goto (tgt := 148) hx hb dX3_put_144 (by decide) ?_
        exact B148 x5 x6 x7 x4 (x6 + x5) (upd kn ((x6 + x5).toNatClampNeg) x3) vl H locs hP hS ls hf (lv_sub hl [0, 1, 2, 3, 4, 5, 6, 7] rfl)
    · rw [if_pos hc] at hf
      refine lv_iconst (v := 0) hx hb dX3_put_115 (by decide) ?_
      obtain rfl := Option.some.inj hf
      rw [hQ]
      exact im_iret hx hb hr (nb_0) hS hP dX3_put_116 hlocks
  have B80 : ∀ (x5 : Int32) (x6 : Int32) (z0 : Int32) (kn : Nat → Int32) (vl : Nat → Int32), ∀ (H : Heap) (locs : List Loc), va_P (dC, dI) vwCl (wm_M cI top mo m1 m2 m3 m4 m5 m6 m7 mt cu kn vl ok ov fo pa fi va nd nk nv no) H → va_S (in_A [mo, m1, m2, m3, m4, m5, m6, m7]) s.heap H locs → ∀ ls : Array Slot, fq_put_80 top mt x1 x2 x3 x4 x5 x6 z0 kn vl = some v0 → lv_has ls 8 [(0, .ref mo), (1, .int x1), (2, .int x2), (3, .int x3), (4, .int x4), (5, .int x5), (6, .int x6)] → W p l e (headSpec wsX3_put rm_3_67).room s m ([.ref mo, .int x1, .int x2, .int x3, .int x4] : List Value).toArray below meth c_ H locs 0 0 Q (F0 m 80 ls [.int z0]) := by
    intro x5 x6 z0 kn vl H locs hP hS ls hf hl
    unfold fq_put_80 at hf
    refine lv_istore (lv' := [(7, .int z0), (0, .ref mo), (1, .int x1), (2, .int x2), (3, .int x3), (4, .int x4), (5, .int x5), (6, .int x6)]) hx hb dX3_put_80 hl (by decide) rfl (fun ls hl => ?_)
    refine lv_aload_n hx hb dX3_put_82 rfl (lv_at hl 1 rfl) ?_
    refine va_get (D := (dC, dI)) (ci := 2) (v := .ref m1) (C := RX3) (T := TX3) (N := 15) hx hb hts hiX3 hown hG.1 hP 0 rfl rfl 3 (by decide) (hts _ (tw_in lk_205)) (fun _ h9 => h9) rfl dX3_put_83 ?_
    refine lv_iload hx hb dX3_put_86 (lv_at hl 7 rfl) ?_
    refine lv_iload hx hb dX3_put_88 (lv_at hl 6 rfl) ?_
    refine lv_iadd hx hb dX3_put_90 ?_
    obtain ⟨hq, hf⟩ := ck_s hf
    refine va_iald hx hb hG.1 hP 1 0 rfl rfl hq dX3_put_91 ?_
    refine lv_if_gt (tgt := 115) hx hb dX3_put_92 (by decide) (fun hc => ?_) (fun hc => ?_)
    · rw [if_pos hc] at hf
      refine lv_iconst (v := 0) hx hb dX3_put_115 (by decide) ?_
      obtain rfl := Option.some.inj hf
      rw [hQ]
      exact im_iret hx hb hr (nb_0) hS hP dX3_put_116 hlocks
    · rw [if_neg hc] at hf
      refine lv_iload hx hb dX3_put_95 (lv_at hl 0 rfl) ?_
      refine lv_iconst (v := 2) hx hb dX3_put_97 (by decide) ?_
      refine lv_icmp_eq (tgt := 107) hx hb dX3_put_98 (by decide) (fun hc => ?_) (fun hc => ?_)
      · rw [if_pos hc] at hf
        exact B107 x5 x6 z0 kn vl H locs hP hS ls hf (lv_sub hl [1, 2, 3, 4, 5, 6, 7, 0] rfl)
      · rw [if_neg hc] at hf
        refine lv_iload hx hb dX3_put_101 (lv_at hl 0 rfl) ?_
        refine lv_iconst (v := 3) hx hb dX3_put_103 (by decide) ?_
        refine lv_icmp_ne (tgt := 115) hx hb dX3_put_104 (by decide) (fun hc => ?_) (fun hc => ?_)
        · rw [if_neg hc] at hf
          refine lv_iconst (v := 0) hx hb dX3_put_115 (by decide) ?_
          obtain rfl := Option.some.inj hf
          rw [hQ]
          exact im_iret hx hb hr (nb_0) hS hP dX3_put_116 hlocks
        · rw [if_pos hc] at hf
          exact B107 x5 x6 z0 kn vl H locs hP hS ls hf (lv_sub hl [1, 2, 3, 4, 5, 6, 7, 0] rfl)
  have B48 : ∀ (x5 : Int32) (kn : Nat → Int32) (vl : Nat → Int32), ∀ (H : Heap) (locs : List Loc), va_P (dC, dI) vwCl (wm_M cI top mo m1 m2 m3 m4 m5 m6 m7 mt cu kn vl ok ov fo pa fi va nd nk nv no) H → va_S (in_A [mo, m1, m2, m3, m4, m5, m6, m7]) s.heap H locs → ∀ ls : Array Slot, fq_put_48 top mt x1 x2 x3 x4 x5 kn vl = some v0 → lv_has ls 8 [(0, .ref mo), (1, .int x1), (2, .int x2), (3, .int x3), (4, .int x4), (5, .int x5)] → W p l e (headSpec wsX3_put rm_3_67).room s m ([.ref mo, .int x1, .int x2, .int x3, .int x4] : List Value).toArray below meth c_ H locs 0 0 Q (F0 m 48 ls []) := by
    intro x5 kn vl H locs hP hS ls hf hl
    unfold fq_put_48 at hf
    refine lv_sipush (v := 1296) hx hb dX3_put_48 (by decide) ?_
    refine lv_iload_n hx hb dX3_put_51 rfl (lv_at hl 1 rfl) ?_
    refine lv_imul hx hb dX3_put_52 ?_
    refine lv_istore (lv' := [(6, .int (1296 * x1)), (0, .ref mo), (1, .int x1), (2, .int x2), (3, .int x3), (4, .int x4), (5, .int x5)]) hx hb dX3_put_53 hl (by decide) rfl (fun ls hl => ?_)
    refine lv_iload hx hb dX3_put_55 (lv_at hl 6 rfl) ?_
    refine lv_bipush (v := 6) hx hb dX3_put_57 (by decide) ?_
    refine lv_idiv hx hb dX3_put_59 (by decide) ?_
    refine lv_if_ne (tgt := 67) hx hb dX3_put_60 (by decide) (fun hc => ?_) (fun hc => ?_)
    · rw [if_neg hc] at hf
      refine lv_aload_n hx hb dX3_put_67 rfl (lv_at hl 1 rfl) ?_
      refine va_get (D := (dC, dI)) (ci := 2) (v := .ref m1) (C := RX3) (T := TX3) (N := 15) hx hb hts hiX3 hown hG.1 hP 0 rfl rfl 3 (by decide) (hts _ (tw_in lk_205)) (fun _ h9 => h9) rfl dX3_put_68 ?_
      refine lv_iload hx hb dX3_put_71 (lv_at hl 0 rfl) ?_
      refine lv_iload hx hb dX3_put_73 (lv_at hl 6 rfl) ?_
      refine lv_bipush (v := 6) hx hb dX3_put_75 (by decide) ?_
      refine lv_idiv hx hb dX3_put_77 (by decide) ?_
      refine lv_iadd hx hb dX3_put_78 ?_
      obtain ⟨hq, hf⟩ := ck_s hf
      refine va_iald hx hb hG.1 hP 1 0 rfl rfl hq dX3_put_79 ?_
      exact B80 x5 (1296 * x1) (kn ((1296 * x1) + (x5 / 6)).toNatClampNeg) kn vl H locs hP hS ls hf (lv_sub hl [1, 2, 3, 4, 5, 6, 0] rfl)
    · rw [if_pos hc] at hf
      refine lv_iconst (v := 2) hx hb dX3_put_63 (by decide) ?_
      refine lv_goto (tgt := 80) hx hb dX3_put_64 (by decide) ?_
      exact B80 x5 (1296 * x1) 2 kn vl H locs hP hS ls hf (lv_sub hl [1, 2, 3, 4, 5, 6, 0] rfl)
  unfold fq_put at h
  have hgo : ∀ (H : Heap) (locs : List Loc), va_P (dC, dI) vwCl (wm_M cI top mo m1 m2 m3 m4 m5 m6 m7 mt cu kn vl ok ov fo pa fi va nd nk nv no) H → va_S (in_A [mo, m1, m2, m3, m4, m5, m6, m7]) s.heap H locs → W p l e (headSpec wsX3_put rm_3_67).room s m ([.ref mo, .int x1, .int x2, .int x3, .int x4] : List Value).toArray below meth c_ H locs 0 0 Q (F0 m 0 ls []) := by
    intro H locs hP hS
    have hf := h
    refine lv_iload_n hx hb dX3_put_0 rfl (lv_at hl 2 rfl) ?_
    obtain ⟨r3, e4, hf⟩ := ob_s hf
    try dsimp only at hf
    refine pu_calli (va_runS (As := [.int x2]) (rest := []) ⟨hx, hb, hml, hown, hts⟩ (cq_placeOf l dC dI cI cQ t1 t2 bs x2 r3 e4 H.size) (va_cwS 1 hts (gs_S lk_253 lk_255 lk_194 lk_254) rfl rfl rfl (by decide +kernel) ⟨Nat.le_of_ble_eq_true rfl, Nat.le_of_ble_eq_true rfl⟩) (pr_S gk_W ⟨(gk_S hG hS (bb_A hg)), pz_0⟩) rfl rfl hl.1 rfl (lv_room (Nat.le_of_ble_eq_true rfl)) dX3_put_1 ⟨Nat.zero_le _, Nat.zero_le _⟩) ?_
    refine lv_istore (lv' := [(5, .int r3), (0, .ref mo), (1, .int x1), (2, .int x2), (3, .int x3), (4, .int x4)]) hx hb dX3_put_4 hl (by decide) rfl (fun ls hl => ?_)
    refine lv_aload_n hx hb dX3_put_6 rfl (lv_at hl 1 rfl) ?_
    refine va_get (D := (dC, dI)) (ci := 2) (v := .int mt) (C := RX3) (T := TX3) (N := 15) hx hb hts hiX3 hown hG.1 hP 0 rfl rfl 1 (by decide) (hts _ (tw_in lk_256)) (fun _ h9 => h9) rfl dX3_put_7 ?_
    refine lv_if_ne (tgt := 46) hx hb dX3_put_10 (by decide) (fun hc => ?_) (fun hc => ?_)
    · rw [if_neg hc] at hf
      refine lv_iconst (v := 0) hx hb dX3_put_46 (by decide) ?_
      obtain rfl := Option.some.inj hf
      rw [hQ]
      exact im_iret hx hb hr (nb_0) hS hP dX3_put_47 hlocks
    · rw [if_pos hc] at hf
      refine lv_aload_n hx hb dX3_put_13 rfl (lv_at hl 1 rfl) ?_
      refine lv_iload_n hx hb dX3_put_14 rfl (lv_at hl 2 rfl) ?_
      obtain ⟨r5, e6, hf⟩ := ob_s hf
      try dsimp only at hf
      refine pu_calli (va_runV (As := [.int x1]) (rest := []) ⟨hx, hb, hml, hown, hts⟩ (cq_isLayer l dC dI cI cQ t1 t2 bs top mo m1 m2 m3 m4 m5 m6 m7 hg mt cu kn vl ok ov fo pa fi va nd nk nv no x1 r5 e6 H.size) (cwV 1 hts (gs_V lk_241 lk_243 lk_244 lk_194 lk_242) rfl rfl rfl (by decide +kernel) ⟨Nat.le_of_ble_eq_true rfl, Nat.le_of_ble_eq_true rfl⟩) (pr_V gk_W (va_recv hG.1 hP (q0 := 0) rfl rfl) ⟨(gk_S hG hS (bb_A hg)), hP⟩) rfl rfl hl.1 rfl (lv_room (Nat.le_of_ble_eq_true rfl)) dX3_put_15 ⟨Nat.zero_le _, Nat.zero_le _⟩) ?_
      refine lv_if_eq (tgt := 46) hx hb dX3_put_18 (by decide) (fun hc => ?_) (fun hc => ?_)
      · rw [if_pos hc] at hf
        refine lv_iconst (v := 0) hx hb dX3_put_46 (by decide) ?_
        obtain rfl := Option.some.inj hf
        rw [hQ]
        exact im_iret hx hb hr (nb_0) hS hP dX3_put_47 hlocks
      · rw [if_neg hc] at hf
        refine lv_iload hx hb dX3_put_21 (lv_at hl 0 rfl) ?_
        refine lv_if_le (tgt := 46) hx hb dX3_put_23 (by decide) (fun hc => ?_) (fun hc => ?_)
        · rw [if_pos hc] at hf
          refine lv_iconst (v := 0) hx hb dX3_put_46 (by decide) ?_
          obtain rfl := Option.some.inj hf
          rw [hQ]
          exact im_iret hx hb hr (nb_0) hS hP dX3_put_47 hlocks
        · rw [if_neg hc] at hf
          refine lv_iload_n hx hb dX3_put_26 rfl (lv_at hl 4 rfl) ?_
          refine lv_iconst (v := 1) hx hb dX3_put_27 (by decide) ?_
          refine lv_icmp_lt (tgt := 46) hx hb dX3_put_28 (by decide) (fun hc => ?_) (fun hc => ?_)
          · rw [if_pos hc] at hf
            refine lv_iconst (v := 0) hx hb dX3_put_46 (by decide) ?_
            obtain rfl := Option.some.inj hf
            rw [hQ]
            exact im_iret hx hb hr (nb_0) hS hP dX3_put_47 hlocks
          · rw [if_neg hc] at hf
            refine lv_iload_n hx hb dX3_put_31 rfl (lv_at hl 4 rfl) ?_
            refine lv_iconst (v := 4) hx hb dX3_put_32 (by decide) ?_
            refine lv_icmp_gt (tgt := 46) hx hb dX3_put_33 (by decide) (fun hc => ?_) (fun hc => ?_)
            · rw [if_pos hc] at hf
              refine lv_iconst (v := 0) hx hb dX3_put_46 (by decide) ?_
              obtain rfl := Option.some.inj hf
              rw [hQ]
              exact im_iret hx hb hr (nb_0) hS hP dX3_put_47 hlocks
            · rw [if_neg hc] at hf
              refine lv_iload_n hx hb dX3_put_36 rfl (lv_at hl 4 rfl) ?_
              refine lv_iconst (v := 1) hx hb dX3_put_37 (by decide) ?_
              refine lv_icmp_ne (tgt := 48) hx hb dX3_put_38 (by decide) (fun hc => ?_) (fun hc => ?_)
              · rw [if_neg hc] at hf
                exact B48 r3 kn vl H locs hP hS ls hf (lv_sub hl [1, 2, 3, 4, 5, 0] rfl)
              · rw [if_pos hc] at hf
                refine lv_iload hx hb dX3_put_41 (lv_at hl 5 rfl) ?_
                refine lv_if_ge (tgt := 48) hx hb dX3_put_43 (by decide) (fun hc => ?_) (fun hc => ?_)
                · rw [if_pos hc] at hf
                  exact B48 r3 kn vl H locs hP hS ls hf (lv_sub hl [1, 2, 3, 4, 5, 0] rfl)
                · rw [if_neg hc] at hf
                  refine lv_iconst (v := 0) hx hb dX3_put_46 (by decide) ?_
                  obtain rfl := Option.some.inj hf
                  rw [hQ]
                  exact im_iret hx hb hr (nb_0) hS hP dX3_put_47 hlocks
  exact hgo s.heap [] hP va_S.rf
set_option maxHeartbeats 4000000 in
set_option maxRecDepth 100000 in
theorem cq_mount (l : Launch) (dC : Nat → ClassId) (dI : Nat → Nat → Nat) (cI cQ : ClassId) (t1 t2 bs : Nat) (top mo m1 m2 m3 m4 m5 m6 m7 : Nat) (hg : gd_A bs [mo, m1, m2, m3, m4, m5, m6, m7]) (mt : Int32) (cu : Int32) (kn : Nat → Int32) (vl : Nat → Int32) (ok : Nat → Int32) (ov : Nat → Int32) (fo : Int32) (pa : Int32) (fi : Int32) (va : Int32) (nd : Nat → Int32) (nk : Nat → Int32) (nv : Nat → Int32) (no : Int32) (v0 : Int32 × Int32) (h : fq_mount mt = some v0) : im_I l yX3_mount wsX3_mount rm_0_0 [.ref mo] (gk_G dC dI cI cQ t1 t2 bs (wm_M cI top mo m1 m2 m3 m4 m5 m6 m7 mt cu kn vl ok ov fo pa fi va nd nk nv no)) v0.1 (va_P (dC, dI) vwCl (wm_M cI top mo m1 m2 m3 m4 m5 m6 m7 v0.2 cu kn vl ok ov fo pa fi va nd nk nv no)) (in_A [mo, m1, m2, m3, m4, m5, m6, m7]) := by
  intro sz
  refine Met.ofW (cc := cX3_mount) (maxL := 2) (ret := (some .boolean)) (by decide) rfl ?_
  intro p e s m args below meth c_ s₁ B hml hv
  obtain ⟨rfl, hsz, hG, hP⟩ := hv
  have hx := B.exec
  have hb := B.bytes
  have hr := B.returns
  have hts := atoms_spec (ws := wsX3_mount) B.pre
  have hown : s.vm.findClass RX3 = some m.cls := findClass_of_methodNamed B.named
  have hlocks := B.notSynchronized
  have hiX3 : ∀ w ∈ u_ws RX3 TX3 15, w ∈ wsX3_mount := fun w hw => tw_in (usX3 w hw)
  have hl := lv_entry ([.ref mo]) (n := 2) (Nat.le_of_ble_eq_true rfl)
  rw [lg_entry_eq]
  generalize (lg_sl ([.ref mo]) ++ List.replicate (2 - (lg_sl ([.ref mo])).length) Slot.unset).toArray = ls at hl ⊢
  have hl : lv_has ls 2 [(0, .ref mo)] := hl
  refine nm_Q (fun Q hQ => ?_)
  unfold fq_mount at h
  have hgo : ∀ (H : Heap) (locs : List Loc), va_P (dC, dI) vwCl (wm_M cI top mo m1 m2 m3 m4 m5 m6 m7 mt cu kn vl ok ov fo pa fi va nd nk nv no) H → va_S (in_A [mo, m1, m2, m3, m4, m5, m6, m7]) s.heap H locs → W p l e (headSpec wsX3_mount rm_0_0).room s m ([.ref mo] : List Value).toArray below meth c_ H locs 0 0 Q (F0 m 0 ls []) := by
    intro H locs hP hS
    have hf := h
    refine lv_aload_n hx hb dX3_mount_0 rfl (lv_at hl 0 rfl) ?_
    refine va_get (D := (dC, dI)) (ci := 2) (v := .int mt) (C := RX3) (T := TX3) (N := 15) hx hb hts hiX3 hown hG.1 hP 0 rfl rfl 1 (by decide) (hts _ (tw_in lk_256)) (fun _ h9 => h9) rfl dX3_mount_1 ?_
    refine lv_istore_n (lv' := [(1, .int mt), (0, .ref mo)]) hx hb dX3_mount_4 rfl hl (by decide) rfl (fun ls hl => ?_)
    refine lv_aload_n hx hb dX3_mount_5 rfl (lv_at hl 1 rfl) ?_
    refine lv_iconst (v := 1) hx hb dX3_mount_6 (by decide) ?_
    refine va_put (D := (dC, dI)) (ci := 2) (v := .int 1) (ty := .boolean) (C := RX3) (T := TX3) (N := 15) hx hb hts hiX3 tyX3 tyX3_ok nmX3 hown hG.1 hP (dd_A hg rfl) hS 0 rfl rfl 1 (by decide) (hts _ (tw_in lk_256)) (fun _ h9 => h9) rfl (by decide +kernel) rfl rfl (Nat.le_of_ble_eq_true rfl) dX3_mount_7 (fun H locs hP _ hS => ?_)
    have hP : va_P (dC, dI) vwCl (wm_M cI top mo m1 m2 m3 m4 m5 m6 m7 1 cu kn vl ok ov fo pa fi va nd nk nv no) H := hP
    refine lv_iload_n hx hb dX3_mount_10 rfl (lv_at hl 0 rfl) ?_
    refine lv_if_ne (tgt := 18) hx hb dX3_mount_11 (by decide) (fun hc => ?_) (fun hc => ?_)
    · rw [if_neg hc] at hf
      refine lv_iconst (v := 0) hx hb dX3_mount_18 (by decide) ?_
      obtain rfl := Option.some.inj hf
      rw [hQ]
      exact im_iret hx hb hr (nb_0) hS hP dX3_mount_19 hlocks
    · rw [if_pos hc] at hf
      refine lv_iconst (v := 1) hx hb dX3_mount_14 (by decide) ?_
      refine lv_goto (tgt := 19) hx hb dX3_mount_15 (by decide) ?_
      obtain rfl := Option.some.inj hf
      rw [hQ]
      exact im_iret hx hb hr (nb_1) hS hP dX3_mount_19 hlocks
  exact hgo s.heap [] hP va_S.rf
set_option maxHeartbeats 4000000 in
set_option maxRecDepth 100000 in
theorem cq_entry (l : Launch) (dC : Nat → ClassId) (dI : Nat → Nat → Nat) (cI cQ : ClassId) (t1 t2 bs : Nat) (top mo m1 m2 m3 m4 m5 m6 m7 : Nat) (hg : gd_A bs [mo, m1, m2, m3, m4, m5, m6, m7]) (mt : Int32) (cu : Int32) (kn : Nat → Int32) (vl : Nat → Int32) (ok : Nat → Int32) (ov : Nat → Int32) (fo : Int32) (pa : Int32) (fi : Int32) (va : Int32) (nd : Nat → Int32) (nk : Nat → Int32) (nv : Nat → Int32) (no : Int32) (x1 : Int32) (x2 : Int32) (v0 : Int32) (h : fq_entry top kn x1 x2 = some v0) : pu_M l yX3_entry wsX3_entry rm_1_23 [.ref mo, .int x1, .int x2] (gk_G dC dI cI cQ t1 t2 bs (wm_M cI top mo m1 m2 m3 m4 m5 m6 m7 mt cu kn vl ok ov fo pa fi va nd nk nv no)) v0 := by
  intro sz
  refine Met.ofW (cc := cX3_entry) (maxL := 4) (ret := (some .int)) (by decide) rfl ?_
  intro p e s m args below meth c_ s₁ B hml hv
  obtain ⟨rfl, hsz, hG, hP⟩ := hv
  have hx := B.exec
  have hb := B.bytes
  have hr := B.returns
  have hts := atoms_spec (ws := wsX3_entry) B.pre
  have hown : s.vm.findClass RX3 = some m.cls := findClass_of_methodNamed B.named
  have hlocks := B.notSynchronized
  have hiX3 : ∀ w ∈ u_ws RX3 TX3 15, w ∈ wsX3_entry := fun w hw => tw_in (usX3 w hw)
  have hl := lv_entry ([.ref mo, .int x1, .int x2]) (n := 4) (Nat.le_of_ble_eq_true rfl)
  rw [lg_entry_eq]
  generalize (lg_sl ([.ref mo, .int x1, .int x2]) ++ List.replicate (4 - (lg_sl ([.ref mo, .int x1, .int x2])).length) Slot.unset).toArray = ls at hl ⊢
  have hl : lv_has ls 4 [(0, .ref mo), (1, .int x1), (2, .int x2)] := hl
  refine nm_Q (fun Q hQ => ?_)
  unfold fq_entry at h
  have hf := h
  refine lv_iload_n hx hb dX3_entry_0 rfl (lv_at hl 2 rfl) ?_
  obtain ⟨r1, e2, hf⟩ := ob_s hf
  try dsimp only at hf
  refine pu_calli (va_runS (As := [.int x2]) (rest := []) ⟨hx, hb, hml, hown, hts⟩ (cq_placeOf l dC dI cI cQ t1 t2 bs x2 r1 e2 s.heap.size) (va_cwS 1 hts (gs_S lk_253 lk_255 lk_194 lk_254) rfl rfl rfl (by decide +kernel) ⟨Nat.le_of_ble_eq_true rfl, Nat.le_of_ble_eq_true rfl⟩) (pr_S gk_W ⟨hG, pz_0⟩) rfl rfl hl.1 rfl (lv_room (Nat.le_of_ble_eq_true rfl)) dX3_entry_1 ⟨Nat.zero_le _, Nat.zero_le _⟩) ?_
  refine lv_istore_n (lv' := [(3, .int r1), (0, .ref mo), (1, .int x1), (2, .int x2)]) hx hb dX3_entry_4 rfl hl (by decide) rfl (fun ls hl => ?_)
  refine lv_aload_n hx hb dX3_entry_5 rfl (lv_at hl 1 rfl) ?_
  refine lv_iload_n hx hb dX3_entry_6 rfl (lv_at hl 2 rfl) ?_
  obtain ⟨r3, e4, hf⟩ := ob_s hf
  try dsimp only at hf
  refine pu_calli (va_runV (As := [.int x1]) (rest := []) ⟨hx, hb, hml, hown, hts⟩ (cq_isLayer l dC dI cI cQ t1 t2 bs top mo m1 m2 m3 m4 m5 m6 m7 hg mt cu kn vl ok ov fo pa fi va nd nk nv no x1 r3 e4 s.heap.size) (cwV 1 hts (gs_V lk_241 lk_243 lk_244 lk_194 lk_242) rfl rfl rfl (by decide +kernel) ⟨Nat.le_of_ble_eq_true rfl, Nat.le_of_ble_eq_true rfl⟩) (pr_V gk_W (va_recv hG.1 hP (q0 := 0) rfl rfl) ⟨hG, hP⟩) rfl rfl hl.1 rfl (lv_room (Nat.le_of_ble_eq_true rfl)) dX3_entry_7 ⟨Nat.zero_le _, Nat.zero_le _⟩) ?_
  refine lv_if_eq (tgt := 17) hx hb dX3_entry_10 (by decide) (fun hc => ?_) (fun hc => ?_)
  · rw [if_pos hc] at hf
    refine lv_bipush (v := (-2)) hx hb dX3_entry_17 (by decide) ?_
    refine lv_goto (tgt := 34) hx hb dX3_entry_19 (by decide) ?_
    obtain rfl := Option.some.inj hf
    rw [hQ]
    exact pu_iret hx hb hr (vp_nar_int _) hsz dX3_entry_34 hlocks
  · rw [if_neg hc] at hf
    refine lv_iload_n hx hb dX3_entry_13 rfl (lv_at hl 0 rfl) ?_
    refine lv_if_gt (tgt := 22) hx hb dX3_entry_14 (by decide) (fun hc => ?_) (fun hc => ?_)
    · rw [if_pos hc] at hf
      refine lv_aload_n hx hb dX3_entry_22 rfl (lv_at hl 1 rfl) ?_
      refine va_get (D := (dC, dI)) (ci := 2) (v := .ref m1) (C := RX3) (T := TX3) (N := 15) hx hb hts hiX3 hown hG.1 hP 0 rfl rfl 3 (by decide) (hts _ (tw_in lk_205)) (fun _ h9 => h9) rfl dX3_entry_23 ?_
      refine lv_sipush (v := 1296) hx hb dX3_entry_26 (by decide) ?_
      refine lv_iload_n hx hb dX3_entry_29 rfl (lv_at hl 2 rfl) ?_
      refine lv_imul hx hb dX3_entry_30 ?_
      refine lv_iload_n hx hb dX3_entry_31 rfl (lv_at hl 0 rfl) ?_
      refine lv_iadd hx hb dX3_entry_32 ?_
      obtain ⟨hq, hf⟩ := ck_s hf
      refine va_iald hx hb hG.1 hP 1 0 rfl rfl hq dX3_entry_33 ?_
      obtain rfl := Option.some.inj hf
      rw [hQ]
      exact pu_iret hx hb hr (vp_nar_int _) hsz dX3_entry_34 hlocks
    · rw [if_neg hc] at hf
      refine lv_bipush (v := (-2)) hx hb dX3_entry_17 (by decide) ?_
      refine lv_goto (tgt := 34) hx hb dX3_entry_19 (by decide) ?_
      obtain rfl := Option.some.inj hf
      rw [hQ]
      exact pu_iret hx hb hr (vp_nar_int _) hsz dX3_entry_34 hlocks
set_option maxHeartbeats 4000000 in
set_option maxRecDepth 100000 in
theorem cq_entryValue (l : Launch) (dC : Nat → ClassId) (dI : Nat → Nat → Nat) (cI cQ : ClassId) (t1 t2 bs : Nat) (top mo m1 m2 m3 m4 m5 m6 m7 : Nat) (hg : gd_A bs [mo, m1, m2, m3, m4, m5, m6, m7]) (mt : Int32) (cu : Int32) (kn : Nat → Int32) (vl : Nat → Int32) (ok : Nat → Int32) (ov : Nat → Int32) (fo : Int32) (pa : Int32) (fi : Int32) (va : Int32) (nd : Nat → Int32) (nk : Nat → Int32) (nv : Nat → Int32) (no : Int32) (x1 : Int32) (x2 : Int32) (v0 : Int32) (h : fq_entryValue top kn vl x1 x2 = some v0) : pu_M l yX3_entryValue wsX3_entryValue rm_2_46 [.ref mo, .int x1, .int x2] (gk_G dC dI cI cQ t1 t2 bs (wm_M cI top mo m1 m2 m3 m4 m5 m6 m7 mt cu kn vl ok ov fo pa fi va nd nk nv no)) v0 := by
  intro sz
  refine Met.ofW (cc := cX3_entryValue) (maxL := 4) (ret := (some .int)) (by decide) rfl ?_
  intro p e s m args below meth c_ s₁ B hml hv
  obtain ⟨rfl, hsz, hG, hP⟩ := hv
  have hx := B.exec
  have hb := B.bytes
  have hr := B.returns
  have hts := atoms_spec (ws := wsX3_entryValue) B.pre
  have hown : s.vm.findClass RX3 = some m.cls := findClass_of_methodNamed B.named
  have hlocks := B.notSynchronized
  have hiX3 : ∀ w ∈ u_ws RX3 TX3 15, w ∈ wsX3_entryValue := fun w hw => tw_in (usX3 w hw)
  have hl := lv_entry ([.ref mo, .int x1, .int x2]) (n := 4) (Nat.le_of_ble_eq_true rfl)
  rw [lg_entry_eq]
  generalize (lg_sl ([.ref mo, .int x1, .int x2]) ++ List.replicate (4 - (lg_sl ([.ref mo, .int x1, .int x2])).length) Slot.unset).toArray = ls at hl ⊢
  have hl : lv_has ls 4 [(0, .ref mo), (1, .int x1), (2, .int x2)] := hl
  refine nm_Q (fun Q hQ => ?_)
  unfold fq_entryValue at h
  have hf := h
  refine lv_aload_n hx hb dX3_entryValue_0 rfl (lv_at hl 0 rfl) ?_
  refine lv_iload_n hx hb dX3_entryValue_1 rfl (lv_at hl 1 rfl) ?_
  refine lv_iload_n hx hb dX3_entryValue_2 rfl (lv_at hl 2 rfl) ?_
  obtain ⟨r1, e2, hf⟩ := ob_s hf
  try dsimp only at hf
  refine pu_calli (va_runV (As := [.int x1, .int x2]) (rest := []) ⟨hx, hb, hml, hown, hts⟩ (cq_entry l dC dI cI cQ t1 t2 bs top mo m1 m2 m3 m4 m5 m6 m7 hg mt cu kn vl ok ov fo pa fi va nd nk nv no x1 x2 r1 e2 s.heap.size) (cwV 2 hts (gs_V lk_257 lk_259 lk_260 lk_194 lk_258) rfl rfl rfl (by decide +kernel) ⟨Nat.le_of_ble_eq_true rfl, Nat.le_of_ble_eq_true rfl⟩) (pr_V gk_W (va_recv hG.1 hP (q0 := 0) rfl rfl) ⟨hG, hP⟩) rfl rfl hl.1 rfl (lv_room (Nat.le_of_ble_eq_true rfl)) dX3_entryValue_3 ⟨Nat.zero_le _, Nat.zero_le _⟩) ?_
  refine lv_istore_n (lv' := [(3, .int r1), (0, .ref mo), (1, .int x1), (2, .int x2)]) hx hb dX3_entryValue_6 rfl hl (by decide) rfl (fun ls hl => ?_)
  refine lv_iload_n hx hb dX3_entryValue_7 rfl (lv_at hl 0 rfl) ?_
  refine lv_if_ge (tgt := 16) hx hb dX3_entryValue_8 (by decide) (fun hc => ?_) (fun hc => ?_)
  · rw [if_pos hc] at hf
    refine lv_iload_n hx hb dX3_entryValue_16 rfl (lv_at hl 0 rfl) ?_
    refine lv_iconst (v := 1) hx hb dX3_entryValue_17 (by decide) ?_
    refine lv_icmp_eq (tgt := 26) hx hb dX3_entryValue_18 (by decide) (fun hc => ?_) (fun hc => ?_)
    · rw [if_pos hc] at hf
      refine lv_aload_n hx hb dX3_entryValue_26 rfl (lv_at hl 1 rfl) ?_
      refine va_get (D := (dC, dI)) (ci := 2) (v := .ref m2) (C := RX3) (T := TX3) (N := 15) hx hb hts hiX3 hown hG.1 hP 0 rfl rfl 4 (by decide) (hts _ (tw_in lk_203)) (fun _ h9 => h9) rfl dX3_entryValue_27 ?_
      refine lv_sipush (v := 1296) hx hb dX3_entryValue_30 (by decide) ?_
      refine lv_iload_n hx hb dX3_entryValue_33 rfl (lv_at hl 2 rfl) ?_
      refine lv_imul hx hb dX3_entryValue_34 ?_
      refine lv_iload_n hx hb dX3_entryValue_35 rfl (lv_at hl 3 rfl) ?_
      obtain ⟨r3, e4, hf⟩ := ob_s hf
      try dsimp only at hf
      refine pu_calli (va_runS (As := [.int x2]) (rest := [.int (1296 * x1), .ref m2]) ⟨hx, hb, hml, hown, hts⟩ (cq_placeOf l dC dI cI cQ t1 t2 bs x2 r3 e4 s.heap.size) (va_cwS 1 hts (gs_S lk_253 lk_255 lk_194 lk_254) rfl rfl rfl (by decide +kernel) ⟨Nat.le_of_ble_eq_true rfl, Nat.le_of_ble_eq_true rfl⟩) (pr_S gk_W ⟨hG, pz_0⟩) rfl rfl hl.1 rfl (lv_room (Nat.le_of_ble_eq_true rfl)) dX3_entryValue_36 ⟨Nat.zero_le _, Nat.zero_le _⟩) ?_
      refine lv_iadd hx hb dX3_entryValue_39 ?_
      obtain ⟨hq, hf⟩ := ck_s hf
      refine va_iald hx hb hG.1 hP 2 0 rfl rfl hq dX3_entryValue_40 ?_
      obtain rfl := Option.some.inj hf
      rw [hQ]
      exact pu_iret hx hb hr (vp_nar_int _) hsz dX3_entryValue_41 hlocks
    · rw [if_neg hc] at hf
      refine lv_bipush (v := (-3)) hx hb dX3_entryValue_21 (by decide) ?_
      refine lv_goto (tgt := 41) hx hb dX3_entryValue_23 (by decide) ?_
      obtain rfl := Option.some.inj hf
      rw [hQ]
      exact pu_iret hx hb hr (vp_nar_int _) hsz dX3_entryValue_41 hlocks
  · rw [if_neg hc] at hf
    refine lv_bipush (v := (-2)) hx hb dX3_entryValue_11 (by decide) ?_
    refine lv_goto (tgt := 41) hx hb dX3_entryValue_13 (by decide) ?_
    obtain rfl := Option.some.inj hf
    rw [hQ]
    exact pu_iret hx hb hr (vp_nar_int _) hsz dX3_entryValue_41 hlocks
set_option maxHeartbeats 4000000 in
set_option maxRecDepth 100000 in
theorem cq_whiteouts (l : Launch) (dC : Nat → ClassId) (dI : Nat → Nat → Nat) (cI cQ : ClassId) (t1 t2 bs : Nat) (top mo m1 m2 m3 m4 m5 m6 m7 : Nat) (hg : gd_A bs [mo, m1, m2, m3, m4, m5, m6, m7]) (mt : Int32) (cu : Int32) (kn : Nat → Int32) (vl : Nat → Int32) (ok : Nat → Int32) (ov : Nat → Int32) (fo : Int32) (pa : Int32) (fi : Int32) (va : Int32) (nd : Nat → Int32) (nk : Nat → Int32) (nv : Nat → Int32) (no : Int32) (v0 : Int32) (h : fq_whiteouts top kn = some v0) : pu_M l yX3_whiteouts wsX3_whiteouts rm_1_21 [.ref mo] (gk_G dC dI cI cQ t1 t2 bs (wm_M cI top mo m1 m2 m3 m4 m5 m6 m7 mt cu kn vl ok ov fo pa fi va nd nk nv no)) v0 := by
  intro sz
  refine Met.ofW (cc := cX3_whiteouts) (maxL := 3) (ret := (some .int)) (by decide) rfl ?_
  intro p e s m args below meth c_ s₁ B hml hv
  obtain ⟨rfl, hsz, hG, hP⟩ := hv
  have hx := B.exec
  have hb := B.bytes
  have hr := B.returns
  have hts := atoms_spec (ws := wsX3_whiteouts) B.pre
  have hown : s.vm.findClass RX3 = some m.cls := findClass_of_methodNamed B.named
  have hlocks := B.notSynchronized
  have hl := lv_entry ([.ref mo]) (n := 3) (Nat.le_of_ble_eq_true rfl)
  rw [lg_entry_eq]
  generalize (lg_sl ([.ref mo]) ++ List.replicate (3 - (lg_sl ([.ref mo])).length) Slot.unset).toArray = ls at hl ⊢
  have hl : lv_has ls 3 [(0, .ref mo)] := hl
  refine nm_Q (fun Q hQ => ?_)
  have B26 : ∀ (k4 : Int32 → Int32 → Option (Int32)) (hk4 : ∀ (x1 : Int32) (x2 : Int32), ∀ ls : Array Slot, k4 x1 x2 = some v0 → lv_has ls 3 [(0, .ref mo), (1, .int x1), (2, .int x2)] → W p l e (headSpec wsX3_whiteouts rm_1_21).room s m ([.ref mo] : List Value).toArray below meth c_ s.heap [] 0 0 Q (F0 m 4 ls [])), ∀ (x1 : Int32) (x2 : Int32) (z0 : Int32) (z1 : Int32), ∀ ls : Array Slot, fq_whiteouts_26 top kn k4 x1 x2 z0 z1 = some v0 → lv_has ls 3 [(0, .ref mo), (1, .int x1), (2, .int x2)] → W p l e (headSpec wsX3_whiteouts rm_1_21).room s m ([.ref mo] : List Value).toArray below meth c_ s.heap [] 0 0 Q (F0 m 26 ls [.int z0, .int z1]) := by
    intro k4 hk4
    intro x1 x2 z0 z1 ls hf hl
    unfold fq_whiteouts_26 at hf
    refine lv_iadd hx hb dX3_whiteouts_26 ?_
    refine lv_istore_n (lv' := [(1, .int (z1 + z0)), (0, .ref mo), (2, .int x2)]) hx hb dX3_whiteouts_27 rfl hl (by decide) rfl (fun ls hl => ?_)
    refine lv_iinc (k := 2) (v := x2 + 1) (lv' := [(2, .int (x2 + 1)), (1, .int (z1 + z0)), (0, .ref mo)]) hx hb dX3_whiteouts_28 hl rfl (by rfl) (by decide) rfl (fun ls hl => ?_)
    refine lv_goto (tgt := 4) hx hb dX3_whiteouts_31 (by decide) ?_
    exact hk4 (z1 + z0) (x2 + 1) ls hf (lv_sub hl [2, 1, 0] rfl)
  have B4 : ∀ n : Nat, ∀ (x1 : Int32) (x2 : Int32), ∀ ls : Array Slot, fq_whiteouts_4 top kn n x1 x2 = some v0 → lv_has ls 3 [(0, .ref mo), (1, .int x1), (2, .int x2)] → W p l e (headSpec wsX3_whiteouts rm_1_21).room s m ([.ref mo] : List Value).toArray below meth c_ s.heap [] 0 0 Q (F0 m 4 ls []) := by
    intro n
    induction n with
    | zero => 
      intro x1 x2 ls hf hl
      exact nomatch (show (none : Option (Int32)) = some v0 from hf)
    | succ n ih =>
      intro x1 x2 ls hf hl
      rw [fq_whiteouts_4.eq_2] at hf
      try dsimp only at hf
      refine lv_iload_n hx hb dX3_whiteouts_4 rfl (lv_at hl 2 rfl) ?_
      refine lv_sipush (v := 1296) hx hb dX3_whiteouts_5 (by decide) ?_
      refine lv_icmp_ge (tgt := 34) hx hb dX3_whiteouts_8 (by decide) (fun hc => ?_) (fun hc => ?_)
      · rw [if_pos hc] at hf
        refine lv_iload_n hx hb dX3_whiteouts_34 rfl (lv_at hl 1 rfl) ?_
        obtain rfl := Option.some.inj hf
        rw [hQ]
        exact pu_iret hx hb hr (vp_nar_int _) hsz dX3_whiteouts_35 hlocks
      · rw [if_neg hc] at hf
        refine lv_iload_n hx hb dX3_whiteouts_11 rfl (lv_at hl 1 rfl) ?_
        refine lv_aload_n hx hb dX3_whiteouts_12 rfl (lv_at hl 0 rfl) ?_
        refine lv_iload_n hx hb dX3_whiteouts_13 rfl (lv_at hl 2 rfl) ?_
        obtain ⟨r1, e2, hf⟩ := ob_s hf
        try dsimp only at hf
        refine pu_calli (va_runV (As := [.int x2]) (rest := [.int x1]) ⟨hx, hb, hml, hown, hts⟩ (cq_upper l dC dI cI cQ t1 t2 bs top mo m1 m2 m3 m4 m5 m6 m7 hg mt cu kn vl ok ov fo pa fi va nd nk nv no x2 r1 e2 s.heap.size) (cwV 1 hts (gs_V lk_215 lk_217 lk_218 lk_194 lk_216) rfl rfl rfl (by decide +kernel) ⟨Nat.le_of_ble_eq_true rfl, Nat.le_of_ble_eq_true rfl⟩) (pr_V gk_W (va_recv hG.1 hP (q0 := 0) rfl rfl) ⟨hG, hP⟩) rfl rfl hl.1 rfl (lv_room (Nat.le_of_ble_eq_true rfl)) dX3_whiteouts_14 ⟨Nat.zero_le _, Nat.zero_le _⟩) ?_
        refine lv_iconst (v := 4) hx hb dX3_whiteouts_17 (by decide) ?_
        refine lv_icmp_ne (tgt := 25) hx hb dX3_whiteouts_18 (by decide) (fun hc => ?_) (fun hc => ?_)
        · rw [if_neg hc] at hf
          refine lv_iconst (v := 0) hx hb dX3_whiteouts_25 (by decide) ?_
          exact B26 (fq_whiteouts_4 top kn n) ih x1 x2 0 x1 ls hf (lv_sub hl [0, 1, 2] rfl)
        · rw [if_pos hc] at hf
          refine lv_iconst (v := 1) hx hb dX3_whiteouts_21 (by decide) ?_
          refine lv_goto (tgt := 26) hx hb dX3_whiteouts_22 (by decide) ?_
          exact B26 (fq_whiteouts_4 top kn n) ih x1 x2 1 x1 ls hf (lv_sub hl [0, 1, 2] rfl)
  unfold fq_whiteouts at h
  have hf := h
  refine lv_iconst (v := 0) hx hb dX3_whiteouts_0 (by decide) ?_
  refine lv_istore_n (lv' := [(1, .int 0), (0, .ref mo)]) hx hb dX3_whiteouts_1 rfl hl (by decide) rfl (fun ls hl => ?_)
  refine lv_iconst (v := 1) hx hb dX3_whiteouts_2 (by decide) ?_
  refine lv_istore_n (lv' := [(2, .int 1), (1, .int 0), (0, .ref mo)]) hx hb dX3_whiteouts_3 rfl hl (by decide) rfl (fun ls hl => ?_)
  exact B4 fu_n 0 1 ls hf (lv_sub hl [2, 1, 0] rfl)
set_option maxHeartbeats 4000000 in
set_option maxRecDepth 100000 in
theorem cq_copies (l : Launch) (dC : Nat → ClassId) (dI : Nat → Nat → Nat) (cI cQ : ClassId) (t1 t2 bs : Nat) (top mo m1 m2 m3 m4 m5 m6 m7 : Nat) (hg : gd_A bs [mo, m1, m2, m3, m4, m5, m6, m7]) (mt : Int32) (cu : Int32) (kn : Nat → Int32) (vl : Nat → Int32) (ok : Nat → Int32) (ov : Nat → Int32) (fo : Int32) (pa : Int32) (fi : Int32) (va : Int32) (nd : Nat → Int32) (nk : Nat → Int32) (nv : Nat → Int32) (no : Int32) (v0 : Int32) (h : fq_copies cu = some v0) : pu_M l yX3_copies wsX3_copies rm_0_0 [.ref mo] (gk_G dC dI cI cQ t1 t2 bs (wm_M cI top mo m1 m2 m3 m4 m5 m6 m7 mt cu kn vl ok ov fo pa fi va nd nk nv no)) v0 := by
  intro sz
  refine Met.ofW (cc := cX3_copies) (maxL := 1) (ret := (some .int)) (by decide) rfl ?_
  intro p e s m args below meth c_ s₁ B hml hv
  obtain ⟨rfl, hsz, hG, hP⟩ := hv
  have hx := B.exec
  have hb := B.bytes
  have hr := B.returns
  have hts := atoms_spec (ws := wsX3_copies) B.pre
  have hown : s.vm.findClass RX3 = some m.cls := findClass_of_methodNamed B.named
  have hlocks := B.notSynchronized
  have hiX3 : ∀ w ∈ u_ws RX3 TX3 15, w ∈ wsX3_copies := fun w hw => tw_in (usX3 w hw)
  have hl := lv_entry ([.ref mo]) (n := 1) (Nat.le_of_ble_eq_true rfl)
  rw [lg_entry_eq]
  generalize (lg_sl ([.ref mo]) ++ List.replicate (1 - (lg_sl ([.ref mo])).length) Slot.unset).toArray = ls at hl ⊢
  have hl : lv_has ls 1 [(0, .ref mo)] := hl
  refine nm_Q (fun Q hQ => ?_)
  unfold fq_copies at h
  have hf := h
  refine lv_aload_n hx hb dX3_copies_0 rfl (lv_at hl 0 rfl) ?_
  refine va_get (D := (dC, dI)) (ci := 2) (v := .int cu) (C := RX3) (T := TX3) (N := 15) hx hb hts hiX3 hown hG.1 hP 0 rfl rfl 2 (by decide) (hts _ (tw_in lk_223)) (fun _ h9 => h9) rfl dX3_copies_1 ?_
  obtain rfl := Option.some.inj hf
  rw [hQ]
  exact pu_iret hx hb hr (vp_nar_int _) hsz dX3_copies_4 hlocks
set_option maxHeartbeats 4000000 in
set_option maxRecDepth 100000 in
theorem cq_kind (l : Launch) (dC : Nat → ClassId) (dI : Nat → Nat → Nat) (cI cQ : ClassId) (t1 t2 bs : Nat) (top mo m1 m2 m3 m4 m5 m6 m7 : Nat) (hg : gd_A bs [mo, m1, m2, m3, m4, m5, m6, m7]) (mt : Int32) (cu : Int32) (kn : Nat → Int32) (vl : Nat → Int32) (ok : Nat → Int32) (ov : Nat → Int32) (fo : Int32) (pa : Int32) (fi : Int32) (va : Int32) (nd : Nat → Int32) (nk : Nat → Int32) (nv : Nat → Int32) (no : Int32) (x1 : Int32) (v0 : Int32 × Int32 × Int32 × Int32 × Int32) (h : fq_kind top mt kn vl fo pa fi va x1 = some v0) : im_I l yX3_kind wsX3_kind rm_2_48 [.ref mo, .int x1] (gk_G dC dI cI cQ t1 t2 bs (wm_M cI top mo m1 m2 m3 m4 m5 m6 m7 mt cu kn vl ok ov fo pa fi va nd nk nv no)) v0.1 (va_P (dC, dI) vwCl (wm_M cI top mo m1 m2 m3 m4 m5 m6 m7 mt cu kn vl ok ov v0.2.1 v0.2.2.1 v0.2.2.2.1 v0.2.2.2.2 nd nk nv no)) (in_A [mo, m1, m2, m3, m4, m5, m6, m7]) := by
  intro sz
  refine Met.ofW (cc := cX3_kind) (maxL := 3) (ret := (some .int)) (by decide) rfl ?_
  intro p e s m args below meth c_ s₁ B hml hv
  obtain ⟨rfl, hsz, hG, hP⟩ := hv
  have hx := B.exec
  have hb := B.bytes
  have hr := B.returns
  have hts := atoms_spec (ws := wsX3_kind) B.pre
  have hown : s.vm.findClass RX3 = some m.cls := findClass_of_methodNamed B.named
  have hlocks := B.notSynchronized
  have hiX3 : ∀ w ∈ u_ws RX3 TX3 15, w ∈ wsX3_kind := fun w hw => tw_in (usX3 w hw)
  have hl := lv_entry ([.ref mo, .int x1]) (n := 3) (Nat.le_of_ble_eq_true rfl)
  rw [lg_entry_eq]
  generalize (lg_sl ([.ref mo, .int x1]) ++ List.replicate (3 - (lg_sl ([.ref mo, .int x1])).length) Slot.unset).toArray = ls at hl ⊢
  have hl : lv_has ls 3 [(0, .ref mo), (1, .int x1)] := hl
  refine nm_Q (fun Q hQ => ?_)
  have B16 : ∀ (x2 : Int32) (fo : Int32) (pa : Int32) (fi : Int32) (va : Int32), ∀ (H : Heap) (locs : List Loc), va_P (dC, dI) vwCl (wm_M cI top mo m1 m2 m3 m4 m5 m6 m7 mt cu kn vl ok ov fo pa fi va nd nk nv no) H → va_S (in_A [mo, m1, m2, m3, m4, m5, m6, m7]) s.heap H locs → ∀ ls : Array Slot, fq_kind_16 top mt kn vl x1 x2 fo pa fi va = some v0 → lv_has ls 3 [(0, .ref mo), (1, .int x1), (2, .int x2)] → W p l e (headSpec wsX3_kind rm_2_48).room s m ([.ref mo, .int x1] : List Value).toArray below meth c_ H locs 0 0 Q (F0 m 16 ls []) := by
    intro x2 fo pa fi va H locs hP hS ls hf hl
    unfold fq_kind_16 at hf
    refine lv_aload_n hx hb dX3_kind_16 rfl (lv_at hl 0 rfl) ?_
    refine va_get (D := (dC, dI)) (ci := 2) (v := .int mt) (C := RX3) (T := TX3) (N := 15) hx hb hts hiX3 hown hG.1 hP 0 rfl rfl 1 (by decide) (hts _ (tw_in lk_256)) (fun _ h9 => h9) rfl dX3_kind_17 ?_
    refine lv_if_ne (tgt := 27) hx hb dX3_kind_20 (by decide) (fun hc => ?_) (fun hc => ?_)
    · rw [if_neg hc] at hf
      refine lv_bipush (v := (-2)) hx hb dX3_kind_27 (by decide) ?_
      obtain rfl := Option.some.inj hf
      rw [hQ]
      exact im_iret hx hb hr (vp_nar_int _) hS hP dX3_kind_29 hlocks
    · rw [if_pos hc] at hf
      refine lv_iconst (v := (-1)) hx hb dX3_kind_23 (by decide) ?_
      refine lv_goto (tgt := 29) hx hb dX3_kind_24 (by decide) ?_
      obtain rfl := Option.some.inj hf
      rw [hQ]
      exact im_iret hx hb hr (vp_nar_int _) hS hP dX3_kind_29 hlocks
  unfold fq_kind at h
  have hgo : ∀ (H : Heap) (locs : List Loc), va_P (dC, dI) vwCl (wm_M cI top mo m1 m2 m3 m4 m5 m6 m7 mt cu kn vl ok ov fo pa fi va nd nk nv no) H → va_S (in_A [mo, m1, m2, m3, m4, m5, m6, m7]) s.heap H locs → W p l e (headSpec wsX3_kind rm_2_48).room s m ([.ref mo, .int x1] : List Value).toArray below meth c_ H locs 0 0 Q (F0 m 0 ls []) := by
    intro H locs hP hS
    have hf := h
    refine lv_iload_n hx hb dX3_kind_0 rfl (lv_at hl 1 rfl) ?_
    obtain ⟨r1, e2, hf⟩ := ob_s hf
    try dsimp only at hf
    refine pu_calli (va_runS (As := [.int x1]) (rest := []) ⟨hx, hb, hml, hown, hts⟩ (cq_placeOf l dC dI cI cQ t1 t2 bs x1 r1 e2 H.size) (va_cwS 1 hts (gs_S lk_253 lk_255 lk_194 lk_254) rfl rfl rfl (by decide +kernel) ⟨Nat.le_of_ble_eq_true rfl, Nat.le_of_ble_eq_true rfl⟩) (pr_S gk_W ⟨(gk_S hG hS (bb_A hg)), pz_0⟩) rfl rfl hl.1 rfl (lv_room (Nat.le_of_ble_eq_true rfl)) dX3_kind_1 ⟨Nat.zero_le _, Nat.zero_le _⟩) ?_
    refine lv_istore_n (lv' := [(2, .int r1), (0, .ref mo), (1, .int x1)]) hx hb dX3_kind_4 rfl hl (by decide) rfl (fun ls hl => ?_)
    refine lv_aload_n hx hb dX3_kind_5 rfl (lv_at hl 1 rfl) ?_
    refine va_get (D := (dC, dI)) (ci := 2) (v := .int mt) (C := RX3) (T := TX3) (N := 15) hx hb hts hiX3 hown hG.1 hP 0 rfl rfl 1 (by decide) (hts _ (tw_in lk_256)) (fun _ h9 => h9) rfl dX3_kind_6 ?_
    refine lv_if_eq (tgt := 16) hx hb dX3_kind_9 (by decide) (fun hc => ?_) (fun hc => ?_)
    · rw [if_pos hc] at hf
      exact B16 r1 fo pa fi va H locs hP hS ls hf (lv_sub hl [1, 2, 0] rfl)
    · rw [if_neg hc] at hf
      refine lv_iload_n hx hb dX3_kind_12 rfl (lv_at hl 0 rfl) ?_
      refine lv_if_ge (tgt := 30) hx hb dX3_kind_13 (by decide) (fun hc => ?_) (fun hc => ?_)
      · rw [if_pos hc] at hf
        refine lv_aload_n hx hb dX3_kind_30 rfl (lv_at hl 1 rfl) ?_
        refine lv_iload_n hx hb dX3_kind_31 rfl (lv_at hl 0 rfl) ?_
        obtain ⟨r3, e4, hf⟩ := ob_s hf
        try dsimp only at hf
        refine im_callv (va_runV (As := [.int r1]) (rest := []) ⟨hx, hb, hml, hown, hts⟩ (cq_look l dC dI cI cQ t1 t2 bs top mo m1 m2 m3 m4 m5 m6 m7 hg mt cu kn vl ok ov fo pa fi va nd nk nv no r1 r3 e4 H.size) (cwV 1 hts (gs_V lk_211 lk_213 lk_214 lk_194 lk_212) rfl rfl rfl (by decide +kernel) ⟨Nat.le_of_ble_eq_true rfl, Nat.le_of_ble_eq_true rfl⟩) (pr_V gk_W (va_recv hG.1 hP (q0 := 0) rfl rfl) ⟨(gk_S hG hS (bb_A hg)), hP⟩) rfl rfl hl.1 rfl (lv_room (Nat.le_of_ble_eq_true rfl)) dX3_kind_32 ⟨Nat.zero_le _, Nat.zero_le _⟩) hS (fun _ h => h) (fun H locs hP1 hk1 hS => ?_)
        have hP : va_P (dC, dI) vwCl (wm_M cI top mo m1 m2 m3 m4 m5 m6 m7 mt cu kn vl ok ov r3.1 r3.2.1 r3.2.2.1 r3.2.2.2 nd nk nv no) H := hP1
        refine lv_aload_n hx hb dX3_kind_35 rfl (lv_at hl 1 rfl) ?_
        refine va_get (D := (dC, dI)) (ci := 2) (v := .int r3.1) (C := RX3) (T := TX3) (N := 15) hx hb hts hiX3 hown hG.1 hP 0 rfl rfl 7 (by decide) (hts _ (tw_in lk_202)) (fun _ h9 => h9) rfl dX3_kind_36 ?_
        obtain rfl := Option.some.inj hf
        rw [hQ]
        exact im_iret hx hb hr (vp_nar_int _) hS hP dX3_kind_39 hlocks
      · rw [if_neg hc] at hf
        exact B16 r1 fo pa fi va H locs hP hS ls hf (lv_sub hl [1, 2, 0] rfl)
  exact hgo s.heap [] hP va_S.rf
set_option maxHeartbeats 4000000 in
set_option maxRecDepth 100000 in
theorem cq_read (l : Launch) (dC : Nat → ClassId) (dI : Nat → Nat → Nat) (cI cQ : ClassId) (t1 t2 bs : Nat) (top mo m1 m2 m3 m4 m5 m6 m7 : Nat) (hg : gd_A bs [mo, m1, m2, m3, m4, m5, m6, m7]) (mt : Int32) (cu : Int32) (kn : Nat → Int32) (vl : Nat → Int32) (ok : Nat → Int32) (ov : Nat → Int32) (fo : Int32) (pa : Int32) (fi : Int32) (va : Int32) (nd : Nat → Int32) (nk : Nat → Int32) (nv : Nat → Int32) (no : Int32) (x1 : Int32) (v0 : Int32 × Int32 × Int32 × Int32 × Int32) (h : fq_read top mt kn vl fo pa fi va x1 = some v0) : im_I l yX3_read wsX3_read rm_3_70 [.ref mo, .int x1] (gk_G dC dI cI cQ t1 t2 bs (wm_M cI top mo m1 m2 m3 m4 m5 m6 m7 mt cu kn vl ok ov fo pa fi va nd nk nv no)) v0.1 (va_P (dC, dI) vwCl (wm_M cI top mo m1 m2 m3 m4 m5 m6 m7 mt cu kn vl ok ov v0.2.1 v0.2.2.1 v0.2.2.2.1 v0.2.2.2.2 nd nk nv no)) (in_A [mo, m1, m2, m3, m4, m5, m6, m7]) := by
  intro sz
  refine Met.ofW (cc := cX3_read) (maxL := 3) (ret := (some .int)) (by decide) rfl ?_
  intro p e s m args below meth c_ s₁ B hml hv
  obtain ⟨rfl, hsz, hG, hP⟩ := hv
  have hx := B.exec
  have hb := B.bytes
  have hr := B.returns
  have hts := atoms_spec (ws := wsX3_read) B.pre
  have hown : s.vm.findClass RX3 = some m.cls := findClass_of_methodNamed B.named
  have hlocks := B.notSynchronized
  have hiX3 : ∀ w ∈ u_ws RX3 TX3 15, w ∈ wsX3_read := fun w hw => tw_in (usX3 w hw)
  have hl := lv_entry ([.ref mo, .int x1]) (n := 3) (Nat.le_of_ble_eq_true rfl)
  rw [lg_entry_eq]
  generalize (lg_sl ([.ref mo, .int x1]) ++ List.replicate (3 - (lg_sl ([.ref mo, .int x1])).length) Slot.unset).toArray = ls at hl ⊢
  have hl : lv_has ls 3 [(0, .ref mo), (1, .int x1)] := hl
  refine nm_Q (fun Q hQ => ?_)
  unfold fq_read at h
  have hgo : ∀ (H : Heap) (locs : List Loc), va_P (dC, dI) vwCl (wm_M cI top mo m1 m2 m3 m4 m5 m6 m7 mt cu kn vl ok ov fo pa fi va nd nk nv no) H → va_S (in_A [mo, m1, m2, m3, m4, m5, m6, m7]) s.heap H locs → W p l e (headSpec wsX3_read rm_3_70).room s m ([.ref mo, .int x1] : List Value).toArray below meth c_ H locs 0 0 Q (F0 m 0 ls []) := by
    intro H locs hP hS
    have hf := h
    refine lv_aload_n hx hb dX3_read_0 rfl (lv_at hl 0 rfl) ?_
    refine lv_iload_n hx hb dX3_read_1 rfl (lv_at hl 1 rfl) ?_
    obtain ⟨r1, e2, hf⟩ := ob_s hf
    try dsimp only at hf
    refine im_calli (va_runV (As := [.int x1]) (rest := []) ⟨hx, hb, hml, hown, hts⟩ (cq_kind l dC dI cI cQ t1 t2 bs top mo m1 m2 m3 m4 m5 m6 m7 hg mt cu kn vl ok ov fo pa fi va nd nk nv no x1 r1 e2 H.size) (cwV 1 hts (gs_V lk_261 lk_263 lk_264 lk_194 lk_262) rfl rfl rfl (by decide +kernel) ⟨Nat.le_of_ble_eq_true rfl, Nat.le_of_ble_eq_true rfl⟩) (pr_V gk_W (va_recv hG.1 hP (q0 := 0) rfl rfl) ⟨(gk_S hG hS (bb_A hg)), hP⟩) rfl rfl hl.1 rfl (lv_room (Nat.le_of_ble_eq_true rfl)) dX3_read_2 ⟨Nat.zero_le _, Nat.zero_le _⟩) hS (fun _ h => h) (fun H locs hP1 hk1 hS => ?_)
    have hP : va_P (dC, dI) vwCl (wm_M cI top mo m1 m2 m3 m4 m5 m6 m7 mt cu kn vl ok ov r1.2.1 r1.2.2.1 r1.2.2.2.1 r1.2.2.2.2 nd nk nv no) H := hP1
    refine lv_istore_n (lv' := [(2, .int r1.1), (0, .ref mo), (1, .int x1)]) hx hb dX3_read_5 rfl hl (by decide) rfl (fun ls hl => ?_)
    refine lv_iload_n hx hb dX3_read_6 rfl (lv_at hl 0 rfl) ?_
    refine lv_if_ge (tgt := 14) hx hb dX3_read_7 (by decide) (fun hc => ?_) (fun hc => ?_)
    · rw [if_pos hc] at hf
      refine lv_iload_n hx hb dX3_read_14 rfl (lv_at hl 0 rfl) ?_
      refine lv_if_ne (tgt := 23) hx hb dX3_read_15 (by decide) (fun hc => ?_) (fun hc => ?_)
      · rw [if_neg hc] at hf
        refine lv_iload_n hx hb dX3_read_23 rfl (lv_at hl 0 rfl) ?_
        refine lv_iconst (v := 2) hx hb dX3_read_24 (by decide) ?_
        refine lv_icmp_ne (tgt := 33) hx hb dX3_read_25 (by decide) (fun hc => ?_) (fun hc => ?_)
        · rw [if_neg hc] at hf
          refine lv_aload_n hx hb dX3_read_33 rfl (lv_at hl 1 rfl) ?_
          refine va_get (D := (dC, dI)) (ci := 2) (v := .int r1.2.2.2.2) (C := RX3) (T := TX3) (N := 15) hx hb hts hiX3 hown hG.1 hP 0 rfl rfl 10 (by decide) (hts _ (tw_in lk_201)) (fun _ h9 => h9) rfl dX3_read_34 ?_
          obtain rfl := Option.some.inj hf
          rw [hQ]
          exact im_iret hx hb hr (vp_nar_int _) hS hP dX3_read_37 hlocks
        · rw [if_pos hc] at hf
          refine lv_bipush (v := (-6)) hx hb dX3_read_28 (by decide) ?_
          refine lv_goto (tgt := 37) hx hb dX3_read_30 (by decide) ?_
          obtain rfl := Option.some.inj hf
          rw [hQ]
          exact im_iret hx hb hr (vp_nar_int _) hS hP dX3_read_37 hlocks
      · rw [if_pos hc] at hf
        refine lv_bipush (v := (-3)) hx hb dX3_read_18 (by decide) ?_
        refine lv_goto (tgt := 37) hx hb dX3_read_20 (by decide) ?_
        obtain rfl := Option.some.inj hf
        rw [hQ]
        exact im_iret hx hb hr (vp_nar_int _) hS hP dX3_read_37 hlocks
    · rw [if_neg hc] at hf
      refine lv_iload_n hx hb dX3_read_10 rfl (lv_at hl 0 rfl) ?_
      refine lv_goto (tgt := 37) hx hb dX3_read_11 (by decide) ?_
      obtain rfl := Option.some.inj hf
      rw [hQ]
      exact im_iret hx hb hr (vp_nar_int _) hS hP dX3_read_37 hlocks
  exact hgo s.heap [] hP va_S.rf
set_option maxHeartbeats 4000000 in
set_option maxRecDepth 100000 in
theorem cq_size (l : Launch) (dC : Nat → ClassId) (dI : Nat → Nat → Nat) (cI cQ : ClassId) (t1 t2 bs : Nat) (top mo m1 m2 m3 m4 m5 m6 m7 : Nat) (hg : gd_A bs [mo, m1, m2, m3, m4, m5, m6, m7]) (mt : Int32) (cu : Int32) (kn : Nat → Int32) (vl : Nat → Int32) (ok : Nat → Int32) (ov : Nat → Int32) (fo : Int32) (pa : Int32) (fi : Int32) (va : Int32) (nd : Nat → Int32) (nk : Nat → Int32) (nv : Nat → Int32) (no : Int32) (x1 : Int32) (v0 : Int32 × Int32 × Int32 × Int32 × Int32) (h : fq_size top mt kn vl fo pa fi va x1 = some v0) : im_I l yX3_size wsX3_size rm_3_71 [.ref mo, .int x1] (gk_G dC dI cI cQ t1 t2 bs (wm_M cI top mo m1 m2 m3 m4 m5 m6 m7 mt cu kn vl ok ov fo pa fi va nd nk nv no)) v0.1 (va_P (dC, dI) vwCl (wm_M cI top mo m1 m2 m3 m4 m5 m6 m7 mt cu kn vl ok ov v0.2.1 v0.2.2.1 v0.2.2.2.1 v0.2.2.2.2 nd nk nv no)) (in_A [mo, m1, m2, m3, m4, m5, m6, m7]) := by
  intro sz
  refine Met.ofW (cc := cX3_size) (maxL := 3) (ret := (some .int)) (by decide) rfl ?_
  intro p e s m args below meth c_ s₁ B hml hv
  obtain ⟨rfl, hsz, hG, hP⟩ := hv
  have hx := B.exec
  have hb := B.bytes
  have hr := B.returns
  have hts := atoms_spec (ws := wsX3_size) B.pre
  have hown : s.vm.findClass RX3 = some m.cls := findClass_of_methodNamed B.named
  have hlocks := B.notSynchronized
  have hl := lv_entry ([.ref mo, .int x1]) (n := 3) (Nat.le_of_ble_eq_true rfl)
  rw [lg_entry_eq]
  generalize (lg_sl ([.ref mo, .int x1]) ++ List.replicate (3 - (lg_sl ([.ref mo, .int x1])).length) Slot.unset).toArray = ls at hl ⊢
  have hl : lv_has ls 3 [(0, .ref mo), (1, .int x1)] := hl
  refine nm_Q (fun Q hQ => ?_)
  unfold fq_size at h
  have hgo : ∀ (H : Heap) (locs : List Loc), va_P (dC, dI) vwCl (wm_M cI top mo m1 m2 m3 m4 m5 m6 m7 mt cu kn vl ok ov fo pa fi va nd nk nv no) H → va_S (in_A [mo, m1, m2, m3, m4, m5, m6, m7]) s.heap H locs → W p l e (headSpec wsX3_size rm_3_71).room s m ([.ref mo, .int x1] : List Value).toArray below meth c_ H locs 0 0 Q (F0 m 0 ls []) := by
    intro H locs hP hS
    have hf := h
    refine lv_aload_n hx hb dX3_size_0 rfl (lv_at hl 0 rfl) ?_
    refine lv_iload_n hx hb dX3_size_1 rfl (lv_at hl 1 rfl) ?_
    obtain ⟨r1, e2, hf⟩ := ob_s hf
    try dsimp only at hf
    refine im_calli (va_runV (As := [.int x1]) (rest := []) ⟨hx, hb, hml, hown, hts⟩ (cq_kind l dC dI cI cQ t1 t2 bs top mo m1 m2 m3 m4 m5 m6 m7 hg mt cu kn vl ok ov fo pa fi va nd nk nv no x1 r1 e2 H.size) (cwV 1 hts (gs_V lk_261 lk_263 lk_264 lk_194 lk_262) rfl rfl rfl (by decide +kernel) ⟨Nat.le_of_ble_eq_true rfl, Nat.le_of_ble_eq_true rfl⟩) (pr_V gk_W (va_recv hG.1 hP (q0 := 0) rfl rfl) ⟨(gk_S hG hS (bb_A hg)), hP⟩) rfl rfl hl.1 rfl (lv_room (Nat.le_of_ble_eq_true rfl)) dX3_size_2 ⟨Nat.zero_le _, Nat.zero_le _⟩) hS (fun _ h => h) (fun H locs hP1 hk1 hS => ?_)
    have hP : va_P (dC, dI) vwCl (wm_M cI top mo m1 m2 m3 m4 m5 m6 m7 mt cu kn vl ok ov r1.2.1 r1.2.2.1 r1.2.2.2.1 r1.2.2.2.2 nd nk nv no) H := hP1
    refine lv_istore_n (lv' := [(2, .int r1.1), (0, .ref mo), (1, .int x1)]) hx hb dX3_size_5 rfl hl (by decide) rfl (fun ls hl => ?_)
    refine lv_iload_n hx hb dX3_size_6 rfl (lv_at hl 0 rfl) ?_
    refine lv_iconst (v := 2) hx hb dX3_size_7 (by decide) ?_
    refine lv_icmp_ge (tgt := 31) hx hb dX3_size_8 (by decide) (fun hc => ?_) (fun hc => ?_)
    · rw [if_pos hc] at hf
      refine lv_aload_n hx hb dX3_size_31 rfl (lv_at hl 1 rfl) ?_
      refine lv_iload_n hx hb dX3_size_32 rfl (lv_at hl 2 rfl) ?_
      obtain ⟨r3, e4, hf⟩ := ob_s hf
      try dsimp only at hf
      refine pu_calli (va_runS (As := [.int x1]) (rest := [.ref mo]) ⟨hx, hb, hml, hown, hts⟩ (cq_placeOf l dC dI cI cQ t1 t2 bs x1 r3 e4 H.size) (va_cwS 1 hts (gs_S lk_253 lk_255 lk_194 lk_254) rfl rfl rfl (by decide +kernel) ⟨Nat.le_of_ble_eq_true rfl, Nat.le_of_ble_eq_true rfl⟩) (pr_S gk_W ⟨(gk_S hG hS (bb_A hg)), pz_0⟩) rfl rfl hl.1 rfl (lv_room (Nat.le_of_ble_eq_true rfl)) dX3_size_33 ⟨Nat.zero_le _, Nat.zero_le _⟩) ?_
      obtain ⟨r5, e6, hf⟩ := ob_s hf
      try dsimp only at hf
      refine im_calli (va_runV (As := [.int r3]) (rest := []) ⟨hx, hb, hml, hown, hts⟩ (cq_children l dC dI cI cQ t1 t2 bs top mo m1 m2 m3 m4 m5 m6 m7 hg mt cu kn vl ok ov r1.2.1 r1.2.2.1 r1.2.2.2.1 r1.2.2.2.2 nd nk nv no r3 r5 e6 H.size) (cwV 1 hts (gs_V lk_265 lk_267 lk_268 lk_194 lk_266) rfl rfl rfl (by decide +kernel) ⟨Nat.le_of_ble_eq_true rfl, Nat.le_of_ble_eq_true rfl⟩) (pr_V gk_W (va_recv hG.1 hP (q0 := 0) rfl rfl) ⟨(gk_S hG hS (bb_A hg)), hP⟩) rfl rfl hl.1 rfl (lv_room (Nat.le_of_ble_eq_true rfl)) dX3_size_36 ⟨Nat.zero_le _, Nat.zero_le _⟩) hS (fun _ h => h) (fun H locs hP1 hk1 hS => ?_)
      have hP : va_P (dC, dI) vwCl (wm_M cI top mo m1 m2 m3 m4 m5 m6 m7 mt cu kn vl ok ov r5.2.1 r5.2.2.1 r5.2.2.2.1 r5.2.2.2.2 nd nk nv no) H := hP1
      obtain rfl := Option.some.inj hf
      rw [hQ]
      exact im_iret hx hb hr (vp_nar_int _) hS hP dX3_size_39 hlocks
    · rw [if_neg hc] at hf
      refine lv_iload_n hx hb dX3_size_11 rfl (lv_at hl 0 rfl) ?_
      refine lv_if_ge (tgt := 19) hx hb dX3_size_12 (by decide) (fun hc => ?_) (fun hc => ?_)
      · rw [if_pos hc] at hf
        refine lv_iload_n hx hb dX3_size_19 rfl (lv_at hl 0 rfl) ?_
        refine lv_if_ne (tgt := 28) hx hb dX3_size_20 (by decide) (fun hc => ?_) (fun hc => ?_)
        · rw [if_neg hc] at hf
          refine lv_bipush (v := (-7)) hx hb dX3_size_28 (by decide) ?_
          obtain rfl := Option.some.inj hf
          rw [hQ]
          exact im_iret hx hb hr (vp_nar_int _) hS hP dX3_size_30 hlocks
        · rw [if_pos hc] at hf
          refine lv_bipush (v := (-3)) hx hb dX3_size_23 (by decide) ?_
          refine lv_goto (tgt := 30) hx hb dX3_size_25 (by decide) ?_
          obtain rfl := Option.some.inj hf
          rw [hQ]
          exact im_iret hx hb hr (vp_nar_int _) hS hP dX3_size_30 hlocks
      · rw [if_neg hc] at hf
        refine lv_iload_n hx hb dX3_size_15 rfl (lv_at hl 0 rfl) ?_
        refine lv_goto (tgt := 30) hx hb dX3_size_16 (by decide) ?_
        obtain rfl := Option.some.inj hf
        rw [hQ]
        exact im_iret hx hb hr (vp_nar_int _) hS hP dX3_size_30 hlocks
  exact hgo s.heap [] hP va_S.rf
set_option maxHeartbeats 4000000 in
set_option maxRecDepth 100000 in
theorem cq_name (l : Launch) (dC : Nat → ClassId) (dI : Nat → Nat → Nat) (cI cQ : ClassId) (t1 t2 bs : Nat) (top mo m1 m2 m3 m4 m5 m6 m7 : Nat) (hg : gd_A bs [mo, m1, m2, m3, m4, m5, m6, m7]) (mt : Int32) (cu : Int32) (kn : Nat → Int32) (vl : Nat → Int32) (ok : Nat → Int32) (ov : Nat → Int32) (fo : Int32) (pa : Int32) (fi : Int32) (va : Int32) (nd : Nat → Int32) (nk : Nat → Int32) (nv : Nat → Int32) (no : Int32) (x1 : Int32) (x2 : Int32) (v0 : Int32 × Int32 × Int32 × Int32 × Int32) (h : fq_name top mt kn vl fo pa fi va x1 x2 = some v0) : im_I l yX3_name wsX3_name rm_4_93 [.ref mo, .int x1, .int x2] (gk_G dC dI cI cQ t1 t2 bs (wm_M cI top mo m1 m2 m3 m4 m5 m6 m7 mt cu kn vl ok ov fo pa fi va nd nk nv no)) v0.1 (va_P (dC, dI) vwCl (wm_M cI top mo m1 m2 m3 m4 m5 m6 m7 mt cu kn vl ok ov v0.2.1 v0.2.2.1 v0.2.2.2.1 v0.2.2.2.2 nd nk nv no)) (in_A [mo, m1, m2, m3, m4, m5, m6, m7]) := by
  intro sz
  refine Met.ofW (cc := cX3_name) (maxL := 7) (ret := (some .int)) (by decide) rfl ?_
  intro p e s m args below meth c_ s₁ B hml hv
  obtain ⟨rfl, hsz, hG, hP⟩ := hv
  have hx := B.exec
  have hb := B.bytes
  have hr := B.returns
  have hts := atoms_spec (ws := wsX3_name) B.pre
  have hown : s.vm.findClass RX3 = some m.cls := findClass_of_methodNamed B.named
  have hlocks := B.notSynchronized
  have hiX3 : ∀ w ∈ u_ws RX3 TX3 15, w ∈ wsX3_name := fun w hw => tw_in (usX3 w hw)
  have hl := lv_entry ([.ref mo, .int x1, .int x2]) (n := 7) (Nat.le_of_ble_eq_true rfl)
  rw [lg_entry_eq]
  generalize (lg_sl ([.ref mo, .int x1, .int x2]) ++ List.replicate (7 - (lg_sl ([.ref mo, .int x1, .int x2])).length) Slot.unset).toArray = ls at hl ⊢
  have hl : lv_has ls 7 [(0, .ref mo), (1, .int x1), (2, .int x2)] := hl
  refine nm_Q (fun Q hQ => ?_)
  have B80 : ∀ (k24 : Int32 → Int32 → Int32 → Int32 → Int32 → Int32 → Int32 → Int32 → Option (Int32 × Int32 × Int32 × Int32 × Int32)) (hk24 : ∀ (x3 : Int32) (x4 : Int32) (x5 : Int32) (x6 : Int32) (fo : Int32) (pa : Int32) (fi : Int32) (va : Int32), ∀ (H : Heap) (locs : List Loc), va_P (dC, dI) vwCl (wm_M cI top mo m1 m2 m3 m4 m5 m6 m7 mt cu kn vl ok ov fo pa fi va nd nk nv no) H → va_S (in_A [mo, m1, m2, m3, m4, m5, m6, m7]) s.heap H locs → ∀ ls : Array Slot, k24 x3 x4 x5 x6 fo pa fi va = some v0 → lv_has ls 7 [(0, .ref mo), (1, .int x1), (2, .int x2), (3, .int x3), (4, .int x4), (5, .int x5), (6, .int x6)] → W p l e (headSpec wsX3_name rm_4_93).room s m ([.ref mo, .int x1, .int x2] : List Value).toArray below meth c_ H locs 0 0 Q (F0 m 24 ls [])), ∀ (x3 : Int32) (x4 : Int32) (x5 : Int32) (x6 : Int32) (z0 : Int32) (z1 : Int32) (fo : Int32) (pa : Int32) (fi : Int32) (va : Int32), ∀ (H : Heap) (locs : List Loc), va_P (dC, dI) vwCl (wm_M cI top mo m1 m2 m3 m4 m5 m6 m7 mt cu kn vl ok ov fo pa fi va nd nk nv no) H → va_S (in_A [mo, m1, m2, m3, m4, m5, m6, m7]) s.heap H locs → ∀ ls : Array Slot, fq_name_80 top mt kn vl x1 x2 k24 x3 x4 x5 x6 z0 z1 fo pa fi va = some v0 → lv_has ls 7 [(0, .ref mo), (1, .int x1), (2, .int x2), (3, .int x3), (4, .int x4), (5, .int x5), (6, .int x6)] → W p l e (headSpec wsX3_name rm_4_93).room s m ([.ref mo, .int x1, .int x2] : List Value).toArray below meth c_ H locs 0 0 Q (F0 m 80 ls [.int z0, .int z1]) := by
    intro k24 hk24
    intro x3 x4 x5 x6 z0 z1 fo pa fi va H locs hP hS ls hf hl
    unfold fq_name_80 at hf
    refine lv_isub hx hb dX3_name_80 ?_
    refine lv_istore (lv' := [(5, .int (z1 - z0)), (0, .ref mo), (1, .int x1), (2, .int x2), (3, .int x3), (4, .int x4), (6, .int x6)]) hx hb dX3_name_81 hl (by decide) rfl (fun ls hl => ?_)
    refine lv_iinc (k := 6) (v := x6 + 1) (lv' := [(6, .int (x6 + 1)), (5, .int (z1 - z0)), (0, .ref mo), (1, .int x1), (2, .int x2), (3, .int x3), (4, .int x4)]) hx hb dX3_name_83 hl rfl (by rfl) (by decide) rfl (fun ls hl => ?_)
    refine lv_goto (tgt := 24) hx hb dX3_name_86 (by decide) ?_
    exact hk24 x3 x4 (z1 - z0) (x6 + 1) fo pa fi va H locs hP hS ls hf (lv_sub hl [2, 3, 4, 5, 6, 1, 0] rfl)
  have B66 : ∀ (k24 : Int32 → Int32 → Int32 → Int32 → Int32 → Int32 → Int32 → Int32 → Option (Int32 × Int32 × Int32 × Int32 × Int32)) (hk24 : ∀ (x3 : Int32) (x4 : Int32) (x5 : Int32) (x6 : Int32) (fo : Int32) (pa : Int32) (fi : Int32) (va : Int32), ∀ (H : Heap) (locs : List Loc), va_P (dC, dI) vwCl (wm_M cI top mo m1 m2 m3 m4 m5 m6 m7 mt cu kn vl ok ov fo pa fi va nd nk nv no) H → va_S (in_A [mo, m1, m2, m3, m4, m5, m6, m7]) s.heap H locs → ∀ ls : Array Slot, k24 x3 x4 x5 x6 fo pa fi va = some v0 → lv_has ls 7 [(0, .ref mo), (1, .int x1), (2, .int x2), (3, .int x3), (4, .int x4), (5, .int x5), (6, .int x6)] → W p l e (headSpec wsX3_name rm_4_93).room s m ([.ref mo, .int x1, .int x2] : List Value).toArray below meth c_ H locs 0 0 Q (F0 m 24 ls [])), ∀ (x3 : Int32) (x4 : Int32) (x5 : Int32) (x6 : Int32) (fo : Int32) (pa : Int32) (fi : Int32) (va : Int32), ∀ (H : Heap) (locs : List Loc), va_P (dC, dI) vwCl (wm_M cI top mo m1 m2 m3 m4 m5 m6 m7 mt cu kn vl ok ov fo pa fi va nd nk nv no) H → va_S (in_A [mo, m1, m2, m3, m4, m5, m6, m7]) s.heap H locs → ∀ ls : Array Slot, fq_name_66 top mt kn vl x1 x2 k24 x3 x4 x5 x6 fo pa fi va = some v0 → lv_has ls 7 [(0, .ref mo), (1, .int x1), (2, .int x2), (3, .int x3), (4, .int x4), (5, .int x5), (6, .int x6)] → W p l e (headSpec wsX3_name rm_4_93).room s m ([.ref mo, .int x1, .int x2] : List Value).toArray below meth c_ H locs 0 0 Q (F0 m 66 ls []) := by
    intro k24 hk24
    intro x3 x4 x5 x6 fo pa fi va H locs hP hS ls hf hl
    unfold fq_name_66 at hf
    refine lv_iload hx hb dX3_name_66 (lv_at hl 5 rfl) ?_
    refine lv_aload_n hx hb dX3_name_68 rfl (lv_at hl 0 rfl) ?_
    refine va_get (D := (dC, dI)) (ci := 2) (v := .int fo) (C := RX3) (T := TX3) (N := 15) hx hb hts hiX3 hown hG.1 hP 0 rfl rfl 7 (by decide) (hts _ (tw_in lk_202)) (fun _ h9 => h9) rfl dX3_name_69 ?_
    refine lv_if_le (tgt := 79) hx hb dX3_name_72 (by decide) (fun hc => ?_) (fun hc => ?_)
    · rw [if_pos hc] at hf
      refine lv_iconst (v := 0) hx hb dX3_name_79 (by decide) ?_
      exact B80 k24 hk24 x3 x4 x5 x6 0 x5 fo pa fi va H locs hP hS ls hf (lv_sub hl [0, 1, 2, 3, 4, 5, 6] rfl)
    · rw [if_neg hc] at hf
      refine lv_iconst (v := 1) hx hb dX3_name_75 (by decide) ?_
      refine lv_goto (tgt := 80) hx hb dX3_name_76 (by decide) ?_
      exact B80 k24 hk24 x3 x4 x5 x6 1 x5 fo pa fi va H locs hP hS ls hf (lv_sub hl [0, 1, 2, 3, 4, 5, 6] rfl)
  have B24 : ∀ n : Nat, ∀ (x3 : Int32) (x4 : Int32) (x5 : Int32) (x6 : Int32) (fo : Int32) (pa : Int32) (fi : Int32) (va : Int32), ∀ (H : Heap) (locs : List Loc), va_P (dC, dI) vwCl (wm_M cI top mo m1 m2 m3 m4 m5 m6 m7 mt cu kn vl ok ov fo pa fi va nd nk nv no) H → va_S (in_A [mo, m1, m2, m3, m4, m5, m6, m7]) s.heap H locs → ∀ ls : Array Slot, fq_name_24 top mt kn vl x1 x2 n x3 x4 x5 x6 fo pa fi va = some v0 → lv_has ls 7 [(0, .ref mo), (1, .int x1), (2, .int x2), (3, .int x3), (4, .int x4), (5, .int x5), (6, .int x6)] → W p l e (headSpec wsX3_name rm_4_93).room s m ([.ref mo, .int x1, .int x2] : List Value).toArray below meth c_ H locs 0 0 Q (F0 m 24 ls []) := by
    intro n
    induction n with
    | zero => 
      intro x3 x4 x5 x6 fo pa fi va H locs hP hS ls hf hl
      exact nomatch (show (none : Option (Int32 × Int32 × Int32 × Int32 × Int32)) = some v0 from hf)
    | succ n ih =>
      intro x3 x4 x5 x6 fo pa fi va H locs hP hS ls hf hl
      rw [fq_name_24.eq_2] at hf
      try dsimp only at hf
      refine lv_iload hx hb dX3_name_24 (lv_at hl 6 rfl) ?_
      refine lv_iconst (v := 5) hx hb dX3_name_26 (by decide) ?_
      refine lv_icmp_gt (tgt := 89) hx hb dX3_name_27 (by decide) (fun hc => ?_) (fun hc => ?_)
      · rw [if_pos hc] at hf
        refine lv_bipush (v := (-3)) hx hb dX3_name_89 (by decide) ?_
        obtain rfl := Option.some.inj hf
        rw [hQ]
        exact im_iret hx hb hr (vp_nar_int _) hS hP dX3_name_91 hlocks
      · rw [if_neg hc] at hf
        refine lv_iload_n hx hb dX3_name_30 rfl (lv_at hl 2 rfl) ?_
        refine lv_if_lt (tgt := 89) hx hb dX3_name_31 (by decide) (fun hc => ?_) (fun hc => ?_)
        · rw [if_pos hc] at hf
          refine lv_bipush (v := (-3)) hx hb dX3_name_89 (by decide) ?_
          obtain rfl := Option.some.inj hf
          rw [hQ]
          exact im_iret hx hb hr (vp_nar_int _) hS hP dX3_name_91 hlocks
        · rw [if_neg hc] at hf
          refine lv_iload_n hx hb dX3_name_34 rfl (lv_at hl 2 rfl) ?_
          refine lv_iload_n hx hb dX3_name_35 rfl (lv_at hl 3 rfl) ?_
          refine lv_icmp_ge (tgt := 89) hx hb dX3_name_36 (by decide) (fun hc => ?_) (fun hc => ?_)
          · rw [if_pos hc] at hf
            refine lv_bipush (v := (-3)) hx hb dX3_name_89 (by decide) ?_
            obtain rfl := Option.some.inj hf
            rw [hQ]
            exact im_iret hx hb hr (vp_nar_int _) hS hP dX3_name_91 hlocks
          · rw [if_neg hc] at hf
            refine lv_aload_n hx hb dX3_name_39 rfl (lv_at hl 0 rfl) ?_
            refine lv_bipush (v := 6) hx hb dX3_name_40 (by decide) ?_
            refine lv_iload hx hb dX3_name_42 (lv_at hl 4 rfl) ?_
            refine lv_imul hx hb dX3_name_44 ?_
            refine lv_iload hx hb dX3_name_45 (lv_at hl 6 rfl) ?_
            refine lv_iadd hx hb dX3_name_47 ?_
            obtain ⟨r1, e2, hf⟩ := ob_s hf
            try dsimp only at hf
            refine im_callv (va_runV (As := [.int ((6 * x4) + x6)]) (rest := []) ⟨hx, hb, hml, hown, hts⟩ (cq_look l dC dI cI cQ t1 t2 bs top mo m1 m2 m3 m4 m5 m6 m7 hg mt cu kn vl ok ov fo pa fi va nd nk nv no ((6 * x4) + x6) r1 e2 H.size) (cwV 1 hts (gs_V lk_211 lk_213 lk_214 lk_194 lk_212) rfl rfl rfl (by decide +kernel) ⟨Nat.le_of_ble_eq_true rfl, Nat.le_of_ble_eq_true rfl⟩) (pr_V gk_W (va_recv hG.1 hP (q0 := 0) rfl rfl) ⟨(gk_S hG hS (bb_A hg)), hP⟩) rfl rfl hl.1 rfl (lv_room (Nat.le_of_ble_eq_true rfl)) dX3_name_48 ⟨Nat.zero_le _, Nat.zero_le _⟩) hS (fun _ h => h) (fun H locs hP1 hk1 hS => ?_)
            have hP : va_P (dC, dI) vwCl (wm_M cI top mo m1 m2 m3 m4 m5 m6 m7 mt cu kn vl ok ov r1.1 r1.2.1 r1.2.2.1 r1.2.2.2 nd nk nv no) H := hP1
            refine lv_aload_n hx hb dX3_name_51 rfl (lv_at hl 0 rfl) ?_
            refine va_get (D := (dC, dI)) (ci := 2) (v := .int r1.1) (C := RX3) (T := TX3) (N := 15) hx hb hts hiX3 hown hG.1 hP 0 rfl rfl 7 (by decide) (hts _ (tw_in lk_202)) (fun _ h9 => h9) rfl dX3_name_52 ?_
            refine lv_if_le (tgt := 66) hx hb dX3_name_55 (by decide) (fun hc => ?_) (fun hc => ?_)
            · rw [if_pos hc] at hf
              exact B66 (fq_name_24 top mt kn vl x1 x2 n) ih x3 x4 x5 x6 r1.1 r1.2.1 r1.2.2.1 r1.2.2.2 H locs hP hS ls hf (lv_sub hl [0, 1, 2, 3, 4, 5, 6] rfl)
            · rw [if_neg hc] at hf
              refine lv_iload hx hb dX3_name_58 (lv_at hl 5 rfl) ?_
              refine lv_if_ne (tgt := 66) hx hb dX3_name_60 (by decide) (fun hc => ?_) (fun hc => ?_)
              · rw [if_neg hc] at hf
                exact B66 (fq_name_24 top mt kn vl x1 x2 n) ih x3 x4 x5 x6 r1.1 r1.2.1 r1.2.2.1 r1.2.2.2 H locs hP hS ls hf (lv_sub hl [0, 1, 2, 3, 4, 5, 6] rfl)
              · rw [if_pos hc] at hf
                refine lv_iload hx hb dX3_name_63 (lv_at hl 6 rfl) ?_
                obtain rfl := Option.some.inj hf
                rw [hQ]
                exact im_iret hx hb hr (vp_nar_int _) hS hP dX3_name_65 hlocks
  unfold fq_name at h
  have hgo : ∀ (H : Heap) (locs : List Loc), va_P (dC, dI) vwCl (wm_M cI top mo m1 m2 m3 m4 m5 m6 m7 mt cu kn vl ok ov fo pa fi va nd nk nv no) H → va_S (in_A [mo, m1, m2, m3, m4, m5, m6, m7]) s.heap H locs → W p l e (headSpec wsX3_name rm_4_93).room s m ([.ref mo, .int x1, .int x2] : List Value).toArray below meth c_ H locs 0 0 Q (F0 m 0 ls []) := by
    intro H locs hP hS
    have hf := h
    refine lv_aload_n hx hb dX3_name_0 rfl (lv_at hl 0 rfl) ?_
    refine lv_iload_n hx hb dX3_name_1 rfl (lv_at hl 1 rfl) ?_
    obtain ⟨r3, e4, hf⟩ := ob_s hf
    try dsimp only at hf
    refine im_calli (va_runV (As := [.int x1]) (rest := []) ⟨hx, hb, hml, hown, hts⟩ (cq_size l dC dI cI cQ t1 t2 bs top mo m1 m2 m3 m4 m5 m6 m7 hg mt cu kn vl ok ov fo pa fi va nd nk nv no x1 r3 e4 H.size) (cwV 1 hts (gs_V lk_269 lk_271 lk_272 lk_194 lk_270) rfl rfl rfl (by decide +kernel) ⟨Nat.le_of_ble_eq_true rfl, Nat.le_of_ble_eq_true rfl⟩) (pr_V gk_W (va_recv hG.1 hP (q0 := 0) rfl rfl) ⟨(gk_S hG hS (bb_A hg)), hP⟩) rfl rfl hl.1 rfl (lv_room (Nat.le_of_ble_eq_true rfl)) dX3_name_2 ⟨Nat.zero_le _, Nat.zero_le _⟩) hS (fun _ h => h) (fun H locs hP1 hk1 hS => ?_)
    have hP : va_P (dC, dI) vwCl (wm_M cI top mo m1 m2 m3 m4 m5 m6 m7 mt cu kn vl ok ov r3.2.1 r3.2.2.1 r3.2.2.2.1 r3.2.2.2.2 nd nk nv no) H := hP1
    refine lv_istore_n (lv' := [(3, .int r3.1), (0, .ref mo), (1, .int x1), (2, .int x2)]) hx hb dX3_name_5 rfl hl (by decide) rfl (fun ls hl => ?_)
    refine lv_iload_n hx hb dX3_name_6 rfl (lv_at hl 0 rfl) ?_
    refine lv_if_ge (tgt := 12) hx hb dX3_name_7 (by decide) (fun hc => ?_) (fun hc => ?_)
    · rw [if_pos hc] at hf
      refine lv_iload_n hx hb dX3_name_12 rfl (lv_at hl 2 rfl) ?_
      obtain ⟨r5, e6, hf⟩ := ob_s hf
      try dsimp only at hf
      refine pu_calli (va_runS (As := [.int x1]) (rest := []) ⟨hx, hb, hml, hown, hts⟩ (cq_placeOf l dC dI cI cQ t1 t2 bs x1 r5 e6 H.size) (va_cwS 1 hts (gs_S lk_253 lk_255 lk_194 lk_254) rfl rfl rfl (by decide +kernel) ⟨Nat.le_of_ble_eq_true rfl, Nat.le_of_ble_eq_true rfl⟩) (pr_S gk_W ⟨(gk_S hG hS (bb_A hg)), pz_0⟩) rfl rfl hl.1 rfl (lv_room (Nat.le_of_ble_eq_true rfl)) dX3_name_13 ⟨Nat.zero_le _, Nat.zero_le _⟩) ?_
      refine lv_istore (lv' := [(4, .int r5), (3, .int r3.1), (0, .ref mo), (1, .int x1), (2, .int x2)]) hx hb dX3_name_16 hl (by decide) rfl (fun ls hl => ?_)
      refine lv_iload_n hx hb dX3_name_18 rfl (lv_at hl 4 rfl) ?_
      refine lv_istore (lv' := [(5, .int x2), (4, .int r5), (3, .int r3.1), (0, .ref mo), (1, .int x1), (2, .int x2)]) hx hb dX3_name_19 hl (by decide) rfl (fun ls hl => ?_)
      refine lv_iconst (v := 1) hx hb dX3_name_21 (by decide) ?_
      refine lv_istore (lv' := [(6, .int 1), (5, .int x2), (4, .int r5), (3, .int r3.1), (0, .ref mo), (1, .int x1), (2, .int x2)]) hx hb dX3_name_22 hl (by decide) rfl (fun ls hl => ?_)
      exact B24 fu_n r3.1 r5 x2 1 r3.2.1 r3.2.2.1 r3.2.2.2.1 r3.2.2.2.2 H locs hP hS ls hf (lv_sub hl [4, 5, 6, 3, 2, 1, 0] rfl)
    · rw [if_neg hc] at hf
      refine lv_iload_n hx hb dX3_name_10 rfl (lv_at hl 0 rfl) ?_
      obtain rfl := Option.some.inj hf
      rw [hQ]
      exact im_iret hx hb hr (vp_nar_int _) hS hP dX3_name_11 hlocks
  exact hgo s.heap [] hP va_S.rf
set_option maxHeartbeats 4000000 in
set_option maxRecDepth 100000 in
theorem cq_objects (l : Launch) (dC : Nat → ClassId) (dI : Nat → Nat → Nat) (cI cQ : ClassId) (t1 t2 bs : Nat) (top mo m1 m2 m3 m4 m5 m6 m7 : Nat) (hg : gd_A bs [mo, m1, m2, m3, m4, m5, m6, m7]) (mt : Int32) (cu : Int32) (kn : Nat → Int32) (vl : Nat → Int32) (ok : Nat → Int32) (ov : Nat → Int32) (fo : Int32) (pa : Int32) (fi : Int32) (va : Int32) (nd : Nat → Int32) (nk : Nat → Int32) (nv : Nat → Int32) (no : Int32) (v0 : Int32 × Int32 × Int32 × Int32 × Int32) (h : fq_objects top mt kn vl fo pa fi va = some v0) : im_I l yX3_objects wsX3_objects rm_2_48 [.ref mo] (gk_G dC dI cI cQ t1 t2 bs (wm_M cI top mo m1 m2 m3 m4 m5 m6 m7 mt cu kn vl ok ov fo pa fi va nd nk nv no)) v0.1 (va_P (dC, dI) vwCl (wm_M cI top mo m1 m2 m3 m4 m5 m6 m7 mt cu kn vl ok ov v0.2.1 v0.2.2.1 v0.2.2.2.1 v0.2.2.2.2 nd nk nv no)) (in_A [mo, m1, m2, m3, m4, m5, m6, m7]) := by
  intro sz
  refine Met.ofW (cc := cX3_objects) (maxL := 4) (ret := (some .int)) (by decide) rfl ?_
  intro p e s m args below meth c_ s₁ B hml hv
  obtain ⟨rfl, hsz, hG, hP⟩ := hv
  have hx := B.exec
  have hb := B.bytes
  have hr := B.returns
  have hts := atoms_spec (ws := wsX3_objects) B.pre
  have hown : s.vm.findClass RX3 = some m.cls := findClass_of_methodNamed B.named
  have hlocks := B.notSynchronized
  have hiX3 : ∀ w ∈ u_ws RX3 TX3 15, w ∈ wsX3_objects := fun w hw => tw_in (usX3 w hw)
  have hl := lv_entry ([.ref mo]) (n := 4) (Nat.le_of_ble_eq_true rfl)
  rw [lg_entry_eq]
  generalize (lg_sl ([.ref mo]) ++ List.replicate (4 - (lg_sl ([.ref mo])).length) Slot.unset).toArray = ls at hl ⊢
  have hl : lv_has ls 4 [(0, .ref mo)] := hl
  refine nm_Q (fun Q hQ => ?_)
  have B51 : ∀ (k13 : Int32 → Int32 → Int32 → Int32 → Int32 → Int32 → Option (Int32 × Int32 × Int32 × Int32 × Int32)) (hk13 : ∀ (x1 : Int32) (x2 : Int32) (fo : Int32) (pa : Int32) (fi : Int32) (va : Int32), ∀ (H : Heap) (locs : List Loc), va_P (dC, dI) vwCl (wm_M cI top mo m1 m2 m3 m4 m5 m6 m7 mt cu kn vl ok ov fo pa fi va nd nk nv no) H → va_S (in_A [mo, m1, m2, m3, m4, m5, m6, m7]) s.heap H locs → ∀ ls : Array Slot, k13 x1 x2 fo pa fi va = some v0 → lv_has ls 4 [(0, .ref mo), (1, .int x1), (2, .int x2)] → W p l e (headSpec wsX3_objects rm_2_48).room s m ([.ref mo] : List Value).toArray below meth c_ H locs 0 0 Q (F0 m 13 ls [])), ∀ (x1 : Int32) (x2 : Int32) (x3 : Int32) (z0 : Int32) (z1 : Int32) (fo : Int32) (pa : Int32) (fi : Int32) (va : Int32), ∀ (H : Heap) (locs : List Loc), va_P (dC, dI) vwCl (wm_M cI top mo m1 m2 m3 m4 m5 m6 m7 mt cu kn vl ok ov fo pa fi va nd nk nv no) H → va_S (in_A [mo, m1, m2, m3, m4, m5, m6, m7]) s.heap H locs → ∀ ls : Array Slot, fq_objects_51 top mt kn vl k13 x1 x2 x3 z0 z1 fo pa fi va = some v0 → lv_has ls 4 [(0, .ref mo), (1, .int x1), (2, .int x2), (3, .int x3)] → W p l e (headSpec wsX3_objects rm_2_48).room s m ([.ref mo] : List Value).toArray below meth c_ H locs 0 0 Q (F0 m 51 ls [.int z0, .int z1]) := by
    intro k13 hk13
    intro x1 x2 x3 z0 z1 fo pa fi va H locs hP hS ls hf hl
    unfold fq_objects_51 at hf
    refine lv_iadd hx hb dX3_objects_51 ?_
    refine lv_istore_n (lv' := [(1, .int (z1 + z0)), (0, .ref mo), (2, .int x2), (3, .int x3)]) hx hb dX3_objects_52 rfl hl (by decide) rfl (fun ls hl => ?_)
    refine lv_iinc (k := 2) (v := x2 + 1) (lv' := [(2, .int (x2 + 1)), (1, .int (z1 + z0)), (0, .ref mo), (3, .int x3)]) hx hb dX3_objects_53 hl rfl (by rfl) (by decide) rfl (fun ls hl => ?_)
    refine lv_goto (tgt := 13) hx hb dX3_objects_56 (by decide) ?_
    exact hk13 (z1 + z0) (x2 + 1) fo pa fi va H locs hP hS ls hf (lv_sub hl [2, 1, 0] rfl)
  have B50 : ∀ (k13 : Int32 → Int32 → Int32 → Int32 → Int32 → Int32 → Option (Int32 × Int32 × Int32 × Int32 × Int32)) (hk13 : ∀ (x1 : Int32) (x2 : Int32) (fo : Int32) (pa : Int32) (fi : Int32) (va : Int32), ∀ (H : Heap) (locs : List Loc), va_P (dC, dI) vwCl (wm_M cI top mo m1 m2 m3 m4 m5 m6 m7 mt cu kn vl ok ov fo pa fi va nd nk nv no) H → va_S (in_A [mo, m1, m2, m3, m4, m5, m6, m7]) s.heap H locs → ∀ ls : Array Slot, k13 x1 x2 fo pa fi va = some v0 → lv_has ls 4 [(0, .ref mo), (1, .int x1), (2, .int x2)] → W p l e (headSpec wsX3_objects rm_2_48).room s m ([.ref mo] : List Value).toArray below meth c_ H locs 0 0 Q (F0 m 13 ls [])), ∀ (x1 : Int32) (x2 : Int32) (x3 : Int32) (z0 : Int32) (fo : Int32) (pa : Int32) (fi : Int32) (va : Int32), ∀ (H : Heap) (locs : List Loc), va_P (dC, dI) vwCl (wm_M cI top mo m1 m2 m3 m4 m5 m6 m7 mt cu kn vl ok ov fo pa fi va nd nk nv no) H → va_S (in_A [mo, m1, m2, m3, m4, m5, m6, m7]) s.heap H locs → ∀ ls : Array Slot, fq_objects_50 top mt kn vl k13 x1 x2 x3 z0 fo pa fi va = some v0 → lv_has ls 4 [(0, .ref mo), (1, .int x1), (2, .int x2), (3, .int x3)] → W p l e (headSpec wsX3_objects rm_2_48).room s m ([.ref mo] : List Value).toArray below meth c_ H locs 0 0 Q (F0 m 50 ls [.int z0]) := by
    intro k13 hk13
    intro x1 x2 x3 z0 fo pa fi va H locs hP hS ls hf hl
    unfold fq_objects_50 at hf
    refine lv_iconst (v := 0) hx hb dX3_objects_50 (by decide) ?_
    exact B51 k13 hk13 x1 x2 x3 0 z0 fo pa fi va H locs hP hS ls hf (lv_sub hl [0, 1, 2, 3] rfl)
  have B34 : ∀ (k13 : Int32 → Int32 → Int32 → Int32 → Int32 → Int32 → Option (Int32 × Int32 × Int32 × Int32 × Int32)) (hk13 : ∀ (x1 : Int32) (x2 : Int32) (fo : Int32) (pa : Int32) (fi : Int32) (va : Int32), ∀ (H : Heap) (locs : List Loc), va_P (dC, dI) vwCl (wm_M cI top mo m1 m2 m3 m4 m5 m6 m7 mt cu kn vl ok ov fo pa fi va nd nk nv no) H → va_S (in_A [mo, m1, m2, m3, m4, m5, m6, m7]) s.heap H locs → ∀ ls : Array Slot, k13 x1 x2 fo pa fi va = some v0 → lv_has ls 4 [(0, .ref mo), (1, .int x1), (2, .int x2)] → W p l e (headSpec wsX3_objects rm_2_48).room s m ([.ref mo] : List Value).toArray below meth c_ H locs 0 0 Q (F0 m 13 ls [])), ∀ (x1 : Int32) (x2 : Int32) (x3 : Int32) (fo : Int32) (pa : Int32) (fi : Int32) (va : Int32), ∀ (H : Heap) (locs : List Loc), va_P (dC, dI) vwCl (wm_M cI top mo m1 m2 m3 m4 m5 m6 m7 mt cu kn vl ok ov fo pa fi va nd nk nv no) H → va_S (in_A [mo, m1, m2, m3, m4, m5, m6, m7]) s.heap H locs → ∀ ls : Array Slot, fq_objects_34 top mt kn vl k13 x1 x2 x3 fo pa fi va = some v0 → lv_has ls 4 [(0, .ref mo), (1, .int x1), (2, .int x2), (3, .int x3)] → W p l e (headSpec wsX3_objects rm_2_48).room s m ([.ref mo] : List Value).toArray below meth c_ H locs 0 0 Q (F0 m 34 ls []) := by
    intro k13 hk13
    intro x1 x2 x3 fo pa fi va H locs hP hS ls hf hl
    unfold fq_objects_34 at hf
    refine lv_iload_n hx hb dX3_objects_34 rfl (lv_at hl 1 rfl) ?_
    refine lv_iload_n hx hb dX3_objects_35 rfl (lv_at hl 3 rfl) ?_
    refine lv_if_eq (tgt := 50) hx hb dX3_objects_36 (by decide) (fun hc => ?_) (fun hc => ?_)
    · rw [if_pos hc] at hf
      exact B50 k13 hk13 x1 x2 x3 x1 fo pa fi va H locs hP hS ls hf (lv_sub hl [0, 1, 2, 3] rfl)
    · rw [if_neg hc] at hf
      refine lv_aload_n hx hb dX3_objects_39 rfl (lv_at hl 0 rfl) ?_
      refine va_get (D := (dC, dI)) (ci := 2) (v := .int fo) (C := RX3) (T := TX3) (N := 15) hx hb hts hiX3 hown hG.1 hP 0 rfl rfl 7 (by decide) (hts _ (tw_in lk_202)) (fun _ h9 => h9) rfl dX3_objects_40 ?_
      refine lv_if_le (tgt := 50) hx hb dX3_objects_43 (by decide) (fun hc => ?_) (fun hc => ?_)
      · rw [if_pos hc] at hf
        exact B50 k13 hk13 x1 x2 x3 x1 fo pa fi va H locs hP hS ls hf (lv_sub hl [0, 1, 2, 3] rfl)
      · rw [if_neg hc] at hf
        refine lv_iconst (v := 1) hx hb dX3_objects_46 (by decide) ?_
        refine lv_goto (tgt := 51) hx hb dX3_objects_47 (by decide) ?_
        exact B51 k13 hk13 x1 x2 x3 1 x1 fo pa fi va H locs hP hS ls hf (lv_sub hl [0, 1, 2, 3] rfl)
  have B13 : ∀ n : Nat, ∀ (x1 : Int32) (x2 : Int32) (fo : Int32) (pa : Int32) (fi : Int32) (va : Int32), ∀ (H : Heap) (locs : List Loc), va_P (dC, dI) vwCl (wm_M cI top mo m1 m2 m3 m4 m5 m6 m7 mt cu kn vl ok ov fo pa fi va nd nk nv no) H → va_S (in_A [mo, m1, m2, m3, m4, m5, m6, m7]) s.heap H locs → ∀ ls : Array Slot, fq_objects_13 top mt kn vl n x1 x2 fo pa fi va = some v0 → lv_has ls 4 [(0, .ref mo), (1, .int x1), (2, .int x2)] → W p l e (headSpec wsX3_objects rm_2_48).room s m ([.ref mo] : List Value).toArray below meth c_ H locs 0 0 Q (F0 m 13 ls []) := by
    intro n
    induction n with
    | zero => 
      intro x1 x2 fo pa fi va H locs hP hS ls hf hl
      exact nomatch (show (none : Option (Int32 × Int32 × Int32 × Int32 × Int32)) = some v0 from hf)
    | succ n ih =>
      intro x1 x2 fo pa fi va H locs hP hS ls hf hl
      rw [fq_objects_13.eq_2] at hf
      try dsimp only at hf
      refine lv_iload_n hx hb dX3_objects_13 rfl (lv_at hl 2 rfl) ?_
      refine lv_sipush (v := 1296) hx hb dX3_objects_14 (by decide) ?_
      refine lv_icmp_ge (tgt := 59) hx hb dX3_objects_17 (by decide) (fun hc => ?_) (fun hc => ?_)
      · rw [if_pos hc] at hf
        refine lv_iload_n hx hb dX3_objects_59 rfl (lv_at hl 1 rfl) ?_
        obtain rfl := Option.some.inj hf
        rw [hQ]
        exact im_iret hx hb hr (vp_nar_int _) hS hP dX3_objects_60 hlocks
      · rw [if_neg hc] at hf
        refine lv_iload_n hx hb dX3_objects_20 rfl (lv_at hl 2 rfl) ?_
        obtain ⟨r1, e2, hf⟩ := ob_s hf
        try dsimp only at hf
        refine pu_calli (va_runS (As := [.int x2]) (rest := []) ⟨hx, hb, hml, hown, hts⟩ (cq_isPath l dC dI cI cQ t1 t2 bs x2 r1 e2 H.size) (va_cwS 1 hts (gs_S lk_273 lk_275 lk_194 lk_274) rfl rfl rfl (by decide +kernel) ⟨Nat.le_of_ble_eq_true rfl, Nat.le_of_ble_eq_true rfl⟩) (pr_S gk_W ⟨(gk_S hG hS (bb_A hg)), pz_0⟩) rfl rfl hl.1 rfl (lv_room (Nat.le_of_ble_eq_true rfl)) dX3_objects_21 ⟨Nat.zero_le _, Nat.zero_le _⟩) ?_
        refine lv_istore_n (lv' := [(3, .int r1), (0, .ref mo), (1, .int x1), (2, .int x2)]) hx hb dX3_objects_24 rfl hl (by decide) rfl (fun ls hl => ?_)
        refine lv_iload_n hx hb dX3_objects_25 rfl (lv_at hl 0 rfl) ?_
        refine lv_if_eq (tgt := 34) hx hb dX3_objects_26 (by decide) (fun hc => ?_) (fun hc => ?_)
        · rw [if_pos hc] at hf
          exact B34 (fq_objects_13 top mt kn vl n) ih x1 x2 r1 fo pa fi va H locs hP hS ls hf (lv_sub hl [1, 2, 3, 0] rfl)
        · rw [if_neg hc] at hf
          refine lv_aload_n hx hb dX3_objects_29 rfl (lv_at hl 1 rfl) ?_
          refine lv_iload_n hx hb dX3_objects_30 rfl (lv_at hl 3 rfl) ?_
          obtain ⟨r3, e4, hf⟩ := ob_s hf
          try dsimp only at hf
          refine im_callv (va_runV (As := [.int x2]) (rest := []) ⟨hx, hb, hml, hown, hts⟩ (cq_look l dC dI cI cQ t1 t2 bs top mo m1 m2 m3 m4 m5 m6 m7 hg mt cu kn vl ok ov fo pa fi va nd nk nv no x2 r3 e4 H.size) (cwV 1 hts (gs_V lk_211 lk_213 lk_214 lk_194 lk_212) rfl rfl rfl (by decide +kernel) ⟨Nat.le_of_ble_eq_true rfl, Nat.le_of_ble_eq_true rfl⟩) (pr_V gk_W (va_recv hG.1 hP (q0 := 0) rfl rfl) ⟨(gk_S hG hS (bb_A hg)), hP⟩) rfl rfl hl.1 rfl (lv_room (Nat.le_of_ble_eq_true rfl)) dX3_objects_31 ⟨Nat.zero_le _, Nat.zero_le _⟩) hS (fun _ h => h) (fun H locs hP1 hk1 hS => ?_)
          have hP : va_P (dC, dI) vwCl (wm_M cI top mo m1 m2 m3 m4 m5 m6 m7 mt cu kn vl ok ov r3.1 r3.2.1 r3.2.2.1 r3.2.2.2 nd nk nv no) H := hP1
          exact B34 (fq_objects_13 top mt kn vl n) ih x1 x2 r1 r3.1 r3.2.1 r3.2.2.1 r3.2.2.2 H locs hP hS ls hf (lv_sub hl [1, 2, 3, 0] rfl)
  unfold fq_objects at h
  have hgo : ∀ (H : Heap) (locs : List Loc), va_P (dC, dI) vwCl (wm_M cI top mo m1 m2 m3 m4 m5 m6 m7 mt cu kn vl ok ov fo pa fi va nd nk nv no) H → va_S (in_A [mo, m1, m2, m3, m4, m5, m6, m7]) s.heap H locs → W p l e (headSpec wsX3_objects rm_2_48).room s m ([.ref mo] : List Value).toArray below meth c_ H locs 0 0 Q (F0 m 0 ls []) := by
    intro H locs hP hS
    have hf := h
    refine lv_aload_n hx hb dX3_objects_0 rfl (lv_at hl 0 rfl) ?_
    refine va_get (D := (dC, dI)) (ci := 2) (v := .int mt) (C := RX3) (T := TX3) (N := 15) hx hb hts hiX3 hown hG.1 hP 0 rfl rfl 1 (by decide) (hts _ (tw_in lk_256)) (fun _ h9 => h9) rfl dX3_objects_1 ?_
    refine lv_if_ne (tgt := 9) hx hb dX3_objects_4 (by decide) (fun hc => ?_) (fun hc => ?_)
    · rw [if_neg hc] at hf
      refine lv_iconst (v := 0) hx hb dX3_objects_9 (by decide) ?_
      refine lv_istore_n (lv' := [(1, .int 0), (0, .ref mo)]) hx hb dX3_objects_10 rfl hl (by decide) rfl (fun ls hl => ?_)
      refine lv_iconst (v := 1) hx hb dX3_objects_11 (by decide) ?_
      refine lv_istore_n (lv' := [(2, .int 1), (1, .int 0), (0, .ref mo)]) hx hb dX3_objects_12 rfl hl (by decide) rfl (fun ls hl => ?_)
      exact B13 fu_n 0 1 fo pa fi va H locs hP hS ls hf (lv_sub hl [2, 1, 0] rfl)
    · rw [if_pos hc] at hf
      refine lv_iconst (v := (-1)) hx hb dX3_objects_7 (by decide) ?_
      obtain rfl := Option.some.inj hf
      rw [hQ]
      exact im_iret hx hb hr (vp_nar_int _) hS hP dX3_objects_8 hlocks
  exact hgo s.heap [] hP va_S.rf
set_option maxHeartbeats 4000000 in
set_option maxRecDepth 100000 in
theorem cq_origin (l : Launch) (dC : Nat → ClassId) (dI : Nat → Nat → Nat) (cI cQ : ClassId) (t1 t2 bs : Nat) (top mo m1 m2 m3 m4 m5 m6 m7 : Nat) (hg : gd_A bs [mo, m1, m2, m3, m4, m5, m6, m7]) (mt : Int32) (cu : Int32) (kn : Nat → Int32) (vl : Nat → Int32) (ok : Nat → Int32) (ov : Nat → Int32) (fo : Int32) (pa : Int32) (fi : Int32) (va : Int32) (nd : Nat → Int32) (nk : Nat → Int32) (nv : Nat → Int32) (no : Int32) (x1 : Int32) (v0 : Int32 × Int32 × Int32 × Int32 × Int32) (h : fq_origin top mt kn vl fo pa fi va x1 = some v0) : im_I l yX3_origin wsX3_origin rm_3_70 [.ref mo, .int x1] (gk_G dC dI cI cQ t1 t2 bs (wm_M cI top mo m1 m2 m3 m4 m5 m6 m7 mt cu kn vl ok ov fo pa fi va nd nk nv no)) v0.1 (va_P (dC, dI) vwCl (wm_M cI top mo m1 m2 m3 m4 m5 m6 m7 mt cu kn vl ok ov v0.2.1 v0.2.2.1 v0.2.2.2.1 v0.2.2.2.2 nd nk nv no)) (in_A [mo, m1, m2, m3, m4, m5, m6, m7]) := by
  intro sz
  refine Met.ofW (cc := cX3_origin) (maxL := 3) (ret := (some .int)) (by decide) rfl ?_
  intro p e s m args below meth c_ s₁ B hml hv
  obtain ⟨rfl, hsz, hG, hP⟩ := hv
  have hx := B.exec
  have hb := B.bytes
  have hr := B.returns
  have hts := atoms_spec (ws := wsX3_origin) B.pre
  have hown : s.vm.findClass RX3 = some m.cls := findClass_of_methodNamed B.named
  have hlocks := B.notSynchronized
  have hiX3 : ∀ w ∈ u_ws RX3 TX3 15, w ∈ wsX3_origin := fun w hw => tw_in (usX3 w hw)
  have hl := lv_entry ([.ref mo, .int x1]) (n := 3) (Nat.le_of_ble_eq_true rfl)
  rw [lg_entry_eq]
  generalize (lg_sl ([.ref mo, .int x1]) ++ List.replicate (3 - (lg_sl ([.ref mo, .int x1])).length) Slot.unset).toArray = ls at hl ⊢
  have hl : lv_has ls 3 [(0, .ref mo), (1, .int x1)] := hl
  refine nm_Q (fun Q hQ => ?_)
  unfold fq_origin at h
  have hgo : ∀ (H : Heap) (locs : List Loc), va_P (dC, dI) vwCl (wm_M cI top mo m1 m2 m3 m4 m5 m6 m7 mt cu kn vl ok ov fo pa fi va nd nk nv no) H → va_S (in_A [mo, m1, m2, m3, m4, m5, m6, m7]) s.heap H locs → W p l e (headSpec wsX3_origin rm_3_70).room s m ([.ref mo, .int x1] : List Value).toArray below meth c_ H locs 0 0 Q (F0 m 0 ls []) := by
    intro H locs hP hS
    have hf := h
    refine lv_aload_n hx hb dX3_origin_0 rfl (lv_at hl 0 rfl) ?_
    refine lv_iload_n hx hb dX3_origin_1 rfl (lv_at hl 1 rfl) ?_
    obtain ⟨r1, e2, hf⟩ := ob_s hf
    try dsimp only at hf
    refine im_calli (va_runV (As := [.int x1]) (rest := []) ⟨hx, hb, hml, hown, hts⟩ (cq_kind l dC dI cI cQ t1 t2 bs top mo m1 m2 m3 m4 m5 m6 m7 hg mt cu kn vl ok ov fo pa fi va nd nk nv no x1 r1 e2 H.size) (cwV 1 hts (gs_V lk_261 lk_263 lk_264 lk_194 lk_262) rfl rfl rfl (by decide +kernel) ⟨Nat.le_of_ble_eq_true rfl, Nat.le_of_ble_eq_true rfl⟩) (pr_V gk_W (va_recv hG.1 hP (q0 := 0) rfl rfl) ⟨(gk_S hG hS (bb_A hg)), hP⟩) rfl rfl hl.1 rfl (lv_room (Nat.le_of_ble_eq_true rfl)) dX3_origin_2 ⟨Nat.zero_le _, Nat.zero_le _⟩) hS (fun _ h => h) (fun H locs hP1 hk1 hS => ?_)
    have hP : va_P (dC, dI) vwCl (wm_M cI top mo m1 m2 m3 m4 m5 m6 m7 mt cu kn vl ok ov r1.2.1 r1.2.2.1 r1.2.2.2.1 r1.2.2.2.2 nd nk nv no) H := hP1
    refine lv_istore_n (lv' := [(2, .int r1.1), (0, .ref mo), (1, .int x1)]) hx hb dX3_origin_5 rfl hl (by decide) rfl (fun ls hl => ?_)
    refine lv_iload_n hx hb dX3_origin_6 rfl (lv_at hl 0 rfl) ?_
    refine lv_if_ge (tgt := 14) hx hb dX3_origin_7 (by decide) (fun hc => ?_) (fun hc => ?_)
    · rw [if_pos hc] at hf
      refine lv_iload_n hx hb dX3_origin_14 rfl (lv_at hl 2 rfl) ?_
      refine lv_if_ne (tgt := 23) hx hb dX3_origin_15 (by decide) (fun hc => ?_) (fun hc => ?_)
      · rw [if_neg hc] at hf
        refine lv_iload_n hx hb dX3_origin_23 rfl (lv_at hl 0 rfl) ?_
        refine lv_if_ne (tgt := 32) hx hb dX3_origin_24 (by decide) (fun hc => ?_) (fun hc => ?_)
        · rw [if_neg hc] at hf
          refine lv_aload_n hx hb dX3_origin_32 rfl (lv_at hl 1 rfl) ?_
          refine va_get (D := (dC, dI)) (ci := 2) (v := .int r1.2.2.2.1) (C := RX3) (T := TX3) (N := 15) hx hb hts hiX3 hown hG.1 hP 0 rfl rfl 9 (by decide) (hts _ (tw_in lk_204)) (fun _ h9 => h9) rfl dX3_origin_33 ?_
          obtain rfl := Option.some.inj hf
          rw [hQ]
          exact im_iret hx hb hr (vp_nar_int _) hS hP dX3_origin_36 hlocks
        · rw [if_pos hc] at hf
          refine lv_bipush (v := (-3)) hx hb dX3_origin_27 (by decide) ?_
          refine lv_goto (tgt := 36) hx hb dX3_origin_29 (by decide) ?_
          obtain rfl := Option.some.inj hf
          rw [hQ]
          exact im_iret hx hb hr (vp_nar_int _) hS hP dX3_origin_36 hlocks
      · rw [if_pos hc] at hf
        refine lv_bipush (v := (-2)) hx hb dX3_origin_18 (by decide) ?_
        refine lv_goto (tgt := 36) hx hb dX3_origin_20 (by decide) ?_
        obtain rfl := Option.some.inj hf
        rw [hQ]
        exact im_iret hx hb hr (vp_nar_int _) hS hP dX3_origin_36 hlocks
    · rw [if_neg hc] at hf
      refine lv_iload_n hx hb dX3_origin_10 rfl (lv_at hl 0 rfl) ?_
      refine lv_goto (tgt := 36) hx hb dX3_origin_11 (by decide) ?_
      obtain rfl := Option.some.inj hf
      rw [hQ]
      exact im_iret hx hb hr (vp_nar_int _) hS hP dX3_origin_36 hlocks
  exact hgo s.heap [] hP va_S.rf
set_option maxHeartbeats 4000000 in
set_option maxRecDepth 100000 in
theorem cq_target (l : Launch) (dC : Nat → ClassId) (dI : Nat → Nat → Nat) (cI cQ : ClassId) (t1 t2 bs : Nat) (top mo m1 m2 m3 m4 m5 m6 m7 : Nat) (hg : gd_A bs [mo, m1, m2, m3, m4, m5, m6, m7]) (mt : Int32) (cu : Int32) (kn : Nat → Int32) (vl : Nat → Int32) (ok : Nat → Int32) (ov : Nat → Int32) (fo : Int32) (pa : Int32) (fi : Int32) (va : Int32) (nd : Nat → Int32) (nk : Nat → Int32) (nv : Nat → Int32) (no : Int32) (x1 : Int32) (v0 : Int32) (h : fq_target mt x1 = some v0) : pu_M l yX3_target wsX3_target rm_1_23 [.ref mo, .int x1] (gk_G dC dI cI cQ t1 t2 bs (wm_M cI top mo m1 m2 m3 m4 m5 m6 m7 mt cu kn vl ok ov fo pa fi va nd nk nv no)) v0 := by
  intro sz
  refine Met.ofW (cc := cX3_target) (maxL := 3) (ret := (some .int)) (by decide) rfl ?_
  intro p e s m args below meth c_ s₁ B hml hv
  obtain ⟨rfl, hsz, hG, hP⟩ := hv
  have hx := B.exec
  have hb := B.bytes
  have hr := B.returns
  have hts := atoms_spec (ws := wsX3_target) B.pre
  have hown : s.vm.findClass RX3 = some m.cls := findClass_of_methodNamed B.named
  have hlocks := B.notSynchronized
  have hiX3 : ∀ w ∈ u_ws RX3 TX3 15, w ∈ wsX3_target := fun w hw => tw_in (usX3 w hw)
  have hl := lv_entry ([.ref mo, .int x1]) (n := 3) (Nat.le_of_ble_eq_true rfl)
  rw [lg_entry_eq]
  generalize (lg_sl ([.ref mo, .int x1]) ++ List.replicate (3 - (lg_sl ([.ref mo, .int x1])).length) Slot.unset).toArray = ls at hl ⊢
  have hl : lv_has ls 3 [(0, .ref mo), (1, .int x1)] := hl
  refine nm_Q (fun Q hQ => ?_)
  unfold fq_target at h
  have hf := h
  refine lv_iload_n hx hb dX3_target_0 rfl (lv_at hl 1 rfl) ?_
  obtain ⟨r1, e2, hf⟩ := ob_s hf
  try dsimp only at hf
  refine pu_calli (va_runS (As := [.int x1]) (rest := []) ⟨hx, hb, hml, hown, hts⟩ (cq_placeOf l dC dI cI cQ t1 t2 bs x1 r1 e2 s.heap.size) (va_cwS 1 hts (gs_S lk_253 lk_255 lk_194 lk_254) rfl rfl rfl (by decide +kernel) ⟨Nat.le_of_ble_eq_true rfl, Nat.le_of_ble_eq_true rfl⟩) (pr_S gk_W ⟨hG, pz_0⟩) rfl rfl hl.1 rfl (lv_room (Nat.le_of_ble_eq_true rfl)) dX3_target_1 ⟨Nat.zero_le _, Nat.zero_le _⟩) ?_
  refine lv_istore_n (lv' := [(2, .int r1), (0, .ref mo), (1, .int x1)]) hx hb dX3_target_4 rfl hl (by decide) rfl (fun ls hl => ?_)
  refine lv_aload_n hx hb dX3_target_5 rfl (lv_at hl 1 rfl) ?_
  refine va_get (D := (dC, dI)) (ci := 2) (v := .int mt) (C := RX3) (T := TX3) (N := 15) hx hb hts hiX3 hown hG.1 hP 0 rfl rfl 1 (by decide) (hts _ (tw_in lk_256)) (fun _ h9 => h9) rfl dX3_target_6 ?_
  refine lv_if_ne (tgt := 16) hx hb dX3_target_9 (by decide) (fun hc => ?_) (fun hc => ?_)
  · rw [if_neg hc] at hf
    refine lv_iload_n hx hb dX3_target_16 rfl (lv_at hl 0 rfl) ?_
    refine lv_if_gt (tgt := 25) hx hb dX3_target_17 (by decide) (fun hc => ?_) (fun hc => ?_)
    · rw [if_pos hc] at hf
      refine lv_iload_n hx hb dX3_target_25 rfl (lv_at hl 0 rfl) ?_
      obtain rfl := Option.some.inj hf
      rw [hQ]
      exact pu_iret hx hb hr (vp_nar_int _) hsz dX3_target_26 hlocks
    · rw [if_neg hc] at hf
      refine lv_bipush (v := (-2)) hx hb dX3_target_20 (by decide) ?_
      refine lv_goto (tgt := 26) hx hb dX3_target_22 (by decide) ?_
      obtain rfl := Option.some.inj hf
      rw [hQ]
      exact pu_iret hx hb hr (vp_nar_int _) hsz dX3_target_26 hlocks
  · rw [if_pos hc] at hf
    refine lv_iconst (v := (-1)) hx hb dX3_target_12 (by decide) ?_
    refine lv_goto (tgt := 26) hx hb dX3_target_13 (by decide) ?_
    obtain rfl := Option.some.inj hf
    rw [hQ]
    exact pu_iret hx hb hr (vp_nar_int _) hsz dX3_target_26 hlocks
set_option maxHeartbeats 4000000 in
set_option maxRecDepth 100000 in
theorem cq_isDirectory (l : Launch) (dC : Nat → ClassId) (dI : Nat → Nat → Nat) (cI cQ : ClassId) (t1 t2 bs : Nat) (top mo m1 m2 m3 m4 m5 m6 m7 : Nat) (hg : gd_A bs [mo, m1, m2, m3, m4, m5, m6, m7]) (mt : Int32) (cu : Int32) (kn : Nat → Int32) (vl : Nat → Int32) (ok : Nat → Int32) (ov : Nat → Int32) (fo : Int32) (pa : Int32) (fi : Int32) (va : Int32) (nd : Nat → Int32) (nk : Nat → Int32) (nv : Nat → Int32) (no : Int32) (x1 : Int32) (v0 : Int32 × Int32 × Int32 × Int32 × Int32) (h : fq_isDirectory top kn vl fo pa fi va x1 = some v0) : im_I l yX3_isDirectory wsX3_isDirectory rm_2_48 [.ref mo, .int x1] (gk_G dC dI cI cQ t1 t2 bs (wm_M cI top mo m1 m2 m3 m4 m5 m6 m7 mt cu kn vl ok ov fo pa fi va nd nk nv no)) v0.1 (va_P (dC, dI) vwCl (wm_M cI top mo m1 m2 m3 m4 m5 m6 m7 mt cu kn vl ok ov v0.2.1 v0.2.2.1 v0.2.2.2.1 v0.2.2.2.2 nd nk nv no)) (in_A [mo, m1, m2, m3, m4, m5, m6, m7]) := by
  intro sz
  refine Met.ofW (cc := cX3_isDirectory) (maxL := 2) (ret := (some .boolean)) (by decide) rfl ?_
  intro p e s m args below meth c_ s₁ B hml hv
  obtain ⟨rfl, hsz, hG, hP⟩ := hv
  have hx := B.exec
  have hb := B.bytes
  have hr := B.returns
  have hts := atoms_spec (ws := wsX3_isDirectory) B.pre
  have hown : s.vm.findClass RX3 = some m.cls := findClass_of_methodNamed B.named
  have hlocks := B.notSynchronized
  have hiX3 : ∀ w ∈ u_ws RX3 TX3 15, w ∈ wsX3_isDirectory := fun w hw => tw_in (usX3 w hw)
  have hl := lv_entry ([.ref mo, .int x1]) (n := 2) (Nat.le_of_ble_eq_true rfl)
  rw [lg_entry_eq]
  generalize (lg_sl ([.ref mo, .int x1]) ++ List.replicate (2 - (lg_sl ([.ref mo, .int x1])).length) Slot.unset).toArray = ls at hl ⊢
  have hl : lv_has ls 2 [(0, .ref mo), (1, .int x1)] := hl
  refine nm_Q (fun Q hQ => ?_)
  unfold fq_isDirectory at h
  have hgo : ∀ (H : Heap) (locs : List Loc), va_P (dC, dI) vwCl (wm_M cI top mo m1 m2 m3 m4 m5 m6 m7 mt cu kn vl ok ov fo pa fi va nd nk nv no) H → va_S (in_A [mo, m1, m2, m3, m4, m5, m6, m7]) s.heap H locs → W p l e (headSpec wsX3_isDirectory rm_2_48).room s m ([.ref mo, .int x1] : List Value).toArray below meth c_ H locs 0 0 Q (F0 m 0 ls []) := by
    intro H locs hP hS
    have hf := h
    refine lv_aload_n hx hb dX3_isDirectory_0 rfl (lv_at hl 0 rfl) ?_
    refine lv_iload_n hx hb dX3_isDirectory_1 rfl (lv_at hl 1 rfl) ?_
    obtain ⟨r1, e2, hf⟩ := ob_s hf
    try dsimp only at hf
    refine im_callv (va_runV (As := [.int x1]) (rest := []) ⟨hx, hb, hml, hown, hts⟩ (cq_look l dC dI cI cQ t1 t2 bs top mo m1 m2 m3 m4 m5 m6 m7 hg mt cu kn vl ok ov fo pa fi va nd nk nv no x1 r1 e2 H.size) (cwV 1 hts (gs_V lk_211 lk_213 lk_214 lk_194 lk_212) rfl rfl rfl (by decide +kernel) ⟨Nat.le_of_ble_eq_true rfl, Nat.le_of_ble_eq_true rfl⟩) (pr_V gk_W (va_recv hG.1 hP (q0 := 0) rfl rfl) ⟨(gk_S hG hS (bb_A hg)), hP⟩) rfl rfl hl.1 rfl (lv_room (Nat.le_of_ble_eq_true rfl)) dX3_isDirectory_2 ⟨Nat.zero_le _, Nat.zero_le _⟩) hS (fun _ h => h) (fun H locs hP1 hk1 hS => ?_)
    have hP : va_P (dC, dI) vwCl (wm_M cI top mo m1 m2 m3 m4 m5 m6 m7 mt cu kn vl ok ov r1.1 r1.2.1 r1.2.2.1 r1.2.2.2 nd nk nv no) H := hP1
    refine lv_aload_n hx hb dX3_isDirectory_5 rfl (lv_at hl 0 rfl) ?_
    refine va_get (D := (dC, dI)) (ci := 2) (v := .int r1.1) (C := RX3) (T := TX3) (N := 15) hx hb hts hiX3 hown hG.1 hP 0 rfl rfl 7 (by decide) (hts _ (tw_in lk_202)) (fun _ h9 => h9) rfl dX3_isDirectory_6 ?_
    refine lv_iconst (v := 2) hx hb dX3_isDirectory_9 (by decide) ?_
    refine lv_icmp_ne (tgt := 17) hx hb dX3_isDirectory_10 (by decide) (fun hc => ?_) (fun hc => ?_)
    · rw [if_neg hc] at hf
      refine lv_iconst (v := 0) hx hb dX3_isDirectory_17 (by decide) ?_
      obtain rfl := Option.some.inj hf
      rw [hQ]
      exact im_iret hx hb hr (nb_0) hS hP dX3_isDirectory_18 hlocks
    · rw [if_pos hc] at hf
      refine lv_iconst (v := 1) hx hb dX3_isDirectory_13 (by decide) ?_
      refine lv_goto (tgt := 18) hx hb dX3_isDirectory_14 (by decide) ?_
      obtain rfl := Option.some.inj hf
      rw [hQ]
      exact im_iret hx hb hr (nb_1) hS hP dX3_isDirectory_18 hlocks
  exact hgo s.heap [] hP va_S.rf
set_option maxHeartbeats 4000000 in
set_option maxRecDepth 100000 in
theorem cq_makeDir (l : Launch) (dC : Nat → ClassId) (dI : Nat → Nat → Nat) (cI cQ : ClassId) (t1 t2 bs : Nat) (top mo m1 m2 m3 m4 m5 m6 m7 : Nat) (hg : gd_A bs [mo, m1, m2, m3, m4, m5, m6, m7]) (mt : Int32) (cu : Int32) (kn : Nat → Int32) (vl : Nat → Int32) (ok : Nat → Int32) (ov : Nat → Int32) (fo : Int32) (pa : Int32) (fi : Int32) (va : Int32) (nd : Nat → Int32) (nk : Nat → Int32) (nv : Nat → Int32) (no : Int32) (x1 : Int32) (v0 : Int32 × Int32 × (Nat → Int32) × (Nat → Int32) × (Nat → Int32) × (Nat → Int32) × Int32 × Int32 × Int32 × Int32) (h : fq_makeDir top mt cu kn vl ok ov fo pa fi va x1 = some v0) : im_I l yX3_makeDir wsX3_makeDir rm_4_94 [.ref mo, .int x1] (gk_G dC dI cI cQ t1 t2 bs (wm_M cI top mo m1 m2 m3 m4 m5 m6 m7 mt cu kn vl ok ov fo pa fi va nd nk nv no)) v0.1 (va_P (dC, dI) vwCl (wm_M cI top mo m1 m2 m3 m4 m5 m6 m7 mt v0.2.1 v0.2.2.1 v0.2.2.2.1 v0.2.2.2.2.1 v0.2.2.2.2.2.1 v0.2.2.2.2.2.2.1 v0.2.2.2.2.2.2.2.1 v0.2.2.2.2.2.2.2.2.1 v0.2.2.2.2.2.2.2.2.2 nd nk nv no)) (in_A [mo, m1, m2, m3, m4, m5, m6, m7]) := by
  intro sz
  refine Met.ofW (cc := cX3_makeDir) (maxL := 4) (ret := (some .int)) (by decide) rfl ?_
  intro p e s m args below meth c_ s₁ B hml hv
  obtain ⟨rfl, hsz, hG, hP⟩ := hv
  have hx := B.exec
  have hb := B.bytes
  have hr := B.returns
  have hts := atoms_spec (ws := wsX3_makeDir) B.pre
  have hown : s.vm.findClass RX3 = some m.cls := findClass_of_methodNamed B.named
  have hlocks := B.notSynchronized
  have hiX3 : ∀ w ∈ u_ws RX3 TX3 15, w ∈ wsX3_makeDir := fun w hw => tw_in (usX3 w hw)
  have hl := lv_entry ([.ref mo, .int x1]) (n := 4) (Nat.le_of_ble_eq_true rfl)
  rw [lg_entry_eq]
  generalize (lg_sl ([.ref mo, .int x1]) ++ List.replicate (4 - (lg_sl ([.ref mo, .int x1])).length) Slot.unset).toArray = ls at hl ⊢
  have hl : lv_has ls 4 [(0, .ref mo), (1, .int x1)] := hl
  refine nm_Q (fun Q hQ => ?_)
  unfold fq_makeDir at h
  have hgo : ∀ (H : Heap) (locs : List Loc), va_P (dC, dI) vwCl (wm_M cI top mo m1 m2 m3 m4 m5 m6 m7 mt cu kn vl ok ov fo pa fi va nd nk nv no) H → va_S (in_A [mo, m1, m2, m3, m4, m5, m6, m7]) s.heap H locs → W p l e (headSpec wsX3_makeDir rm_4_94).room s m ([.ref mo, .int x1] : List Value).toArray below meth c_ H locs 0 0 Q (F0 m 0 ls []) := by
    intro H locs hP hS
    have hf := h
    refine lv_aload_n hx hb dX3_makeDir_0 rfl (lv_at hl 0 rfl) ?_
    refine lv_iload_n hx hb dX3_makeDir_1 rfl (lv_at hl 1 rfl) ?_
    obtain ⟨r1, e2, hf⟩ := ob_s hf
    try dsimp only at hf
    refine pu_calli (va_runV (As := [.int x1]) (rest := []) ⟨hx, hb, hml, hown, hts⟩ (cq_target l dC dI cI cQ t1 t2 bs top mo m1 m2 m3 m4 m5 m6 m7 hg mt cu kn vl ok ov fo pa fi va nd nk nv no x1 r1 e2 H.size) (cwV 1 hts (gs_V lk_276 lk_278 lk_279 lk_194 lk_277) rfl rfl rfl (by decide +kernel) ⟨Nat.le_of_ble_eq_true rfl, Nat.le_of_ble_eq_true rfl⟩) (pr_V gk_W (va_recv hG.1 hP (q0 := 0) rfl rfl) ⟨(gk_S hG hS (bb_A hg)), hP⟩) rfl rfl hl.1 rfl (lv_room (Nat.le_of_ble_eq_true rfl)) dX3_makeDir_2 ⟨Nat.zero_le _, Nat.zero_le _⟩) ?_
    refine lv_istore_n (lv' := [(2, .int r1), (0, .ref mo), (1, .int x1)]) hx hb dX3_makeDir_5 rfl hl (by decide) rfl (fun ls hl => ?_)
    refine lv_iload_n hx hb dX3_makeDir_6 rfl (lv_at hl 0 rfl) ?_
    refine lv_if_ge (tgt := 12) hx hb dX3_makeDir_7 (by decide) (fun hc => ?_) (fun hc => ?_)
    · rw [if_pos hc] at hf
      refine lv_aload_n hx hb dX3_makeDir_12 rfl (lv_at hl 1 rfl) ?_
      refine lv_iload_n hx hb dX3_makeDir_13 rfl (lv_at hl 0 rfl) ?_
      refine lv_bipush (v := 6) hx hb dX3_makeDir_14 (by decide) ?_
      refine lv_idiv hx hb dX3_makeDir_16 (by decide) ?_
      obtain ⟨r3, e4, hf⟩ := ob_s hf
      try dsimp only at hf
      refine im_calli (va_runV (As := [.int (r1 / 6)]) (rest := []) ⟨hx, hb, hml, hown, hts⟩ (cq_isDirectory l dC dI cI cQ t1 t2 bs top mo m1 m2 m3 m4 m5 m6 m7 hg mt cu kn vl ok ov fo pa fi va nd nk nv no (r1 / 6) r3 e4 H.size) (cwV 1 hts (gs_V lk_280 lk_282 lk_283 lk_194 lk_281) rfl rfl rfl (by decide +kernel) ⟨Nat.le_of_ble_eq_true rfl, Nat.le_of_ble_eq_true rfl⟩) (pr_V gk_W (va_recv hG.1 hP (q0 := 0) rfl rfl) ⟨(gk_S hG hS (bb_A hg)), hP⟩) rfl rfl hl.1 rfl (lv_room (Nat.le_of_ble_eq_true rfl)) dX3_makeDir_17 ⟨Nat.zero_le _, Nat.zero_le _⟩) hS (fun _ h => h) (fun H locs hP1 hk1 hS => ?_)
      have hP : va_P (dC, dI) vwCl (wm_M cI top mo m1 m2 m3 m4 m5 m6 m7 mt cu kn vl ok ov r3.2.1 r3.2.2.1 r3.2.2.2.1 r3.2.2.2.2 nd nk nv no) H := hP1
      refine lv_if_ne (tgt := 26) hx hb dX3_makeDir_20 (by decide) (fun hc => ?_) (fun hc => ?_)
      · rw [if_neg hc] at hf
        refine lv_aload_n hx hb dX3_makeDir_26 rfl (lv_at hl 1 rfl) ?_
        refine lv_iload_n hx hb dX3_makeDir_27 rfl (lv_at hl 0 rfl) ?_
        obtain ⟨r5, e6, hf⟩ := ob_s hf
        try dsimp only at hf
        refine im_callv (va_runV (As := [.int r1]) (rest := []) ⟨hx, hb, hml, hown, hts⟩ (cq_look l dC dI cI cQ t1 t2 bs top mo m1 m2 m3 m4 m5 m6 m7 hg mt cu kn vl ok ov r3.2.1 r3.2.2.1 r3.2.2.2.1 r3.2.2.2.2 nd nk nv no r1 r5 e6 H.size) (cwV 1 hts (gs_V lk_211 lk_213 lk_214 lk_194 lk_212) rfl rfl rfl (by decide +kernel) ⟨Nat.le_of_ble_eq_true rfl, Nat.le_of_ble_eq_true rfl⟩) (pr_V gk_W (va_recv hG.1 hP (q0 := 0) rfl rfl) ⟨(gk_S hG hS (bb_A hg)), hP⟩) rfl rfl hl.1 rfl (lv_room (Nat.le_of_ble_eq_true rfl)) dX3_makeDir_28 ⟨Nat.zero_le _, Nat.zero_le _⟩) hS (fun _ h => h) (fun H locs hP1 hk1 hS => ?_)
        have hP : va_P (dC, dI) vwCl (wm_M cI top mo m1 m2 m3 m4 m5 m6 m7 mt cu kn vl ok ov r5.1 r5.2.1 r5.2.2.1 r5.2.2.2 nd nk nv no) H := hP1
        refine lv_aload_n hx hb dX3_makeDir_31 rfl (lv_at hl 1 rfl) ?_
        refine va_get (D := (dC, dI)) (ci := 2) (v := .int r5.1) (C := RX3) (T := TX3) (N := 15) hx hb hts hiX3 hown hG.1 hP 0 rfl rfl 7 (by decide) (hts _ (tw_in lk_202)) (fun _ h9 => h9) rfl dX3_makeDir_32 ?_
        refine lv_if_le (tgt := 41) hx hb dX3_makeDir_35 (by decide) (fun hc => ?_) (fun hc => ?_)
        · rw [if_pos hc] at hf
          refine lv_aload_n hx hb dX3_makeDir_41 rfl (lv_at hl 1 rfl) ?_
          refine va_get (D := (dC, dI)) (ci := 2) (v := .int cu) (C := RX3) (T := TX3) (N := 15) hx hb hts hiX3 hown hG.1 hP 0 rfl rfl 2 (by decide) (hts _ (tw_in lk_223)) (fun _ h9 => h9) rfl dX3_makeDir_42 ?_
          refine lv_istore_n (lv' := [(3, .int cu), (2, .int r1), (0, .ref mo), (1, .int x1)]) hx hb dX3_makeDir_45 rfl hl (by decide) rfl (fun ls hl => ?_)
          refine lv_aload_n hx hb dX3_makeDir_46 rfl (lv_at hl 2 rfl) ?_
          obtain ⟨r7, e8, hf⟩ := ob_s hf
          try dsimp only at hf
          refine im_callv (va_runV (As := []) (rest := []) ⟨hx, hb, hml, hown, hts⟩ (cq_keep l dC dI cI cQ t1 t2 bs top mo m1 m2 m3 m4 m5 m6 m7 hg mt cu kn vl ok ov r5.1 r5.2.1 r5.2.2.1 r5.2.2.2 nd nk nv no r7 e8 H.size) (cwV 0 hts (gs_V lk_284 lk_286 lk_287 lk_194 lk_285) rfl rfl rfl (by decide +kernel) ⟨Nat.le_of_ble_eq_true rfl, Nat.le_of_ble_eq_true rfl⟩) (pr_V gk_W (va_recv hG.1 hP (q0 := 0) rfl rfl) ⟨(gk_S hG hS (bb_A hg)), hP⟩) rfl rfl hl.1 rfl (lv_room (Nat.le_of_ble_eq_true rfl)) dX3_makeDir_47 ⟨Nat.zero_le _, Nat.zero_le _⟩) hS (fun _ h => h) (fun H locs hP1 hk1 hS => ?_)
          have hP : va_P (dC, dI) vwCl (wm_M cI top mo m1 m2 m3 m4 m5 m6 m7 mt cu kn vl r7.1 r7.2 r5.1 r5.2.1 r5.2.2.1 r5.2.2.2 nd nk nv no) H := hP1
          refine lv_aload_n hx hb dX3_makeDir_50 rfl (lv_at hl 2 rfl) ?_
          refine lv_iload_n hx hb dX3_makeDir_51 rfl (lv_at hl 1 rfl) ?_
          refine lv_iconst (v := 2) hx hb dX3_makeDir_52 (by decide) ?_
          refine lv_iconst (v := 0) hx hb dX3_makeDir_53 (by decide) ?_
          obtain ⟨r9, e10, hf⟩ := ob_s hf
          try dsimp only at hf
          refine im_callv (va_runV (As := [.int r1, .int 2, .int 0]) (rest := []) ⟨hx, hb, hml, hown, hts⟩ (cq_make l dC dI cI cQ t1 t2 bs top mo m1 m2 m3 m4 m5 m6 m7 hg mt cu kn vl r7.1 r7.2 r5.1 r5.2.1 r5.2.2.1 r5.2.2.2 nd nk nv no r1 2 0 r9 e10 H.size) (cwV 3 hts (gs_V lk_288 lk_290 lk_291 lk_194 lk_289) rfl rfl rfl (by decide +kernel) ⟨Nat.le_of_ble_eq_true rfl, Nat.le_of_ble_eq_true rfl⟩) (pr_V gk_W (va_recv hG.1 hP (q0 := 0) rfl rfl) ⟨(gk_S hG hS (bb_A hg)), hP⟩) rfl rfl hl.1 rfl (lv_room (Nat.le_of_ble_eq_true rfl)) dX3_makeDir_54 ⟨Nat.zero_le _, Nat.zero_le _⟩) hS (fun _ h => h) (fun H locs hP1 hk1 hS => ?_)
          have hP : va_P (dC, dI) vwCl (wm_M cI top mo m1 m2 m3 m4 m5 m6 m7 mt r9.1 r9.2.1 r9.2.2.1 r7.1 r7.2 r9.2.2.2.1 r9.2.2.2.2.1 r9.2.2.2.2.2.1 r9.2.2.2.2.2.2 nd nk nv no) H := hP1
          refine lv_aload_n hx hb dX3_makeDir_57 rfl (lv_at hl 2 rfl) ?_
          refine lv_iload_n hx hb dX3_makeDir_58 rfl (lv_at hl 0 rfl) ?_
          obtain ⟨r11, e12, hf⟩ := ob_s hf
          try dsimp only at hf
          refine im_calli (va_runV (As := [.int cu]) (rest := []) ⟨hx, hb, hml, hown, hts⟩ (cq_end l dC dI cI cQ t1 t2 bs top mo m1 m2 m3 m4 m5 m6 m7 hg mt r9.1 r9.2.1 r9.2.2.1 r7.1 r7.2 r9.2.2.2.1 r9.2.2.2.2.1 r9.2.2.2.2.2.1 r9.2.2.2.2.2.2 nd nk nv no cu r11 e12 H.size) (cwV 1 hts (gs_V lk_292 lk_294 lk_295 lk_194 lk_293) rfl rfl rfl (by decide +kernel) ⟨Nat.le_of_ble_eq_true rfl, Nat.le_of_ble_eq_true rfl⟩) (pr_V gk_W (va_recv hG.1 hP (q0 := 0) rfl rfl) ⟨(gk_S hG hS (bb_A hg)), hP⟩) rfl rfl hl.1 rfl (lv_room (Nat.le_of_ble_eq_true rfl)) dX3_makeDir_59 ⟨Nat.zero_le _, Nat.zero_le _⟩) hS (fun _ h => h) (fun H locs hP1 hk1 hS => ?_)
          have hP : va_P (dC, dI) vwCl (wm_M cI top mo m1 m2 m3 m4 m5 m6 m7 mt r11.2.1 r11.2.2.1 r11.2.2.2 r7.1 r7.2 r9.2.2.2.1 r9.2.2.2.2.1 r9.2.2.2.2.2.1 r9.2.2.2.2.2.2 nd nk nv no) H := hP1
          obtain rfl := Option.some.inj hf
          rw [hQ]
          exact im_iret hx hb hr (vp_nar_int _) hS hP dX3_makeDir_62 hlocks
        · rw [if_neg hc] at hf
          refine lv_bipush (v := (-5)) hx hb dX3_makeDir_38 (by decide) ?_
          obtain rfl := Option.some.inj hf
          rw [hQ]
          exact im_iret hx hb hr (vp_nar_int _) hS hP dX3_makeDir_40 hlocks
      · rw [if_pos hc] at hf
        refine lv_bipush (v := (-4)) hx hb dX3_makeDir_23 (by decide) ?_
        obtain rfl := Option.some.inj hf
        rw [hQ]
        exact im_iret hx hb hr (vp_nar_int _) hS hP dX3_makeDir_25 hlocks
    · rw [if_neg hc] at hf
      refine lv_iload_n hx hb dX3_makeDir_10 rfl (lv_at hl 0 rfl) ?_
      obtain rfl := Option.some.inj hf
      rw [hQ]
      exact im_iret hx hb hr (vp_nar_int _) hS hP dX3_makeDir_11 hlocks
  exact hgo s.heap [] hP va_S.rf
set_option maxHeartbeats 4000000 in
set_option maxRecDepth 100000 in
theorem cq_write (l : Launch) (dC : Nat → ClassId) (dI : Nat → Nat → Nat) (cI cQ : ClassId) (t1 t2 bs : Nat) (top mo m1 m2 m3 m4 m5 m6 m7 : Nat) (hg : gd_A bs [mo, m1, m2, m3, m4, m5, m6, m7]) (mt : Int32) (cu : Int32) (kn : Nat → Int32) (vl : Nat → Int32) (ok : Nat → Int32) (ov : Nat → Int32) (fo : Int32) (pa : Int32) (fi : Int32) (va : Int32) (nd : Nat → Int32) (nk : Nat → Int32) (nv : Nat → Int32) (no : Int32) (x1 : Int32) (x2 : Int32) (v0 : Int32 × Int32 × (Nat → Int32) × (Nat → Int32) × (Nat → Int32) × (Nat → Int32) × Int32 × Int32 × Int32 × Int32) (h : fq_write top mt cu kn vl ok ov fo pa fi va x1 x2 = some v0) : im_I l yX3_write wsX3_write rm_4_94 [.ref mo, .int x1, .int x2] (gk_G dC dI cI cQ t1 t2 bs (wm_M cI top mo m1 m2 m3 m4 m5 m6 m7 mt cu kn vl ok ov fo pa fi va nd nk nv no)) v0.1 (va_P (dC, dI) vwCl (wm_M cI top mo m1 m2 m3 m4 m5 m6 m7 mt v0.2.1 v0.2.2.1 v0.2.2.2.1 v0.2.2.2.2.1 v0.2.2.2.2.2.1 v0.2.2.2.2.2.2.1 v0.2.2.2.2.2.2.2.1 v0.2.2.2.2.2.2.2.2.1 v0.2.2.2.2.2.2.2.2.2 nd nk nv no)) (in_A [mo, m1, m2, m3, m4, m5, m6, m7]) := by
  intro sz
  refine Met.ofW (cc := cX3_write) (maxL := 6) (ret := (some .int)) (by decide) rfl ?_
  intro p e s m args below meth c_ s₁ B hml hv
  obtain ⟨rfl, hsz, hG, hP⟩ := hv
  have hx := B.exec
  have hb := B.bytes
  have hr := B.returns
  have hts := atoms_spec (ws := wsX3_write) B.pre
  have hown : s.vm.findClass RX3 = some m.cls := findClass_of_methodNamed B.named
  have hlocks := B.notSynchronized
  have hiX3 : ∀ w ∈ u_ws RX3 TX3 15, w ∈ wsX3_write := fun w hw => tw_in (usX3 w hw)
  have hl := lv_entry ([.ref mo, .int x1, .int x2]) (n := 6) (Nat.le_of_ble_eq_true rfl)
  rw [lg_entry_eq]
  generalize (lg_sl ([.ref mo, .int x1, .int x2]) ++ List.replicate (6 - (lg_sl ([.ref mo, .int x1, .int x2])).length) Slot.unset).toArray = ls at hl ⊢
  have hl : lv_has ls 6 [(0, .ref mo), (1, .int x1), (2, .int x2)] := hl
  refine nm_Q (fun Q hQ => ?_)
  have B21 : ∀ (x3 : Int32) (cu : Int32) (kn : Nat → Int32) (vl : Nat → Int32) (ok : Nat → Int32) (ov : Nat → Int32) (fo : Int32) (pa : Int32) (fi : Int32) (va : Int32), ∀ (H : Heap) (locs : List Loc), va_P (dC, dI) vwCl (wm_M cI top mo m1 m2 m3 m4 m5 m6 m7 mt cu kn vl ok ov fo pa fi va nd nk nv no) H → va_S (in_A [mo, m1, m2, m3, m4, m5, m6, m7]) s.heap H locs → ∀ ls : Array Slot, fq_write_21 top mt x1 x2 x3 cu kn vl ok ov fo pa fi va = some v0 → lv_has ls 6 [(0, .ref mo), (1, .int x1), (2, .int x2), (3, .int x3)] → W p l e (headSpec wsX3_write rm_4_94).room s m ([.ref mo, .int x1, .int x2] : List Value).toArray below meth c_ H locs 0 0 Q (F0 m 21 ls []) := by
    intro x3 cu kn vl ok ov fo pa fi va H locs hP hS ls hf hl
    unfold fq_write_21 at hf
    refine lv_iload_n hx hb dX3_write_21 rfl (lv_at hl 3 rfl) ?_
    refine lv_iconst (v := (-1)) hx hb dX3_write_22 (by decide) ?_
    refine lv_icmp_ne (tgt := 30) hx hb dX3_write_23 (by decide) (fun hc => ?_) (fun hc => ?_)
    · rw [if_neg hc] at hf
      refine lv_bipush (v := (-2)) hx hb dX3_write_30 (by decide) ?_
      obtain rfl := Option.some.inj hf
      rw [hQ]
      exact im_iret hx hb hr (vp_nar_int _) hS hP dX3_write_32 hlocks
    · rw [if_pos hc] at hf
      refine lv_iconst (v := (-1)) hx hb dX3_write_26 (by decide) ?_
      refine lv_goto (tgt := 32) hx hb dX3_write_27 (by decide) ?_
      obtain rfl := Option.some.inj hf
      rw [hQ]
      exact im_iret hx hb hr (vp_nar_int _) hS hP dX3_write_32 hlocks
  have B121 : ∀ (x3 : Int32) (x4 : Int32) (x5 : Int32) (z0 : Int32) (z1 : Int32) (cu : Int32) (kn : Nat → Int32) (vl : Nat → Int32) (ok : Nat → Int32) (ov : Nat → Int32) (fo : Int32) (pa : Int32) (fi : Int32) (va : Int32), ∀ (H : Heap) (locs : List Loc), va_P (dC, dI) vwCl (wm_M cI top mo m1 m2 m3 m4 m5 m6 m7 mt cu kn vl ok ov fo pa fi va nd nk nv no) H → va_S (in_A [mo, m1, m2, m3, m4, m5, m6, m7]) s.heap H locs → ∀ ls : Array Slot, fq_write_121 top mt x1 x2 x3 x4 x5 z0 z1 cu kn vl ok ov fo pa fi va = some v0 → lv_has ls 6 [(0, .ref mo), (1, .int x1), (2, .int x2), (3, .int x3), (4, .int x4), (5, .int x5)] → W p l e (headSpec wsX3_write rm_4_94).room s m ([.ref mo, .int x1, .int x2] : List Value).toArray below meth c_ H locs 0 0 Q (F0 m 121 ls [.int z0, .int z1, .ref mo]) := by
    intro x3 x4 x5 z0 z1 cu kn vl ok ov fo pa fi va H locs hP hS ls hf hl
    unfold fq_write_121 at hf
    refine lv_iadd hx hb dX3_write_121 ?_
    refine va_put (D := (dC, dI)) (ci := 2) (v := .int (z1 + z0)) (ty := .int) (C := RX3) (T := TX3) (N := 15) hx hb hts hiX3 tyX3 tyX3_ok nmX3 hown hG.1 hP (dd_A hg rfl) hS 0 rfl rfl 2 (by decide) (hts _ (tw_in lk_223)) (fun _ h9 => h9) rfl (by decide +kernel) rfl rfl (Nat.le_of_ble_eq_true rfl) dX3_write_122 (fun H locs hP _ hS => ?_)
    have hP : va_P (dC, dI) vwCl (wm_M cI top mo m1 m2 m3 m4 m5 m6 m7 mt (z1 + z0) kn vl ok ov fo pa fi va nd nk nv no) H := hP
    refine lv_aload_n hx hb dX3_write_125 rfl (lv_at hl 0 rfl) ?_
    refine lv_iload hx hb dX3_write_126 (lv_at hl 4 rfl) ?_
    obtain ⟨r1, e2, hf⟩ := ob_s hf
    try dsimp only at hf
    refine im_calli (va_runV (As := [.int x4]) (rest := []) ⟨hx, hb, hml, hown, hts⟩ (cq_end l dC dI cI cQ t1 t2 bs top mo m1 m2 m3 m4 m5 m6 m7 hg mt (z1 + z0) kn vl ok ov fo pa fi va nd nk nv no x4 r1 e2 H.size) (cwV 1 hts (gs_V lk_292 lk_294 lk_295 lk_194 lk_293) rfl rfl rfl (by decide +kernel) ⟨Nat.le_of_ble_eq_true rfl, Nat.le_of_ble_eq_true rfl⟩) (pr_V gk_W (va_recv hG.1 hP (q0 := 0) rfl rfl) ⟨(gk_S hG hS (bb_A hg)), hP⟩) rfl rfl hl.1 rfl (lv_room (Nat.le_of_ble_eq_true rfl)) dX3_write_128 ⟨Nat.zero_le _, Nat.zero_le _⟩) hS (fun _ h => h) (fun H locs hP1 hk1 hS => ?_)
    have hP : va_P (dC, dI) vwCl (wm_M cI top mo m1 m2 m3 m4 m5 m6 m7 mt r1.2.1 r1.2.2.1 r1.2.2.2 ok ov fo pa fi va nd nk nv no) H := hP1
    obtain rfl := Option.some.inj hf
    rw [hQ]
    exact im_iret hx hb hr (vp_nar_int _) hS hP dX3_write_131 hlocks
  have B93 : ∀ (x3 : Int32) (x4 : Int32) (z0 : Int32) (cu : Int32) (kn : Nat → Int32) (vl : Nat → Int32) (ok : Nat → Int32) (ov : Nat → Int32) (fo : Int32) (pa : Int32) (fi : Int32) (va : Int32), ∀ (H : Heap) (locs : List Loc), va_P (dC, dI) vwCl (wm_M cI top mo m1 m2 m3 m4 m5 m6 m7 mt cu kn vl ok ov fo pa fi va nd nk nv no) H → va_S (in_A [mo, m1, m2, m3, m4, m5, m6, m7]) s.heap H locs → ∀ ls : Array Slot, fq_write_93 top mt x1 x2 x3 x4 z0 cu kn vl ok ov fo pa fi va = some v0 → lv_has ls 6 [(0, .ref mo), (1, .int x1), (2, .int x2), (3, .int x3), (4, .int x4)] → W p l e (headSpec wsX3_write rm_4_94).room s m ([.ref mo, .int x1, .int x2] : List Value).toArray below meth c_ H locs 0 0 Q (F0 m 93 ls [.int z0]) := by
    intro x3 x4 z0 cu kn vl ok ov fo pa fi va H locs hP hS ls hf hl
    unfold fq_write_93 at hf
    refine lv_istore (lv' := [(5, .int z0), (0, .ref mo), (1, .int x1), (2, .int x2), (3, .int x3), (4, .int x4)]) hx hb dX3_write_93 hl (by decide) rfl (fun ls hl => ?_)
    refine lv_aload_n hx hb dX3_write_95 rfl (lv_at hl 1 rfl) ?_
    obtain ⟨r3, e4, hf⟩ := ob_s hf
    try dsimp only at hf
    refine im_callv (va_runV (As := []) (rest := []) ⟨hx, hb, hml, hown, hts⟩ (cq_keep l dC dI cI cQ t1 t2 bs top mo m1 m2 m3 m4 m5 m6 m7 hg mt cu kn vl ok ov fo pa fi va nd nk nv no r3 e4 H.size) (cwV 0 hts (gs_V lk_284 lk_286 lk_287 lk_194 lk_285) rfl rfl rfl (by decide +kernel) ⟨Nat.le_of_ble_eq_true rfl, Nat.le_of_ble_eq_true rfl⟩) (pr_V gk_W (va_recv hG.1 hP (q0 := 0) rfl rfl) ⟨(gk_S hG hS (bb_A hg)), hP⟩) rfl rfl hl.1 rfl (lv_room (Nat.le_of_ble_eq_true rfl)) dX3_write_96 ⟨Nat.zero_le _, Nat.zero_le _⟩) hS (fun _ h => h) (fun H locs hP1 hk1 hS => ?_)
    have hP : va_P (dC, dI) vwCl (wm_M cI top mo m1 m2 m3 m4 m5 m6 m7 mt cu kn vl r3.1 r3.2 fo pa fi va nd nk nv no) H := hP1
    refine lv_aload_n hx hb dX3_write_99 rfl (lv_at hl 1 rfl) ?_
    refine lv_iload_n hx hb dX3_write_100 rfl (lv_at hl 4 rfl) ?_
    refine lv_iconst (v := 1) hx hb dX3_write_101 (by decide) ?_
    refine lv_iload_n hx hb dX3_write_102 rfl (lv_at hl 3 rfl) ?_
    obtain ⟨r5, e6, hf⟩ := ob_s hf
    try dsimp only at hf
    refine im_callv (va_runV (As := [.int x3, .int 1, .int x2]) (rest := []) ⟨hx, hb, hml, hown, hts⟩ (cq_make l dC dI cI cQ t1 t2 bs top mo m1 m2 m3 m4 m5 m6 m7 hg mt cu kn vl r3.1 r3.2 fo pa fi va nd nk nv no x3 1 x2 r5 e6 H.size) (cwV 3 hts (gs_V lk_288 lk_290 lk_291 lk_194 lk_289) rfl rfl rfl (by decide +kernel) ⟨Nat.le_of_ble_eq_true rfl, Nat.le_of_ble_eq_true rfl⟩) (pr_V gk_W (va_recv hG.1 hP (q0 := 0) rfl rfl) ⟨(gk_S hG hS (bb_A hg)), hP⟩) rfl rfl hl.1 rfl (lv_room (Nat.le_of_ble_eq_true rfl)) dX3_write_103 ⟨Nat.zero_le _, Nat.zero_le _⟩) hS (fun _ h => h) (fun H locs hP1 hk1 hS => ?_)
    have hP : va_P (dC, dI) vwCl (wm_M cI top mo m1 m2 m3 m4 m5 m6 m7 mt r5.1 r5.2.1 r5.2.2.1 r3.1 r3.2 r5.2.2.2.1 r5.2.2.2.2.1 r5.2.2.2.2.2.1 r5.2.2.2.2.2.2 nd nk nv no) H := hP1
    refine lv_aload_n hx hb dX3_write_106 rfl (lv_at hl 1 rfl) ?_
    refine lv_dup hx hb dX3_write_107 rfl ?_
    refine va_get (D := (dC, dI)) (ci := 2) (v := .int r5.1) (C := RX3) (T := TX3) (N := 15) hx hb hts hiX3 hown hG.1 hP 0 rfl rfl 2 (by decide) (hts _ (tw_in lk_223)) (fun _ h9 => h9) rfl dX3_write_108 ?_
    refine lv_iload hx hb dX3_write_111 (lv_at hl 0 rfl) ?_
    refine lv_if_eq (tgt := 120) hx hb dX3_write_113 (by decide) (fun hc => ?_) (fun hc => ?_)
    · rw [if_pos hc] at hf
      refine lv_iconst (v := 0) hx hb dX3_write_120 (by decide) ?_
      exact B121 x3 x4 z0 0 r5.1 r5.1 r5.2.1 r5.2.2.1 r3.1 r3.2 r5.2.2.2.1 r5.2.2.2.2.1 r5.2.2.2.2.2.1 r5.2.2.2.2.2.2 H locs hP hS ls hf (lv_sub hl [1, 2, 3, 4, 5, 0] rfl)
    · rw [if_neg hc] at hf
      refine lv_iconst (v := 1) hx hb dX3_write_116 (by decide) ?_
      refine lv_goto (tgt := 121) hx hb dX3_write_117 (by decide) ?_
      exact B121 x3 x4 z0 1 r5.1 r5.1 r5.2.1 r5.2.2.1 r3.1 r3.2 r5.2.2.2.1 r5.2.2.2.2.1 r5.2.2.2.2.2.1 r5.2.2.2.2.2.2 H locs hP hS ls hf (lv_sub hl [1, 2, 3, 4, 5, 0] rfl)
  have B92 : ∀ (x3 : Int32) (x4 : Int32) (cu : Int32) (kn : Nat → Int32) (vl : Nat → Int32) (ok : Nat → Int32) (ov : Nat → Int32) (fo : Int32) (pa : Int32) (fi : Int32) (va : Int32), ∀ (H : Heap) (locs : List Loc), va_P (dC, dI) vwCl (wm_M cI top mo m1 m2 m3 m4 m5 m6 m7 mt cu kn vl ok ov fo pa fi va nd nk nv no) H → va_S (in_A [mo, m1, m2, m3, m4, m5, m6, m7]) s.heap H locs → ∀ ls : Array Slot, fq_write_92 top mt x1 x2 x3 x4 cu kn vl ok ov fo pa fi va = some v0 → lv_has ls 6 [(0, .ref mo), (1, .int x1), (2, .int x2), (3, .int x3), (4, .int x4)] → W p l e (headSpec wsX3_write rm_4_94).room s m ([.ref mo, .int x1, .int x2] : List Value).toArray below meth c_ H locs 0 0 Q (F0 m 92 ls []) := by
    intro x3 x4 cu kn vl ok ov fo pa fi va H locs hP hS ls hf hl
    unfold fq_write_92 at hf
    refine lv_iconst (v := 0) hx hb dX3_write_92 (by decide) ?_
    exact B93 x3 x4 0 cu kn vl ok ov fo pa fi va H locs hP hS ls hf (lv_sub hl [0, 1, 2, 3, 4] rfl)
  unfold fq_write at h
  have hgo : ∀ (H : Heap) (locs : List Loc), va_P (dC, dI) vwCl (wm_M cI top mo m1 m2 m3 m4 m5 m6 m7 mt cu kn vl ok ov fo pa fi va nd nk nv no) H → va_S (in_A [mo, m1, m2, m3, m4, m5, m6, m7]) s.heap H locs → W p l e (headSpec wsX3_write rm_4_94).room s m ([.ref mo, .int x1, .int x2] : List Value).toArray below meth c_ H locs 0 0 Q (F0 m 0 ls []) := by
    intro H locs hP hS
    have hf := h
    refine lv_aload_n hx hb dX3_write_0 rfl (lv_at hl 0 rfl) ?_
    refine lv_iload_n hx hb dX3_write_1 rfl (lv_at hl 1 rfl) ?_
    obtain ⟨r7, e8, hf⟩ := ob_s hf
    try dsimp only at hf
    refine pu_calli (va_runV (As := [.int x1]) (rest := []) ⟨hx, hb, hml, hown, hts⟩ (cq_target l dC dI cI cQ t1 t2 bs top mo m1 m2 m3 m4 m5 m6 m7 hg mt cu kn vl ok ov fo pa fi va nd nk nv no x1 r7 e8 H.size) (cwV 1 hts (gs_V lk_276 lk_278 lk_279 lk_194 lk_277) rfl rfl rfl (by decide +kernel) ⟨Nat.le_of_ble_eq_true rfl, Nat.le_of_ble_eq_true rfl⟩) (pr_V gk_W (va_recv hG.1 hP (q0 := 0) rfl rfl) ⟨(gk_S hG hS (bb_A hg)), hP⟩) rfl rfl hl.1 rfl (lv_room (Nat.le_of_ble_eq_true rfl)) dX3_write_2 ⟨Nat.zero_le _, Nat.zero_le _⟩) ?_
    refine lv_istore_n (lv' := [(3, .int r7), (0, .ref mo), (1, .int x1), (2, .int x2)]) hx hb dX3_write_5 rfl hl (by decide) rfl (fun ls hl => ?_)
    refine lv_iload_n hx hb dX3_write_6 rfl (lv_at hl 0 rfl) ?_
    refine lv_iconst (v := (-1)) hx hb dX3_write_7 (by decide) ?_
    refine lv_icmp_eq (tgt := 21) hx hb dX3_write_8 (by decide) (fun hc => ?_) (fun hc => ?_)
    · rw [if_pos hc] at hf
      exact B21 r7 cu kn vl ok ov fo pa fi va H locs hP hS ls hf (lv_sub hl [1, 2, 3, 0] rfl)
    · rw [if_neg hc] at hf
      refine lv_iload_n hx hb dX3_write_11 rfl (lv_at hl 0 rfl) ?_
      refine lv_bipush (v := (-2)) hx hb dX3_write_12 (by decide) ?_
      refine lv_icmp_eq (tgt := 21) hx hb dX3_write_14 (by decide) (fun hc => ?_) (fun hc => ?_)
      · rw [if_pos hc] at hf
        exact B21 r7 cu kn vl ok ov fo pa fi va H locs hP hS ls hf (lv_sub hl [1, 2, 3, 0] rfl)
      · rw [if_neg hc] at hf
        refine lv_iload_n hx hb dX3_write_17 rfl (lv_at hl 3 rfl) ?_
        refine lv_if_ge (tgt := 33) hx hb dX3_write_18 (by decide) (fun hc => ?_) (fun hc => ?_)
        · rw [if_pos hc] at hf
          refine lv_aload_n hx hb dX3_write_33 rfl (lv_at hl 1 rfl) ?_
          refine lv_iload_n hx hb dX3_write_34 rfl (lv_at hl 0 rfl) ?_
          refine lv_bipush (v := 6) hx hb dX3_write_35 (by decide) ?_
          refine lv_idiv hx hb dX3_write_37 (by decide) ?_
          obtain ⟨r9, e10, hf⟩ := ob_s hf
          try dsimp only at hf
          refine im_calli (va_runV (As := [.int (r7 / 6)]) (rest := []) ⟨hx, hb, hml, hown, hts⟩ (cq_isDirectory l dC dI cI cQ t1 t2 bs top mo m1 m2 m3 m4 m5 m6 m7 hg mt cu kn vl ok ov fo pa fi va nd nk nv no (r7 / 6) r9 e10 H.size) (cwV 1 hts (gs_V lk_280 lk_282 lk_283 lk_194 lk_281) rfl rfl rfl (by decide +kernel) ⟨Nat.le_of_ble_eq_true rfl, Nat.le_of_ble_eq_true rfl⟩) (pr_V gk_W (va_recv hG.1 hP (q0 := 0) rfl rfl) ⟨(gk_S hG hS (bb_A hg)), hP⟩) rfl rfl hl.1 rfl (lv_room (Nat.le_of_ble_eq_true rfl)) dX3_write_38 ⟨Nat.zero_le _, Nat.zero_le _⟩) hS (fun _ h => h) (fun H locs hP1 hk1 hS => ?_)
          have hP : va_P (dC, dI) vwCl (wm_M cI top mo m1 m2 m3 m4 m5 m6 m7 mt cu kn vl ok ov r9.2.1 r9.2.2.1 r9.2.2.2.1 r9.2.2.2.2 nd nk nv no) H := hP1
          refine lv_if_ne (tgt := 47) hx hb dX3_write_41 (by decide) (fun hc => ?_) (fun hc => ?_)
          · rw [if_neg hc] at hf
            refine lv_aload_n hx hb dX3_write_47 rfl (lv_at hl 1 rfl) ?_
            refine lv_iload_n hx hb dX3_write_48 rfl (lv_at hl 0 rfl) ?_
            obtain ⟨r11, e12, hf⟩ := ob_s hf
            try dsimp only at hf
            refine im_callv (va_runV (As := [.int r7]) (rest := []) ⟨hx, hb, hml, hown, hts⟩ (cq_look l dC dI cI cQ t1 t2 bs top mo m1 m2 m3 m4 m5 m6 m7 hg mt cu kn vl ok ov r9.2.1 r9.2.2.1 r9.2.2.2.1 r9.2.2.2.2 nd nk nv no r7 r11 e12 H.size) (cwV 1 hts (gs_V lk_211 lk_213 lk_214 lk_194 lk_212) rfl rfl rfl (by decide +kernel) ⟨Nat.le_of_ble_eq_true rfl, Nat.le_of_ble_eq_true rfl⟩) (pr_V gk_W (va_recv hG.1 hP (q0 := 0) rfl rfl) ⟨(gk_S hG hS (bb_A hg)), hP⟩) rfl rfl hl.1 rfl (lv_room (Nat.le_of_ble_eq_true rfl)) dX3_write_49 ⟨Nat.zero_le _, Nat.zero_le _⟩) hS (fun _ h => h) (fun H locs hP1 hk1 hS => ?_)
            have hP : va_P (dC, dI) vwCl (wm_M cI top mo m1 m2 m3 m4 m5 m6 m7 mt cu kn vl ok ov r11.1 r11.2.1 r11.2.2.1 r11.2.2.2 nd nk nv no) H := hP1
            refine lv_aload_n hx hb dX3_write_52 rfl (lv_at hl 1 rfl) ?_
            refine va_get (D := (dC, dI)) (ci := 2) (v := .int r11.1) (C := RX3) (T := TX3) (N := 15) hx hb hts hiX3 hown hG.1 hP 0 rfl rfl 7 (by decide) (hts _ (tw_in lk_202)) (fun _ h9 => h9) rfl dX3_write_53 ?_
            refine lv_iconst (v := 2) hx hb dX3_write_56 (by decide) ?_
            refine lv_icmp_ne (tgt := 63) hx hb dX3_write_57 (by decide) (fun hc => ?_) (fun hc => ?_)
            · rw [if_neg hc] at hf
              refine lv_aload_n hx hb dX3_write_63 rfl (lv_at hl 1 rfl) ?_
              refine va_get (D := (dC, dI)) (ci := 2) (v := .int cu) (C := RX3) (T := TX3) (N := 15) hx hb hts hiX3 hown hG.1 hP 0 rfl rfl 2 (by decide) (hts _ (tw_in lk_223)) (fun _ h9 => h9) rfl dX3_write_64 ?_
              refine lv_istore (lv' := [(4, .int cu), (3, .int r7), (0, .ref mo), (1, .int x1), (2, .int x2)]) hx hb dX3_write_67 hl (by decide) rfl (fun ls hl => ?_)
              refine lv_aload_n hx hb dX3_write_69 rfl (lv_at hl 2 rfl) ?_
              refine va_get (D := (dC, dI)) (ci := 2) (v := .int r11.1) (C := RX3) (T := TX3) (N := 15) hx hb hts hiX3 hown hG.1 hP 0 rfl rfl 7 (by decide) (hts _ (tw_in lk_202)) (fun _ h9 => h9) rfl dX3_write_70 ?_
              refine lv_iconst (v := 1) hx hb dX3_write_73 (by decide) ?_
              refine lv_icmp_ne (tgt := 92) hx hb dX3_write_74 (by decide) (fun hc => ?_) (fun hc => ?_)
              · rw [if_neg hc] at hf
                exact B92 r7 cu cu kn vl ok ov r11.1 r11.2.1 r11.2.2.1 r11.2.2.2 H locs hP hS ls hf (lv_sub hl [2, 3, 4, 1, 0] rfl)
              · rw [if_pos hc] at hf
                refine lv_aload_n hx hb dX3_write_77 rfl (lv_at hl 2 rfl) ?_
                refine va_get (D := (dC, dI)) (ci := 2) (v := .int r11.2.2.1) (C := RX3) (T := TX3) (N := 15) hx hb hts hiX3 hown hG.1 hP 0 rfl rfl 9 (by decide) (hts _ (tw_in lk_204)) (fun _ h9 => h9) rfl dX3_write_78 ?_
                refine lv_aload_n hx hb dX3_write_81 rfl (lv_at hl 2 rfl) ?_
                refine va_get (D := (dC, dI)) (ci := 2) (v := .int (nI top)) (C := RX3) (T := TX3) (N := 15) hx hb hts hiX3 hown hG.1 hP 0 rfl rfl 0 (by decide) (hts _ (tw_in lk_206)) (fun _ h9 => h9) rfl dX3_write_82 ?_
                refine lv_icmp_ge (tgt := 92) hx hb dX3_write_85 (by decide) (fun hc => ?_) (fun hc => ?_)
                · rw [if_pos hc] at hf
                  exact B92 r7 cu cu kn vl ok ov r11.1 r11.2.1 r11.2.2.1 r11.2.2.2 H locs hP hS ls hf (lv_sub hl [2, 3, 4, 1, 0] rfl)
                · rw [if_neg hc] at hf
                  refine lv_iconst (v := 1) hx hb dX3_write_88 (by decide) ?_
                  refine lv_goto (tgt := 93) hx hb dX3_write_89 (by decide) ?_
                  exact B93 r7 cu 1 cu kn vl ok ov r11.1 r11.2.1 r11.2.2.1 r11.2.2.2 H locs hP hS ls hf (lv_sub hl [2, 3, 4, 1, 0] rfl)
            · rw [if_pos hc] at hf
              refine lv_bipush (v := (-6)) hx hb dX3_write_60 (by decide) ?_
              obtain rfl := Option.some.inj hf
              rw [hQ]
              exact im_iret hx hb hr (vp_nar_int _) hS hP dX3_write_62 hlocks
          · rw [if_pos hc] at hf
            refine lv_bipush (v := (-4)) hx hb dX3_write_44 (by decide) ?_
            obtain rfl := Option.some.inj hf
            rw [hQ]
            exact im_iret hx hb hr (vp_nar_int _) hS hP dX3_write_46 hlocks
        · rw [if_neg hc] at hf
          exact B21 r7 cu kn vl ok ov fo pa fi va H locs hP hS ls hf (lv_sub hl [1, 2, 3, 0] rfl)
  exact hgo s.heap [] hP va_S.rf
set_option maxHeartbeats 4000000 in
set_option maxRecDepth 100000 in
theorem cq_remove (l : Launch) (dC : Nat → ClassId) (dI : Nat → Nat → Nat) (cI cQ : ClassId) (t1 t2 bs : Nat) (top mo m1 m2 m3 m4 m5 m6 m7 : Nat) (hg : gd_A bs [mo, m1, m2, m3, m4, m5, m6, m7]) (mt : Int32) (cu : Int32) (kn : Nat → Int32) (vl : Nat → Int32) (ok : Nat → Int32) (ov : Nat → Int32) (fo : Int32) (pa : Int32) (fi : Int32) (va : Int32) (nd : Nat → Int32) (nk : Nat → Int32) (nv : Nat → Int32) (no : Int32) (x1 : Int32) (v0 : Int32 × Int32 × (Nat → Int32) × (Nat → Int32) × (Nat → Int32) × (Nat → Int32) × Int32 × Int32 × Int32 × Int32) (h : fq_remove top mt cu kn vl ok ov fo pa fi va x1 = some v0) : im_I l yX3_remove wsX3_remove rm_4_91 [.ref mo, .int x1] (gk_G dC dI cI cQ t1 t2 bs (wm_M cI top mo m1 m2 m3 m4 m5 m6 m7 mt cu kn vl ok ov fo pa fi va nd nk nv no)) v0.1 (va_P (dC, dI) vwCl (wm_M cI top mo m1 m2 m3 m4 m5 m6 m7 mt v0.2.1 v0.2.2.1 v0.2.2.2.1 v0.2.2.2.2.1 v0.2.2.2.2.2.1 v0.2.2.2.2.2.2.1 v0.2.2.2.2.2.2.2.1 v0.2.2.2.2.2.2.2.2.1 v0.2.2.2.2.2.2.2.2.2 nd nk nv no)) (in_A [mo, m1, m2, m3, m4, m5, m6, m7]) := by
  intro sz
  refine Met.ofW (cc := cX3_remove) (maxL := 4) (ret := (some .int)) (by decide) rfl ?_
  intro p e s m args below meth c_ s₁ B hml hv
  obtain ⟨rfl, hsz, hG, hP⟩ := hv
  have hx := B.exec
  have hb := B.bytes
  have hr := B.returns
  have hts := atoms_spec (ws := wsX3_remove) B.pre
  have hown : s.vm.findClass RX3 = some m.cls := findClass_of_methodNamed B.named
  have hlocks := B.notSynchronized
  have hiX3 : ∀ w ∈ u_ws RX3 TX3 15, w ∈ wsX3_remove := fun w hw => tw_in (usX3 w hw)
  have hl := lv_entry ([.ref mo, .int x1]) (n := 4) (Nat.le_of_ble_eq_true rfl)
  rw [lg_entry_eq]
  generalize (lg_sl ([.ref mo, .int x1]) ++ List.replicate (4 - (lg_sl ([.ref mo, .int x1])).length) Slot.unset).toArray = ls at hl ⊢
  have hl : lv_has ls 4 [(0, .ref mo), (1, .int x1)] := hl
  refine nm_Q (fun Q hQ => ?_)
  have B46 : ∀ (x2 : Int32) (cu : Int32) (kn : Nat → Int32) (vl : Nat → Int32) (ok : Nat → Int32) (ov : Nat → Int32) (fo : Int32) (pa : Int32) (fi : Int32) (va : Int32), ∀ (H : Heap) (locs : List Loc), va_P (dC, dI) vwCl (wm_M cI top mo m1 m2 m3 m4 m5 m6 m7 mt cu kn vl ok ov fo pa fi va nd nk nv no) H → va_S (in_A [mo, m1, m2, m3, m4, m5, m6, m7]) s.heap H locs → ∀ ls : Array Slot, fq_remove_46 top mt x1 x2 cu kn vl ok ov fo pa fi va = some v0 → lv_has ls 4 [(0, .ref mo), (1, .int x1), (2, .int x2)] → W p l e (headSpec wsX3_remove rm_4_91).room s m ([.ref mo, .int x1] : List Value).toArray below meth c_ H locs 0 0 Q (F0 m 46 ls []) := by
    intro x2 cu kn vl ok ov fo pa fi va H locs hP hS ls hf hl
    unfold fq_remove_46 at hf
    refine lv_aload_n hx hb dX3_remove_46 rfl (lv_at hl 0 rfl) ?_
    refine va_get (D := (dC, dI)) (ci := 2) (v := .int cu) (C := RX3) (T := TX3) (N := 15) hx hb hts hiX3 hown hG.1 hP 0 rfl rfl 2 (by decide) (hts _ (tw_in lk_223)) (fun _ h9 => h9) rfl dX3_remove_47 ?_
    refine lv_istore_n (lv' := [(3, .int cu), (0, .ref mo), (1, .int x1), (2, .int x2)]) hx hb dX3_remove_50 rfl hl (by decide) rfl (fun ls hl => ?_)
    refine lv_aload_n hx hb dX3_remove_51 rfl (lv_at hl 1 rfl) ?_
    obtain ⟨r1, e2, hf⟩ := ob_s hf
    try dsimp only at hf
    refine im_callv (va_runV (As := []) (rest := []) ⟨hx, hb, hml, hown, hts⟩ (cq_keep l dC dI cI cQ t1 t2 bs top mo m1 m2 m3 m4 m5 m6 m7 hg mt cu kn vl ok ov fo pa fi va nd nk nv no r1 e2 H.size) (cwV 0 hts (gs_V lk_284 lk_286 lk_287 lk_194 lk_285) rfl rfl rfl (by decide +kernel) ⟨Nat.le_of_ble_eq_true rfl, Nat.le_of_ble_eq_true rfl⟩) (pr_V gk_W (va_recv hG.1 hP (q0 := 0) rfl rfl) ⟨(gk_S hG hS (bb_A hg)), hP⟩) rfl rfl hl.1 rfl (lv_room (Nat.le_of_ble_eq_true rfl)) dX3_remove_52 ⟨Nat.zero_le _, Nat.zero_le _⟩) hS (fun _ h => h) (fun H locs hP1 hk1 hS => ?_)
    have hP : va_P (dC, dI) vwCl (wm_M cI top mo m1 m2 m3 m4 m5 m6 m7 mt cu kn vl r1.1 r1.2 fo pa fi va nd nk nv no) H := hP1
    refine lv_aload_n hx hb dX3_remove_55 rfl (lv_at hl 1 rfl) ?_
    refine lv_iload_n hx hb dX3_remove_56 rfl (lv_at hl 3 rfl) ?_
    obtain ⟨r3, e4, hf⟩ := ob_s hf
    try dsimp only at hf
    refine im_callv (va_runV (As := [.int x2]) (rest := []) ⟨hx, hb, hml, hown, hts⟩ (cq_unmake l dC dI cI cQ t1 t2 bs top mo m1 m2 m3 m4 m5 m6 m7 hg mt cu kn vl r1.1 r1.2 fo pa fi va nd nk nv no x2 r3 e4 H.size) (cwV 1 hts (gs_V lk_296 lk_298 lk_299 lk_194 lk_297) rfl rfl rfl (by decide +kernel) ⟨Nat.le_of_ble_eq_true rfl, Nat.le_of_ble_eq_true rfl⟩) (pr_V gk_W (va_recv hG.1 hP (q0 := 0) rfl rfl) ⟨(gk_S hG hS (bb_A hg)), hP⟩) rfl rfl hl.1 rfl (lv_room (Nat.le_of_ble_eq_true rfl)) dX3_remove_57 ⟨Nat.zero_le _, Nat.zero_le _⟩) hS (fun _ h => h) (fun H locs hP1 hk1 hS => ?_)
    have hP : va_P (dC, dI) vwCl (wm_M cI top mo m1 m2 m3 m4 m5 m6 m7 mt r3.1 r3.2.1 r3.2.2.1 r1.1 r1.2 r3.2.2.2.1 r3.2.2.2.2.1 r3.2.2.2.2.2.1 r3.2.2.2.2.2.2 nd nk nv no) H := hP1
    refine lv_aload_n hx hb dX3_remove_60 rfl (lv_at hl 1 rfl) ?_
    refine lv_iload_n hx hb dX3_remove_61 rfl (lv_at hl 0 rfl) ?_
    obtain ⟨r5, e6, hf⟩ := ob_s hf
    try dsimp only at hf
    refine im_calli (va_runV (As := [.int cu]) (rest := []) ⟨hx, hb, hml, hown, hts⟩ (cq_end l dC dI cI cQ t1 t2 bs top mo m1 m2 m3 m4 m5 m6 m7 hg mt r3.1 r3.2.1 r3.2.2.1 r1.1 r1.2 r3.2.2.2.1 r3.2.2.2.2.1 r3.2.2.2.2.2.1 r3.2.2.2.2.2.2 nd nk nv no cu r5 e6 H.size) (cwV 1 hts (gs_V lk_292 lk_294 lk_295 lk_194 lk_293) rfl rfl rfl (by decide +kernel) ⟨Nat.le_of_ble_eq_true rfl, Nat.le_of_ble_eq_true rfl⟩) (pr_V gk_W (va_recv hG.1 hP (q0 := 0) rfl rfl) ⟨(gk_S hG hS (bb_A hg)), hP⟩) rfl rfl hl.1 rfl (lv_room (Nat.le_of_ble_eq_true rfl)) dX3_remove_62 ⟨Nat.zero_le _, Nat.zero_le _⟩) hS (fun _ h => h) (fun H locs hP1 hk1 hS => ?_)
    have hP : va_P (dC, dI) vwCl (wm_M cI top mo m1 m2 m3 m4 m5 m6 m7 mt r5.2.1 r5.2.2.1 r5.2.2.2 r1.1 r1.2 r3.2.2.2.1 r3.2.2.2.2.1 r3.2.2.2.2.2.1 r3.2.2.2.2.2.2 nd nk nv no) H := hP1
    obtain rfl := Option.some.inj hf
    rw [hQ]
    exact im_iret hx hb hr (vp_nar_int _) hS hP dX3_remove_65 hlocks
  unfold fq_remove at h
  have hgo : ∀ (H : Heap) (locs : List Loc), va_P (dC, dI) vwCl (wm_M cI top mo m1 m2 m3 m4 m5 m6 m7 mt cu kn vl ok ov fo pa fi va nd nk nv no) H → va_S (in_A [mo, m1, m2, m3, m4, m5, m6, m7]) s.heap H locs → W p l e (headSpec wsX3_remove rm_4_91).room s m ([.ref mo, .int x1] : List Value).toArray below meth c_ H locs 0 0 Q (F0 m 0 ls []) := by
    intro H locs hP hS
    have hf := h
    refine lv_aload_n hx hb dX3_remove_0 rfl (lv_at hl 0 rfl) ?_
    refine lv_iload_n hx hb dX3_remove_1 rfl (lv_at hl 1 rfl) ?_
    obtain ⟨r7, e8, hf⟩ := ob_s hf
    try dsimp only at hf
    refine pu_calli (va_runV (As := [.int x1]) (rest := []) ⟨hx, hb, hml, hown, hts⟩ (cq_target l dC dI cI cQ t1 t2 bs top mo m1 m2 m3 m4 m5 m6 m7 hg mt cu kn vl ok ov fo pa fi va nd nk nv no x1 r7 e8 H.size) (cwV 1 hts (gs_V lk_276 lk_278 lk_279 lk_194 lk_277) rfl rfl rfl (by decide +kernel) ⟨Nat.le_of_ble_eq_true rfl, Nat.le_of_ble_eq_true rfl⟩) (pr_V gk_W (va_recv hG.1 hP (q0 := 0) rfl rfl) ⟨(gk_S hG hS (bb_A hg)), hP⟩) rfl rfl hl.1 rfl (lv_room (Nat.le_of_ble_eq_true rfl)) dX3_remove_2 ⟨Nat.zero_le _, Nat.zero_le _⟩) ?_
    refine lv_istore_n (lv' := [(2, .int r7), (0, .ref mo), (1, .int x1)]) hx hb dX3_remove_5 rfl hl (by decide) rfl (fun ls hl => ?_)
    refine lv_iload_n hx hb dX3_remove_6 rfl (lv_at hl 0 rfl) ?_
    refine lv_if_ge (tgt := 12) hx hb dX3_remove_7 (by decide) (fun hc => ?_) (fun hc => ?_)
    · rw [if_pos hc] at hf
      refine lv_aload_n hx hb dX3_remove_12 rfl (lv_at hl 1 rfl) ?_
      refine lv_iload_n hx hb dX3_remove_13 rfl (lv_at hl 0 rfl) ?_
      obtain ⟨r9, e10, hf⟩ := ob_s hf
      try dsimp only at hf
      refine im_callv (va_runV (As := [.int r7]) (rest := []) ⟨hx, hb, hml, hown, hts⟩ (cq_look l dC dI cI cQ t1 t2 bs top mo m1 m2 m3 m4 m5 m6 m7 hg mt cu kn vl ok ov fo pa fi va nd nk nv no r7 r9 e10 H.size) (cwV 1 hts (gs_V lk_211 lk_213 lk_214 lk_194 lk_212) rfl rfl rfl (by decide +kernel) ⟨Nat.le_of_ble_eq_true rfl, Nat.le_of_ble_eq_true rfl⟩) (pr_V gk_W (va_recv hG.1 hP (q0 := 0) rfl rfl) ⟨(gk_S hG hS (bb_A hg)), hP⟩) rfl rfl hl.1 rfl (lv_room (Nat.le_of_ble_eq_true rfl)) dX3_remove_14 ⟨Nat.zero_le _, Nat.zero_le _⟩) hS (fun _ h => h) (fun H locs hP1 hk1 hS => ?_)
      have hP : va_P (dC, dI) vwCl (wm_M cI top mo m1 m2 m3 m4 m5 m6 m7 mt cu kn vl ok ov r9.1 r9.2.1 r9.2.2.1 r9.2.2.2 nd nk nv no) H := hP1
      refine lv_aload_n hx hb dX3_remove_17 rfl (lv_at hl 1 rfl) ?_
      refine va_get (D := (dC, dI)) (ci := 2) (v := .int r9.1) (C := RX3) (T := TX3) (N := 15) hx hb hts hiX3 hown hG.1 hP 0 rfl rfl 7 (by decide) (hts _ (tw_in lk_202)) (fun _ h9 => h9) rfl dX3_remove_18 ?_
      refine lv_if_ne (tgt := 27) hx hb dX3_remove_21 (by decide) (fun hc => ?_) (fun hc => ?_)
      · rw [if_neg hc] at hf
        refine lv_aload_n hx hb dX3_remove_27 rfl (lv_at hl 1 rfl) ?_
        refine va_get (D := (dC, dI)) (ci := 2) (v := .int r9.1) (C := RX3) (T := TX3) (N := 15) hx hb hts hiX3 hown hG.1 hP 0 rfl rfl 7 (by decide) (hts _ (tw_in lk_202)) (fun _ h9 => h9) rfl dX3_remove_28 ?_
        refine lv_iconst (v := 2) hx hb dX3_remove_31 (by decide) ?_
        refine lv_icmp_ne (tgt := 46) hx hb dX3_remove_32 (by decide) (fun hc => ?_) (fun hc => ?_)
        · rw [if_neg hc] at hf
          exact B46 r7 cu kn vl ok ov r9.1 r9.2.1 r9.2.2.1 r9.2.2.2 H locs hP hS ls hf (lv_sub hl [1, 2, 0] rfl)
        · rw [if_pos hc] at hf
          refine lv_aload_n hx hb dX3_remove_35 rfl (lv_at hl 1 rfl) ?_
          refine lv_iload_n hx hb dX3_remove_36 rfl (lv_at hl 0 rfl) ?_
          obtain ⟨r11, e12, hf⟩ := ob_s hf
          try dsimp only at hf
          refine im_calli (va_runV (As := [.int r7]) (rest := []) ⟨hx, hb, hml, hown, hts⟩ (cq_children l dC dI cI cQ t1 t2 bs top mo m1 m2 m3 m4 m5 m6 m7 hg mt cu kn vl ok ov r9.1 r9.2.1 r9.2.2.1 r9.2.2.2 nd nk nv no r7 r11 e12 H.size) (cwV 1 hts (gs_V lk_265 lk_267 lk_268 lk_194 lk_266) rfl rfl rfl (by decide +kernel) ⟨Nat.le_of_ble_eq_true rfl, Nat.le_of_ble_eq_true rfl⟩) (pr_V gk_W (va_recv hG.1 hP (q0 := 0) rfl rfl) ⟨(gk_S hG hS (bb_A hg)), hP⟩) rfl rfl hl.1 rfl (lv_room (Nat.le_of_ble_eq_true rfl)) dX3_remove_37 ⟨Nat.zero_le _, Nat.zero_le _⟩) hS (fun _ h => h) (fun H locs hP1 hk1 hS => ?_)
          have hP : va_P (dC, dI) vwCl (wm_M cI top mo m1 m2 m3 m4 m5 m6 m7 mt cu kn vl ok ov r11.2.1 r11.2.2.1 r11.2.2.2.1 r11.2.2.2.2 nd nk nv no) H := hP1
          refine lv_if_le (tgt := 46) hx hb dX3_remove_40 (by decide) (fun hc => ?_) (fun hc => ?_)
          · rw [if_pos hc] at hf
            exact B46 r7 cu kn vl ok ov r11.2.1 r11.2.2.1 r11.2.2.2.1 r11.2.2.2.2 H locs hP hS ls hf (lv_sub hl [1, 2, 0] rfl)
          · rw [if_neg hc] at hf
            refine lv_bipush (v := (-8)) hx hb dX3_remove_43 (by decide) ?_
            obtain rfl := Option.some.inj hf
            rw [hQ]
            exact im_iret hx hb hr (vp_nar_int _) hS hP dX3_remove_45 hlocks
      · rw [if_pos hc] at hf
        refine lv_bipush (v := (-3)) hx hb dX3_remove_24 (by decide) ?_
        obtain rfl := Option.some.inj hf
        rw [hQ]
        exact im_iret hx hb hr (vp_nar_int _) hS hP dX3_remove_26 hlocks
    · rw [if_neg hc] at hf
      refine lv_iload_n hx hb dX3_remove_10 rfl (lv_at hl 0 rfl) ?_
      obtain rfl := Option.some.inj hf
      rw [hQ]
      exact im_iret hx hb hr (vp_nar_int _) hS hP dX3_remove_11 hlocks
  exact hgo s.heap [] hP va_S.rf
set_option maxHeartbeats 4000000 in
set_option maxRecDepth 100000 in
theorem cq_note (l : Launch) (dC : Nat → ClassId) (dI : Nat → Nat → Nat) (cI cQ : ClassId) (t1 t2 bs : Nat) (top mo m1 m2 m3 m4 m5 m6 m7 : Nat) (hg : gd_A bs [mo, m1, m2, m3, m4, m5, m6, m7]) (mt : Int32) (cu : Int32) (kn : Nat → Int32) (vl : Nat → Int32) (ok : Nat → Int32) (ov : Nat → Int32) (fo : Int32) (pa : Int32) (fi : Int32) (va : Int32) (nd : Nat → Int32) (nk : Nat → Int32) (nv : Nat → Int32) (no : Int32) (x1 : Int32) (v0 : Int32 × Int32 × Int32 × Int32 × Int32 × (Nat → Int32) × (Nat → Int32) × (Nat → Int32) × Int32) (h : fq_note top kn vl fo pa fi va nd nk nv no x1 = some v0) : im_I l yX3_note wsX3_note rm_2_48 [.ref mo, .int x1] (gk_G dC dI cI cQ t1 t2 bs (wm_M cI top mo m1 m2 m3 m4 m5 m6 m7 mt cu kn vl ok ov fo pa fi va nd nk nv no)) v0.1 (va_P (dC, dI) vwCl (wm_M cI top mo m1 m2 m3 m4 m5 m6 m7 mt cu kn vl ok ov v0.2.1 v0.2.2.1 v0.2.2.2.1 v0.2.2.2.2.1 v0.2.2.2.2.2.1 v0.2.2.2.2.2.2.1 v0.2.2.2.2.2.2.2.1 v0.2.2.2.2.2.2.2.2)) (in_A [mo, m1, m2, m3, m4, m5, m6, m7]) := by
  intro sz
  refine Met.ofW (cc := cX3_note) (maxL := 6) (ret := (some .int)) (by decide) rfl ?_
  intro p e s m args below meth c_ s₁ B hml hv
  obtain ⟨rfl, hsz, hG, hP⟩ := hv
  have hx := B.exec
  have hb := B.bytes
  have hr := B.returns
  have hts := atoms_spec (ws := wsX3_note) B.pre
  have hown : s.vm.findClass RX3 = some m.cls := findClass_of_methodNamed B.named
  have hlocks := B.notSynchronized
  have hiX3 : ∀ w ∈ u_ws RX3 TX3 15, w ∈ wsX3_note := fun w hw => tw_in (usX3 w hw)
  have hl := lv_entry ([.ref mo, .int x1]) (n := 6) (Nat.le_of_ble_eq_true rfl)
  rw [lg_entry_eq]
  generalize (lg_sl ([.ref mo, .int x1]) ++ List.replicate (6 - (lg_sl ([.ref mo, .int x1])).length) Slot.unset).toArray = ls at hl ⊢
  have hl : lv_has ls 6 [(0, .ref mo), (1, .int x1)] := hl
  refine nm_Q (fun Q hQ => ?_)
  have B135 : ∀ (k9 : Int32 → Int32 → Int32 → Int32 → Int32 → Int32 → (Nat → Int32) → (Nat → Int32) → (Nat → Int32) → Int32 → Option (Int32 × Int32 × Int32 × Int32 × Int32 × (Nat → Int32) × (Nat → Int32) × (Nat → Int32) × Int32)) (hk9 : ∀ (x2 : Int32) (x3 : Int32) (fo : Int32) (pa : Int32) (fi : Int32) (va : Int32) (nd : Nat → Int32) (nk : Nat → Int32) (nv : Nat → Int32) (no : Int32), ∀ (H : Heap) (locs : List Loc), va_P (dC, dI) vwCl (wm_M cI top mo m1 m2 m3 m4 m5 m6 m7 mt cu kn vl ok ov fo pa fi va nd nk nv no) H → va_S (in_A [mo, m1, m2, m3, m4, m5, m6, m7]) s.heap H locs → ∀ ls : Array Slot, k9 x2 x3 fo pa fi va nd nk nv no = some v0 → lv_has ls 6 [(0, .ref mo), (1, .int x1), (2, .int x2), (3, .int x3)] → W p l e (headSpec wsX3_note rm_2_48).room s m ([.ref mo, .int x1] : List Value).toArray below meth c_ H locs 0 0 Q (F0 m 9 ls [])), ∀ (x2 : Int32) (x3 : Int32) (x4 : Int32) (fo : Int32) (pa : Int32) (fi : Int32) (va : Int32) (nd : Nat → Int32) (nk : Nat → Int32) (nv : Nat → Int32) (no : Int32), ∀ (H : Heap) (locs : List Loc), va_P (dC, dI) vwCl (wm_M cI top mo m1 m2 m3 m4 m5 m6 m7 mt cu kn vl ok ov fo pa fi va nd nk nv no) H → va_S (in_A [mo, m1, m2, m3, m4, m5, m6, m7]) s.heap H locs → ∀ ls : Array Slot, fq_note_135 top kn vl x1 k9 x2 x3 x4 fo pa fi va nd nk nv no = some v0 → lv_has ls 6 [(0, .ref mo), (1, .int x1), (2, .int x2), (3, .int x3), (4, .int x4)] → W p l e (headSpec wsX3_note rm_2_48).room s m ([.ref mo, .int x1] : List Value).toArray below meth c_ H locs 0 0 Q (F0 m 135 ls []) := by
    intro k9 hk9
    intro x2 x3 x4 fo pa fi va nd nk nv no H locs hP hS ls hf hl
    unfold fq_note_135 at hf
    refine lv_iinc (k := 3) (v := x3 + 1) (lv' := [(3, .int (x3 + 1)), (0, .ref mo), (1, .int x1), (2, .int x2), (4, .int x4)]) hx hb dX3_note_135 hl rfl (by rfl) (by decide) rfl (fun ls hl => ?_)
    refine lv_goto (tgt := 9) hx hb dX3_note_138 (by decide) ?_
    exact hk9 x2 (x3 + 1) fo pa fi va nd nk nv no H locs hP hS ls hf (lv_sub hl [1, 2, 3, 0] rfl)
  have B134 : ∀ (k9 : Int32 → Int32 → Int32 → Int32 → Int32 → Int32 → (Nat → Int32) → (Nat → Int32) → (Nat → Int32) → Int32 → Option (Int32 × Int32 × Int32 × Int32 × Int32 × (Nat → Int32) × (Nat → Int32) × (Nat → Int32) × Int32)) (hk9 : ∀ (x2 : Int32) (x3 : Int32) (fo : Int32) (pa : Int32) (fi : Int32) (va : Int32) (nd : Nat → Int32) (nk : Nat → Int32) (nv : Nat → Int32) (no : Int32), ∀ (H : Heap) (locs : List Loc), va_P (dC, dI) vwCl (wm_M cI top mo m1 m2 m3 m4 m5 m6 m7 mt cu kn vl ok ov fo pa fi va nd nk nv no) H → va_S (in_A [mo, m1, m2, m3, m4, m5, m6, m7]) s.heap H locs → ∀ ls : Array Slot, k9 x2 x3 fo pa fi va nd nk nv no = some v0 → lv_has ls 6 [(0, .ref mo), (1, .int x1), (2, .int x2), (3, .int x3)] → W p l e (headSpec wsX3_note rm_2_48).room s m ([.ref mo, .int x1] : List Value).toArray below meth c_ H locs 0 0 Q (F0 m 9 ls [])), ∀ (x2 : Int32) (x3 : Int32) (x4 : Int32) (x5 : Int32) (z0 : Int32) (fo : Int32) (pa : Int32) (fi : Int32) (va : Int32) (nd : Nat → Int32) (nk : Nat → Int32) (nv : Nat → Int32) (no : Int32), ∀ (H : Heap) (locs : List Loc), va_P (dC, dI) vwCl (wm_M cI top mo m1 m2 m3 m4 m5 m6 m7 mt cu kn vl ok ov fo pa fi va nd nk nv no) H → va_S (in_A [mo, m1, m2, m3, m4, m5, m6, m7]) s.heap H locs → ∀ ls : Array Slot, fq_note_134 top kn vl x1 k9 x2 x3 x4 x5 z0 fo pa fi va nd nk nv no = some v0 → lv_has ls 6 [(0, .ref mo), (1, .int x1), (2, .int x2), (3, .int x3), (4, .int x4), (5, .int x5)] → W p l e (headSpec wsX3_note rm_2_48).room s m ([.ref mo, .int x1] : List Value).toArray below meth c_ H locs 0 0 Q (F0 m 134 ls [.int z0]) := by
    intro k9 hk9
    intro x2 x3 x4 x5 z0 fo pa fi va nd nk nv no H locs hP hS ls hf hl
    unfold fq_note_134 at hf
    refine lv_istore_n (lv' := [(2, .int z0), (0, .ref mo), (1, .int x1), (3, .int x3), (4, .int x4), (5, .int x5)]) hx hb dX3_note_134 rfl hl (by decide) rfl (fun ls hl => ?_)
    exact B135 k9 hk9 z0 x3 x4 fo pa fi va nd nk nv no H locs hP hS ls hf (lv_sub hl [1, 2, 0, 3, 4] rfl)
  have B53 : ∀ (k9 : Int32 → Int32 → Int32 → Int32 → Int32 → Int32 → (Nat → Int32) → (Nat → Int32) → (Nat → Int32) → Int32 → Option (Int32 × Int32 × Int32 × Int32 × Int32 × (Nat → Int32) × (Nat → Int32) × (Nat → Int32) × Int32)) (hk9 : ∀ (x2 : Int32) (x3 : Int32) (fo : Int32) (pa : Int32) (fi : Int32) (va : Int32) (nd : Nat → Int32) (nk : Nat → Int32) (nv : Nat → Int32) (no : Int32), ∀ (H : Heap) (locs : List Loc), va_P (dC, dI) vwCl (wm_M cI top mo m1 m2 m3 m4 m5 m6 m7 mt cu kn vl ok ov fo pa fi va nd nk nv no) H → va_S (in_A [mo, m1, m2, m3, m4, m5, m6, m7]) s.heap H locs → ∀ ls : Array Slot, k9 x2 x3 fo pa fi va nd nk nv no = some v0 → lv_has ls 6 [(0, .ref mo), (1, .int x1), (2, .int x2), (3, .int x3)] → W p l e (headSpec wsX3_note rm_2_48).room s m ([.ref mo, .int x1] : List Value).toArray below meth c_ H locs 0 0 Q (F0 m 9 ls [])), ∀ (x2 : Int32) (x3 : Int32) (x4 : Int32) (fo : Int32) (pa : Int32) (fi : Int32) (va : Int32) (nd : Nat → Int32) (nk : Nat → Int32) (nv : Nat → Int32) (no : Int32), ∀ (H : Heap) (locs : List Loc), va_P (dC, dI) vwCl (wm_M cI top mo m1 m2 m3 m4 m5 m6 m7 mt cu kn vl ok ov fo pa fi va nd nk nv no) H → va_S (in_A [mo, m1, m2, m3, m4, m5, m6, m7]) s.heap H locs → ∀ ls : Array Slot, fq_note_53 top kn vl x1 k9 x2 x3 x4 fo pa fi va nd nk nv no = some v0 → lv_has ls 6 [(0, .ref mo), (1, .int x1), (2, .int x2), (3, .int x3), (4, .int x4)] → W p l e (headSpec wsX3_note rm_2_48).room s m ([.ref mo, .int x1] : List Value).toArray below meth c_ H locs 0 0 Q (F0 m 53 ls []) := by
    intro k9 hk9
    intro x2 x3 x4 fo pa fi va nd nk nv no H locs hP hS ls hf hl
    unfold fq_note_53 at hf
    refine lv_iload hx hb dX3_note_53 (lv_at hl 4 rfl) ?_
    refine lv_if_eq (tgt := 135) hx hb dX3_note_55 (by decide) (fun hc => ?_) (fun hc => ?_)
    · rw [if_pos hc] at hf
      exact B135 k9 hk9 x2 x3 x4 fo pa fi va nd nk nv no H locs hP hS ls hf (lv_sub hl [0, 1, 2, 3, 4] rfl)
    · rw [if_neg hc] at hf
      refine lv_aload_n hx hb dX3_note_58 rfl (lv_at hl 0 rfl) ?_
      refine va_get (D := (dC, dI)) (ci := 2) (v := .int fo) (C := RX3) (T := TX3) (N := 15) hx hb hts hiX3 hown hG.1 hP 0 rfl rfl 7 (by decide) (hts _ (tw_in lk_202)) (fun _ h9 => h9) rfl dX3_note_59 ?_
      refine lv_if_le (tgt := 135) hx hb dX3_note_62 (by decide) (fun hc => ?_) (fun hc => ?_)
      · rw [if_pos hc] at hf
        exact B135 k9 hk9 x2 x3 x4 fo pa fi va nd nk nv no H locs hP hS ls hf (lv_sub hl [0, 1, 2, 3, 4] rfl)
      · rw [if_neg hc] at hf
        refine lv_aload_n hx hb dX3_note_65 rfl (lv_at hl 0 rfl) ?_
        refine va_get (D := (dC, dI)) (ci := 2) (v := .ref m5) (C := RX3) (T := TX3) (N := 15) hx hb hts hiX3 hown hG.1 hP 0 rfl rfl 11 (by decide) (hts _ (tw_in lk_300)) (fun _ h9 => h9) rfl dX3_note_66 ?_
        refine lv_aload_n hx hb dX3_note_69 rfl (lv_at hl 0 rfl) ?_
        refine va_get (D := (dC, dI)) (ci := 2) (v := .int no) (C := RX3) (T := TX3) (N := 15) hx hb hts hiX3 hown hG.1 hP 0 rfl rfl 14 (by decide) (hts _ (tw_in lk_301)) (fun _ h9 => h9) rfl dX3_note_70 ?_
        refine lv_iload_n hx hb dX3_note_73 rfl (lv_at hl 3 rfl) ?_
        obtain ⟨hq, hf⟩ := ck_s hf
        refine va_iast hx hb hG.1 hP (dd_A hg rfl) hS 5 0 rfl rfl hq dX3_note_74 (fun H locs hP _ hS => ?_)
        have hP : va_P (dC, dI) vwCl (wm_M cI top mo m1 m2 m3 m4 m5 m6 m7 mt cu kn vl ok ov fo pa fi va (upd nd no.toNatClampNeg x3) nk nv no) H := hP
        refine lv_aload_n hx hb dX3_note_75 rfl (lv_at hl 0 rfl) ?_
        refine va_get (D := (dC, dI)) (ci := 2) (v := .ref m6) (C := RX3) (T := TX3) (N := 15) hx hb hts hiX3 hown hG.1 hP 0 rfl rfl 12 (by decide) (hts _ (tw_in lk_302)) (fun _ h9 => h9) rfl dX3_note_76 ?_
        refine lv_aload_n hx hb dX3_note_79 rfl (lv_at hl 0 rfl) ?_
        refine va_get (D := (dC, dI)) (ci := 2) (v := .int no) (C := RX3) (T := TX3) (N := 15) hx hb hts hiX3 hown hG.1 hP 0 rfl rfl 14 (by decide) (hts _ (tw_in lk_301)) (fun _ h9 => h9) rfl dX3_note_80 ?_
        refine lv_aload_n hx hb dX3_note_83 rfl (lv_at hl 0 rfl) ?_
        refine va_get (D := (dC, dI)) (ci := 2) (v := .int fo) (C := RX3) (T := TX3) (N := 15) hx hb hts hiX3 hown hG.1 hP 0 rfl rfl 7 (by decide) (hts _ (tw_in lk_202)) (fun _ h9 => h9) rfl dX3_note_84 ?_
        obtain ⟨hq, hf⟩ := ck_s hf
        refine va_iast hx hb hG.1 hP (dd_A hg rfl) hS 6 0 rfl rfl hq dX3_note_87 (fun H locs hP _ hS => ?_)
        have hP : va_P (dC, dI) vwCl (wm_M cI top mo m1 m2 m3 m4 m5 m6 m7 mt cu kn vl ok ov fo pa fi va (upd nd no.toNatClampNeg x3) (upd nk no.toNatClampNeg fo) nv no) H := hP
        refine lv_aload_n hx hb dX3_note_88 rfl (lv_at hl 0 rfl) ?_
        refine va_get (D := (dC, dI)) (ci := 2) (v := .ref m7) (C := RX3) (T := TX3) (N := 15) hx hb hts hiX3 hown hG.1 hP 0 rfl rfl 13 (by decide) (hts _ (tw_in lk_303)) (fun _ h9 => h9) rfl dX3_note_89 ?_
        refine lv_aload_n hx hb dX3_note_92 rfl (lv_at hl 0 rfl) ?_
        refine va_get (D := (dC, dI)) (ci := 2) (v := .int no) (C := RX3) (T := TX3) (N := 15) hx hb hts hiX3 hown hG.1 hP 0 rfl rfl 14 (by decide) (hts _ (tw_in lk_301)) (fun _ h9 => h9) rfl dX3_note_93 ?_
        refine lv_aload_n hx hb dX3_note_96 rfl (lv_at hl 0 rfl) ?_
        refine va_get (D := (dC, dI)) (ci := 2) (v := .int va) (C := RX3) (T := TX3) (N := 15) hx hb hts hiX3 hown hG.1 hP 0 rfl rfl 10 (by decide) (hts _ (tw_in lk_201)) (fun _ h9 => h9) rfl dX3_note_97 ?_
        obtain ⟨hq, hf⟩ := ck_s hf
        refine va_iast hx hb hG.1 hP (dd_A hg rfl) hS 7 0 rfl rfl hq dX3_note_100 (fun H locs hP _ hS => ?_)
        have hP : va_P (dC, dI) vwCl (wm_M cI top mo m1 m2 m3 m4 m5 m6 m7 mt cu kn vl ok ov fo pa fi va (upd nd no.toNatClampNeg x3) (upd nk no.toNatClampNeg fo) (upd nv no.toNatClampNeg va) no) H := hP
        refine lv_aload_n hx hb dX3_note_101 rfl (lv_at hl 0 rfl) ?_
        refine lv_dup hx hb dX3_note_102 rfl ?_
        refine va_get (D := (dC, dI)) (ci := 2) (v := .int no) (C := RX3) (T := TX3) (N := 15) hx hb hts hiX3 hown hG.1 hP 0 rfl rfl 14 (by decide) (hts _ (tw_in lk_301)) (fun _ h9 => h9) rfl dX3_note_103 ?_
        refine lv_iconst (v := 1) hx hb dX3_note_106 (by decide) ?_
        refine lv_iadd hx hb dX3_note_107 ?_
        refine va_put (D := (dC, dI)) (ci := 2) (v := .int (no + 1)) (ty := .int) (C := RX3) (T := TX3) (N := 15) hx hb hts hiX3 tyX3 tyX3_ok nmX3 hown hG.1 hP (dd_A hg rfl) hS 0 rfl rfl 14 (by decide) (hts _ (tw_in lk_301)) (fun _ h9 => h9) rfl (by decide +kernel) rfl rfl (Nat.le_of_ble_eq_true rfl) dX3_note_108 (fun H locs hP _ hS => ?_)
        have hP : va_P (dC, dI) vwCl (wm_M cI top mo m1 m2 m3 m4 m5 m6 m7 mt cu kn vl ok ov fo pa fi va (upd nd no.toNatClampNeg x3) (upd nk no.toNatClampNeg fo) (upd nv no.toNatClampNeg va) (no + 1)) H := hP
        refine lv_iload_n hx hb dX3_note_111 rfl (lv_at hl 3 rfl) ?_
        obtain ⟨r1, e2, hf⟩ := ob_s hf
        try dsimp only at hf
        refine pu_calli (va_runS (As := [.int x3]) (rest := []) ⟨hx, hb, hml, hown, hts⟩ (cq_depth l dC dI cI cQ t1 t2 bs x3 r1 e2 H.size) (va_cwS 1 hts (gs_S lk_193 lk_196 lk_194 lk_195) rfl rfl rfl (by decide +kernel) ⟨Nat.le_of_ble_eq_true rfl, Nat.le_of_ble_eq_true rfl⟩) (pr_S gk_W ⟨(gk_S hG hS (bb_A hg)), pz_0⟩) rfl rfl hl.1 rfl (lv_room (Nat.le_of_ble_eq_true rfl)) dX3_note_112 ⟨Nat.zero_le _, Nat.zero_le _⟩) ?_
        refine lv_iload_n hx hb dX3_note_115 rfl (lv_at hl 1 rfl) ?_
        obtain ⟨r3, e4, hf⟩ := ob_s hf
        try dsimp only at hf
        refine pu_calli (va_runS (As := [.int x1]) (rest := [.int r1]) ⟨hx, hb, hml, hown, hts⟩ (cq_depth l dC dI cI cQ t1 t2 bs x1 r3 e4 H.size) (va_cwS 1 hts (gs_S lk_193 lk_196 lk_194 lk_195) rfl rfl rfl (by decide +kernel) ⟨Nat.le_of_ble_eq_true rfl, Nat.le_of_ble_eq_true rfl⟩) (pr_S gk_W ⟨(gk_S hG hS (bb_A hg)), pz_0⟩) rfl rfl hl.1 rfl (lv_room (Nat.le_of_ble_eq_true rfl)) dX3_note_116 ⟨Nat.zero_le _, Nat.zero_le _⟩) ?_
        refine lv_isub hx hb dX3_note_119 ?_
        refine lv_istore (lv' := [(5, .int (r1 - r3)), (0, .ref mo), (1, .int x1), (2, .int x2), (3, .int x3), (4, .int x4)]) hx hb dX3_note_120 hl (by decide) rfl (fun ls hl => ?_)
        refine lv_iload hx hb dX3_note_122 (lv_at hl 0 rfl) ?_
        refine lv_iload_n hx hb dX3_note_124 rfl (lv_at hl 3 rfl) ?_
        refine lv_icmp_le (tgt := 133) hx hb dX3_note_125 (by decide) (fun hc => ?_) (fun hc => ?_)
        · rw [if_pos hc] at hf
          refine lv_iload_n hx hb dX3_note_133 rfl (lv_at hl 3 rfl) ?_
          exact B134 k9 hk9 x2 x3 x4 (r1 - r3) x2 fo pa fi va (upd nd no.toNatClampNeg x3) (upd nk no.toNatClampNeg fo) (upd nv no.toNatClampNeg va) (no + 1) H locs hP hS ls hf (lv_sub hl [1, 2, 3, 4, 5, 0] rfl)
        · rw [if_neg hc] at hf
          refine lv_iload hx hb dX3_note_128 (lv_at hl 0 rfl) ?_
          refine lv_goto (tgt := 134) hx hb dX3_note_130 (by decide) ?_
          exact B134 k9 hk9 x2 x3 x4 (r1 - r3) (r1 - r3) fo pa fi va (upd nd no.toNatClampNeg x3) (upd nk no.toNatClampNeg fo) (upd nv no.toNatClampNeg va) (no + 1) H locs hP hS ls hf (lv_sub hl [1, 2, 3, 4, 5, 0] rfl)
  have B41 : ∀ (k9 : Int32 → Int32 → Int32 → Int32 → Int32 → Int32 → (Nat → Int32) → (Nat → Int32) → (Nat → Int32) → Int32 → Option (Int32 × Int32 × Int32 × Int32 × Int32 × (Nat → Int32) × (Nat → Int32) × (Nat → Int32) × Int32)) (hk9 : ∀ (x2 : Int32) (x3 : Int32) (fo : Int32) (pa : Int32) (fi : Int32) (va : Int32) (nd : Nat → Int32) (nk : Nat → Int32) (nv : Nat → Int32) (no : Int32), ∀ (H : Heap) (locs : List Loc), va_P (dC, dI) vwCl (wm_M cI top mo m1 m2 m3 m4 m5 m6 m7 mt cu kn vl ok ov fo pa fi va nd nk nv no) H → va_S (in_A [mo, m1, m2, m3, m4, m5, m6, m7]) s.heap H locs → ∀ ls : Array Slot, k9 x2 x3 fo pa fi va nd nk nv no = some v0 → lv_has ls 6 [(0, .ref mo), (1, .int x1), (2, .int x2), (3, .int x3)] → W p l e (headSpec wsX3_note rm_2_48).room s m ([.ref mo, .int x1] : List Value).toArray below meth c_ H locs 0 0 Q (F0 m 9 ls [])), ∀ (x2 : Int32) (x3 : Int32) (z0 : Int32) (fo : Int32) (pa : Int32) (fi : Int32) (va : Int32) (nd : Nat → Int32) (nk : Nat → Int32) (nv : Nat → Int32) (no : Int32), ∀ (H : Heap) (locs : List Loc), va_P (dC, dI) vwCl (wm_M cI top mo m1 m2 m3 m4 m5 m6 m7 mt cu kn vl ok ov fo pa fi va nd nk nv no) H → va_S (in_A [mo, m1, m2, m3, m4, m5, m6, m7]) s.heap H locs → ∀ ls : Array Slot, fq_note_41 top kn vl x1 k9 x2 x3 z0 fo pa fi va nd nk nv no = some v0 → lv_has ls 6 [(0, .ref mo), (1, .int x1), (2, .int x2), (3, .int x3)] → W p l e (headSpec wsX3_note rm_2_48).room s m ([.ref mo, .int x1] : List Value).toArray below meth c_ H locs 0 0 Q (F0 m 41 ls [.int z0]) := by
    intro k9 hk9
    intro x2 x3 z0 fo pa fi va nd nk nv no H locs hP hS ls hf hl
    unfold fq_note_41 at hf
    refine lv_istore (lv' := [(4, .int z0), (0, .ref mo), (1, .int x1), (2, .int x2), (3, .int x3)]) hx hb dX3_note_41 hl (by decide) rfl (fun ls hl => ?_)
    refine lv_iload hx hb dX3_note_43 (lv_at hl 0 rfl) ?_
    refine lv_if_eq (tgt := 53) hx hb dX3_note_45 (by decide) (fun hc => ?_) (fun hc => ?_)
    · rw [if_pos hc] at hf
      exact B53 k9 hk9 x2 x3 z0 fo pa fi va nd nk nv no H locs hP hS ls hf (lv_sub hl [1, 2, 3, 4, 0] rfl)
    · rw [if_neg hc] at hf
      refine lv_aload_n hx hb dX3_note_48 rfl (lv_at hl 1 rfl) ?_
      refine lv_iload_n hx hb dX3_note_49 rfl (lv_at hl 4 rfl) ?_
      obtain ⟨r5, e6, hf⟩ := ob_s hf
      try dsimp only at hf
      refine im_callv (va_runV (As := [.int x3]) (rest := []) ⟨hx, hb, hml, hown, hts⟩ (cq_look l dC dI cI cQ t1 t2 bs top mo m1 m2 m3 m4 m5 m6 m7 hg mt cu kn vl ok ov fo pa fi va nd nk nv no x3 r5 e6 H.size) (cwV 1 hts (gs_V lk_211 lk_213 lk_214 lk_194 lk_212) rfl rfl rfl (by decide +kernel) ⟨Nat.le_of_ble_eq_true rfl, Nat.le_of_ble_eq_true rfl⟩) (pr_V gk_W (va_recv hG.1 hP (q0 := 0) rfl rfl) ⟨(gk_S hG hS (bb_A hg)), hP⟩) rfl rfl hl.1 rfl (lv_room (Nat.le_of_ble_eq_true rfl)) dX3_note_50 ⟨Nat.zero_le _, Nat.zero_le _⟩) hS (fun _ h => h) (fun H locs hP1 hk1 hS => ?_)
      have hP : va_P (dC, dI) vwCl (wm_M cI top mo m1 m2 m3 m4 m5 m6 m7 mt cu kn vl ok ov r5.1 r5.2.1 r5.2.2.1 r5.2.2.2 nd nk nv no) H := hP1
      exact B53 k9 hk9 x2 x3 z0 r5.1 r5.2.1 r5.2.2.1 r5.2.2.2 nd nk nv no H locs hP hS ls hf (lv_sub hl [1, 2, 3, 4, 0] rfl)
  have B36 : ∀ (k9 : Int32 → Int32 → Int32 → Int32 → Int32 → Int32 → (Nat → Int32) → (Nat → Int32) → (Nat → Int32) → Int32 → Option (Int32 × Int32 × Int32 × Int32 × Int32 × (Nat → Int32) × (Nat → Int32) × (Nat → Int32) × Int32)) (hk9 : ∀ (x2 : Int32) (x3 : Int32) (fo : Int32) (pa : Int32) (fi : Int32) (va : Int32) (nd : Nat → Int32) (nk : Nat → Int32) (nv : Nat → Int32) (no : Int32), ∀ (H : Heap) (locs : List Loc), va_P (dC, dI) vwCl (wm_M cI top mo m1 m2 m3 m4 m5 m6 m7 mt cu kn vl ok ov fo pa fi va nd nk nv no) H → va_S (in_A [mo, m1, m2, m3, m4, m5, m6, m7]) s.heap H locs → ∀ ls : Array Slot, k9 x2 x3 fo pa fi va nd nk nv no = some v0 → lv_has ls 6 [(0, .ref mo), (1, .int x1), (2, .int x2), (3, .int x3)] → W p l e (headSpec wsX3_note rm_2_48).room s m ([.ref mo, .int x1] : List Value).toArray below meth c_ H locs 0 0 Q (F0 m 9 ls [])), ∀ (x2 : Int32) (x3 : Int32) (fo : Int32) (pa : Int32) (fi : Int32) (va : Int32) (nd : Nat → Int32) (nk : Nat → Int32) (nv : Nat → Int32) (no : Int32), ∀ (H : Heap) (locs : List Loc), va_P (dC, dI) vwCl (wm_M cI top mo m1 m2 m3 m4 m5 m6 m7 mt cu kn vl ok ov fo pa fi va nd nk nv no) H → va_S (in_A [mo, m1, m2, m3, m4, m5, m6, m7]) s.heap H locs → ∀ ls : Array Slot, fq_note_36 top kn vl x1 k9 x2 x3 fo pa fi va nd nk nv no = some v0 → lv_has ls 6 [(0, .ref mo), (1, .int x1), (2, .int x2), (3, .int x3)] → W p l e (headSpec wsX3_note rm_2_48).room s m ([.ref mo, .int x1] : List Value).toArray below meth c_ H locs 0 0 Q (F0 m 36 ls []) := by
    intro k9 hk9
    intro x2 x3 fo pa fi va nd nk nv no H locs hP hS ls hf hl
    unfold fq_note_36 at hf
    refine lv_iconst (v := 1) hx hb dX3_note_36 (by decide) ?_
    refine lv_goto (tgt := 41) hx hb dX3_note_37 (by decide) ?_
    exact B41 k9 hk9 x2 x3 1 fo pa fi va nd nk nv no H locs hP hS ls hf (lv_sub hl [0, 1, 2, 3] rfl)
  have B40 : ∀ (k9 : Int32 → Int32 → Int32 → Int32 → Int32 → Int32 → (Nat → Int32) → (Nat → Int32) → (Nat → Int32) → Int32 → Option (Int32 × Int32 × Int32 × Int32 × Int32 × (Nat → Int32) × (Nat → Int32) × (Nat → Int32) × Int32)) (hk9 : ∀ (x2 : Int32) (x3 : Int32) (fo : Int32) (pa : Int32) (fi : Int32) (va : Int32) (nd : Nat → Int32) (nk : Nat → Int32) (nv : Nat → Int32) (no : Int32), ∀ (H : Heap) (locs : List Loc), va_P (dC, dI) vwCl (wm_M cI top mo m1 m2 m3 m4 m5 m6 m7 mt cu kn vl ok ov fo pa fi va nd nk nv no) H → va_S (in_A [mo, m1, m2, m3, m4, m5, m6, m7]) s.heap H locs → ∀ ls : Array Slot, k9 x2 x3 fo pa fi va nd nk nv no = some v0 → lv_has ls 6 [(0, .ref mo), (1, .int x1), (2, .int x2), (3, .int x3)] → W p l e (headSpec wsX3_note rm_2_48).room s m ([.ref mo, .int x1] : List Value).toArray below meth c_ H locs 0 0 Q (F0 m 9 ls [])), ∀ (x2 : Int32) (x3 : Int32) (fo : Int32) (pa : Int32) (fi : Int32) (va : Int32) (nd : Nat → Int32) (nk : Nat → Int32) (nv : Nat → Int32) (no : Int32), ∀ (H : Heap) (locs : List Loc), va_P (dC, dI) vwCl (wm_M cI top mo m1 m2 m3 m4 m5 m6 m7 mt cu kn vl ok ov fo pa fi va nd nk nv no) H → va_S (in_A [mo, m1, m2, m3, m4, m5, m6, m7]) s.heap H locs → ∀ ls : Array Slot, fq_note_40 top kn vl x1 k9 x2 x3 fo pa fi va nd nk nv no = some v0 → lv_has ls 6 [(0, .ref mo), (1, .int x1), (2, .int x2), (3, .int x3)] → W p l e (headSpec wsX3_note rm_2_48).room s m ([.ref mo, .int x1] : List Value).toArray below meth c_ H locs 0 0 Q (F0 m 40 ls []) := by
    intro k9 hk9
    intro x2 x3 fo pa fi va nd nk nv no H locs hP hS ls hf hl
    unfold fq_note_40 at hf
    refine lv_iconst (v := 0) hx hb dX3_note_40 (by decide) ?_
    exact B41 k9 hk9 x2 x3 0 fo pa fi va nd nk nv no H locs hP hS ls hf (lv_sub hl [0, 1, 2, 3] rfl)
  have B9 : ∀ n : Nat, ∀ (x2 : Int32) (x3 : Int32) (fo : Int32) (pa : Int32) (fi : Int32) (va : Int32) (nd : Nat → Int32) (nk : Nat → Int32) (nv : Nat → Int32) (no : Int32), ∀ (H : Heap) (locs : List Loc), va_P (dC, dI) vwCl (wm_M cI top mo m1 m2 m3 m4 m5 m6 m7 mt cu kn vl ok ov fo pa fi va nd nk nv no) H → va_S (in_A [mo, m1, m2, m3, m4, m5, m6, m7]) s.heap H locs → ∀ ls : Array Slot, fq_note_9 top kn vl x1 n x2 x3 fo pa fi va nd nk nv no = some v0 → lv_has ls 6 [(0, .ref mo), (1, .int x1), (2, .int x2), (3, .int x3)] → W p l e (headSpec wsX3_note rm_2_48).room s m ([.ref mo, .int x1] : List Value).toArray below meth c_ H locs 0 0 Q (F0 m 9 ls []) := by
    intro n
    induction n with
    | zero => 
      intro x2 x3 fo pa fi va nd nk nv no H locs hP hS ls hf hl
      exact nomatch (show (none : Option (Int32 × Int32 × Int32 × Int32 × Int32 × (Nat → Int32) × (Nat → Int32) × (Nat → Int32) × Int32)) = some v0 from hf)
    | succ n ih =>
      intro x2 x3 fo pa fi va nd nk nv no H locs hP hS ls hf hl
      rw [fq_note_9.eq_2] at hf
      try dsimp only at hf
      refine lv_iload_n hx hb dX3_note_9 rfl (lv_at hl 3 rfl) ?_
      refine lv_sipush (v := 1296) hx hb dX3_note_10 (by decide) ?_
      refine lv_icmp_ge (tgt := 141) hx hb dX3_note_13 (by decide) (fun hc => ?_) (fun hc => ?_)
      · rw [if_pos hc] at hf
        refine lv_iload_n hx hb dX3_note_141 rfl (lv_at hl 2 rfl) ?_
        obtain rfl := Option.some.inj hf
        rw [hQ]
        exact im_iret hx hb hr (vp_nar_int _) hS hP dX3_note_142 hlocks
      · rw [if_neg hc] at hf
        refine lv_iload_n hx hb dX3_note_16 rfl (lv_at hl 3 rfl) ?_
        refine lv_iload_n hx hb dX3_note_17 rfl (lv_at hl 1 rfl) ?_
        refine lv_icmp_eq (tgt := 36) hx hb dX3_note_18 (by decide) (fun hc => ?_) (fun hc => ?_)
        · rw [if_pos hc] at hf
          exact B36 (fq_note_9 top kn vl x1 n) ih x2 x3 fo pa fi va nd nk nv no H locs hP hS ls hf (lv_sub hl [0, 1, 2, 3] rfl)
        · rw [if_neg hc] at hf
          refine lv_iload_n hx hb dX3_note_21 rfl (lv_at hl 3 rfl) ?_
          refine lv_iload_n hx hb dX3_note_22 rfl (lv_at hl 1 rfl) ?_
          obtain ⟨r7, e8, hf⟩ := ob_s hf
          try dsimp only at hf
          refine pu_calli (va_runS (As := [.int x3, .int x1]) (rest := []) ⟨hx, hb, hml, hown, hts⟩ (cq_isBelow l dC dI cI cQ t1 t2 bs x3 x1 r7 e8 H.size) (va_cwS 2 hts (gs_S lk_224 lk_226 lk_194 lk_225) rfl rfl rfl (by decide +kernel) ⟨Nat.le_of_ble_eq_true rfl, Nat.le_of_ble_eq_true rfl⟩) (pr_S gk_W ⟨(gk_S hG hS (bb_A hg)), pz_0⟩) rfl rfl hl.1 rfl (lv_room (Nat.le_of_ble_eq_true rfl)) dX3_note_23 ⟨Nat.zero_le _, Nat.zero_le _⟩) ?_
          refine lv_if_eq (tgt := 40) hx hb dX3_note_26 (by decide) (fun hc => ?_) (fun hc => ?_)
          · rw [if_pos hc] at hf
            exact B40 (fq_note_9 top kn vl x1 n) ih x2 x3 fo pa fi va nd nk nv no H locs hP hS ls hf (lv_sub hl [0, 1, 2, 3] rfl)
          · rw [if_neg hc] at hf
            refine lv_iload_n hx hb dX3_note_29 rfl (lv_at hl 3 rfl) ?_
            obtain ⟨r9, e10, hf⟩ := ob_s hf
            try dsimp only at hf
            refine pu_calli (va_runS (As := [.int x3]) (rest := []) ⟨hx, hb, hml, hown, hts⟩ (cq_isPath l dC dI cI cQ t1 t2 bs x3 r9 e10 H.size) (va_cwS 1 hts (gs_S lk_273 lk_275 lk_194 lk_274) rfl rfl rfl (by decide +kernel) ⟨Nat.le_of_ble_eq_true rfl, Nat.le_of_ble_eq_true rfl⟩) (pr_S gk_W ⟨(gk_S hG hS (bb_A hg)), pz_0⟩) rfl rfl hl.1 rfl (lv_room (Nat.le_of_ble_eq_true rfl)) dX3_note_30 ⟨Nat.zero_le _, Nat.zero_le _⟩) ?_
            refine lv_if_eq (tgt := 40) hx hb dX3_note_33 (by decide) (fun hc => ?_) (fun hc => ?_)
            · rw [if_pos hc] at hf
              exact B40 (fq_note_9 top kn vl x1 n) ih x2 x3 fo pa fi va nd nk nv no H locs hP hS ls hf (lv_sub hl [0, 1, 2, 3] rfl)
            · rw [if_neg hc] at hf
              exact B36 (fq_note_9 top kn vl x1 n) ih x2 x3 fo pa fi va nd nk nv no H locs hP hS ls hf (lv_sub hl [0, 1, 2, 3] rfl)
  unfold fq_note at h
  have hgo : ∀ (H : Heap) (locs : List Loc), va_P (dC, dI) vwCl (wm_M cI top mo m1 m2 m3 m4 m5 m6 m7 mt cu kn vl ok ov fo pa fi va nd nk nv no) H → va_S (in_A [mo, m1, m2, m3, m4, m5, m6, m7]) s.heap H locs → W p l e (headSpec wsX3_note rm_2_48).room s m ([.ref mo, .int x1] : List Value).toArray below meth c_ H locs 0 0 Q (F0 m 0 ls []) := by
    intro H locs hP hS
    have hf := h
    refine lv_iconst (v := 0) hx hb dX3_note_0 (by decide) ?_
    refine lv_istore_n (lv' := [(2, .int 0), (0, .ref mo), (1, .int x1)]) hx hb dX3_note_1 rfl hl (by decide) rfl (fun ls hl => ?_)
    refine lv_aload_n hx hb dX3_note_2 rfl (lv_at hl 1 rfl) ?_
    refine lv_iconst (v := 0) hx hb dX3_note_3 (by decide) ?_
    refine va_put (D := (dC, dI)) (ci := 2) (v := .int 0) (ty := .int) (C := RX3) (T := TX3) (N := 15) hx hb hts hiX3 tyX3 tyX3_ok nmX3 hown hG.1 hP (dd_A hg rfl) hS 0 rfl rfl 14 (by decide) (hts _ (tw_in lk_301)) (fun _ h9 => h9) rfl (by decide +kernel) rfl rfl (Nat.le_of_ble_eq_true rfl) dX3_note_4 (fun H locs hP _ hS => ?_)
    have hP : va_P (dC, dI) vwCl (wm_M cI top mo m1 m2 m3 m4 m5 m6 m7 mt cu kn vl ok ov fo pa fi va nd nk nv 0) H := hP
    refine lv_iload_n hx hb dX3_note_7 rfl (lv_at hl 2 rfl) ?_
    refine lv_istore_n (lv' := [(3, .int x1), (2, .int 0), (0, .ref mo), (1, .int x1)]) hx hb dX3_note_8 rfl hl (by decide) rfl (fun ls hl => ?_)
    exact B9 fu_n 0 x1 fo pa fi va nd nk nv 0 H locs hP hS ls hf (lv_sub hl [2, 3, 1, 0] rfl)
  exact hgo s.heap [] hP va_S.rf
set_option maxHeartbeats 4000000 in
set_option maxRecDepth 100000 in
theorem cq_rename (l : Launch) (dC : Nat → ClassId) (dI : Nat → Nat → Nat) (cI cQ : ClassId) (t1 t2 bs : Nat) (top mo m1 m2 m3 m4 m5 m6 m7 : Nat) (hg : gd_A bs [mo, m1, m2, m3, m4, m5, m6, m7]) (mt : Int32) (cu : Int32) (kn : Nat → Int32) (vl : Nat → Int32) (ok : Nat → Int32) (ov : Nat → Int32) (fo : Int32) (pa : Int32) (fi : Int32) (va : Int32) (nd : Nat → Int32) (nk : Nat → Int32) (nv : Nat → Int32) (no : Int32) (x1 : Int32) (x2 : Int32) (v0 : Int32 × Int32 × (Nat → Int32) × (Nat → Int32) × (Nat → Int32) × (Nat → Int32) × Int32 × Int32 × Int32 × Int32 × (Nat → Int32) × (Nat → Int32) × (Nat → Int32) × Int32) (h : fq_rename top mt cu kn vl ok ov fo pa fi va nd nk nv no x1 x2 = some v0) : im_I l yX3_rename wsX3_rename rm_4_94 [.ref mo, .int x1, .int x2] (gk_G dC dI cI cQ t1 t2 bs (wm_M cI top mo m1 m2 m3 m4 m5 m6 m7 mt cu kn vl ok ov fo pa fi va nd nk nv no)) v0.1 (va_P (dC, dI) vwCl (wm_M cI top mo m1 m2 m3 m4 m5 m6 m7 mt v0.2.1 v0.2.2.1 v0.2.2.2.1 v0.2.2.2.2.1 v0.2.2.2.2.2.1 v0.2.2.2.2.2.2.1 v0.2.2.2.2.2.2.2.1 v0.2.2.2.2.2.2.2.2.1 v0.2.2.2.2.2.2.2.2.2.1 v0.2.2.2.2.2.2.2.2.2.2.1 v0.2.2.2.2.2.2.2.2.2.2.2.1 v0.2.2.2.2.2.2.2.2.2.2.2.2.1 v0.2.2.2.2.2.2.2.2.2.2.2.2.2)) (in_A [mo, m1, m2, m3, m4, m5, m6, m7]) := by
  intro sz
  refine Met.ofW (cc := cX3_rename) (maxL := 14) (ret := (some .int)) (by decide) rfl ?_
  intro p e s m args below meth c_ s₁ B hml hv
  obtain ⟨rfl, hsz, hG, hP⟩ := hv
  have hx := B.exec
  have hb := B.bytes
  have hr := B.returns
  have hts := atoms_spec (ws := wsX3_rename) B.pre
  have hown : s.vm.findClass RX3 = some m.cls := findClass_of_methodNamed B.named
  have hlocks := B.notSynchronized
  have hiX3 : ∀ w ∈ u_ws RX3 TX3 15, w ∈ wsX3_rename := fun w hw => tw_in (usX3 w hw)
  have hl := lv_entry ([.ref mo, .int x1, .int x2]) (n := 14) (Nat.le_of_ble_eq_true rfl)
  rw [lg_entry_eq]
  generalize (lg_sl ([.ref mo, .int x1, .int x2]) ++ List.replicate (14 - (lg_sl ([.ref mo, .int x1, .int x2])).length) Slot.unset).toArray = ls at hl ⊢
  have hl : lv_has ls 14 [(0, .ref mo), (1, .int x1), (2, .int x2)] := hl
  refine nm_Q (fun Q hQ => ?_)
  have B22 : ∀ (x3 : Int32) (x4 : Int32) (cu : Int32) (kn : Nat → Int32) (vl : Nat → Int32) (ok : Nat → Int32) (ov : Nat → Int32) (fo : Int32) (pa : Int32) (fi : Int32) (va : Int32) (nd : Nat → Int32) (nk : Nat → Int32) (nv : Nat → Int32) (no : Int32), ∀ (H : Heap) (locs : List Loc), va_P (dC, dI) vwCl (wm_M cI top mo m1 m2 m3 m4 m5 m6 m7 mt cu kn vl ok ov fo pa fi va nd nk nv no) H → va_S (in_A [mo, m1, m2, m3, m4, m5, m6, m7]) s.heap H locs → ∀ ls : Array Slot, fq_rename_22 top mt x1 x2 x3 x4 cu kn vl ok ov fo pa fi va nd nk nv no = some v0 → lv_has ls 14 [(0, .ref mo), (1, .int x1), (2, .int x2), (3, .int x3), (4, .int x4)] → W p l e (headSpec wsX3_rename rm_4_94).room s m ([.ref mo, .int x1, .int x2] : List Value).toArray below meth c_ H locs 0 0 Q (F0 m 22 ls []) := by
    intro x3 x4 cu kn vl ok ov fo pa fi va nd nk nv no H locs hP hS ls hf hl
    unfold fq_rename_22 at hf
    refine lv_aload_n hx hb dX3_rename_22 rfl (lv_at hl 0 rfl) ?_
    refine va_get (D := (dC, dI)) (ci := 2) (v := .int mt) (C := RX3) (T := TX3) (N := 15) hx hb hts hiX3 hown hG.1 hP 0 rfl rfl 1 (by decide) (hts _ (tw_in lk_256)) (fun _ h9 => h9) rfl dX3_rename_23 ?_
    refine lv_if_ne (tgt := 33) hx hb dX3_rename_26 (by decide) (fun hc => ?_) (fun hc => ?_)
    · rw [if_neg hc] at hf
      refine lv_bipush (v := (-2)) hx hb dX3_rename_33 (by decide) ?_
      obtain rfl := Option.some.inj hf
      rw [hQ]
      exact im_iret hx hb hr (vp_nar_int _) hS hP dX3_rename_35 hlocks
    · rw [if_pos hc] at hf
      refine lv_iconst (v := (-1)) hx hb dX3_rename_29 (by decide) ?_
      refine lv_goto (tgt := 35) hx hb dX3_rename_30 (by decide) ?_
      obtain rfl := Option.some.inj hf
      rw [hQ]
      exact im_iret hx hb hr (vp_nar_int _) hS hP dX3_rename_35 hlocks
  have B223 : ∀ (k181 : Int32 → Int32 → Int32 → Int32 → Int32 → Int32 → Int32 → Int32 → (Nat → Int32) → (Nat → Int32) → (Nat → Int32) → (Nat → Int32) → Int32 → Int32 → Int32 → Int32 → (Nat → Int32) → (Nat → Int32) → (Nat → Int32) → Int32 → Option (Int32 × Int32 × (Nat → Int32) × (Nat → Int32) × (Nat → Int32) × (Nat → Int32) × Int32 × Int32 × Int32 × Int32 × (Nat → Int32) × (Nat → Int32) × (Nat → Int32) × Int32)) (hk181 : ∀ (x3 : Int32) (x4 : Int32) (x5 : Int32) (x6 : Int32) (x7 : Int32) (x8 : Int32) (x9 : Int32) (cu : Int32) (kn : Nat → Int32) (vl : Nat → Int32) (ok : Nat → Int32) (ov : Nat → Int32) (fo : Int32) (pa : Int32) (fi : Int32) (va : Int32) (nd : Nat → Int32) (nk : Nat → Int32) (nv : Nat → Int32) (no : Int32), ∀ (H : Heap) (locs : List Loc), va_P (dC, dI) vwCl (wm_M cI top mo m1 m2 m3 m4 m5 m6 m7 mt cu kn vl ok ov fo pa fi va nd nk nv no) H → va_S (in_A [mo, m1, m2, m3, m4, m5, m6, m7]) s.heap H locs → ∀ ls : Array Slot, k181 x3 x4 x5 x6 x7 x8 x9 cu kn vl ok ov fo pa fi va nd nk nv no = some v0 → lv_has ls 14 [(0, .ref mo), (1, .int x1), (2, .int x2), (3, .int x3), (4, .int x4), (5, .int x5), (6, .int x6), (7, .int x7), (8, .int x8), (9, .int x9)] → W p l e (headSpec wsX3_rename rm_4_94).room s m ([.ref mo, .int x1, .int x2] : List Value).toArray below meth c_ H locs 0 0 Q (F0 m 181 ls [])), ∀ n : Nat, ∀ (x3 : Int32) (x4 : Int32) (x5 : Int32) (x6 : Int32) (x7 : Int32) (x8 : Int32) (x9 : Int32) (x10 : Int32) (x11 : Int32) (x12 : Int32) (x13 : Int32) (cu : Int32) (kn : Nat → Int32) (vl : Nat → Int32) (ok : Nat → Int32) (ov : Nat → Int32) (fo : Int32) (pa : Int32) (fi : Int32) (va : Int32) (nd : Nat → Int32) (nk : Nat → Int32) (nv : Nat → Int32) (no : Int32), ∀ (H : Heap) (locs : List Loc), va_P (dC, dI) vwCl (wm_M cI top mo m1 m2 m3 m4 m5 m6 m7 mt cu kn vl ok ov fo pa fi va nd nk nv no) H → va_S (in_A [mo, m1, m2, m3, m4, m5, m6, m7]) s.heap H locs → ∀ ls : Array Slot, fq_rename_223 top mt x1 x2 k181 n x3 x4 x5 x6 x7 x8 x9 x10 x11 x12 x13 cu kn vl ok ov fo pa fi va nd nk nv no = some v0 → lv_has ls 14 [(0, .ref mo), (1, .int x1), (2, .int x2), (3, .int x3), (4, .int x4), (5, .int x5), (6, .int x6), (7, .int x7), (8, .int x8), (9, .int x9), (10, .int x10), (11, .int x11), (12, .int x12), (13, .int x13)] → W p l e (headSpec wsX3_rename rm_4_94).room s m ([.ref mo, .int x1, .int x2] : List Value).toArray below meth c_ H locs 0 0 Q (F0 m 223 ls []) := by
    intro k181 hk181
    intro n
    induction n with
    | zero => 
      intro x3 x4 x5 x6 x7 x8 x9 x10 x11 x12 x13 cu kn vl ok ov fo pa fi va nd nk nv no H locs hP hS ls hf hl
      exact nomatch (show (none : Option (Int32 × Int32 × (Nat → Int32) × (Nat → Int32) × (Nat → Int32) × (Nat → Int32) × Int32 × Int32 × Int32 × Int32 × (Nat → Int32) × (Nat → Int32) × (Nat → Int32) × Int32)) = some v0 from hf)
    | succ n ih =>
      intro x3 x4 x5 x6 x7 x8 x9 x10 x11 x12 x13 cu kn vl ok ov fo pa fi va nd nk nv no H locs hP hS ls hf hl
      rw [fq_rename_223.eq_2] at hf
      try dsimp only at hf
      refine lv_iload hx hb dX3_rename_223 (lv_at hl 13 rfl) ?_
      refine lv_if_le (tgt := 248) hx hb dX3_rename_225 (by decide) (fun hc => ?_) (fun hc => ?_)
      · rw [if_pos hc] at hf
        refine lv_aload_n hx hb dX3_rename_248 rfl (lv_at hl 0 rfl) ?_
        refine lv_iload hx hb dX3_rename_249 (lv_at hl 11 rfl) ?_
        refine lv_iload hx hb dX3_rename_251 (lv_at hl 10 rfl) ?_
        refine lv_iadd hx hb dX3_rename_253 ?_
        refine lv_iload_n hx hb dX3_rename_254 rfl (lv_at hl 3 rfl) ?_
        refine lv_iload hx hb dX3_rename_255 (lv_at hl 12 rfl) ?_
        refine lv_imul hx hb dX3_rename_257 ?_
        refine lv_isub hx hb dX3_rename_258 ?_
        refine lv_aload_n hx hb dX3_rename_259 rfl (lv_at hl 0 rfl) ?_
        refine va_get (D := (dC, dI)) (ci := 2) (v := .ref m6) (C := RX3) (T := TX3) (N := 15) hx hb hts hiX3 hown hG.1 hP 0 rfl rfl 12 (by decide) (hts _ (tw_in lk_302)) (fun _ h9 => h9) rfl dX3_rename_260 ?_
        refine lv_iload hx hb dX3_rename_263 (lv_at hl 9 rfl) ?_
        obtain ⟨hq, hf⟩ := ck_s hf
        refine va_iald hx hb hG.1 hP 6 0 rfl rfl hq dX3_rename_265 ?_
        refine lv_aload_n hx hb dX3_rename_266 rfl (lv_at hl 0 rfl) ?_
        refine va_get (D := (dC, dI)) (ci := 2) (v := .ref m7) (C := RX3) (T := TX3) (N := 15) hx hb hts hiX3 hown hG.1 hP 0 rfl rfl 13 (by decide) (hts _ (tw_in lk_303)) (fun _ h9 => h9) rfl dX3_rename_267 ?_
        refine lv_iload hx hb dX3_rename_270 (lv_at hl 9 rfl) ?_
        obtain ⟨hq, hf⟩ := ck_s hf
        refine va_iald hx hb hG.1 hP 7 0 rfl rfl hq dX3_rename_272 ?_
        obtain ⟨r1, e2, hf⟩ := ob_s hf
        try dsimp only at hf
        refine im_callv (va_runV (As := [.int ((x11 + x10) - (x3 * x12)), .int (nk x9.toNatClampNeg), .int (nv x9.toNatClampNeg)]) (rest := []) ⟨hx, hb, hml, hown, hts⟩ (cq_make l dC dI cI cQ t1 t2 bs top mo m1 m2 m3 m4 m5 m6 m7 hg mt cu kn vl ok ov fo pa fi va nd nk nv no ((x11 + x10) - (x3 * x12)) (nk x9.toNatClampNeg) (nv x9.toNatClampNeg) r1 e2 H.size) (cwV 3 hts (gs_V lk_288 lk_290 lk_291 lk_194 lk_289) rfl rfl rfl (by decide +kernel) ⟨Nat.le_of_ble_eq_true rfl, Nat.le_of_ble_eq_true rfl⟩) (pr_V gk_W (va_recv hG.1 hP (q0 := 0) rfl rfl) ⟨(gk_S hG hS (bb_A hg)), hP⟩) rfl rfl hl.1 rfl (lv_room (Nat.le_of_ble_eq_true rfl)) dX3_rename_273 ⟨Nat.zero_le _, Nat.zero_le _⟩) hS (fun _ h => h) (fun H locs hP1 hk1 hS => ?_)
        have hP : va_P (dC, dI) vwCl (wm_M cI top mo m1 m2 m3 m4 m5 m6 m7 mt r1.1 r1.2.1 r1.2.2.1 ok ov r1.2.2.2.1 r1.2.2.2.2.1 r1.2.2.2.2.2.1 r1.2.2.2.2.2.2 nd nk nv no) H := hP1
        refine lv_iinc (k := 9) (v := x9 + 1) (lv' := [(9, .int (x9 + 1)), (0, .ref mo), (1, .int x1), (2, .int x2), (3, .int x3), (4, .int x4), (5, .int x5), (6, .int x6), (7, .int x7), (8, .int x8), (10, .int x10), (11, .int x11), (12, .int x12), (13, .int x13)]) hx hb dX3_rename_276 hl rfl (by rfl) (by decide) rfl (fun ls hl => ?_)
        refine lv_goto (tgt := 181) hx hb dX3_rename_279 (by decide) ?_
        exact hk181 x3 x4 x5 x6 x7 x8 (x9 + 1) r1.1 r1.2.1 r1.2.2.1 ok ov r1.2.2.2.1 r1.2.2.2.2.1 r1.2.2.2.2.2.1 r1.2.2.2.2.2.2 nd nk nv no H locs hP hS ls hf (lv_sub hl [1, 2, 3, 4, 5, 6, 7, 8, 9, 0] rfl)
      · rw [if_neg hc] at hf
        refine lv_iload hx hb dX3_rename_228 (lv_at hl 11 rfl) ?_
        refine lv_bipush (v := 6) hx hb dX3_rename_230 (by decide) ?_
        refine lv_imul hx hb dX3_rename_232 ?_
        refine lv_istore (lv' := [(11, .int (x11 * 6)), (0, .ref mo), (1, .int x1), (2, .int x2), (3, .int x3), (4, .int x4), (5, .int x5), (6, .int x6), (7, .int x7), (8, .int x8), (9, .int x9), (10, .int x10), (12, .int x12), (13, .int x13)]) hx hb dX3_rename_233 hl (by decide) rfl (fun ls hl => ?_)
        refine lv_iload hx hb dX3_rename_235 (lv_at hl 12 rfl) ?_
        refine lv_bipush (v := 6) hx hb dX3_rename_237 (by decide) ?_
        refine lv_imul hx hb dX3_rename_239 ?_
        refine lv_istore (lv' := [(12, .int (x12 * 6)), (11, .int (x11 * 6)), (0, .ref mo), (1, .int x1), (2, .int x2), (3, .int x3), (4, .int x4), (5, .int x5), (6, .int x6), (7, .int x7), (8, .int x8), (9, .int x9), (10, .int x10), (13, .int x13)]) hx hb dX3_rename_240 hl (by decide) rfl (fun ls hl => ?_)
        refine lv_iinc (k := 13) (v := x13 + (-1)) (lv' := [(13, .int (x13 + (-1))), (12, .int (x12 * 6)), (11, .int (x11 * 6)), (0, .ref mo), (1, .int x1), (2, .int x2), (3, .int x3), (4, .int x4), (5, .int x5), (6, .int x6), (7, .int x7), (8, .int x8), (9, .int x9), (10, .int x10)]) hx hb dX3_rename_242 hl rfl (by rfl) (by decide) rfl (fun ls hl => ?_)
        refine lv_goto (tgt := 223) hx hb dX3_rename_245 (by decide) ?_
        exact ih x3 x4 x5 x6 x7 x8 x9 x10 (x11 * 6) (x12 * 6) (x13 + (-1)) cu kn vl ok ov fo pa fi va nd nk nv no H locs hP hS ls hf (lv_sub hl [3, 4, 5, 6, 7, 8, 9, 10, 11, 12, 13, 2, 1, 0] rfl)
  have B181 : ∀ n : Nat, ∀ (x3 : Int32) (x4 : Int32) (x5 : Int32) (x6 : Int32) (x7 : Int32) (x8 : Int32) (x9 : Int32) (cu : Int32) (kn : Nat → Int32) (vl : Nat → Int32) (ok : Nat → Int32) (ov : Nat → Int32) (fo : Int32) (pa : Int32) (fi : Int32) (va : Int32) (nd : Nat → Int32) (nk : Nat → Int32) (nv : Nat → Int32) (no : Int32), ∀ (H : Heap) (locs : List Loc), va_P (dC, dI) vwCl (wm_M cI top mo m1 m2 m3 m4 m5 m6 m7 mt cu kn vl ok ov fo pa fi va nd nk nv no) H → va_S (in_A [mo, m1, m2, m3, m4, m5, m6, m7]) s.heap H locs → ∀ ls : Array Slot, fq_rename_181 top mt x1 x2 n x3 x4 x5 x6 x7 x8 x9 cu kn vl ok ov fo pa fi va nd nk nv no = some v0 → lv_has ls 14 [(0, .ref mo), (1, .int x1), (2, .int x2), (3, .int x3), (4, .int x4), (5, .int x5), (6, .int x6), (7, .int x7), (8, .int x8), (9, .int x9)] → W p l e (headSpec wsX3_rename rm_4_94).room s m ([.ref mo, .int x1, .int x2] : List Value).toArray below meth c_ H locs 0 0 Q (F0 m 181 ls []) := by
    intro n
    induction n with
    | zero => 
      intro x3 x4 x5 x6 x7 x8 x9 cu kn vl ok ov fo pa fi va nd nk nv no H locs hP hS ls hf hl
      exact nomatch (show (none : Option (Int32 × Int32 × (Nat → Int32) × (Nat → Int32) × (Nat → Int32) × (Nat → Int32) × Int32 × Int32 × Int32 × Int32 × (Nat → Int32) × (Nat → Int32) × (Nat → Int32) × Int32)) = some v0 from hf)
    | succ n ih =>
      intro x3 x4 x5 x6 x7 x8 x9 cu kn vl ok ov fo pa fi va nd nk nv no H locs hP hS ls hf hl
      rw [fq_rename_181.eq_2] at hf
      try dsimp only at hf
      refine lv_iload hx hb dX3_rename_181 (lv_at hl 9 rfl) ?_
      refine lv_aload_n hx hb dX3_rename_183 rfl (lv_at hl 0 rfl) ?_
      refine va_get (D := (dC, dI)) (ci := 2) (v := .int no) (C := RX3) (T := TX3) (N := 15) hx hb hts hiX3 hown hG.1 hP 0 rfl rfl 14 (by decide) (hts _ (tw_in lk_301)) (fun _ h9 => h9) rfl dX3_rename_184 ?_
      refine lv_icmp_ge (tgt := 282) hx hb dX3_rename_187 (by decide) (fun hc => ?_) (fun hc => ?_)
      · rw [if_pos hc] at hf
        refine lv_aload_n hx hb dX3_rename_282 rfl (lv_at hl 0 rfl) ?_
        refine lv_iload_n hx hb dX3_rename_283 rfl (lv_at hl 3 rfl) ?_
        obtain ⟨r3, e4, hf⟩ := ob_s hf
        try dsimp only at hf
        refine im_callv (va_runV (As := [.int x3]) (rest := []) ⟨hx, hb, hml, hown, hts⟩ (cq_unmake l dC dI cI cQ t1 t2 bs top mo m1 m2 m3 m4 m5 m6 m7 hg mt cu kn vl ok ov fo pa fi va nd nk nv no x3 r3 e4 H.size) (cwV 1 hts (gs_V lk_296 lk_298 lk_299 lk_194 lk_297) rfl rfl rfl (by decide +kernel) ⟨Nat.le_of_ble_eq_true rfl, Nat.le_of_ble_eq_true rfl⟩) (pr_V gk_W (va_recv hG.1 hP (q0 := 0) rfl rfl) ⟨(gk_S hG hS (bb_A hg)), hP⟩) rfl rfl hl.1 rfl (lv_room (Nat.le_of_ble_eq_true rfl)) dX3_rename_284 ⟨Nat.zero_le _, Nat.zero_le _⟩) hS (fun _ h => h) (fun H locs hP1 hk1 hS => ?_)
        have hP : va_P (dC, dI) vwCl (wm_M cI top mo m1 m2 m3 m4 m5 m6 m7 mt r3.1 r3.2.1 r3.2.2.1 ok ov r3.2.2.2.1 r3.2.2.2.2.1 r3.2.2.2.2.2.1 r3.2.2.2.2.2.2 nd nk nv no) H := hP1
        refine lv_aload_n hx hb dX3_rename_287 rfl (lv_at hl 0 rfl) ?_
        refine lv_iload hx hb dX3_rename_288 (lv_at hl 8 rfl) ?_
        obtain ⟨r5, e6, hf⟩ := ob_s hf
        try dsimp only at hf
        refine im_calli (va_runV (As := [.int x8]) (rest := []) ⟨hx, hb, hml, hown, hts⟩ (cq_end l dC dI cI cQ t1 t2 bs top mo m1 m2 m3 m4 m5 m6 m7 hg mt r3.1 r3.2.1 r3.2.2.1 ok ov r3.2.2.2.1 r3.2.2.2.2.1 r3.2.2.2.2.2.1 r3.2.2.2.2.2.2 nd nk nv no x8 r5 e6 H.size) (cwV 1 hts (gs_V lk_292 lk_294 lk_295 lk_194 lk_293) rfl rfl rfl (by decide +kernel) ⟨Nat.le_of_ble_eq_true rfl, Nat.le_of_ble_eq_true rfl⟩) (pr_V gk_W (va_recv hG.1 hP (q0 := 0) rfl rfl) ⟨(gk_S hG hS (bb_A hg)), hP⟩) rfl rfl hl.1 rfl (lv_room (Nat.le_of_ble_eq_true rfl)) dX3_rename_290 ⟨Nat.zero_le _, Nat.zero_le _⟩) hS (fun _ h => h) (fun H locs hP1 hk1 hS => ?_)
        have hP : va_P (dC, dI) vwCl (wm_M cI top mo m1 m2 m3 m4 m5 m6 m7 mt r5.2.1 r5.2.2.1 r5.2.2.2 ok ov r3.2.2.2.1 r3.2.2.2.2.1 r3.2.2.2.2.2.1 r3.2.2.2.2.2.2 nd nk nv no) H := hP1
        obtain rfl := Option.some.inj hf
        rw [hQ]
        exact im_iret hx hb hr (vp_nar_int _) hS hP dX3_rename_293 hlocks
      · rw [if_neg hc] at hf
        refine lv_aload_n hx hb dX3_rename_190 rfl (lv_at hl 0 rfl) ?_
        refine va_get (D := (dC, dI)) (ci := 2) (v := .ref m5) (C := RX3) (T := TX3) (N := 15) hx hb hts hiX3 hown hG.1 hP 0 rfl rfl 11 (by decide) (hts _ (tw_in lk_300)) (fun _ h9 => h9) rfl dX3_rename_191 ?_
        refine lv_iload hx hb dX3_rename_194 (lv_at hl 9 rfl) ?_
        obtain ⟨hq, hf⟩ := ck_s hf
        refine va_iald hx hb hG.1 hP 5 0 rfl rfl hq dX3_rename_196 ?_
        refine lv_istore (lv' := [(10, .int (nd x9.toNatClampNeg)), (0, .ref mo), (1, .int x1), (2, .int x2), (3, .int x3), (4, .int x4), (5, .int x5), (6, .int x6), (7, .int x7), (8, .int x8), (9, .int x9)]) hx hb dX3_rename_197 hl (by decide) rfl (fun ls hl => ?_)
        refine lv_iload hx hb dX3_rename_199 (lv_at hl 5 rfl) ?_
        refine lv_istore (lv' := [(11, .int x4), (10, .int (nd x9.toNatClampNeg)), (0, .ref mo), (1, .int x1), (2, .int x2), (3, .int x3), (4, .int x4), (5, .int x5), (6, .int x6), (7, .int x7), (8, .int x8), (9, .int x9)]) hx hb dX3_rename_201 hl (by decide) rfl (fun ls hl => ?_)
        refine lv_iconst (v := 1) hx hb dX3_rename_203 (by decide) ?_
        refine lv_istore (lv' := [(12, .int 1), (11, .int x4), (10, .int (nd x9.toNatClampNeg)), (0, .ref mo), (1, .int x1), (2, .int x2), (3, .int x3), (4, .int x4), (5, .int x5), (6, .int x6), (7, .int x7), (8, .int x8), (9, .int x9)]) hx hb dX3_rename_204 hl (by decide) rfl (fun ls hl => ?_)
        refine lv_aload_n hx hb dX3_rename_206 rfl (lv_at hl 3 rfl) ?_
        refine va_get (D := (dC, dI)) (ci := 2) (v := .ref m5) (C := RX3) (T := TX3) (N := 15) hx hb hts hiX3 hown hG.1 hP 0 rfl rfl 11 (by decide) (hts _ (tw_in lk_300)) (fun _ h9 => h9) rfl dX3_rename_207 ?_
        refine lv_iload hx hb dX3_rename_210 (lv_at hl 12 rfl) ?_
        obtain ⟨hq, hf⟩ := ck_s hf
        refine va_iald hx hb hG.1 hP 5 0 rfl rfl hq dX3_rename_212 ?_
        obtain ⟨r7, e8, hf⟩ := ob_s hf
        try dsimp only at hf
        refine pu_calli (va_runS (As := [.int (nd x9.toNatClampNeg)]) (rest := []) ⟨hx, hb, hml, hown, hts⟩ (cq_depth l dC dI cI cQ t1 t2 bs (nd x9.toNatClampNeg) r7 e8 H.size) (va_cwS 1 hts (gs_S lk_193 lk_196 lk_194 lk_195) rfl rfl rfl (by decide +kernel) ⟨Nat.le_of_ble_eq_true rfl, Nat.le_of_ble_eq_true rfl⟩) (pr_S gk_W ⟨(gk_S hG hS (bb_A hg)), pz_0⟩) rfl rfl hl.1 rfl (lv_room (Nat.le_of_ble_eq_true rfl)) dX3_rename_213 ⟨Nat.zero_le _, Nat.zero_le _⟩) ?_
        refine lv_iload_n hx hb dX3_rename_216 rfl (lv_at hl 6 rfl) ?_
        obtain ⟨r9, e10, hf⟩ := ob_s hf
        try dsimp only at hf
        refine pu_calli (va_runS (As := [.int x3]) (rest := [.int r7]) ⟨hx, hb, hml, hown, hts⟩ (cq_depth l dC dI cI cQ t1 t2 bs x3 r9 e10 H.size) (va_cwS 1 hts (gs_S lk_193 lk_196 lk_194 lk_195) rfl rfl rfl (by decide +kernel) ⟨Nat.le_of_ble_eq_true rfl, Nat.le_of_ble_eq_true rfl⟩) (pr_S gk_W ⟨(gk_S hG hS (bb_A hg)), pz_0⟩) rfl rfl hl.1 rfl (lv_room (Nat.le_of_ble_eq_true rfl)) dX3_rename_217 ⟨Nat.zero_le _, Nat.zero_le _⟩) ?_
        refine lv_isub hx hb dX3_rename_220 ?_
        refine lv_istore (lv' := [(13, .int (r7 - r9)), (12, .int 1), (11, .int x4), (10, .int (nd x9.toNatClampNeg)), (0, .ref mo), (1, .int x1), (2, .int x2), (3, .int x3), (4, .int x4), (5, .int x5), (6, .int x6), (7, .int x7), (8, .int x8), (9, .int x9)]) hx hb dX3_rename_221 hl (by decide) rfl (fun ls hl => ?_)
        exact B223 (fq_rename_181 top mt x1 x2 n) ih fu_n x3 x4 x5 x6 x7 x8 x9 (nd x9.toNatClampNeg) x4 1 (r7 - r9) cu kn vl ok ov fo pa fi va nd nk nv no H locs hP hS ls hf (lv_sub hl [4, 5, 6, 7, 8, 9, 10, 11, 12, 13, 3, 2, 1, 0] rfl)
  have B146 : ∀ (x3 : Int32) (x4 : Int32) (x5 : Int32) (x6 : Int32) (cu : Int32) (kn : Nat → Int32) (vl : Nat → Int32) (ok : Nat → Int32) (ov : Nat → Int32) (fo : Int32) (pa : Int32) (fi : Int32) (va : Int32) (nd : Nat → Int32) (nk : Nat → Int32) (nv : Nat → Int32) (no : Int32), ∀ (H : Heap) (locs : List Loc), va_P (dC, dI) vwCl (wm_M cI top mo m1 m2 m3 m4 m5 m6 m7 mt cu kn vl ok ov fo pa fi va nd nk nv no) H → va_S (in_A [mo, m1, m2, m3, m4, m5, m6, m7]) s.heap H locs → ∀ ls : Array Slot, fq_rename_146 top mt x1 x2 x3 x4 x5 x6 cu kn vl ok ov fo pa fi va nd nk nv no = some v0 → lv_has ls 14 [(0, .ref mo), (1, .int x1), (2, .int x2), (3, .int x3), (4, .int x4), (5, .int x5), (6, .int x6)] → W p l e (headSpec wsX3_rename rm_4_94).room s m ([.ref mo, .int x1, .int x2] : List Value).toArray below meth c_ H locs 0 0 Q (F0 m 146 ls []) := by
    intro x3 x4 x5 x6 cu kn vl ok ov fo pa fi va nd nk nv no H locs hP hS ls hf hl
    unfold fq_rename_146 at hf
    refine lv_aload_n hx hb dX3_rename_146 rfl (lv_at hl 0 rfl) ?_
    refine lv_iload_n hx hb dX3_rename_147 rfl (lv_at hl 3 rfl) ?_
    obtain ⟨r11, e12, hf⟩ := ob_s hf
    try dsimp only at hf
    refine im_calli (va_runV (As := [.int x3]) (rest := []) ⟨hx, hb, hml, hown, hts⟩ (cq_note l dC dI cI cQ t1 t2 bs top mo m1 m2 m3 m4 m5 m6 m7 hg mt cu kn vl ok ov fo pa fi va nd nk nv no x3 r11 e12 H.size) (cwV 1 hts (gs_V lk_304 lk_306 lk_307 lk_194 lk_305) rfl rfl rfl (by decide +kernel) ⟨Nat.le_of_ble_eq_true rfl, Nat.le_of_ble_eq_true rfl⟩) (pr_V gk_W (va_recv hG.1 hP (q0 := 0) rfl rfl) ⟨(gk_S hG hS (bb_A hg)), hP⟩) rfl rfl hl.1 rfl (lv_room (Nat.le_of_ble_eq_true rfl)) dX3_rename_148 ⟨Nat.zero_le _, Nat.zero_le _⟩) hS (fun _ h => h) (fun H locs hP1 hk1 hS => ?_)
    have hP : va_P (dC, dI) vwCl (wm_M cI top mo m1 m2 m3 m4 m5 m6 m7 mt cu kn vl ok ov r11.2.1 r11.2.2.1 r11.2.2.2.1 r11.2.2.2.2.1 r11.2.2.2.2.2.1 r11.2.2.2.2.2.2.1 r11.2.2.2.2.2.2.2.1 r11.2.2.2.2.2.2.2.2) H := hP1
    refine lv_istore (lv' := [(7, .int r11.1), (0, .ref mo), (1, .int x1), (2, .int x2), (3, .int x3), (4, .int x4), (5, .int x5), (6, .int x6)]) hx hb dX3_rename_151 hl (by decide) rfl (fun ls hl => ?_)
    refine lv_iload hx hb dX3_rename_153 (lv_at hl 5 rfl) ?_
    obtain ⟨r13, e14, hf⟩ := ob_s hf
    try dsimp only at hf
    refine pu_calli (va_runS (As := [.int x4]) (rest := []) ⟨hx, hb, hml, hown, hts⟩ (cq_depth l dC dI cI cQ t1 t2 bs x4 r13 e14 H.size) (va_cwS 1 hts (gs_S lk_193 lk_196 lk_194 lk_195) rfl rfl rfl (by decide +kernel) ⟨Nat.le_of_ble_eq_true rfl, Nat.le_of_ble_eq_true rfl⟩) (pr_S gk_W ⟨(gk_S hG hS (bb_A hg)), pz_0⟩) rfl rfl hl.1 rfl (lv_room (Nat.le_of_ble_eq_true rfl)) dX3_rename_155 ⟨Nat.zero_le _, Nat.zero_le _⟩) ?_
    refine lv_iload hx hb dX3_rename_158 (lv_at hl 0 rfl) ?_
    refine lv_iadd hx hb dX3_rename_160 ?_
    refine lv_iconst (v := 4) hx hb dX3_rename_161 (by decide) ?_
    refine lv_icmp_le (tgt := 168) hx hb dX3_rename_162 (by decide) (fun hc => ?_) (fun hc => ?_)
    · rw [if_pos hc] at hf
      refine lv_aload_n hx hb dX3_rename_168 rfl (lv_at hl 1 rfl) ?_
      refine va_get (D := (dC, dI)) (ci := 2) (v := .int cu) (C := RX3) (T := TX3) (N := 15) hx hb hts hiX3 hown hG.1 hP 0 rfl rfl 2 (by decide) (hts _ (tw_in lk_223)) (fun _ h9 => h9) rfl dX3_rename_169 ?_
      refine lv_istore (lv' := [(8, .int cu), (7, .int r11.1), (0, .ref mo), (1, .int x1), (2, .int x2), (3, .int x3), (4, .int x4), (5, .int x5), (6, .int x6)]) hx hb dX3_rename_172 hl (by decide) rfl (fun ls hl => ?_)
      refine lv_aload_n hx hb dX3_rename_174 rfl (lv_at hl 2 rfl) ?_
      obtain ⟨r15, e16, hf⟩ := ob_s hf
      try dsimp only at hf
      refine im_callv (va_runV (As := []) (rest := []) ⟨hx, hb, hml, hown, hts⟩ (cq_keep l dC dI cI cQ t1 t2 bs top mo m1 m2 m3 m4 m5 m6 m7 hg mt cu kn vl ok ov r11.2.1 r11.2.2.1 r11.2.2.2.1 r11.2.2.2.2.1 r11.2.2.2.2.2.1 r11.2.2.2.2.2.2.1 r11.2.2.2.2.2.2.2.1 r11.2.2.2.2.2.2.2.2 r15 e16 H.size) (cwV 0 hts (gs_V lk_284 lk_286 lk_287 lk_194 lk_285) rfl rfl rfl (by decide +kernel) ⟨Nat.le_of_ble_eq_true rfl, Nat.le_of_ble_eq_true rfl⟩) (pr_V gk_W (va_recv hG.1 hP (q0 := 0) rfl rfl) ⟨(gk_S hG hS (bb_A hg)), hP⟩) rfl rfl hl.1 rfl (lv_room (Nat.le_of_ble_eq_true rfl)) dX3_rename_175 ⟨Nat.zero_le _, Nat.zero_le _⟩) hS (fun _ h => h) (fun H locs hP1 hk1 hS => ?_)
      have hP : va_P (dC, dI) vwCl (wm_M cI top mo m1 m2 m3 m4 m5 m6 m7 mt cu kn vl r15.1 r15.2 r11.2.1 r11.2.2.1 r11.2.2.2.1 r11.2.2.2.2.1 r11.2.2.2.2.2.1 r11.2.2.2.2.2.2.1 r11.2.2.2.2.2.2.2.1 r11.2.2.2.2.2.2.2.2) H := hP1
      refine lv_iconst (v := 0) hx hb dX3_rename_178 (by decide) ?_
      refine lv_istore (lv' := [(9, .int 0), (8, .int cu), (7, .int r11.1), (0, .ref mo), (1, .int x1), (2, .int x2), (3, .int x3), (4, .int x4), (5, .int x5), (6, .int x6)]) hx hb dX3_rename_179 hl (by decide) rfl (fun ls hl => ?_)
      exact B181 fu_n x3 x4 x5 x6 r11.1 cu 0 cu kn vl r15.1 r15.2 r11.2.1 r11.2.2.1 r11.2.2.2.1 r11.2.2.2.2.1 r11.2.2.2.2.2.1 r11.2.2.2.2.2.2.1 r11.2.2.2.2.2.2.2.1 r11.2.2.2.2.2.2.2.2 H locs hP hS ls hf (lv_sub hl [3, 4, 5, 6, 7, 8, 9, 2, 1, 0] rfl)
    · rw [if_neg hc] at hf
      refine lv_bipush (v := (-10)) hx hb dX3_rename_165 (by decide) ?_
      obtain rfl := Option.some.inj hf
      rw [hQ]
      exact im_iret hx hb hr (vp_nar_int _) hS hP dX3_rename_167 hlocks
  have B128 : ∀ (x3 : Int32) (x4 : Int32) (x5 : Int32) (x6 : Int32) (cu : Int32) (kn : Nat → Int32) (vl : Nat → Int32) (ok : Nat → Int32) (ov : Nat → Int32) (fo : Int32) (pa : Int32) (fi : Int32) (va : Int32) (nd : Nat → Int32) (nk : Nat → Int32) (nv : Nat → Int32) (no : Int32), ∀ (H : Heap) (locs : List Loc), va_P (dC, dI) vwCl (wm_M cI top mo m1 m2 m3 m4 m5 m6 m7 mt cu kn vl ok ov fo pa fi va nd nk nv no) H → va_S (in_A [mo, m1, m2, m3, m4, m5, m6, m7]) s.heap H locs → ∀ ls : Array Slot, fq_rename_128 top mt x1 x2 x3 x4 x5 x6 cu kn vl ok ov fo pa fi va nd nk nv no = some v0 → lv_has ls 14 [(0, .ref mo), (1, .int x1), (2, .int x2), (3, .int x3), (4, .int x4), (5, .int x5), (6, .int x6)] → W p l e (headSpec wsX3_rename rm_4_94).room s m ([.ref mo, .int x1, .int x2] : List Value).toArray below meth c_ H locs 0 0 Q (F0 m 128 ls []) := by
    intro x3 x4 x5 x6 cu kn vl ok ov fo pa fi va nd nk nv no H locs hP hS ls hf hl
    unfold fq_rename_128 at hf
    refine lv_iload hx hb dX3_rename_128 (lv_at hl 6 rfl) ?_
    refine lv_iconst (v := 2) hx hb dX3_rename_130 (by decide) ?_
    refine lv_icmp_ne (tgt := 146) hx hb dX3_rename_131 (by decide) (fun hc => ?_) (fun hc => ?_)
    · rw [if_neg hc] at hf
      exact B146 x3 x4 x5 x6 cu kn vl ok ov fo pa fi va nd nk nv no H locs hP hS ls hf (lv_sub hl [0, 1, 2, 3, 4, 5, 6] rfl)
    · rw [if_pos hc] at hf
      refine lv_aload_n hx hb dX3_rename_134 rfl (lv_at hl 0 rfl) ?_
      refine lv_iload hx hb dX3_rename_135 (lv_at hl 4 rfl) ?_
      obtain ⟨r17, e18, hf⟩ := ob_s hf
      try dsimp only at hf
      refine im_calli (va_runV (As := [.int x4]) (rest := []) ⟨hx, hb, hml, hown, hts⟩ (cq_children l dC dI cI cQ t1 t2 bs top mo m1 m2 m3 m4 m5 m6 m7 hg mt cu kn vl ok ov fo pa fi va nd nk nv no x4 r17 e18 H.size) (cwV 1 hts (gs_V lk_265 lk_267 lk_268 lk_194 lk_266) rfl rfl rfl (by decide +kernel) ⟨Nat.le_of_ble_eq_true rfl, Nat.le_of_ble_eq_true rfl⟩) (pr_V gk_W (va_recv hG.1 hP (q0 := 0) rfl rfl) ⟨(gk_S hG hS (bb_A hg)), hP⟩) rfl rfl hl.1 rfl (lv_room (Nat.le_of_ble_eq_true rfl)) dX3_rename_137 ⟨Nat.zero_le _, Nat.zero_le _⟩) hS (fun _ h => h) (fun H locs hP1 hk1 hS => ?_)
      have hP : va_P (dC, dI) vwCl (wm_M cI top mo m1 m2 m3 m4 m5 m6 m7 mt cu kn vl ok ov r17.2.1 r17.2.2.1 r17.2.2.2.1 r17.2.2.2.2 nd nk nv no) H := hP1
      refine lv_if_le (tgt := 146) hx hb dX3_rename_140 (by decide) (fun hc => ?_) (fun hc => ?_)
      · rw [if_pos hc] at hf
        exact B146 x3 x4 x5 x6 cu kn vl ok ov r17.2.1 r17.2.2.1 r17.2.2.2.1 r17.2.2.2.2 nd nk nv no H locs hP hS ls hf (lv_sub hl [0, 1, 2, 3, 4, 5, 6] rfl)
      · rw [if_neg hc] at hf
        refine lv_bipush (v := (-8)) hx hb dX3_rename_143 (by decide) ?_
        obtain rfl := Option.some.inj hf
        rw [hQ]
        exact im_iret hx hb hr (vp_nar_int _) hS hP dX3_rename_145 hlocks
  unfold fq_rename at h
  have hgo : ∀ (H : Heap) (locs : List Loc), va_P (dC, dI) vwCl (wm_M cI top mo m1 m2 m3 m4 m5 m6 m7 mt cu kn vl ok ov fo pa fi va nd nk nv no) H → va_S (in_A [mo, m1, m2, m3, m4, m5, m6, m7]) s.heap H locs → W p l e (headSpec wsX3_rename rm_4_94).room s m ([.ref mo, .int x1, .int x2] : List Value).toArray below meth c_ H locs 0 0 Q (F0 m 0 ls []) := by
    intro H locs hP hS
    have hf := h
    refine lv_aload_n hx hb dX3_rename_0 rfl (lv_at hl 0 rfl) ?_
    refine lv_iload_n hx hb dX3_rename_1 rfl (lv_at hl 1 rfl) ?_
    obtain ⟨r19, e20, hf⟩ := ob_s hf
    try dsimp only at hf
    refine pu_calli (va_runV (As := [.int x1]) (rest := []) ⟨hx, hb, hml, hown, hts⟩ (cq_target l dC dI cI cQ t1 t2 bs top mo m1 m2 m3 m4 m5 m6 m7 hg mt cu kn vl ok ov fo pa fi va nd nk nv no x1 r19 e20 H.size) (cwV 1 hts (gs_V lk_276 lk_278 lk_279 lk_194 lk_277) rfl rfl rfl (by decide +kernel) ⟨Nat.le_of_ble_eq_true rfl, Nat.le_of_ble_eq_true rfl⟩) (pr_V gk_W (va_recv hG.1 hP (q0 := 0) rfl rfl) ⟨(gk_S hG hS (bb_A hg)), hP⟩) rfl rfl hl.1 rfl (lv_room (Nat.le_of_ble_eq_true rfl)) dX3_rename_2 ⟨Nat.zero_le _, Nat.zero_le _⟩) ?_
    refine lv_istore_n (lv' := [(3, .int r19), (0, .ref mo), (1, .int x1), (2, .int x2)]) hx hb dX3_rename_5 rfl hl (by decide) rfl (fun ls hl => ?_)
    refine lv_aload_n hx hb dX3_rename_6 rfl (lv_at hl 1 rfl) ?_
    refine lv_iload_n hx hb dX3_rename_7 rfl (lv_at hl 3 rfl) ?_
    obtain ⟨r21, e22, hf⟩ := ob_s hf
    try dsimp only at hf
    refine pu_calli (va_runV (As := [.int x2]) (rest := []) ⟨hx, hb, hml, hown, hts⟩ (cq_target l dC dI cI cQ t1 t2 bs top mo m1 m2 m3 m4 m5 m6 m7 hg mt cu kn vl ok ov fo pa fi va nd nk nv no x2 r21 e22 H.size) (cwV 1 hts (gs_V lk_276 lk_278 lk_279 lk_194 lk_277) rfl rfl rfl (by decide +kernel) ⟨Nat.le_of_ble_eq_true rfl, Nat.le_of_ble_eq_true rfl⟩) (pr_V gk_W (va_recv hG.1 hP (q0 := 0) rfl rfl) ⟨(gk_S hG hS (bb_A hg)), hP⟩) rfl rfl hl.1 rfl (lv_room (Nat.le_of_ble_eq_true rfl)) dX3_rename_8 ⟨Nat.zero_le _, Nat.zero_le _⟩) ?_
    refine lv_istore (lv' := [(4, .int r21), (3, .int r19), (0, .ref mo), (1, .int x1), (2, .int x2)]) hx hb dX3_rename_11 hl (by decide) rfl (fun ls hl => ?_)
    refine lv_iload_n hx hb dX3_rename_13 rfl (lv_at hl 1 rfl) ?_
    refine lv_if_lt (tgt := 22) hx hb dX3_rename_14 (by decide) (fun hc => ?_) (fun hc => ?_)
    · rw [if_pos hc] at hf
      exact B22 r19 r21 cu kn vl ok ov fo pa fi va nd nk nv no H locs hP hS ls hf (lv_sub hl [2, 3, 4, 1, 0] rfl)
    · rw [if_neg hc] at hf
      refine lv_iload hx hb dX3_rename_17 (lv_at hl 0 rfl) ?_
      refine lv_if_ge (tgt := 36) hx hb dX3_rename_19 (by decide) (fun hc => ?_) (fun hc => ?_)
      · rw [if_pos hc] at hf
        refine lv_aload_n hx hb dX3_rename_36 rfl (lv_at hl 2 rfl) ?_
        refine lv_iload_n hx hb dX3_rename_37 rfl (lv_at hl 1 rfl) ?_
        obtain ⟨r23, e24, hf⟩ := ob_s hf
        try dsimp only at hf
        refine im_callv (va_runV (As := [.int r19]) (rest := []) ⟨hx, hb, hml, hown, hts⟩ (cq_look l dC dI cI cQ t1 t2 bs top mo m1 m2 m3 m4 m5 m6 m7 hg mt cu kn vl ok ov fo pa fi va nd nk nv no r19 r23 e24 H.size) (cwV 1 hts (gs_V lk_211 lk_213 lk_214 lk_194 lk_212) rfl rfl rfl (by decide +kernel) ⟨Nat.le_of_ble_eq_true rfl, Nat.le_of_ble_eq_true rfl⟩) (pr_V gk_W (va_recv hG.1 hP (q0 := 0) rfl rfl) ⟨(gk_S hG hS (bb_A hg)), hP⟩) rfl rfl hl.1 rfl (lv_room (Nat.le_of_ble_eq_true rfl)) dX3_rename_38 ⟨Nat.zero_le _, Nat.zero_le _⟩) hS (fun _ h => h) (fun H locs hP1 hk1 hS => ?_)
        have hP : va_P (dC, dI) vwCl (wm_M cI top mo m1 m2 m3 m4 m5 m6 m7 mt cu kn vl ok ov r23.1 r23.2.1 r23.2.2.1 r23.2.2.2 nd nk nv no) H := hP1
        refine lv_aload_n hx hb dX3_rename_41 rfl (lv_at hl 2 rfl) ?_
        refine va_get (D := (dC, dI)) (ci := 2) (v := .int r23.1) (C := RX3) (T := TX3) (N := 15) hx hb hts hiX3 hown hG.1 hP 0 rfl rfl 7 (by decide) (hts _ (tw_in lk_202)) (fun _ h9 => h9) rfl dX3_rename_42 ?_
        refine lv_istore (lv' := [(5, .int r23.1), (4, .int r21), (3, .int r19), (0, .ref mo), (1, .int x1), (2, .int x2)]) hx hb dX3_rename_45 hl (by decide) rfl (fun ls hl => ?_)
        refine lv_iload hx hb dX3_rename_47 (lv_at hl 0 rfl) ?_
        refine lv_if_ne (tgt := 55) hx hb dX3_rename_49 (by decide) (fun hc => ?_) (fun hc => ?_)
        · rw [if_neg hc] at hf
          refine lv_iload_n hx hb dX3_rename_55 rfl (lv_at hl 2 rfl) ?_
          refine lv_iload hx hb dX3_rename_56 (lv_at hl 1 rfl) ?_
          refine lv_icmp_ne (tgt := 63) hx hb dX3_rename_58 (by decide) (fun hc => ?_) (fun hc => ?_)
          · rw [if_neg hc] at hf
            refine lv_iload hx hb dX3_rename_63 (lv_at hl 1 rfl) ?_
            refine lv_iload_n hx hb dX3_rename_65 rfl (lv_at hl 2 rfl) ?_
            obtain ⟨r25, e26, hf⟩ := ob_s hf
            try dsimp only at hf
            refine pu_calli (va_runS (As := [.int r21, .int r19]) (rest := []) ⟨hx, hb, hml, hown, hts⟩ (cq_isBelow l dC dI cI cQ t1 t2 bs r21 r19 r25 e26 H.size) (va_cwS 2 hts (gs_S lk_224 lk_226 lk_194 lk_225) rfl rfl rfl (by decide +kernel) ⟨Nat.le_of_ble_eq_true rfl, Nat.le_of_ble_eq_true rfl⟩) (pr_S gk_W ⟨(gk_S hG hS (bb_A hg)), pz_0⟩) rfl rfl hl.1 rfl (lv_room (Nat.le_of_ble_eq_true rfl)) dX3_rename_66 ⟨Nat.zero_le _, Nat.zero_le _⟩) ?_
            refine lv_if_eq (tgt := 75) hx hb dX3_rename_69 (by decide) (fun hc => ?_) (fun hc => ?_)
            · rw [if_pos hc] at hf
              refine lv_aload_n hx hb dX3_rename_75 rfl (lv_at hl 3 rfl) ?_
              refine lv_iload hx hb dX3_rename_76 (lv_at hl 1 rfl) ?_
              refine lv_bipush (v := 6) hx hb dX3_rename_78 (by decide) ?_
              refine lv_idiv hx hb dX3_rename_80 (by decide) ?_
              obtain ⟨r27, e28, hf⟩ := ob_s hf
              try dsimp only at hf
              refine im_calli (va_runV (As := [.int (r21 / 6)]) (rest := []) ⟨hx, hb, hml, hown, hts⟩ (cq_isDirectory l dC dI cI cQ t1 t2 bs top mo m1 m2 m3 m4 m5 m6 m7 hg mt cu kn vl ok ov r23.1 r23.2.1 r23.2.2.1 r23.2.2.2 nd nk nv no (r21 / 6) r27 e28 H.size) (cwV 1 hts (gs_V lk_280 lk_282 lk_283 lk_194 lk_281) rfl rfl rfl (by decide +kernel) ⟨Nat.le_of_ble_eq_true rfl, Nat.le_of_ble_eq_true rfl⟩) (pr_V gk_W (va_recv hG.1 hP (q0 := 0) rfl rfl) ⟨(gk_S hG hS (bb_A hg)), hP⟩) rfl rfl hl.1 rfl (lv_room (Nat.le_of_ble_eq_true rfl)) dX3_rename_81 ⟨Nat.zero_le _, Nat.zero_le _⟩) hS (fun _ h => h) (fun H locs hP1 hk1 hS => ?_)
              have hP : va_P (dC, dI) vwCl (wm_M cI top mo m1 m2 m3 m4 m5 m6 m7 mt cu kn vl ok ov r27.2.1 r27.2.2.1 r27.2.2.2.1 r27.2.2.2.2 nd nk nv no) H := hP1
              refine lv_if_ne (tgt := 90) hx hb dX3_rename_84 (by decide) (fun hc => ?_) (fun hc => ?_)
              · rw [if_neg hc] at hf
                refine lv_aload_n hx hb dX3_rename_90 rfl (lv_at hl 3 rfl) ?_
                refine lv_iload hx hb dX3_rename_91 (lv_at hl 1 rfl) ?_
                obtain ⟨r29, e30, hf⟩ := ob_s hf
                try dsimp only at hf
                refine im_callv (va_runV (As := [.int r21]) (rest := []) ⟨hx, hb, hml, hown, hts⟩ (cq_look l dC dI cI cQ t1 t2 bs top mo m1 m2 m3 m4 m5 m6 m7 hg mt cu kn vl ok ov r27.2.1 r27.2.2.1 r27.2.2.2.1 r27.2.2.2.2 nd nk nv no r21 r29 e30 H.size) (cwV 1 hts (gs_V lk_211 lk_213 lk_214 lk_194 lk_212) rfl rfl rfl (by decide +kernel) ⟨Nat.le_of_ble_eq_true rfl, Nat.le_of_ble_eq_true rfl⟩) (pr_V gk_W (va_recv hG.1 hP (q0 := 0) rfl rfl) ⟨(gk_S hG hS (bb_A hg)), hP⟩) rfl rfl hl.1 rfl (lv_room (Nat.le_of_ble_eq_true rfl)) dX3_rename_93 ⟨Nat.zero_le _, Nat.zero_le _⟩) hS (fun _ h => h) (fun H locs hP1 hk1 hS => ?_)
                have hP : va_P (dC, dI) vwCl (wm_M cI top mo m1 m2 m3 m4 m5 m6 m7 mt cu kn vl ok ov r29.1 r29.2.1 r29.2.2.1 r29.2.2.2 nd nk nv no) H := hP1
                refine lv_aload_n hx hb dX3_rename_96 rfl (lv_at hl 3 rfl) ?_
                refine va_get (D := (dC, dI)) (ci := 2) (v := .int r29.1) (C := RX3) (T := TX3) (N := 15) hx hb hts hiX3 hown hG.1 hP 0 rfl rfl 7 (by decide) (hts _ (tw_in lk_202)) (fun _ h9 => h9) rfl dX3_rename_97 ?_
                refine lv_istore (lv' := [(6, .int r29.1), (5, .int r23.1), (4, .int r21), (3, .int r19), (0, .ref mo), (1, .int x1), (2, .int x2)]) hx hb dX3_rename_100 hl (by decide) rfl (fun ls hl => ?_)
                refine lv_iload hx hb dX3_rename_102 (lv_at hl 0 rfl) ?_
                refine lv_if_le (tgt := 128) hx hb dX3_rename_104 (by decide) (fun hc => ?_) (fun hc => ?_)
                · rw [if_pos hc] at hf
                  exact B128 r19 r21 r23.1 r29.1 cu kn vl ok ov r29.1 r29.2.1 r29.2.2.1 r29.2.2.2 nd nk nv no H locs hP hS ls hf (lv_sub hl [4, 5, 6, 3, 2, 1, 0] rfl)
                · rw [if_neg hc] at hf
                  refine lv_iload hx hb dX3_rename_107 (lv_at hl 0 rfl) ?_
                  refine lv_iload hx hb dX3_rename_109 (lv_at hl 1 rfl) ?_
                  refine lv_icmp_eq (tgt := 128) hx hb dX3_rename_111 (by decide) (fun hc => ?_) (fun hc => ?_)
                  · rw [if_pos hc] at hf
                    exact B128 r19 r21 r23.1 r29.1 cu kn vl ok ov r29.1 r29.2.1 r29.2.2.1 r29.2.2.2 nd nk nv no H locs hP hS ls hf (lv_sub hl [4, 5, 6, 3, 2, 1, 0] rfl)
                  · rw [if_neg hc] at hf
                    refine lv_iload hx hb dX3_rename_114 (lv_at hl 0 rfl) ?_
                    refine lv_iconst (v := 2) hx hb dX3_rename_116 (by decide) ?_
                    refine lv_icmp_ne (tgt := 125) hx hb dX3_rename_117 (by decide) (fun hc => ?_) (fun hc => ?_)
                    · rw [if_neg hc] at hf
                      refine lv_bipush (v := (-7)) hx hb dX3_rename_125 (by decide) ?_
                      obtain rfl := Option.some.inj hf
                      rw [hQ]
                      exact im_iret hx hb hr (vp_nar_int _) hS hP dX3_rename_127 hlocks
                    · rw [if_pos hc] at hf
                      refine lv_bipush (v := (-6)) hx hb dX3_rename_120 (by decide) ?_
                      refine lv_goto (tgt := 127) hx hb dX3_rename_122 (by decide) ?_
                      obtain rfl := Option.some.inj hf
                      rw [hQ]
                      exact im_iret hx hb hr (vp_nar_int _) hS hP dX3_rename_127 hlocks
              · rw [if_pos hc] at hf
                refine lv_bipush (v := (-4)) hx hb dX3_rename_87 (by decide) ?_
                obtain rfl := Option.some.inj hf
                rw [hQ]
                exact im_iret hx hb hr (vp_nar_int _) hS hP dX3_rename_89 hlocks
            · rw [if_neg hc] at hf
              refine lv_bipush (v := (-9)) hx hb dX3_rename_72 (by decide) ?_
              obtain rfl := Option.some.inj hf
              rw [hQ]
              exact im_iret hx hb hr (vp_nar_int _) hS hP dX3_rename_74 hlocks
          · rw [if_pos hc] at hf
            refine lv_iconst (v := 0) hx hb dX3_rename_61 (by decide) ?_
            obtain rfl := Option.some.inj hf
            rw [hQ]
            exact im_iret hx hb hr (vp_nar_int _) hS hP dX3_rename_62 hlocks
        · rw [if_pos hc] at hf
          refine lv_bipush (v := (-3)) hx hb dX3_rename_52 (by decide) ?_
          obtain rfl := Option.some.inj hf
          rw [hQ]
          exact im_iret hx hb hr (vp_nar_int _) hS hP dX3_rename_54 hlocks
      · rw [if_neg hc] at hf
        exact B22 r19 r21 cu kn vl ok ov fo pa fi va nd nk nv no H locs hP hS ls hf (lv_sub hl [2, 3, 4, 1, 0] rfl)
  exact hgo s.heap [] hP va_S.rf
