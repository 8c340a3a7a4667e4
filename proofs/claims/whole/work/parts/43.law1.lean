/-! the law: what holds at the head of its loop, and the cases of its switch (by wip/gen/lawgen.py) -/
abbrev tsL : List Cond := Cond.initialized RL :: tb_g
theorem kp_P {D : va_G} {cl : List vw_C} {ws : va_W} {as as1 : List Nat} {H H1 : Heap} (hP : va_P D cl ws H) (he : ws.map Prod.fst = as) (hk : ∀ q : Nat, q < H.size → ¬ in_A as1 q → H1[q]? = H[q]?) (hd : ∀ a ∈ as, a ∉ as1) : va_P D cl ws H1 := by
  subst he
  exact hP.kept (fun k q hq => hk q.1 (hP k q hq).lt (hd q.1 (List.mem_map_of_mem (f := Prod.fst) (List.mem_of_getElem? hq))))
/-- the two objects hold the same tree -/
def lw_I (dC : Nat → ClassId) (dI : Nat → Nat → Nat) (cI cQ : ClassId) (top xo la ko kc nt : Nat) (lo lc : Nat → Nat) (mo m1 m2 m3 m4 m5 m6 m7 : Nat) (H : Heap) : Prop :=
  ∃ (c : Nat → ls_T) (md cu : Int32) (kp : ls_T) (kcu : Int32) (nf kn vl ok ov : Nat → Int32) (fo pa fi va : Int32) (nd nk nv : Nat → Int32) (no : Int32), iv_S top c kn vl ∧ (md = 0 ∨ md = 1) ∧ va_P (dC, dI) vwCl (wx_X cI cQ top xo la ko kc nt lo lc c md cu kp kcu nf) H ∧ va_P (dC, dI) vwCl (wm_M cI top mo m1 m2 m3 m4 m5 m6 m7 md cu kn vl ok ov fo pa fi va nd nk nv no) H
def lw_C (p : Program) (s : State) (m : MethodId) (c0 : Code) (b L n : Nat) (xs : Nat → Int32) (dC : Nat → ClassId) (dI : Nat → Nat → Nat) (cI cQ : ClassId) (t1 t2 top xo la ko kc nt : Nat) (lo lc : Nat → Nat) (mo m1 m2 m3 m4 m5 m6 m7 : Nat) (ls : Array Slot) : Prop :=
  p.tables.exec = Jvm.exec ∧ c0.code = cL_law ∧ c0.maxLocals = 4 ∧ s.vm.findClass RL = some m.cls ∧ (∀ w ∈ tsL, w.before #[Value.ref b] s = true) ∧ va_X b L xs s s.heap ∧ b < s.heap.size ∧ gk_K dC dI cI cQ t1 t2 s.heap.size s s.heap ∧ gd_A s.heap.size (ad_X top xo la ko kc nt lo lc) ∧ gd_A s.heap.size [mo, m1, m2, m3, m4, m5, m6, m7] ∧ (∀ a ∈ [mo, m1, m2, m3, m4, m5, m6, m7], a ∉ ad_X top xo la ko kc nt lo lc) ∧ lv_has ls 4 [(3, .int (nI n)), (2, .ref mo), (1, .ref xo), (0, .ref b)] ∧ n + 4 < L ∧ L ≤ 2561
section LAW1
variable {p : Program} {l : Launch} {e : Env} {s : State} {m : MethodId} {below : List Frame} {meth : Method} {c0 : Code} {H : Heap} {locs : List Loc} {Q : State → Prop}
variable {b L n : Nat} {xs : Nat → Int32} {dC : Nat → ClassId} {dI : Nat → Nat → Nat} {cI cQ : ClassId} {t1 t2 top xo la ko kc nt : Nat} {lo lc : Nat → Nat} {mo m1 m2 m3 m4 m5 m6 m7 : Nat} {ls : Array Slot}
theorem ld_S {A : Nat → Prop} {R : Room} {args : Array Value} {cells slots pc j : Nat} {kv : Int} {rest : List Value} (hx : p.tables.exec = Jvm.exec) (hb : c0.code = cL_law) (hX : va_X b L xs s s.heap) (hbl : b < s.heap.size) (hbA : ¬ A b) (hS : va_S A s.heap H locs) (h0 : ls[0]? = some (.val (.ref b))) (hi : ls[3]? = some (.val (.int (nI n)))) (hkv : Int32.ofInt kv = nI j) (hn : n + j < L) (hL : L ≤ 2561)
    (d1 : decode cL_law pc = .ok (.aload_n 0, 1)) (d2 : decode cL_law (pc + 1) = .ok (.iload_n 3, 1)) (d3 : decode cL_law (pc + 1 + 1) = .ok (.iconst kv, 1)) (d4 : decode cL_law (pc + 1 + 1 + 1) = .ok (.iadd, 1)) (d5 : decode cL_law (pc + 1 + 1 + 1 + 1) = .ok (.iaload, 1))
    (kk : W p l e R s m args below meth c0 H locs cells slots Q (F0 m (pc + 5) ls (.int (xs (n + j)) :: rest))) : W p l e R s m args below meth c0 H locs cells slots Q (F0 m pc ls rest) := by
  refine lv_aload_n hx hb d1 rfl h0 ?_
  refine lv_iload_n hx hb d2 rfl hi ?_
  refine lv_iconst (v := nI j) hx hb d3 hkv ?_
  refine lv_iadd hx hb d4 ?_
  rw [nI_add]
  refine va_sld hx hb hX hbl hbA hS (nI_in hn (by omega)) d5 ?_
  rw [nI_clamp (by omega)]
  exact kk
set_option maxHeartbeats 4000000 in
set_option maxRecDepth 100000 in
theorem la_put (hC : lw_C p s m c0 b L n xs dC dI cI cQ t1 t2 top xo la ko kc nt lo lc mo m1 m2 m3 m4 m5 m6 m7 ls) (hS : va_S (fun q => s.heap.size ≤ q) s.heap H locs) (hI : lw_I dC dI cI cQ top xo la ko kc nt lo lc mo m1 m2 m3 m4 m5 m6 m7 H) (kk : ∀ (H1 : Heap) (locs1 : List Loc), lw_I dC dI cI cQ top xo la ko kc nt lo lc mo m1 m2 m3 m4 m5 m6 m7 H1 → va_S (fun q => s.heap.size ≤ q) s.heap H1 locs1 → W p l e room_1 s m #[Value.ref b] below meth c0 H1 locs1 600000 7302250 Q (F0 m 555 ls [])) : W p l e room_1 s m #[Value.ref b] below meth c0 H locs 600000 7302250 Q (F0 m 124 ls []) := by
  obtain ⟨hx, hb, hml, hown, hts, hX, hbl, hG0, hgx, hgm, hdis, hl, hn, hL⟩ := hC
  obtain ⟨c, md, cu, kp, kcu, nf, kn, vl, ok, ov, fo, pa, fi, va, nd, nk, nv, no, hiv, hmd, hPx, hPm⟩ := hI
  have h1 := hiv.1
  have h3 := hiv.2.1
  have hre := hiv.2.2.1
  have hrc := hiv.2.2.2.1
  have hbA : ¬ (fun q : Nat => s.heap.size ≤ q) b := Nat.not_le.mpr hbl
  have hG := gk_S hG0 hS (fun q h => h)
  obtain ⟨v, c2, kn2, vl2, e1, e2, hiv2⟩ := pp_pu hiv (md := md) (x1 := xs (n + 1)) (x2 := xs (n + 2)) (x3 := xs (n + 3)) (x4 := xs (n + 4))
  refine lv_aload_n hx hb dL_law_124 rfl (lv_at hl 2 rfl) ?_
  refine ld_S hx hb hX hbl hbA hS (lv_at hl 3 rfl) (lv_at hl 0 rfl) (j := 1) (by decide) (by omega) (by omega) dL_law_125 dL_law_126 dL_law_127 dL_law_128 dL_law_129 ?_
  refine ld_S hx hb hX hbl hbA hS (lv_at hl 3 rfl) (lv_at hl 0 rfl) (j := 2) (by decide) (by omega) (by omega) dL_law_130 dL_law_131 dL_law_132 dL_law_133 dL_law_134 ?_
  refine ld_S hx hb hX hbl hbA hS (lv_at hl 3 rfl) (lv_at hl 0 rfl) (j := 3) (by decide) (by omega) (by omega) dL_law_135 dL_law_136 dL_law_137 dL_law_138 dL_law_139 ?_
  refine ld_S hx hb hX hbl hbA hS (lv_at hl 3 rfl) (lv_at hl 0 rfl) (j := 4) (by decide) (by omega) (by omega) dL_law_140 dL_law_141 dL_law_142 dL_law_143 dL_law_144 ?_
  refine im_calli (va_runV (As := [.int (xs (n + 1)), .int (xs (n + 2)), .int (xs (n + 3)), .int (xs (n + 4))]) (rest := []) ⟨hx, hb, hml, hown, hts⟩ (cx_put l dC dI cI cQ t1 t2 s.heap.size top xo la ko kc nt lo lc hgx c md cu kp kcu nf (xs (n + 1)) (xs (n + 2)) (xs (n + 3)) (xs (n + 4)) _ e1 H.size) (cwV 4 hts (gs_V lk_356 lk_357 lk_358 lk_37 lk_359) rfl rfl rfl (by decide +kernel) ⟨Nat.le_of_ble_eq_true rfl, Nat.le_of_ble_eq_true rfl⟩) (pr_V gk_W (va_recv hG.1 hPx (q0 := 0) rfl rfl) ⟨hG, hPx⟩) rfl rfl hl.1 rfl (lv_room (Nat.le_of_ble_eq_true rfl)) dL_law_145 ⟨Nat.le_refl _, Nat.le_refl _⟩) hS (bb_A hgx) (fun H1 locs1 hPx1 hk hS => ?_)
  have hPm := kp_P (as := [mo, m1, m2, m3, m4, m5, m6, m7]) hPm rfl hk (fun a ha => hdis a ha)
  have hPx := hPx1
  have hG := gk_S hG0 hS (fun q h => h)
  generalize H1 = H at hPx hPm hS hG ⊢
  refine lv_aload_n hx hb dL_law_148 rfl (lv_at hl 1 rfl) ?_
  refine ld_S hx hb hX hbl hbA hS (lv_at hl 3 rfl) (lv_at hl 0 rfl) (j := 1) (by decide) (by omega) (by omega) dL_law_149 dL_law_150 dL_law_151 dL_law_152 dL_law_153 ?_
  refine ld_S hx hb hX hbl hbA hS (lv_at hl 3 rfl) (lv_at hl 0 rfl) (j := 2) (by decide) (by omega) (by omega) dL_law_154 dL_law_155 dL_law_156 dL_law_157 dL_law_158 ?_
  refine ld_S hx hb hX hbl hbA hS (lv_at hl 3 rfl) (lv_at hl 0 rfl) (j := 3) (by decide) (by omega) (by omega) dL_law_159 dL_law_160 dL_law_161 dL_law_162 dL_law_163 ?_
  refine ld_S hx hb hX hbl hbA hS (lv_at hl 3 rfl) (lv_at hl 0 rfl) (j := 4) (by decide) (by omega) (by omega) dL_law_164 dL_law_165 dL_law_166 dL_law_167 dL_law_168 ?_
  refine im_calli (va_runV (As := [.int (xs (n + 1)), .int (xs (n + 2)), .int (xs (n + 3)), .int (xs (n + 4))]) (rest := [.int _]) ⟨hx, hb, hml, hown, hts⟩ (cq_put l dC dI cI cQ t1 t2 s.heap.size top mo m1 m2 m3 m4 m5 m6 m7 hgm md cu kn vl ok ov fo pa fi va nd nk nv no (xs (n + 1)) (xs (n + 2)) (xs (n + 3)) (xs (n + 4)) _ e2 H.size) (cwV 4 hts (gs_V lk_434 lk_435 lk_436 lk_194 lk_437) rfl rfl rfl (by decide +kernel) ⟨Nat.le_of_ble_eq_true rfl, Nat.le_of_ble_eq_true rfl⟩) (pr_V gk_W (va_recv hG.1 hPm (q0 := 0) rfl rfl) ⟨hG, hPm⟩) rfl rfl hl.1 rfl (lv_room (Nat.le_of_ble_eq_true rfl)) dL_law_169 ⟨Nat.le_refl _, Nat.le_refl _⟩) hS (bb_A hgm) (fun H1 locs1 hPm1 hk hS => ?_)
  have hPx := kp_P hPx mx_X hk (fun a ha z => hdis a z ha)
  have hPm := hPm1
  generalize H1 = H at hPx hPm hS ⊢
  refine lv_icmp_eq (tgt := 555) hx hb dL_law_172 (by decide) (fun _ => ?_) (fun hc => absurd rfl hc)
  exact kk H _ ⟨_, _, _, _, _, _, _, _, _, _, _, _, _, _, _, _, _, _, hiv2, hmd, hPx, hPm⟩ hS
set_option maxHeartbeats 4000000 in
set_option maxRecDepth 100000 in
theorem la_mount (hC : lw_C p s m c0 b L n xs dC dI cI cQ t1 t2 top xo la ko kc nt lo lc mo m1 m2 m3 m4 m5 m6 m7 ls) (hS : va_S (fun q => s.heap.size ≤ q) s.heap H locs) (hI : lw_I dC dI cI cQ top xo la ko kc nt lo lc mo m1 m2 m3 m4 m5 m6 m7 H) (kk : ∀ (H1 : Heap) (locs1 : List Loc), lw_I dC dI cI cQ top xo la ko kc nt lo lc mo m1 m2 m3 m4 m5 m6 m7 H1 → va_S (fun q => s.heap.size ≤ q) s.heap H1 locs1 → W p l e room_1 s m #[Value.ref b] below meth c0 H1 locs1 600000 7302250 Q (F0 m 555 ls [])) : W p l e room_1 s m #[Value.ref b] below meth c0 H locs 600000 7302250 Q (F0 m 177 ls []) := by
  obtain ⟨hx, hb, hml, hown, hts, hX, hbl, hG0, hgx, hgm, hdis, hl, hn, hL⟩ := hC
  obtain ⟨c, md, cu, kp, kcu, nf, kn, vl, ok, ov, fo, pa, fi, va, nd, nk, nv, no, hiv, hmd, hPx, hPm⟩ := hI
  have h1 := hiv.1
  have h3 := hiv.2.1
  have hre := hiv.2.2.1
  have hrc := hiv.2.2.2.1
  have hbA : ¬ (fun q : Nat => s.heap.size ≤ q) b := Nat.not_le.mpr hbl
  have hG := gk_S hG0 hS (fun q h => h)
  have hiv2 := hiv
  obtain ⟨v, e1, e2⟩ : ∃ v : Int32, fx_mount md = some (v, 1) ∧ fq_mount md = some (v, 1) := by
    rcases hmd with h | h <;> rw [h]
    · exact ⟨1, rfl, rfl⟩
    · exact ⟨0, rfl, rfl⟩
  have hmd : (1 : Int32) = 0 ∨ (1 : Int32) = 1 := Or.inr rfl
  refine lv_aload_n hx hb dL_law_177 rfl (lv_at hl 2 rfl) ?_
  refine im_calli (va_runV (As := []) (rest := []) ⟨hx, hb, hml, hown, hts⟩ (cx_mount l dC dI cI cQ t1 t2 s.heap.size top xo la ko kc nt lo lc hgx c md cu kp kcu nf _ e1 H.size) (cwV 0 hts (gs_V lk_360 lk_361 lk_362 lk_37 lk_363) rfl rfl rfl (by decide +kernel) ⟨Nat.le_of_ble_eq_true rfl, Nat.le_of_ble_eq_true rfl⟩) (pr_V gk_W (va_recv hG.1 hPx (q0 := 0) rfl rfl) ⟨hG, hPx⟩) rfl rfl hl.1 rfl (lv_room (Nat.le_of_ble_eq_true rfl)) dL_law_178 ⟨Nat.le_refl _, Nat.le_refl _⟩) hS (bb_A hgx) (fun H1 locs1 hPx1 hk hS => ?_)
  have hPm := kp_P (as := [mo, m1, m2, m3, m4, m5, m6, m7]) hPm rfl hk (fun a ha => hdis a ha)
  have hPx := hPx1
  have hG := gk_S hG0 hS (fun q h => h)
  generalize H1 = H at hPx hPm hS hG ⊢
  refine lv_aload_n hx hb dL_law_181 rfl (lv_at hl 1 rfl) ?_
  refine im_calli (va_runV (As := []) (rest := [.int _]) ⟨hx, hb, hml, hown, hts⟩ (cq_mount l dC dI cI cQ t1 t2 s.heap.size top mo m1 m2 m3 m4 m5 m6 m7 hgm md cu kn vl ok ov fo pa fi va nd nk nv no _ e2 H.size) (cwV 0 hts (gs_V lk_438 lk_439 lk_440 lk_194 lk_441) rfl rfl rfl (by decide +kernel) ⟨Nat.le_of_ble_eq_true rfl, Nat.le_of_ble_eq_true rfl⟩) (pr_V gk_W (va_recv hG.1 hPm (q0 := 0) rfl rfl) ⟨hG, hPm⟩) rfl rfl hl.1 rfl (lv_room (Nat.le_of_ble_eq_true rfl)) dL_law_182 ⟨Nat.le_refl _, Nat.le_refl _⟩) hS (bb_A hgm) (fun H1 locs1 hPm1 hk hS => ?_)
  have hPx := kp_P hPx mx_X hk (fun a ha z => hdis a z ha)
  have hPm := hPm1
  generalize H1 = H at hPx hPm hS ⊢
  refine lv_icmp_eq (tgt := 555) hx hb dL_law_185 (by decide) (fun _ => ?_) (fun hc => absurd rfl hc)
  exact kk H _ ⟨_, _, _, _, _, _, _, _, _, _, _, _, _, _, _, _, _, _, hiv2, hmd, hPx, hPm⟩ hS
set_option maxHeartbeats 4000000 in
set_option maxRecDepth 100000 in
theorem la_kind (hC : lw_C p s m c0 b L n xs dC dI cI cQ t1 t2 top xo la ko kc nt lo lc mo m1 m2 m3 m4 m5 m6 m7 ls) (hS : va_S (fun q => s.heap.size ≤ q) s.heap H locs) (hI : lw_I dC dI cI cQ top xo la ko kc nt lo lc mo m1 m2 m3 m4 m5 m6 m7 H) (kk : ∀ (H1 : Heap) (locs1 : List Loc), lw_I dC dI cI cQ top xo la ko kc nt lo lc mo m1 m2 m3 m4 m5 m6 m7 H1 → va_S (fun q => s.heap.size ≤ q) s.heap H1 locs1 → W p l e room_1 s m #[Value.ref b] below meth c0 H1 locs1 600000 7302250 Q (F0 m 555 ls [])) : W p l e room_1 s m #[Value.ref b] below meth c0 H locs 600000 7302250 Q (F0 m 190 ls []) := by
  obtain ⟨hx, hb, hml, hown, hts, hX, hbl, hG0, hgx, hgm, hdis, hl, hn, hL⟩ := hC
  obtain ⟨c, md, cu, kp, kcu, nf, kn, vl, ok, ov, fo, pa, fi, va, nd, nk, nv, no, hiv, hmd, hPx, hPm⟩ := hI
  have h1 := hiv.1
  have h3 := hiv.2.1
  have hre := hiv.2.2.1
  have hrc := hiv.2.2.2.1
  have hbA : ¬ (fun q : Nat => s.heap.size ≤ q) b := Nat.not_le.mpr hbl
  have hG := gk_S hG0 hS (fun q h => h)
  have e1 := xc_ki (c := c) h3 (md := md) (x := xs (n + 1))
  obtain ⟨R, e2, -⟩ := qc_ki hre h1 h3 (md := md) (x := xs (n + 1)) (fo := fo) (pa := pa) (fi := fi) (va := va)
  refine lv_aload_n hx hb dL_law_190 rfl (lv_at hl 2 rfl) ?_
  refine ld_S hx hb hX hbl hbA hS (lv_at hl 3 rfl) (lv_at hl 0 rfl) (j := 1) (by decide) (by omega) (by omega) dL_law_191 dL_law_192 dL_law_193 dL_law_194 dL_law_195 ?_
  refine pu_calli (va_runV (As := [.int (xs (n + 1))]) (rest := []) ⟨hx, hb, hml, hown, hts⟩ (cx_kind l dC dI cI cQ t1 t2 s.heap.size top xo la ko kc nt lo lc hgx c md cu kp kcu nf (xs (n + 1)) _ e1 H.size) (cwV 1 hts (gs_V lk_364 lk_365 lk_366 lk_37 lk_367) rfl rfl rfl (by decide +kernel) ⟨Nat.le_of_ble_eq_true rfl, Nat.le_of_ble_eq_true rfl⟩) (pr_V gk_W (va_recv hG.1 hPx (q0 := 0) rfl rfl) ⟨hG, hPx⟩) rfl rfl hl.1 rfl (lv_room (Nat.le_of_ble_eq_true rfl)) dL_law_196 ⟨Nat.le_refl _, Nat.le_refl _⟩) ?_
  refine lv_aload_n hx hb dL_law_199 rfl (lv_at hl 1 rfl) ?_
  refine ld_S hx hb hX hbl hbA hS (lv_at hl 3 rfl) (lv_at hl 0 rfl) (j := 1) (by decide) (by omega) (by omega) dL_law_200 dL_law_201 dL_law_202 dL_law_203 dL_law_204 ?_
  refine im_calli (va_runV (As := [.int (xs (n + 1))]) (rest := [.int _]) ⟨hx, hb, hml, hown, hts⟩ (cq_kind l dC dI cI cQ t1 t2 s.heap.size top mo m1 m2 m3 m4 m5 m6 m7 hgm md cu kn vl ok ov fo pa fi va nd nk nv no (xs (n + 1)) _ e2 H.size) (cwV 1 hts (gs_V lk_455 lk_263 lk_264 lk_194 lk_262) rfl rfl rfl (by decide +kernel) ⟨Nat.le_of_ble_eq_true rfl, Nat.le_of_ble_eq_true rfl⟩) (pr_V gk_W (va_recv hG.1 hPm (q0 := 0) rfl rfl) ⟨hG, hPm⟩) rfl rfl hl.1 rfl (lv_room (Nat.le_of_ble_eq_true rfl)) dL_law_205 ⟨Nat.le_refl _, Nat.le_refl _⟩) hS (bb_A hgm) (fun H1 locs1 hPm1 hk hS => ?_)
  have hPx := kp_P hPx mx_X hk (fun a ha z => hdis a z ha)
  have hPm := hPm1
  generalize H1 = H at hPx hPm hS ⊢
  refine lv_icmp_eq (tgt := 555) hx hb dL_law_208 (by decide) (fun _ => ?_) (fun hc => absurd rfl hc)
  exact kk H _ ⟨_, _, _, _, _, _, _, _, _, _, _, _, _, _, _, _, _, _, hiv, hmd, hPx, hPm⟩ hS
set_option maxHeartbeats 4000000 in
set_option maxRecDepth 100000 in
theorem la_read (hC : lw_C p s m c0 b L n xs dC dI cI cQ t1 t2 top xo la ko kc nt lo lc mo m1 m2 m3 m4 m5 m6 m7 ls) (hS : va_S (fun q => s.heap.size ≤ q) s.heap H locs) (hI : lw_I dC dI cI cQ top xo la ko kc nt lo lc mo m1 m2 m3 m4 m5 m6 m7 H) (kk : ∀ (H1 : Heap) (locs1 : List Loc), lw_I dC dI cI cQ top xo la ko kc nt lo lc mo m1 m2 m3 m4 m5 m6 m7 H1 → va_S (fun q => s.heap.size ≤ q) s.heap H1 locs1 → W p l e room_1 s m #[Value.ref b] below meth c0 H1 locs1 600000 7302250 Q (F0 m 555 ls [])) : W p l e room_1 s m #[Value.ref b] below meth c0 H locs 600000 7302250 Q (F0 m 213 ls []) := by
  obtain ⟨hx, hb, hml, hown, hts, hX, hbl, hG0, hgx, hgm, hdis, hl, hn, hL⟩ := hC
  obtain ⟨c, md, cu, kp, kcu, nf, kn, vl, ok, ov, fo, pa, fi, va, nd, nk, nv, no, hiv, hmd, hPx, hPm⟩ := hI
  have h1 := hiv.1
  have h3 := hiv.2.1
  have hre := hiv.2.2.1
  have hrc := hiv.2.2.2.1
  have hbA : ¬ (fun q : Nat => s.heap.size ≤ q) b := Nat.not_le.mpr hbl
  have hG := gk_S hG0 hS (fun q h => h)
  obtain ⟨v, R, e1, e2⟩ := pp_rd hre h1 h3 (md := md) (x := xs (n + 1)) (fo := fo) (pa := pa) (fi := fi) (va := va)
  refine lv_aload_n hx hb dL_law_213 rfl (lv_at hl 2 rfl) ?_
  refine ld_S hx hb hX hbl hbA hS (lv_at hl 3 rfl) (lv_at hl 0 rfl) (j := 1) (by decide) (by omega) (by omega) dL_law_214 dL_law_215 dL_law_216 dL_law_217 dL_law_218 ?_
  refine pu_calli (va_runV (As := [.int (xs (n + 1))]) (rest := []) ⟨hx, hb, hml, hown, hts⟩ (cx_read l dC dI cI cQ t1 t2 s.heap.size top xo la ko kc nt lo lc hgx c md cu kp kcu nf (xs (n + 1)) _ e1 H.size) (cwV 1 hts (gs_V lk_368 lk_369 lk_370 lk_37 lk_371) rfl rfl rfl (by decide +kernel) ⟨Nat.le_of_ble_eq_true rfl, Nat.le_of_ble_eq_true rfl⟩) (pr_V gk_W (va_recv hG.1 hPx (q0 := 0) rfl rfl) ⟨hG, hPx⟩) rfl rfl hl.1 rfl (lv_room (Nat.le_of_ble_eq_true rfl)) dL_law_219 ⟨Nat.le_refl _, Nat.le_refl _⟩) ?_
  refine lv_aload_n hx hb dL_law_222 rfl (lv_at hl 1 rfl) ?_
  refine ld_S hx hb hX hbl hbA hS (lv_at hl 3 rfl) (lv_at hl 0 rfl) (j := 1) (by decide) (by omega) (by omega) dL_law_223 dL_law_224 dL_law_225 dL_law_226 dL_law_227 ?_
  refine im_calli (va_runV (As := [.int (xs (n + 1))]) (rest := [.int _]) ⟨hx, hb, hml, hown, hts⟩ (cq_read l dC dI cI cQ t1 t2 s.heap.size top mo m1 m2 m3 m4 m5 m6 m7 hgm md cu kn vl ok ov fo pa fi va nd nk nv no (xs (n + 1)) _ e2 H.size) (cwV 1 hts (gs_V lk_456 lk_457 lk_458 lk_194 lk_459) rfl rfl rfl (by decide +kernel) ⟨Nat.le_of_ble_eq_true rfl, Nat.le_of_ble_eq_true rfl⟩) (pr_V gk_W (va_recv hG.1 hPm (q0 := 0) rfl rfl) ⟨hG, hPm⟩) rfl rfl hl.1 rfl (lv_room (Nat.le_of_ble_eq_true rfl)) dL_law_228 ⟨Nat.le_refl _, Nat.le_refl _⟩) hS (bb_A hgm) (fun H1 locs1 hPm1 hk hS => ?_)
  have hPx := kp_P hPx mx_X hk (fun a ha z => hdis a z ha)
  have hPm := hPm1
  generalize H1 = H at hPx hPm hS ⊢
  refine lv_icmp_eq (tgt := 555) hx hb dL_law_231 (by decide) (fun _ => ?_) (fun hc => absurd rfl hc)
  exact kk H _ ⟨_, _, _, _, _, _, _, _, _, _, _, _, _, _, _, _, _, _, hiv, hmd, hPx, hPm⟩ hS
set_option maxHeartbeats 4000000 in
set_option maxRecDepth 100000 in
theorem la_size (hC : lw_C p s m c0 b L n xs dC dI cI cQ t1 t2 top xo la ko kc nt lo lc mo m1 m2 m3 m4 m5 m6 m7 ls) (hS : va_S (fun q => s.heap.size ≤ q) s.heap H locs) (hI : lw_I dC dI cI cQ top xo la ko kc nt lo lc mo m1 m2 m3 m4 m5 m6 m7 H) (kk : ∀ (H1 : Heap) (locs1 : List Loc), lw_I dC dI cI cQ top xo la ko kc nt lo lc mo m1 m2 m3 m4 m5 m6 m7 H1 → va_S (fun q => s.heap.size ≤ q) s.heap H1 locs1 → W p l e room_1 s m #[Value.ref b] below meth c0 H1 locs1 600000 7302250 Q (F0 m 555 ls [])) : W p l e room_1 s m #[Value.ref b] below meth c0 H locs 600000 7302250 Q (F0 m 236 ls []) := by
  obtain ⟨hx, hb, hml, hown, hts, hX, hbl, hG0, hgx, hgm, hdis, hl, hn, hL⟩ := hC
  obtain ⟨c, md, cu, kp, kcu, nf, kn, vl, ok, ov, fo, pa, fi, va, nd, nk, nv, no, hiv, hmd, hPx, hPm⟩ := hI
  have h1 := hiv.1
  have h3 := hiv.2.1
  have hre := hiv.2.2.1
  have hrc := hiv.2.2.2.1
  have hbA : ¬ (fun q : Nat => s.heap.size ≤ q) b := Nat.not_le.mpr hbl
  have hG := gk_S hG0 hS (fun q h => h)
  have e1 := xc_sz (c := c) h3 (md := md) (x := xs (n + 1))
  obtain ⟨R, e2⟩ := qc_sz hre h1 h3 (md := md) (x := xs (n + 1)) (fo := fo) (pa := pa) (fi := fi) (va := va)
  refine lv_aload_n hx hb dL_law_236 rfl (lv_at hl 2 rfl) ?_
  refine ld_S hx hb hX hbl hbA hS (lv_at hl 3 rfl) (lv_at hl 0 rfl) (j := 1) (by decide) (by omega) (by omega) dL_law_237 dL_law_238 dL_law_239 dL_law_240 dL_law_241 ?_
  refine pu_calli (va_runV (As := [.int (xs (n + 1))]) (rest := []) ⟨hx, hb, hml, hown, hts⟩ (cx_size l dC dI cI cQ t1 t2 s.heap.size top xo la ko kc nt lo lc hgx c md cu kp kcu nf (xs (n + 1)) _ e1 H.size) (cwV 1 hts (gs_V lk_372 lk_373 lk_374 lk_37 lk_375) rfl rfl rfl (by decide +kernel) ⟨Nat.le_of_ble_eq_true rfl, Nat.le_of_ble_eq_true rfl⟩) (pr_V gk_W (va_recv hG.1 hPx (q0 := 0) rfl rfl) ⟨hG, hPx⟩) rfl rfl hl.1 rfl (lv_room (Nat.le_of_ble_eq_true rfl)) dL_law_242 ⟨Nat.le_refl _, Nat.le_refl _⟩) ?_
  refine lv_aload_n hx hb dL_law_245 rfl (lv_at hl 1 rfl) ?_
  refine ld_S hx hb hX hbl hbA hS (lv_at hl 3 rfl) (lv_at hl 0 rfl) (j := 1) (by decide) (by omega) (by omega) dL_law_246 dL_law_247 dL_law_248 dL_law_249 dL_law_250 ?_
  refine im_calli (va_runV (As := [.int (xs (n + 1))]) (rest := [.int _]) ⟨hx, hb, hml, hown, hts⟩ (cq_size l dC dI cI cQ t1 t2 s.heap.size top mo m1 m2 m3 m4 m5 m6 m7 hgm md cu kn vl ok ov fo pa fi va nd nk nv no (xs (n + 1)) _ e2 H.size) (cwV 1 hts (gs_V lk_460 lk_271 lk_272 lk_194 lk_270) rfl rfl rfl (by decide +kernel) ⟨Nat.le_of_ble_eq_true rfl, Nat.le_of_ble_eq_true rfl⟩) (pr_V gk_W (va_recv hG.1 hPm (q0 := 0) rfl rfl) ⟨hG, hPm⟩) rfl rfl hl.1 rfl (lv_room (Nat.le_of_ble_eq_true rfl)) dL_law_251 ⟨Nat.le_refl _, Nat.le_refl _⟩) hS (bb_A hgm) (fun H1 locs1 hPm1 hk hS => ?_)
  have hPx := kp_P hPx mx_X hk (fun a ha z => hdis a z ha)
  have hPm := hPm1
  generalize H1 = H at hPx hPm hS ⊢
  refine lv_icmp_eq (tgt := 555) hx hb dL_law_254 (by decide) (fun _ => ?_) (fun hc => absurd rfl hc)
  exact kk H _ ⟨_, _, _, _, _, _, _, _, _, _, _, _, _, _, _, _, _, _, hiv, hmd, hPx, hPm⟩ hS
set_option maxHeartbeats 4000000 in
set_option maxRecDepth 100000 in
theorem la_name (hC : lw_C p s m c0 b L n xs dC dI cI cQ t1 t2 top xo la ko kc nt lo lc mo m1 m2 m3 m4 m5 m6 m7 ls) (hS : va_S (fun q => s.heap.size ≤ q) s.heap H locs) (hI : lw_I dC dI cI cQ top xo la ko kc nt lo lc mo m1 m2 m3 m4 m5 m6 m7 H) (kk : ∀ (H1 : Heap) (locs1 : List Loc), lw_I dC dI cI cQ top xo la ko kc nt lo lc mo m1 m2 m3 m4 m5 m6 m7 H1 → va_S (fun q => s.heap.size ≤ q) s.heap H1 locs1 → W p l e room_1 s m #[Value.ref b] below meth c0 H1 locs1 600000 7302250 Q (F0 m 555 ls [])) : W p l e room_1 s m #[Value.ref b] below meth c0 H locs 600000 7302250 Q (F0 m 259 ls []) := by
  obtain ⟨hx, hb, hml, hown, hts, hX, hbl, hG0, hgx, hgm, hdis, hl, hn, hL⟩ := hC
  obtain ⟨c, md, cu, kp, kcu, nf, kn, vl, ok, ov, fo, pa, fi, va, nd, nk, nv, no, hiv, hmd, hPx, hPm⟩ := hI
  have h1 := hiv.1
  have h3 := hiv.2.1
  have hre := hiv.2.2.1
  have hrc := hiv.2.2.2.1
  have hbA : ¬ (fun q : Nat => s.heap.size ≤ q) b := Nat.not_le.mpr hbl
  have hG := gk_S hG0 hS (fun q h => h)
  have e1 := xc_na (c := c) h3 (md := md) (x := xs (n + 1)) (i := xs (n + 2))
  obtain ⟨R, e2⟩ := qc_na hre h1 h3 (md := md) (x := xs (n + 1)) (i := xs (n + 2)) (fo := fo) (pa := pa) (fi := fi) (va := va)
  refine lv_aload_n hx hb dL_law_259 rfl (lv_at hl 2 rfl) ?_
  refine ld_S hx hb hX hbl hbA hS (lv_at hl 3 rfl) (lv_at hl 0 rfl) (j := 1) (by decide) (by omega) (by omega) dL_law_260 dL_law_261 dL_law_262 dL_law_263 dL_law_264 ?_
  refine ld_S hx hb hX hbl hbA hS (lv_at hl 3 rfl) (lv_at hl 0 rfl) (j := 2) (by decide) (by omega) (by omega) dL_law_265 dL_law_266 dL_law_267 dL_law_268 dL_law_269 ?_
  refine pu_calli (va_runV (As := [.int (xs (n + 1)), .int (xs (n + 2))]) (rest := []) ⟨hx, hb, hml, hown, hts⟩ (cx_name l dC dI cI cQ t1 t2 s.heap.size top xo la ko kc nt lo lc hgx c md cu kp kcu nf (xs (n + 1)) (xs (n + 2)) _ e1 H.size) (cwV 2 hts (gs_V lk_376 lk_377 lk_378 lk_37 lk_379) rfl rfl rfl (by decide +kernel) ⟨Nat.le_of_ble_eq_true rfl, Nat.le_of_ble_eq_true rfl⟩) (pr_V gk_W (va_recv hG.1 hPx (q0 := 0) rfl rfl) ⟨hG, hPx⟩) rfl rfl hl.1 rfl (lv_room (Nat.le_of_ble_eq_true rfl)) dL_law_270 ⟨Nat.le_refl _, Nat.le_refl _⟩) ?_
  refine lv_aload_n hx hb dL_law_273 rfl (lv_at hl 1 rfl) ?_
  refine ld_S hx hb hX hbl hbA hS (lv_at hl 3 rfl) (lv_at hl 0 rfl) (j := 1) (by decide) (by omega) (by omega) dL_law_274 dL_law_275 dL_law_276 dL_law_277 dL_law_278 ?_
  refine ld_S hx hb hX hbl hbA hS (lv_at hl 3 rfl) (lv_at hl 0 rfl) (j := 2) (by decide) (by omega) (by omega) dL_law_279 dL_law_280 dL_law_281 dL_law_282 dL_law_283 ?_
  refine im_calli (va_runV (As := [.int (xs (n + 1)), .int (xs (n + 2))]) (rest := [.int _]) ⟨hx, hb, hml, hown, hts⟩ (cq_name l dC dI cI cQ t1 t2 s.heap.size top mo m1 m2 m3 m4 m5 m6 m7 hgm md cu kn vl ok ov fo pa fi va nd nk nv no (xs (n + 1)) (xs (n + 2)) _ e2 H.size) (cwV 2 hts (gs_V lk_461 lk_462 lk_463 lk_194 lk_464) rfl rfl rfl (by decide +kernel) ⟨Nat.le_of_ble_eq_true rfl, Nat.le_of_ble_eq_true rfl⟩) (pr_V gk_W (va_recv hG.1 hPm (q0 := 0) rfl rfl) ⟨hG, hPm⟩) rfl rfl hl.1 rfl (lv_room (Nat.le_of_ble_eq_true rfl)) dL_law_284 ⟨Nat.le_refl _, Nat.le_refl _⟩) hS (bb_A hgm) (fun H1 locs1 hPm1 hk hS => ?_)
  have hPx := kp_P hPx mx_X hk (fun a ha z => hdis a z ha)
  have hPm := hPm1
  generalize H1 = H at hPx hPm hS ⊢
  refine lv_icmp_eq (tgt := 555) hx hb dL_law_287 (by decide) (fun _ => ?_) (fun hc => absurd rfl hc)
  exact kk H _ ⟨_, _, _, _, _, _, _, _, _, _, _, _, _, _, _, _, _, _, hiv, hmd, hPx, hPm⟩ hS
set_option maxHeartbeats 4000000 in
set_option maxRecDepth 100000 in
theorem la_objects (hC : lw_C p s m c0 b L n xs dC dI cI cQ t1 t2 top xo la ko kc nt lo lc mo m1 m2 m3 m4 m5 m6 m7 ls) (hS : va_S (fun q => s.heap.size ≤ q) s.heap H locs) (hI : lw_I dC dI cI cQ top xo la ko kc nt lo lc mo m1 m2 m3 m4 m5 m6 m7 H) (kk : ∀ (H1 : Heap) (locs1 : List Loc), lw_I dC dI cI cQ top xo la ko kc nt lo lc mo m1 m2 m3 m4 m5 m6 m7 H1 → va_S (fun q => s.heap.size ≤ q) s.heap H1 locs1 → W p l e room_1 s m #[Value.ref b] below meth c0 H1 locs1 600000 7302250 Q (F0 m 555 ls [])) : W p l e room_1 s m #[Value.ref b] below meth c0 H locs 600000 7302250 Q (F0 m 292 ls []) := by
  obtain ⟨hx, hb, hml, hown, hts, hX, hbl, hG0, hgx, hgm, hdis, hl, hn, hL⟩ := hC
  obtain ⟨c, md, cu, kp, kcu, nf, kn, vl, ok, ov, fo, pa, fi, va, nd, nk, nv, no, hiv, hmd, hPx, hPm⟩ := hI
  have h1 := hiv.1
  have h3 := hiv.2.1
  have hre := hiv.2.2.1
  have hrc := hiv.2.2.2.1
  have hbA : ¬ (fun q : Nat => s.heap.size ≤ q) b := Nat.not_le.mpr hbl
  have hG := gk_S hG0 hS (fun q h => h)
  obtain ⟨v, R, e1, e2⟩ := pp_ob hre h1 h3 (md := md) (fo := fo) (pa := pa) (fi := fi) (va := va)
  refine lv_aload_n hx hb dL_law_292 rfl (lv_at hl 2 rfl) ?_
  refine pu_calli (va_runV (As := []) (rest := []) ⟨hx, hb, hml, hown, hts⟩ (cx_objects l dC dI cI cQ t1 t2 s.heap.size top xo la ko kc nt lo lc hgx c md cu kp kcu nf _ e1 H.size) (cwV 0 hts (gs_V lk_380 lk_381 lk_382 lk_37 lk_383) rfl rfl rfl (by decide +kernel) ⟨Nat.le_of_ble_eq_true rfl, Nat.le_of_ble_eq_true rfl⟩) (pr_V gk_W (va_recv hG.1 hPx (q0 := 0) rfl rfl) ⟨hG, hPx⟩) rfl rfl hl.1 rfl (lv_room (Nat.le_of_ble_eq_true rfl)) dL_law_293 ⟨Nat.le_refl _, Nat.le_refl _⟩) ?_
  refine lv_aload_n hx hb dL_law_296 rfl (lv_at hl 1 rfl) ?_
  refine im_calli (va_runV (As := []) (rest := [.int _]) ⟨hx, hb, hml, hown, hts⟩ (cq_objects l dC dI cI cQ t1 t2 s.heap.size top mo m1 m2 m3 m4 m5 m6 m7 hgm md cu kn vl ok ov fo pa fi va nd nk nv no _ e2 H.size) (cwV 0 hts (gs_V lk_465 lk_466 lk_467 lk_194 lk_468) rfl rfl rfl (by decide +kernel) ⟨Nat.le_of_ble_eq_true rfl, Nat.le_of_ble_eq_true rfl⟩) (pr_V gk_W (va_recv hG.1 hPm (q0 := 0) rfl rfl) ⟨hG, hPm⟩) rfl rfl hl.1 rfl (lv_room (Nat.le_of_ble_eq_true rfl)) dL_law_297 ⟨Nat.le_refl _, Nat.le_refl _⟩) hS (bb_A hgm) (fun H1 locs1 hPm1 hk hS => ?_)
  have hPx := kp_P hPx mx_X hk (fun a ha z => hdis a z ha)
  have hPm := hPm1
  generalize H1 = H at hPx hPm hS ⊢
  refine lv_icmp_eq (tgt := 555) hx hb dL_law_300 (by decide) (fun _ => ?_) (fun hc => absurd rfl hc)
  exact kk H _ ⟨_, _, _, _, _, _, _, _, _, _, _, _, _, _, _, _, _, _, hiv, hmd, hPx, hPm⟩ hS
set_option maxHeartbeats 4000000 in
set_option maxRecDepth 100000 in
theorem la_origin (hC : lw_C p s m c0 b L n xs dC dI cI cQ t1 t2 top xo la ko kc nt lo lc mo m1 m2 m3 m4 m5 m6 m7 ls) (hS : va_S (fun q => s.heap.size ≤ q) s.heap H locs) (hI : lw_I dC dI cI cQ top xo la ko kc nt lo lc mo m1 m2 m3 m4 m5 m6 m7 H) (kk : ∀ (H1 : Heap) (locs1 : List Loc), lw_I dC dI cI cQ top xo la ko kc nt lo lc mo m1 m2 m3 m4 m5 m6 m7 H1 → va_S (fun q => s.heap.size ≤ q) s.heap H1 locs1 → W p l e room_1 s m #[Value.ref b] below meth c0 H1 locs1 600000 7302250 Q (F0 m 555 ls [])) : W p l e room_1 s m #[Value.ref b] below meth c0 H locs 600000 7302250 Q (F0 m 305 ls []) := by
  obtain ⟨hx, hb, hml, hown, hts, hX, hbl, hG0, hgx, hgm, hdis, hl, hn, hL⟩ := hC
  obtain ⟨c, md, cu, kp, kcu, nf, kn, vl, ok, ov, fo, pa, fi, va, nd, nk, nv, no, hiv, hmd, hPx, hPm⟩ := hI
  have h1 := hiv.1
  have h3 := hiv.2.1
  have hre := hiv.2.2.1
  have hrc := hiv.2.2.2.1
  have hbA : ¬ (fun q : Nat => s.heap.size ≤ q) b := Nat.not_le.mpr hbl
  have hG := gk_S hG0 hS (fun q h => h)
  obtain ⟨v, R, e1, e2⟩ := pp_or hre h1 h3 (md := md) (x := xs (n + 1)) (fo := fo) (pa := pa) (fi := fi) (va := va)
  refine lv_aload_n hx hb dL_law_305 rfl (lv_at hl 2 rfl) ?_
  refine ld_S hx hb hX hbl hbA hS (lv_at hl 3 rfl) (lv_at hl 0 rfl) (j := 1) (by decide) (by omega) (by omega) dL_law_306 dL_law_307 dL_law_308 dL_law_309 dL_law_310 ?_
  refine pu_calli (va_runV (As := [.int (xs (n + 1))]) (rest := []) ⟨hx, hb, hml, hown, hts⟩ (cx_origin l dC dI cI cQ t1 t2 s.heap.size top xo la ko kc nt lo lc hgx c md cu kp kcu nf (xs (n + 1)) _ e1 H.size) (cwV 1 hts (gs_V lk_384 lk_385 lk_386 lk_37 lk_387) rfl rfl rfl (by decide +kernel) ⟨Nat.le_of_ble_eq_true rfl, Nat.le_of_ble_eq_true rfl⟩) (pr_V gk_W (va_recv hG.1 hPx (q0 := 0) rfl rfl) ⟨hG, hPx⟩) rfl rfl hl.1 rfl (lv_room (Nat.le_of_ble_eq_true rfl)) dL_law_311 ⟨Nat.le_refl _, Nat.le_refl _⟩) ?_
  refine lv_aload_n hx hb dL_law_314 rfl (lv_at hl 1 rfl) ?_
  refine ld_S hx hb hX hbl hbA hS (lv_at hl 3 rfl) (lv_at hl 0 rfl) (j := 1) (by decide) (by omega) (by omega) dL_law_315 dL_law_316 dL_law_317 dL_law_318 dL_law_319 ?_
  refine im_calli (va_runV (As := [.int (xs (n + 1))]) (rest := [.int _]) ⟨hx, hb, hml, hown, hts⟩ (cq_origin l dC dI cI cQ t1 t2 s.heap.size top mo m1 m2 m3 m4 m5 m6 m7 hgm md cu kn vl ok ov fo pa fi va nd nk nv no (xs (n + 1)) _ e2 H.size) (cwV 1 hts (gs_V lk_469 lk_470 lk_471 lk_194 lk_472) rfl rfl rfl (by decide +kernel) ⟨Nat.le_of_ble_eq_true rfl, Nat.le_of_ble_eq_true rfl⟩) (pr_V gk_W (va_recv hG.1 hPm (q0 := 0) rfl rfl) ⟨hG, hPm⟩) rfl rfl hl.1 rfl (lv_room (Nat.le_of_ble_eq_true rfl)) dL_law_320 ⟨Nat.le_refl _, Nat.le_refl _⟩) hS (bb_A hgm) (fun H1 locs1 hPm1 hk hS => ?_)
  have hPx := kp_P hPx mx_X hk (fun a ha z => hdis a z ha)
  have hPm := hPm1
  generalize H1 = H at hPx hPm hS ⊢
  refine lv_icmp_eq (tgt := 555) hx hb dL_law_323 (by decide) (fun _ => ?_) (fun hc => absurd rfl hc)
  exact kk H _ ⟨_, _, _, _, _, _, _, _, _, _, _, _, _, _, _, _, _, _, hiv, hmd, hPx, hPm⟩ hS
set_option maxHeartbeats 4000000 in
set_option maxRecDepth 100000 in
theorem la_makeDir (hC : lw_C p s m c0 b L n xs dC dI cI cQ t1 t2 top xo la ko kc nt lo lc mo m1 m2 m3 m4 m5 m6 m7 ls) (hS : va_S (fun q => s.heap.size ≤ q) s.heap H locs) (hI : lw_I dC dI cI cQ top xo la ko kc nt lo lc mo m1 m2 m3 m4 m5 m6 m7 H) (kk : ∀ (H1 : Heap) (locs1 : List Loc), lw_I dC dI cI cQ top xo la ko kc nt lo lc mo m1 m2 m3 m4 m5 m6 m7 H1 → va_S (fun q => s.heap.size ≤ q) s.heap H1 locs1 → W p l e room_1 s m #[Value.ref b] below meth c0 H1 locs1 600000 7302250 Q (F0 m 555 ls [])) : W p l e room_1 s m #[Value.ref b] below meth c0 H locs 600000 7302250 Q (F0 m 328 ls []) := by
  obtain ⟨hx, hb, hml, hown, hts, hX, hbl, hG0, hgx, hgm, hdis, hl, hn, hL⟩ := hC
  obtain ⟨c, md, cu, kp, kcu, nf, kn, vl, ok, ov, fo, pa, fi, va, nd, nk, nv, no, hiv, hmd, hPx, hPm⟩ := hI
  have h1 := hiv.1
  have h3 := hiv.2.1
  have hre := hiv.2.2.1
  have hrc := hiv.2.2.2.1
  have hbA : ¬ (fun q : Nat => s.heap.size ≤ q) b := Nat.not_le.mpr hbl
  have hG := gk_S hG0 hS (fun q h => h)
  obtain ⟨v, c2, cu2, kp2, kcu2, kn2, vl2, Z, e1, e2, hiv2⟩ := pp_md hiv (md := md) (cu := cu) (kcu := kcu) (kp := kp) (ok := ok) (ov := ov) (x := xs (n + 1)) (fo := fo) (pa := pa) (fi := fi) (va := va)
  refine lv_aload_n hx hb dL_law_328 rfl (lv_at hl 2 rfl) ?_
  refine ld_S hx hb hX hbl hbA hS (lv_at hl 3 rfl) (lv_at hl 0 rfl) (j := 1) (by decide) (by omega) (by omega) dL_law_329 dL_law_330 dL_law_331 dL_law_332 dL_law_333 ?_
  refine im_calli (va_runV (As := [.int (xs (n + 1))]) (rest := []) ⟨hx, hb, hml, hown, hts⟩ (cx_makeDir l dC dI cI cQ t1 t2 s.heap.size top xo la ko kc nt lo lc hgx c md cu kp kcu nf (xs (n + 1)) _ e1 H.size) (cwV 1 hts (gs_V lk_388 lk_389 lk_390 lk_37 lk_391) rfl rfl rfl (by decide +kernel) ⟨Nat.le_of_ble_eq_true rfl, Nat.le_of_ble_eq_true rfl⟩) (pr_V gk_W (va_recv hG.1 hPx (q0 := 0) rfl rfl) ⟨hG, hPx⟩) rfl rfl hl.1 rfl (lv_room (Nat.le_of_ble_eq_true rfl)) dL_law_334 ⟨Nat.le_refl _, Nat.le_refl _⟩) hS (bb_A hgx) (fun H1 locs1 hPx1 hk hS => ?_)
  have hPm := kp_P (as := [mo, m1, m2, m3, m4, m5, m6, m7]) hPm rfl hk (fun a ha => hdis a ha)
  have hPx := hPx1
  have hG := gk_S hG0 hS (fun q h => h)
  generalize H1 = H at hPx hPm hS hG ⊢
  refine lv_aload_n hx hb dL_law_337 rfl (lv_at hl 1 rfl) ?_
  refine ld_S hx hb hX hbl hbA hS (lv_at hl 3 rfl) (lv_at hl 0 rfl) (j := 1) (by decide) (by omega) (by omega) dL_law_338 dL_law_339 dL_law_340 dL_law_341 dL_law_342 ?_
  refine im_calli (va_runV (As := [.int (xs (n + 1))]) (rest := [.int _]) ⟨hx, hb, hml, hown, hts⟩ (cq_makeDir l dC dI cI cQ t1 t2 s.heap.size top mo m1 m2 m3 m4 m5 m6 m7 hgm md cu kn vl ok ov fo pa fi va nd nk nv no (xs (n + 1)) _ e2 H.size) (cwV 1 hts (gs_V lk_473 lk_474 lk_475 lk_194 lk_476) rfl rfl rfl (by decide +kernel) ⟨Nat.le_of_ble_eq_true rfl, Nat.le_of_ble_eq_true rfl⟩) (pr_V gk_W (va_recv hG.1 hPm (q0 := 0) rfl rfl) ⟨hG, hPm⟩) rfl rfl hl.1 rfl (lv_room (Nat.le_of_ble_eq_true rfl)) dL_law_343 ⟨Nat.le_refl _, Nat.le_refl _⟩) hS (bb_A hgm) (fun H1 locs1 hPm1 hk hS => ?_)
  have hPx := kp_P hPx mx_X hk (fun a ha z => hdis a z ha)
  have hPm := hPm1
  generalize H1 = H at hPx hPm hS ⊢
  refine lv_icmp_eq (tgt := 555) hx hb dL_law_346 (by decide) (fun _ => ?_) (fun hc => absurd rfl hc)
  exact kk H _ ⟨_, _, _, _, _, _, _, _, _, _, _, _, _, _, _, _, _, _, hiv2, hmd, hPx, hPm⟩ hS
set_option maxHeartbeats 4000000 in
set_option maxRecDepth 100000 in
theorem la_write (hC : lw_C p s m c0 b L n xs dC dI cI cQ t1 t2 top xo la ko kc nt lo lc mo m1 m2 m3 m4 m5 m6 m7 ls) (hS : va_S (fun q => s.heap.size ≤ q) s.heap H locs) (hI : lw_I dC dI cI cQ top xo la ko kc nt lo lc mo m1 m2 m3 m4 m5 m6 m7 H) (kk : ∀ (H1 : Heap) (locs1 : List Loc), lw_I dC dI cI cQ top xo la ko kc nt lo lc mo m1 m2 m3 m4 m5 m6 m7 H1 → va_S (fun q => s.heap.size ≤ q) s.heap H1 locs1 → W p l e room_1 s m #[Value.ref b] below meth c0 H1 locs1 600000 7302250 Q (F0 m 555 ls [])) : W p l e room_1 s m #[Value.ref b] below meth c0 H locs 600000 7302250 Q (F0 m 351 ls []) := by
  obtain ⟨hx, hb, hml, hown, hts, hX, hbl, hG0, hgx, hgm, hdis, hl, hn, hL⟩ := hC
  obtain ⟨c, md, cu, kp, kcu, nf, kn, vl, ok, ov, fo, pa, fi, va, nd, nk, nv, no, hiv, hmd, hPx, hPm⟩ := hI
  have h1 := hiv.1
  have h3 := hiv.2.1
  have hre := hiv.2.2.1
  have hrc := hiv.2.2.2.1
  have hbA : ¬ (fun q : Nat => s.heap.size ≤ q) b := Nat.not_le.mpr hbl
  have hG := gk_S hG0 hS (fun q h => h)
  obtain ⟨v, c2, cu2, kp2, kcu2, kn2, vl2, Z, e1, e2, hiv2⟩ := pp_wr hiv (md := md) (cu := cu) (kcu := kcu) (kp := kp) (ok := ok) (ov := ov) (x := xs (n + 1)) (y := xs (n + 2)) (fo := fo) (pa := pa) (fi := fi) (va := va)
  refine lv_aload_n hx hb dL_law_351 rfl (lv_at hl 2 rfl) ?_
  refine ld_S hx hb hX hbl hbA hS (lv_at hl 3 rfl) (lv_at hl 0 rfl) (j := 1) (by decide) (by omega) (by omega) dL_law_352 dL_law_353 dL_law_354 dL_law_355 dL_law_356 ?_
  refine ld_S hx hb hX hbl hbA hS (lv_at hl 3 rfl) (lv_at hl 0 rfl) (j := 2) (by decide) (by omega) (by omega) dL_law_357 dL_law_358 dL_law_359 dL_law_360 dL_law_361 ?_
  refine im_calli (va_runV (As := [.int (xs (n + 1)), .int (xs (n + 2))]) (rest := []) ⟨hx, hb, hml, hown, hts⟩ (cx_write l dC dI cI cQ t1 t2 s.heap.size top xo la ko kc nt lo lc hgx c md cu kp kcu nf (xs (n + 1)) (xs (n + 2)) _ e1 H.size) (cwV 2 hts (gs_V lk_392 lk_393 lk_394 lk_37 lk_395) rfl rfl rfl (by decide +kernel) ⟨Nat.le_of_ble_eq_true rfl, Nat.le_of_ble_eq_true rfl⟩) (pr_V gk_W (va_recv hG.1 hPx (q0 := 0) rfl rfl) ⟨hG, hPx⟩) rfl rfl hl.1 rfl (lv_room (Nat.le_of_ble_eq_true rfl)) dL_law_362 ⟨Nat.le_refl _, Nat.le_refl _⟩) hS (bb_A hgx) (fun H1 locs1 hPx1 hk hS => ?_)
  have hPm := kp_P (as := [mo, m1, m2, m3, m4, m5, m6, m7]) hPm rfl hk (fun a ha => hdis a ha)
  have hPx := hPx1
  have hG := gk_S hG0 hS (fun q h => h)
  generalize H1 = H at hPx hPm hS hG ⊢
  refine lv_aload_n hx hb dL_law_365 rfl (lv_at hl 1 rfl) ?_
  refine ld_S hx hb hX hbl hbA hS (lv_at hl 3 rfl) (lv_at hl 0 rfl) (j := 1) (by decide) (by omega) (by omega) dL_law_366 dL_law_367 dL_law_368 dL_law_369 dL_law_370 ?_
  refine ld_S hx hb hX hbl hbA hS (lv_at hl 3 rfl) (lv_at hl 0 rfl) (j := 2) (by decide) (by omega) (by omega) dL_law_371 dL_law_372 dL_law_373 dL_law_374 dL_law_375 ?_
  refine im_calli (va_runV (As := [.int (xs (n + 1)), .int (xs (n + 2))]) (rest := [.int _]) ⟨hx, hb, hml, hown, hts⟩ (cq_write l dC dI cI cQ t1 t2 s.heap.size top mo m1 m2 m3 m4 m5 m6 m7 hgm md cu kn vl ok ov fo pa fi va nd nk nv no (xs (n + 1)) (xs (n + 2)) _ e2 H.size) (cwV 2 hts (gs_V lk_477 lk_478 lk_479 lk_194 lk_480) rfl rfl rfl (by decide +kernel) ⟨Nat.le_of_ble_eq_true rfl, Nat.le_of_ble_eq_true rfl⟩) (pr_V gk_W (va_recv hG.1 hPm (q0 := 0) rfl rfl) ⟨hG, hPm⟩) rfl rfl hl.1 rfl (lv_room (Nat.le_of_ble_eq_true rfl)) dL_law_376 ⟨Nat.le_refl _, Nat.le_refl _⟩) hS (bb_A hgm) (fun H1 locs1 hPm1 hk hS => ?_)
  have hPx := kp_P hPx mx_X hk (fun a ha z => hdis a z ha)
  have hPm := hPm1
  generalize H1 = H at hPx hPm hS ⊢
  refine lv_icmp_eq (tgt := 555) hx hb dL_law_379 (by decide) (fun _ => ?_) (fun hc => absurd rfl hc)
  exact kk H _ ⟨_, _, _, _, _, _, _, _, _, _, _, _, _, _, _, _, _, _, hiv2, hmd, hPx, hPm⟩ hS
set_option maxHeartbeats 4000000 in
set_option maxRecDepth 100000 in
theorem la_remove (hC : lw_C p s m c0 b L n xs dC dI cI cQ t1 t2 top xo la ko kc nt lo lc mo m1 m2 m3 m4 m5 m6 m7 ls) (hS : va_S (fun q => s.heap.size ≤ q) s.heap H locs) (hI : lw_I dC dI cI cQ top xo la ko kc nt lo lc mo m1 m2 m3 m4 m5 m6 m7 H) (kk : ∀ (H1 : Heap) (locs1 : List Loc), lw_I dC dI cI cQ top xo la ko kc nt lo lc mo m1 m2 m3 m4 m5 m6 m7 H1 → va_S (fun q => s.heap.size ≤ q) s.heap H1 locs1 → W p l e room_1 s m #[Value.ref b] below meth c0 H1 locs1 600000 7302250 Q (F0 m 555 ls [])) : W p l e room_1 s m #[Value.ref b] below meth c0 H locs 600000 7302250 Q (F0 m 384 ls []) := by
  obtain ⟨hx, hb, hml, hown, hts, hX, hbl, hG0, hgx, hgm, hdis, hl, hn, hL⟩ := hC
  obtain ⟨c, md, cu, kp, kcu, nf, kn, vl, ok, ov, fo, pa, fi, va, nd, nk, nv, no, hiv, hmd, hPx, hPm⟩ := hI
  have h1 := hiv.1
  have h3 := hiv.2.1
  have hre := hiv.2.2.1
  have hrc := hiv.2.2.2.1
  have hbA : ¬ (fun q : Nat => s.heap.size ≤ q) b := Nat.not_le.mpr hbl
  have hG := gk_S hG0 hS (fun q h => h)
  obtain ⟨v, c2, cu2, kp2, kcu2, kn2, vl2, Z, e1, e2, hiv2⟩ := pp_rm hiv (md := md) (cu := cu) (kcu := kcu) (kp := kp) (ok := ok) (ov := ov) (x := xs (n + 1)) (fo := fo) (pa := pa) (fi := fi) (va := va)
  refine lv_aload_n hx hb dL_law_384 rfl (lv_at hl 2 rfl) ?_
  refine ld_S hx hb hX hbl hbA hS (lv_at hl 3 rfl) (lv_at hl 0 rfl) (j := 1) (by decide) (by omega) (by omega) dL_law_385 dL_law_386 dL_law_387 dL_law_388 dL_law_389 ?_
  refine im_calli (va_runV (As := [.int (xs (n + 1))]) (rest := []) ⟨hx, hb, hml, hown, hts⟩ (cx_remove l dC dI cI cQ t1 t2 s.heap.size top xo la ko kc nt lo lc hgx c md cu kp kcu nf (xs (n + 1)) _ e1 H.size) (cwV 1 hts (gs_V lk_396 lk_397 lk_398 lk_37 lk_399) rfl rfl rfl (by decide +kernel) ⟨Nat.le_of_ble_eq_true rfl, Nat.le_of_ble_eq_true rfl⟩) (pr_V gk_W (va_recv hG.1 hPx (q0 := 0) rfl rfl) ⟨hG, hPx⟩) rfl rfl hl.1 rfl (lv_room (Nat.le_of_ble_eq_true rfl)) dL_law_390 ⟨Nat.le_refl _, Nat.le_refl _⟩) hS (bb_A hgx) (fun H1 locs1 hPx1 hk hS => ?_)
  have hPm := kp_P (as := [mo, m1, m2, m3, m4, m5, m6, m7]) hPm rfl hk (fun a ha => hdis a ha)
  have hPx := hPx1
  have hG := gk_S hG0 hS (fun q h => h)
  generalize H1 = H at hPx hPm hS hG ⊢
  refine lv_aload_n hx hb dL_law_393 rfl (lv_at hl 1 rfl) ?_
  refine ld_S hx hb hX hbl hbA hS (lv_at hl 3 rfl) (lv_at hl 0 rfl) (j := 1) (by decide) (by omega) (by omega) dL_law_394 dL_law_395 dL_law_396 dL_law_397 dL_law_398 ?_
  refine im_calli (va_runV (As := [.int (xs (n + 1))]) (rest := [.int _]) ⟨hx, hb, hml, hown, hts⟩ (cq_remove l dC dI cI cQ t1 t2 s.heap.size top mo m1 m2 m3 m4 m5 m6 m7 hgm md cu kn vl ok ov fo pa fi va nd nk nv no (xs (n + 1)) _ e2 H.size) (cwV 1 hts (gs_V lk_481 lk_482 lk_483 lk_194 lk_484) rfl rfl rfl (by decide +kernel) ⟨Nat.le_of_ble_eq_true rfl, Nat.le_of_ble_eq_true rfl⟩) (pr_V gk_W (va_recv hG.1 hPm (q0 := 0) rfl rfl) ⟨hG, hPm⟩) rfl rfl hl.1 rfl (lv_room (Nat.le_of_ble_eq_true rfl)) dL_law_399 ⟨Nat.le_refl _, Nat.le_refl _⟩) hS (bb_A hgm) (fun H1 locs1 hPm1 hk hS => ?_)
  have hPx := kp_P hPx mx_X hk (fun a ha z => hdis a z ha)
  have hPm := hPm1
  generalize H1 = H at hPx hPm hS ⊢
  refine lv_icmp_eq (tgt := 555) hx hb dL_law_402 (by decide) (fun _ => ?_) (fun hc => absurd rfl hc)
  exact kk H _ ⟨_, _, _, _, _, _, _, _, _, _, _, _, _, _, _, _, _, _, hiv2, hmd, hPx, hPm⟩ hS
set_option maxHeartbeats 4000000 in
set_option maxRecDepth 100000 in
theorem la_rename (hC : lw_C p s m c0 b L n xs dC dI cI cQ t1 t2 top xo la ko kc nt lo lc mo m1 m2 m3 m4 m5 m6 m7 ls) (hS : va_S (fun q => s.heap.size ≤ q) s.heap H locs) (hI : lw_I dC dI cI cQ top xo la ko kc nt lo lc mo m1 m2 m3 m4 m5 m6 m7 H) (kk : ∀ (H1 : Heap) (locs1 : List Loc), lw_I dC dI cI cQ top xo la ko kc nt lo lc mo m1 m2 m3 m4 m5 m6 m7 H1 → va_S (fun q => s.heap.size ≤ q) s.heap H1 locs1 → W p l e room_1 s m #[Value.ref b] below meth c0 H1 locs1 600000 7302250 Q (F0 m 555 ls [])) : W p l e room_1 s m #[Value.ref b] below meth c0 H locs 600000 7302250 Q (F0 m 407 ls []) := by
  obtain ⟨hx, hb, hml, hown, hts, hX, hbl, hG0, hgx, hgm, hdis, hl, hn, hL⟩ := hC
  obtain ⟨c, md, cu, kp, kcu, nf, kn, vl, ok, ov, fo, pa, fi, va, nd, nk, nv, no, hiv, hmd, hPx, hPm⟩ := hI
  have h1 := hiv.1
  have h3 := hiv.2.1
  have hre := hiv.2.2.1
  have hrc := hiv.2.2.2.1
  have hbA : ¬ (fun q : Nat => s.heap.size ≤ q) b := Nat.not_le.mpr hbl
  have hG := gk_S hG0 hS (fun q h => h)
  obtain ⟨v, c2, cu2, kp2, kcu2, nf2, kn2, vl2, Z, e1, e2, hiv2⟩ := pp_rn hiv (md := md) (x := xs (n + 1)) (y := xs (n + 2)) (cu := cu) (kcu := kcu) (fo := fo) (pa := pa) (fi := fi) (va := va) (no := no) (kp := kp) (nf := nf) (ok := ok) (ov := ov) (nd := nd) (nk := nk) (nv := nv)
  refine lv_aload_n hx hb dL_law_407 rfl (lv_at hl 2 rfl) ?_
  refine ld_S hx hb hX hbl hbA hS (lv_at hl 3 rfl) (lv_at hl 0 rfl) (j := 1) (by decide) (by omega) (by omega) dL_law_408 dL_law_409 dL_law_410 dL_law_411 dL_law_412 ?_
  refine ld_S hx hb hX hbl hbA hS (lv_at hl 3 rfl) (lv_at hl 0 rfl) (j := 2) (by decide) (by omega) (by omega) dL_law_413 dL_law_414 dL_law_415 dL_law_416 dL_law_417 ?_
  refine im_calli (va_runV (As := [.int (xs (n + 1)), .int (xs (n + 2))]) (rest := []) ⟨hx, hb, hml, hown, hts⟩ (cx_rename l dC dI cI cQ t1 t2 s.heap.size top xo la ko kc nt lo lc hgx c md cu kp kcu nf (xs (n + 1)) (xs (n + 2)) _ e1 H.size) (cwV 2 hts (gs_V lk_400 lk_401 lk_402 lk_37 lk_403) rfl rfl rfl (by decide +kernel) ⟨Nat.le_of_ble_eq_true rfl, Nat.le_of_ble_eq_true rfl⟩) (pr_V gk_W (va_recv hG.1 hPx (q0 := 0) rfl rfl) ⟨hG, hPx⟩) rfl rfl hl.1 rfl (lv_room (Nat.le_of_ble_eq_true rfl)) dL_law_418 ⟨Nat.le_refl _, Nat.le_refl _⟩) hS (bb_A hgx) (fun H1 locs1 hPx1 hk hS => ?_)
  have hPm := kp_P (as := [mo, m1, m2, m3, m4, m5, m6, m7]) hPm rfl hk (fun a ha => hdis a ha)
  have hPx := hPx1
  have hG := gk_S hG0 hS (fun q h => h)
  generalize H1 = H at hPx hPm hS hG ⊢
  refine lv_aload_n hx hb dL_law_421 rfl (lv_at hl 1 rfl) ?_
  refine ld_S hx hb hX hbl hbA hS (lv_at hl 3 rfl) (lv_at hl 0 rfl) (j := 1) (by decide) (by omega) (by omega) dL_law_422 dL_law_423 dL_law_424 dL_law_425 dL_law_426 ?_
  refine ld_S hx hb hX hbl hbA hS (lv_at hl 3 rfl) (lv_at hl 0 rfl) (j := 2) (by decide) (by omega) (by omega) dL_law_427 dL_law_428 dL_law_429 dL_law_430 dL_law_431 ?_
  refine im_calli (va_runV (As := [.int (xs (n + 1)), .int (xs (n + 2))]) (rest := [.int _]) ⟨hx, hb, hml, hown, hts⟩ (cq_rename l dC dI cI cQ t1 t2 s.heap.size top mo m1 m2 m3 m4 m5 m6 m7 hgm md cu kn vl ok ov fo pa fi va nd nk nv no (xs (n + 1)) (xs (n + 2)) _ e2 H.size) (cwV 2 hts (gs_V lk_485 lk_486 lk_487 lk_194 lk_488) rfl rfl rfl (by decide +kernel) ⟨Nat.le_of_ble_eq_true rfl, Nat.le_of_ble_eq_true rfl⟩) (pr_V gk_W (va_recv hG.1 hPm (q0 := 0) rfl rfl) ⟨hG, hPm⟩) rfl rfl hl.1 rfl (lv_room (Nat.le_of_ble_eq_true rfl)) dL_law_432 ⟨Nat.le_refl _, Nat.le_refl _⟩) hS (bb_A hgm) (fun H1 locs1 hPm1 hk hS => ?_)
  have hPx := kp_P hPx mx_X hk (fun a ha z => hdis a z ha)
  have hPm := hPm1
  generalize H1 = H at hPx hPm hS ⊢
  refine lv_icmp_eq (tgt := 555) hx hb dL_law_435 (by decide) (fun _ => ?_) (fun hc => absurd rfl hc)
  exact kk H _ ⟨_, _, _, _, _, _, _, _, _, _, _, _, _, _, _, _, _, _, hiv2, hmd, hPx, hPm⟩ hS
set_option maxHeartbeats 4000000 in
set_option maxRecDepth 100000 in
theorem la_entry (hC : lw_C p s m c0 b L n xs dC dI cI cQ t1 t2 top xo la ko kc nt lo lc mo m1 m2 m3 m4 m5 m6 m7 ls) (hS : va_S (fun q => s.heap.size ≤ q) s.heap H locs) (hI : lw_I dC dI cI cQ top xo la ko kc nt lo lc mo m1 m2 m3 m4 m5 m6 m7 H) (kk : ∀ (H1 : Heap) (locs1 : List Loc), lw_I dC dI cI cQ top xo la ko kc nt lo lc mo m1 m2 m3 m4 m5 m6 m7 H1 → va_S (fun q => s.heap.size ≤ q) s.heap H1 locs1 → W p l e room_1 s m #[Value.ref b] below meth c0 H1 locs1 600000 7302250 Q (F0 m 555 ls [])) : W p l e room_1 s m #[Value.ref b] below meth c0 H locs 600000 7302250 Q (F0 m 440 ls []) := by
  obtain ⟨hx, hb, hml, hown, hts, hX, hbl, hG0, hgx, hgm, hdis, hl, hn, hL⟩ := hC
  obtain ⟨c, md, cu, kp, kcu, nf, kn, vl, ok, ov, fo, pa, fi, va, nd, nk, nv, no, hiv, hmd, hPx, hPm⟩ := hI
  have h1 := hiv.1
  have h3 := hiv.2.1
  have hre := hiv.2.2.1
  have hrc := hiv.2.2.2.1
  have hbA : ¬ (fun q : Nat => s.heap.size ≤ q) b := Nat.not_le.mpr hbl
  have hG := gk_S hG0 hS (fun q h => h)
  obtain ⟨v, e1, e2⟩ := pp_en hre h3 (x := xs (n + 1)) (y := xs (n + 2))
  refine lv_aload_n hx hb dL_law_440 rfl (lv_at hl 2 rfl) ?_
  refine ld_S hx hb hX hbl hbA hS (lv_at hl 3 rfl) (lv_at hl 0 rfl) (j := 1) (by decide) (by omega) (by omega) dL_law_441 dL_law_442 dL_law_443 dL_law_444 dL_law_445 ?_
  refine ld_S hx hb hX hbl hbA hS (lv_at hl 3 rfl) (lv_at hl 0 rfl) (j := 2) (by decide) (by omega) (by omega) dL_law_446 dL_law_447 dL_law_448 dL_law_449 dL_law_450 ?_
  refine pu_calli (va_runV (As := [.int (xs (n + 1)), .int (xs (n + 2))]) (rest := []) ⟨hx, hb, hml, hown, hts⟩ (cx_entry l dC dI cI cQ t1 t2 s.heap.size top xo la ko kc nt lo lc hgx c md cu kp kcu nf (xs (n + 1)) (xs (n + 2)) _ e1 H.size) (cwV 2 hts (gs_V lk_404 lk_405 lk_406 lk_37 lk_407) rfl rfl rfl (by decide +kernel) ⟨Nat.le_of_ble_eq_true rfl, Nat.le_of_ble_eq_true rfl⟩) (pr_V gk_W (va_recv hG.1 hPx (q0 := 0) rfl rfl) ⟨hG, hPx⟩) rfl rfl hl.1 rfl (lv_room (Nat.le_of_ble_eq_true rfl)) dL_law_451 ⟨Nat.le_refl _, Nat.le_refl _⟩) ?_
  refine lv_aload_n hx hb dL_law_454 rfl (lv_at hl 1 rfl) ?_
  refine ld_S hx hb hX hbl hbA hS (lv_at hl 3 rfl) (lv_at hl 0 rfl) (j := 1) (by decide) (by omega) (by omega) dL_law_455 dL_law_456 dL_law_457 dL_law_458 dL_law_459 ?_
  refine ld_S hx hb hX hbl hbA hS (lv_at hl 3 rfl) (lv_at hl 0 rfl) (j := 2) (by decide) (by omega) (by omega) dL_law_460 dL_law_461 dL_law_462 dL_law_463 dL_law_464 ?_
  refine pu_calli (va_runV (As := [.int (xs (n + 1)), .int (xs (n + 2))]) (rest := [.int _]) ⟨hx, hb, hml, hown, hts⟩ (cq_entry l dC dI cI cQ t1 t2 s.heap.size top mo m1 m2 m3 m4 m5 m6 m7 hgm md cu kn vl ok ov fo pa fi va nd nk nv no (xs (n + 1)) (xs (n + 2)) _ e2 H.size) (cwV 2 hts (gs_V lk_442 lk_259 lk_260 lk_194 lk_258) rfl rfl rfl (by decide +kernel) ⟨Nat.le_of_ble_eq_true rfl, Nat.le_of_ble_eq_true rfl⟩) (pr_V gk_W (va_recv hG.1 hPm (q0 := 0) rfl rfl) ⟨hG, hPm⟩) rfl rfl hl.1 rfl (lv_room (Nat.le_of_ble_eq_true rfl)) dL_law_465 ⟨Nat.le_refl _, Nat.le_refl _⟩) ?_
  refine lv_icmp_eq (tgt := 555) hx hb dL_law_468 (by decide) (fun _ => ?_) (fun hc => absurd rfl hc)
  exact kk H _ ⟨_, _, _, _, _, _, _, _, _, _, _, _, _, _, _, _, _, _, hiv, hmd, hPx, hPm⟩ hS
set_option maxHeartbeats 4000000 in
set_option maxRecDepth 100000 in
theorem la_entryValue (hC : lw_C p s m c0 b L n xs dC dI cI cQ t1 t2 top xo la ko kc nt lo lc mo m1 m2 m3 m4 m5 m6 m7 ls) (hS : va_S (fun q => s.heap.size ≤ q) s.heap H locs) (hI : lw_I dC dI cI cQ top xo la ko kc nt lo lc mo m1 m2 m3 m4 m5 m6 m7 H) (kk : ∀ (H1 : Heap) (locs1 : List Loc), lw_I dC dI cI cQ top xo la ko kc nt lo lc mo m1 m2 m3 m4 m5 m6 m7 H1 → va_S (fun q => s.heap.size ≤ q) s.heap H1 locs1 → W p l e room_1 s m #[Value.ref b] below meth c0 H1 locs1 600000 7302250 Q (F0 m 555 ls [])) : W p l e room_1 s m #[Value.ref b] below meth c0 H locs 600000 7302250 Q (F0 m 473 ls []) := by
  obtain ⟨hx, hb, hml, hown, hts, hX, hbl, hG0, hgx, hgm, hdis, hl, hn, hL⟩ := hC
  obtain ⟨c, md, cu, kp, kcu, nf, kn, vl, ok, ov, fo, pa, fi, va, nd, nk, nv, no, hiv, hmd, hPx, hPm⟩ := hI
  have h1 := hiv.1
  have h3 := hiv.2.1
  have hre := hiv.2.2.1
  have hrc := hiv.2.2.2.1
  have hbA : ¬ (fun q : Nat => s.heap.size ≤ q) b := Nat.not_le.mpr hbl
  have hG := gk_S hG0 hS (fun q h => h)
  obtain ⟨v, e1, e2⟩ := pp_ev hre h3 (x := xs (n + 1)) (y := xs (n + 2))
  refine lv_aload_n hx hb dL_law_473 rfl (lv_at hl 2 rfl) ?_
  refine ld_S hx hb hX hbl hbA hS (lv_at hl 3 rfl) (lv_at hl 0 rfl) (j := 1) (by decide) (by omega) (by omega) dL_law_474 dL_law_475 dL_law_476 dL_law_477 dL_law_478 ?_
  refine ld_S hx hb hX hbl hbA hS (lv_at hl 3 rfl) (lv_at hl 0 rfl) (j := 2) (by decide) (by omega) (by omega) dL_law_479 dL_law_480 dL_law_481 dL_law_482 dL_law_483 ?_
  refine pu_calli (va_runV (As := [.int (xs (n + 1)), .int (xs (n + 2))]) (rest := []) ⟨hx, hb, hml, hown, hts⟩ (cx_entryValue l dC dI cI cQ t1 t2 s.heap.size top xo la ko kc nt lo lc hgx c md cu kp kcu nf (xs (n + 1)) (xs (n + 2)) _ e1 H.size) (cwV 2 hts (gs_V lk_408 lk_409 lk_410 lk_37 lk_411) rfl rfl rfl (by decide +kernel) ⟨Nat.le_of_ble_eq_true rfl, Nat.le_of_ble_eq_true rfl⟩) (pr_V gk_W (va_recv hG.1 hPx (q0 := 0) rfl rfl) ⟨hG, hPx⟩) rfl rfl hl.1 rfl (lv_room (Nat.le_of_ble_eq_true rfl)) dL_law_484 ⟨Nat.le_refl _, Nat.le_refl _⟩) ?_
  refine lv_aload_n hx hb dL_law_487 rfl (lv_at hl 1 rfl) ?_
  refine ld_S hx hb hX hbl hbA hS (lv_at hl 3 rfl) (lv_at hl 0 rfl) (j := 1) (by decide) (by omega) (by omega) dL_law_488 dL_law_489 dL_law_490 dL_law_491 dL_law_492 ?_
  refine ld_S hx hb hX hbl hbA hS (lv_at hl 3 rfl) (lv_at hl 0 rfl) (j := 2) (by decide) (by omega) (by omega) dL_law_493 dL_law_494 dL_law_495 dL_law_496 dL_law_497 ?_
  refine pu_calli (va_runV (As := [.int (xs (n + 1)), .int (xs (n + 2))]) (rest := [.int _]) ⟨hx, hb, hml, hown, hts⟩ (cq_entryValue l dC dI cI cQ t1 t2 s.heap.size top mo m1 m2 m3 m4 m5 m6 m7 hgm md cu kn vl ok ov fo pa fi va nd nk nv no (xs (n + 1)) (xs (n + 2)) _ e2 H.size) (cwV 2 hts (gs_V lk_443 lk_444 lk_445 lk_194 lk_446) rfl rfl rfl (by decide +kernel) ⟨Nat.le_of_ble_eq_true rfl, Nat.le_of_ble_eq_true rfl⟩) (pr_V gk_W (va_recv hG.1 hPm (q0 := 0) rfl rfl) ⟨hG, hPm⟩) rfl rfl hl.1 rfl (lv_room (Nat.le_of_ble_eq_true rfl)) dL_law_498 ⟨Nat.le_refl _, Nat.le_refl _⟩) ?_
  refine lv_icmp_eq (tgt := 555) hx hb dL_law_501 (by decide) (fun _ => ?_) (fun hc => absurd rfl hc)
  exact kk H _ ⟨_, _, _, _, _, _, _, _, _, _, _, _, _, _, _, _, _, _, hiv, hmd, hPx, hPm⟩ hS
set_option maxHeartbeats 4000000 in
set_option maxRecDepth 100000 in
theorem la_entries (hC : lw_C p s m c0 b L n xs dC dI cI cQ t1 t2 top xo la ko kc nt lo lc mo m1 m2 m3 m4 m5 m6 m7 ls) (hS : va_S (fun q => s.heap.size ≤ q) s.heap H locs) (hI : lw_I dC dI cI cQ top xo la ko kc nt lo lc mo m1 m2 m3 m4 m5 m6 m7 H) (kk : ∀ (H1 : Heap) (locs1 : List Loc), lw_I dC dI cI cQ top xo la ko kc nt lo lc mo m1 m2 m3 m4 m5 m6 m7 H1 → va_S (fun q => s.heap.size ≤ q) s.heap H1 locs1 → W p l e room_1 s m #[Value.ref b] below meth c0 H1 locs1 600000 7302250 Q (F0 m 555 ls [])) : W p l e room_1 s m #[Value.ref b] below meth c0 H locs 600000 7302250 Q (F0 m 506 ls []) := by
  obtain ⟨hx, hb, hml, hown, hts, hX, hbl, hG0, hgx, hgm, hdis, hl, hn, hL⟩ := hC
  obtain ⟨c, md, cu, kp, kcu, nf, kn, vl, ok, ov, fo, pa, fi, va, nd, nk, nv, no, hiv, hmd, hPx, hPm⟩ := hI
  have h1 := hiv.1
  have h3 := hiv.2.1
  have hre := hiv.2.2.1
  have hrc := hiv.2.2.2.1
  have hbA : ¬ (fun q : Nat => s.heap.size ≤ q) b := Nat.not_le.mpr hbl
  have hG := gk_S hG0 hS (fun q h => h)
  obtain ⟨v, e1, e2⟩ := pp_es hre hrc h3 (x := xs (n + 1))
  refine lv_aload_n hx hb dL_law_506 rfl (lv_at hl 2 rfl) ?_
  refine ld_S hx hb hX hbl hbA hS (lv_at hl 3 rfl) (lv_at hl 0 rfl) (j := 1) (by decide) (by omega) (by omega) dL_law_507 dL_law_508 dL_law_509 dL_law_510 dL_law_511 ?_
  refine pu_calli (va_runV (As := [.int (xs (n + 1))]) (rest := []) ⟨hx, hb, hml, hown, hts⟩ (cx_entries l dC dI cI cQ t1 t2 s.heap.size top xo la ko kc nt lo lc hgx c md cu kp kcu nf (xs (n + 1)) _ e1 H.size) (cwV 1 hts (gs_V lk_412 lk_413 lk_414 lk_37 lk_415) rfl rfl rfl (by decide +kernel) ⟨Nat.le_of_ble_eq_true rfl, Nat.le_of_ble_eq_true rfl⟩) (pr_V gk_W (va_recv hG.1 hPx (q0 := 0) rfl rfl) ⟨hG, hPx⟩) rfl rfl hl.1 rfl (lv_room (Nat.le_of_ble_eq_true rfl)) dL_law_512 ⟨Nat.le_refl _, Nat.le_refl _⟩) ?_
  refine lv_aload_n hx hb dL_law_515 rfl (lv_at hl 1 rfl) ?_
  refine ld_S hx hb hX hbl hbA hS (lv_at hl 3 rfl) (lv_at hl 0 rfl) (j := 1) (by decide) (by omega) (by omega) dL_law_516 dL_law_517 dL_law_518 dL_law_519 dL_law_520 ?_
  refine pu_calli (va_runV (As := [.int (xs (n + 1))]) (rest := [.int _]) ⟨hx, hb, hml, hown, hts⟩ (cq_entries l dC dI cI cQ t1 t2 s.heap.size top mo m1 m2 m3 m4 m5 m6 m7 hgm md cu kn vl ok ov fo pa fi va nd nk nv no (xs (n + 1)) _ e2 H.size) (cwV 1 hts (gs_V lk_433 lk_247 lk_248 lk_194 lk_246) rfl rfl rfl (by decide +kernel) ⟨Nat.le_of_ble_eq_true rfl, Nat.le_of_ble_eq_true rfl⟩) (pr_V gk_W (va_recv hG.1 hPm (q0 := 0) rfl rfl) ⟨hG, hPm⟩) rfl rfl hl.1 rfl (lv_room (Nat.le_of_ble_eq_true rfl)) dL_law_521 ⟨Nat.le_refl _, Nat.le_refl _⟩) ?_
  refine lv_icmp_eq (tgt := 555) hx hb dL_law_524 (by decide) (fun _ => ?_) (fun hc => absurd rfl hc)
  exact kk H _ ⟨_, _, _, _, _, _, _, _, _, _, _, _, _, _, _, _, _, _, hiv, hmd, hPx, hPm⟩ hS
set_option maxHeartbeats 4000000 in
set_option maxRecDepth 100000 in
theorem la_whiteouts (hC : lw_C p s m c0 b L n xs dC dI cI cQ t1 t2 top xo la ko kc nt lo lc mo m1 m2 m3 m4 m5 m6 m7 ls) (hS : va_S (fun q => s.heap.size ≤ q) s.heap H locs) (hI : lw_I dC dI cI cQ top xo la ko kc nt lo lc mo m1 m2 m3 m4 m5 m6 m7 H) (kk : ∀ (H1 : Heap) (locs1 : List Loc), lw_I dC dI cI cQ top xo la ko kc nt lo lc mo m1 m2 m3 m4 m5 m6 m7 H1 → va_S (fun q => s.heap.size ≤ q) s.heap H1 locs1 → W p l e room_1 s m #[Value.ref b] below meth c0 H1 locs1 600000 7302250 Q (F0 m 555 ls [])) : W p l e room_1 s m #[Value.ref b] below meth c0 H locs 600000 7302250 Q (F0 m 529 ls []) := by
  obtain ⟨hx, hb, hml, hown, hts, hX, hbl, hG0, hgx, hgm, hdis, hl, hn, hL⟩ := hC
  obtain ⟨c, md, cu, kp, kcu, nf, kn, vl, ok, ov, fo, pa, fi, va, nd, nk, nv, no, hiv, hmd, hPx, hPm⟩ := hI
  have h1 := hiv.1
  have h3 := hiv.2.1
  have hre := hiv.2.2.1
  have hrc := hiv.2.2.2.1
  have hbA : ¬ (fun q : Nat => s.heap.size ≤ q) b := Nat.not_le.mpr hbl
  have hG := gk_S hG0 hS (fun q h => h)
  obtain ⟨v, e1, e2⟩ := pp_wo hre hrc h3
  refine lv_aload_n hx hb dL_law_529 rfl (lv_at hl 2 rfl) ?_
  refine pu_calli (va_runV (As := []) (rest := []) ⟨hx, hb, hml, hown, hts⟩ (cx_whiteouts l dC dI cI cQ t1 t2 s.heap.size top xo la ko kc nt lo lc hgx c md cu kp kcu nf _ e1 H.size) (cwV 0 hts (gs_V lk_416 lk_417 lk_418 lk_37 lk_419) rfl rfl rfl (by decide +kernel) ⟨Nat.le_of_ble_eq_true rfl, Nat.le_of_ble_eq_true rfl⟩) (pr_V gk_W (va_recv hG.1 hPx (q0 := 0) rfl rfl) ⟨hG, hPx⟩) rfl rfl hl.1 rfl (lv_room (Nat.le_of_ble_eq_true rfl)) dL_law_530 ⟨Nat.le_refl _, Nat.le_refl _⟩) ?_
  refine lv_aload_n hx hb dL_law_533 rfl (lv_at hl 1 rfl) ?_
  refine pu_calli (va_runV (As := []) (rest := [.int _]) ⟨hx, hb, hml, hown, hts⟩ (cq_whiteouts l dC dI cI cQ t1 t2 s.heap.size top mo m1 m2 m3 m4 m5 m6 m7 hgm md cu kn vl ok ov fo pa fi va nd nk nv no _ e2 H.size) (cwV 0 hts (gs_V lk_447 lk_448 lk_449 lk_194 lk_450) rfl rfl rfl (by decide +kernel) ⟨Nat.le_of_ble_eq_true rfl, Nat.le_of_ble_eq_true rfl⟩) (pr_V gk_W (va_recv hG.1 hPm (q0 := 0) rfl rfl) ⟨hG, hPm⟩) rfl rfl hl.1 rfl (lv_room (Nat.le_of_ble_eq_true rfl)) dL_law_534 ⟨Nat.le_refl _, Nat.le_refl _⟩) ?_
  refine lv_icmp_eq (tgt := 555) hx hb dL_law_537 (by decide) (fun _ => ?_) (fun hc => absurd rfl hc)
  exact kk H _ ⟨_, _, _, _, _, _, _, _, _, _, _, _, _, _, _, _, _, _, hiv, hmd, hPx, hPm⟩ hS
set_option maxHeartbeats 4000000 in
set_option maxRecDepth 100000 in
theorem la_copies (hC : lw_C p s m c0 b L n xs dC dI cI cQ t1 t2 top xo la ko kc nt lo lc mo m1 m2 m3 m4 m5 m6 m7 ls) (hS : va_S (fun q => s.heap.size ≤ q) s.heap H locs) (hI : lw_I dC dI cI cQ top xo la ko kc nt lo lc mo m1 m2 m3 m4 m5 m6 m7 H) (kk : ∀ (H1 : Heap) (locs1 : List Loc), lw_I dC dI cI cQ top xo la ko kc nt lo lc mo m1 m2 m3 m4 m5 m6 m7 H1 → va_S (fun q => s.heap.size ≤ q) s.heap H1 locs1 → W p l e room_1 s m #[Value.ref b] below meth c0 H1 locs1 600000 7302250 Q (F0 m 555 ls [])) : W p l e room_1 s m #[Value.ref b] below meth c0 H locs 600000 7302250 Q (F0 m 542 ls []) := by
  obtain ⟨hx, hb, hml, hown, hts, hX, hbl, hG0, hgx, hgm, hdis, hl, hn, hL⟩ := hC
  obtain ⟨c, md, cu, kp, kcu, nf, kn, vl, ok, ov, fo, pa, fi, va, nd, nk, nv, no, hiv, hmd, hPx, hPm⟩ := hI
  have h1 := hiv.1
  have h3 := hiv.2.1
  have hre := hiv.2.2.1
  have hrc := hiv.2.2.2.1
  have hbA : ¬ (fun q : Nat => s.heap.size ≤ q) b := Nat.not_le.mpr hbl
  have hG := gk_S hG0 hS (fun q h => h)
  have e1 : fx_copies cu = some cu := rfl
  have e2 : fq_copies cu = some cu := rfl
  refine lv_aload_n hx hb dL_law_542 rfl (lv_at hl 2 rfl) ?_
  refine pu_calli (va_runV (As := []) (rest := []) ⟨hx, hb, hml, hown, hts⟩ (cx_copies l dC dI cI cQ t1 t2 s.heap.size top xo la ko kc nt lo lc hgx c md cu kp kcu nf _ e1 H.size) (cwV 0 hts (gs_V lk_420 lk_421 lk_422 lk_37 lk_423) rfl rfl rfl (by decide +kernel) ⟨Nat.le_of_ble_eq_true rfl, Nat.le_of_ble_eq_true rfl⟩) (pr_V gk_W (va_recv hG.1 hPx (q0 := 0) rfl rfl) ⟨hG, hPx⟩) rfl rfl hl.1 rfl (lv_room (Nat.le_of_ble_eq_true rfl)) dL_law_543 ⟨Nat.le_refl _, Nat.le_refl _⟩) ?_
  refine lv_aload_n hx hb dL_law_546 rfl (lv_at hl 1 rfl) ?_
  refine pu_calli (va_runV (As := []) (rest := [.int _]) ⟨hx, hb, hml, hown, hts⟩ (cq_copies l dC dI cI cQ t1 t2 s.heap.size top mo m1 m2 m3 m4 m5 m6 m7 hgm md cu kn vl ok ov fo pa fi va nd nk nv no _ e2 H.size) (cwV 0 hts (gs_V lk_451 lk_452 lk_453 lk_194 lk_454) rfl rfl rfl (by decide +kernel) ⟨Nat.le_of_ble_eq_true rfl, Nat.le_of_ble_eq_true rfl⟩) (pr_V gk_W (va_recv hG.1 hPm (q0 := 0) rfl rfl) ⟨hG, hPm⟩) rfl rfl hl.1 rfl (lv_room (Nat.le_of_ble_eq_true rfl)) dL_law_547 ⟨Nat.le_refl _, Nat.le_refl _⟩) ?_
  refine lv_icmp_eq (tgt := 555) hx hb dL_law_550 (by decide) (fun _ => ?_) (fun hc => absurd rfl hc)
  exact kk H _ ⟨_, _, _, _, _, _, _, _, _, _, _, _, _, _, _, _, _, _, hiv, hmd, hPx, hPm⟩ hS
end LAW1
