/-! the law: its loop, what it starts from -/
set_option maxHeartbeats 4000000 in
set_option maxRecDepth 100000 in
theorem cl_cell (l : Launch) (b L : Nat) (xs : Nat → Int32) (hL : L ≤ 2561) : pu_M l yL_cell wsL_cell rm_0_0 [.ref b, .int 0] (fun U H => va_X b L xs U H) (if 0 < L then xs 0 else 0) := by
  intro sz
  refine Met.ofW (cc := cL_cell) (maxL := 2) (ret := (some .int)) (by decide) rfl ?_
  intro p e s m args below meth c_ s₁ B hml hv
  obtain ⟨rfl, hsz, hX⟩ := hv
  have hx := B.exec
  have hb := B.bytes
  have hr := B.returns
  have hts := atoms_spec (ws := wsL_cell) B.pre
  have hown : s.vm.findClass RL = some m.cls := findClass_of_methodNamed B.named
  have hlocks := B.notSynchronized
  have hbl : b < s.heap.size := by
    obtain ⟨scr, h, -⟩ := hX
    exact (Array.getElem?_eq_some_iff.mp h).1
  have hl := lv_entry ([.ref b, .int 0]) (n := 2) (Nat.le_of_ble_eq_true rfl)
  rw [lg_entry_eq]
  generalize (lg_sl ([.ref b, .int 0]) ++ List.replicate (2 - (lg_sl ([.ref b, .int 0])).length) Slot.unset).toArray = ls at hl ⊢
  have hl : lv_has ls 2 [(0, .ref b), (1, .int 0)] := hl
  have hS : va_S (fun _ => False) s.heap s.heap [] := va_S.rf
  refine nm_Q (fun Q hQ => ?_)
  refine lv_iload_n hx hb dL_cell_0 rfl (lv_at hl 1 rfl) ?_
  refine lv_aload_n hx hb dL_cell_1 rfl (lv_at hl 0 rfl) ?_
  refine va_slen hx hb hX hbl (fun z => z) hS dL_cell_2 ?_
  refine lv_icmp_ge (tgt := 12) hx hb dL_cell_3 (by decide) (fun hc => ?_) (fun hc => ?_)
  · have h0 : ¬ 0 < L := fun z => nI_ge z (by omega) hc
    rw [if_neg h0] at hQ
    refine lv_iconst (v := 0) hx hb dL_cell_12 (by decide) ?_
    rw [hQ]
    exact pu_iret hx hb hr (vp_nar_int _) hsz dL_cell_13 hlocks
  · have h0 : 0 < L := Nat.pos_of_ne_zero (fun z => hc (by rw [z]; decide))
    rw [if_pos h0] at hQ
    refine lv_aload_n hx hb dL_cell_6 rfl (lv_at hl 0 rfl) ?_
    refine lv_iload_n hx hb dL_cell_7 rfl (lv_at hl 1 rfl) ?_
    refine va_sld hx hb hX hbl (fun z => z) hS (nI_in (c := 0) h0 (by omega)) dL_cell_8 ?_
    refine lv_goto (tgt := 13) hx hb dL_cell_9 (by decide) ?_
    rw [hQ]
    exact pu_iret hx hb hr (vp_nar_int _) hsz dL_cell_13 hlocks
theorem sb_5 {L : Nat} (hL : L ≤ 2561) : (nI L - 5).toInt = (L : Int) - 5 := by
  by_cases h : L < 5
  · rcases (show L = 0 ∨ L = 1 ∨ L = 2 ∨ L = 3 ∨ L = 4 by omega) with rfl | rfl | rfl | rfl | rfl <;> decide
  · rw [show (5 : Int32) = nI 5 from rfl, pk_sub (by omega), nI_toInt (by omega)]
    omega
section LAW2
variable {p : Program} {l : Launch} {e : Env} {s : State} {m : MethodId} {below : List Frame} {meth : Method} {c0 : Code} {Q : State → Prop}
variable {b L : Nat} {xs : Nat → Int32} {dC : Nat → ClassId} {dI : Nat → Nat → Nat} {cI cQ : ClassId} {t1 t2 top xo la ko kc nt : Nat} {lo lc : Nat → Nat} {mo m1 m2 m3 m4 m5 m6 m7 : Nat}
set_option maxHeartbeats 4000000 in
set_option maxRecDepth 100000 in
theorem la_loop (hx : p.tables.exec = Jvm.exec) (hb : c0.code = cL_law) (hml : c0.maxLocals = 4) (hown : s.vm.findClass RL = some m.cls) (hts : ∀ w ∈ tsL, w.before #[Value.ref b] s = true) (hX : va_X b L xs s s.heap) (hbl : b < s.heap.size) (hG0 : gk_K dC dI cI cQ t1 t2 s.heap.size s s.heap) (hgx : gd_A s.heap.size (ad_X top xo la ko kc nt lo lc)) (hgm : gd_A s.heap.size [mo, m1, m2, m3, m4, m5, m6, m7]) (hdis : ∀ a ∈ [mo, m1, m2, m3, m4, m5, m6, m7], a ∉ ad_X top xo la ko kc nt lo lc) (hL : L ≤ 2561)
    (hfin : ∀ (ls : Array Slot) (H : Heap) (locs : List Loc), va_S (fun q => s.heap.size ≤ q) s.heap H locs → W p l e room_1 s m #[Value.ref b] below meth c0 H locs 600000 7302250 Q (F0 m 561 ls [])) :
    ∀ (k n : Nat), L ≤ n + k → n ≤ L + 5 → ∀ (ls : Array Slot) (H : Heap) (locs : List Loc), lv_has ls 4 [(3, .int (nI n)), (2, .ref mo), (1, .ref xo), (0, .ref b)] → lw_I dC dI cI cQ top xo la ko kc nt lo lc mo m1 m2 m3 m4 m5 m6 m7 H → va_S (fun q => s.heap.size ≤ q) s.heap H locs → W p l e room_1 s m #[Value.ref b] below meth c0 H locs 600000 7302250 Q (F0 m 28 ls []) := by
  have hbA : ¬ (fun q : Nat => s.heap.size ≤ q) b := Nat.not_le.mpr hbl
  intro k
  induction k with
  | zero =>
    intro n hk hn5 ls H locs hl hI hS
    refine lv_iload_n hx hb dL_law_28 rfl (lv_at hl 0 rfl) ?_
    refine lv_aload_n hx hb dL_law_29 rfl (lv_at hl 3 rfl) ?_
    refine va_slen hx hb hX hbl hbA hS dL_law_30 ?_
    refine lv_iconst (v := 5) hx hb dL_law_31 (by decide) ?_
    refine lv_isub hx hb dL_law_32 ?_
    refine lv_icmp_gt (tgt := 561) hx hb dL_law_33 (by decide) (fun hc => hfin ls H locs hS) (fun hc => absurd ?_ hc)
    rw [Int32.lt_iff_toInt_lt]
    show (nI L - 5).toInt < _
    rw [sb_5 hL, nI_toInt (by omega)]
    omega
  | succ k ih =>
    intro n hk hn5 ls H locs hl hI hS
    refine lv_iload_n hx hb dL_law_28 rfl (lv_at hl 0 rfl) ?_
    refine lv_aload_n hx hb dL_law_29 rfl (lv_at hl 3 rfl) ?_
    refine va_slen hx hb hX hbl hbA hS dL_law_30 ?_
    refine lv_iconst (v := 5) hx hb dL_law_31 (by decide) ?_
    refine lv_isub hx hb dL_law_32 ?_
    refine lv_icmp_gt (tgt := 561) hx hb dL_law_33 (by decide) (fun hc => hfin ls H locs hS) (fun hc => ?_)
    have hn : n + 4 < L := by
      rw [Int32.lt_iff_toInt_lt] at hc
      have hc : ¬ (nI L - 5).toInt < (nI n).toInt := hc
      rw [sb_5 hL, nI_toInt (by omega)] at hc
      omega
    have hC : lw_C p s m c0 b L n xs dC dI cI cQ t1 t2 top xo la ko kc nt lo lc mo m1 m2 m3 m4 m5 m6 m7 ls := ⟨hx, hb, hml, hown, hts, hX, hbl, hG0, hgx, hgm, hdis, hl, hn, hL⟩
    have kk : ∀ (H1 : Heap) (locs1 : List Loc), lw_I dC dI cI cQ top xo la ko kc nt lo lc mo m1 m2 m3 m4 m5 m6 m7 H1 → va_S (fun q => s.heap.size ≤ q) s.heap H1 locs1 → W p l e room_1 s m #[Value.ref b] below meth c0 H1 locs1 600000 7302250 Q (F0 m 555 ls []) := by
      intro H1 locs1 hI hS
      refine lv_iinc (k := 0) (v := nI (n + 5)) hx hb dL_law_555 hl rfl (nI_add n 5) (by decide) rfl (fun ls hl => ?_)
      refine lv_goto (tgt := 28) hx hb dL_law_558 (by decide) ?_
      exact ih (n + 5) (by omega) (by omega) ls H1 locs1 hl hI hS
    refine lv_aload_n hx hb dL_law_36 rfl (lv_at hl 3 rfl) ?_
    refine lv_iload_n hx hb dL_law_37 rfl (lv_at hl 0 rfl) ?_
    refine va_sld hx hb hX hbl hbA hS (nI_in (show n < L by omega) (by omega)) dL_law_38 ?_
    refine lv_bipush (v := 31) hx hb dL_law_39 (by decide) ?_
    refine lv_iand hx hb dL_law_41 ?_
    generalize xs (nI n).toNatClampNeg &&& 31 = x
    by_cases ho : x.toInt < 0 ∨ 16 < x.toInt
    · refine lv_tableOut (tgt := 555) hx hb dL_law_42 ho (by decide) ?_
      exact kk H locs hI hS
    · rcases (show x.toInt = 0 ∨ x.toInt = 1 ∨ x.toInt = 2 ∨ x.toInt = 3 ∨ x.toInt = 4 ∨ x.toInt = 5 ∨ x.toInt = 6 ∨ x.toInt = 7 ∨ x.toInt = 8 ∨ x.toInt = 9 ∨ x.toInt = 10 ∨ x.toInt = 11 ∨ x.toInt = 12 ∨ x.toInt = 13 ∨ x.toInt = 14 ∨ x.toInt = 15 ∨ x.toInt = 16 by omega) with h | h | h | h | h | h | h | h | h | h | h | h | h | h | h | h | h
      · exact lv_tableIn (tgt := 124) hx hb dL_law_42 (by omega) (by omega) (off := 82) (by rw [h]; rfl) (by decide) (la_put hC hS hI kk)
      · exact lv_tableIn (tgt := 177) hx hb dL_law_42 (by omega) (by omega) (off := 135) (by rw [h]; rfl) (by decide) (la_mount hC hS hI kk)
      · exact lv_tableIn (tgt := 190) hx hb dL_law_42 (by omega) (by omega) (off := 148) (by rw [h]; rfl) (by decide) (la_kind hC hS hI kk)
      · exact lv_tableIn (tgt := 213) hx hb dL_law_42 (by omega) (by omega) (off := 171) (by rw [h]; rfl) (by decide) (la_read hC hS hI kk)
      · exact lv_tableIn (tgt := 236) hx hb dL_law_42 (by omega) (by omega) (off := 194) (by rw [h]; rfl) (by decide) (la_size hC hS hI kk)
      · exact lv_tableIn (tgt := 259) hx hb dL_law_42 (by omega) (by omega) (off := 217) (by rw [h]; rfl) (by decide) (la_name hC hS hI kk)
      · exact lv_tableIn (tgt := 292) hx hb dL_law_42 (by omega) (by omega) (off := 250) (by rw [h]; rfl) (by decide) (la_objects hC hS hI kk)
      · exact lv_tableIn (tgt := 305) hx hb dL_law_42 (by omega) (by omega) (off := 263) (by rw [h]; rfl) (by decide) (la_origin hC hS hI kk)
      · exact lv_tableIn (tgt := 328) hx hb dL_law_42 (by omega) (by omega) (off := 286) (by rw [h]; rfl) (by decide) (la_makeDir hC hS hI kk)
      · exact lv_tableIn (tgt := 351) hx hb dL_law_42 (by omega) (by omega) (off := 309) (by rw [h]; rfl) (by decide) (la_write hC hS hI kk)
      · exact lv_tableIn (tgt := 384) hx hb dL_law_42 (by omega) (by omega) (off := 342) (by rw [h]; rfl) (by decide) (la_remove hC hS hI kk)
      · exact lv_tableIn (tgt := 407) hx hb dL_law_42 (by omega) (by omega) (off := 365) (by rw [h]; rfl) (by decide) (la_rename hC hS hI kk)
      · exact lv_tableIn (tgt := 440) hx hb dL_law_42 (by omega) (by omega) (off := 398) (by rw [h]; rfl) (by decide) (la_entry hC hS hI kk)
      · exact lv_tableIn (tgt := 473) hx hb dL_law_42 (by omega) (by omega) (off := 431) (by rw [h]; rfl) (by decide) (la_entryValue hC hS hI kk)
      · exact lv_tableIn (tgt := 506) hx hb dL_law_42 (by omega) (by omega) (off := 464) (by rw [h]; rfl) (by decide) (la_entries hC hS hI kk)
      · exact lv_tableIn (tgt := 529) hx hb dL_law_42 (by omega) (by omega) (off := 487) (by rw [h]; rfl) (by decide) (la_whiteouts hC hS hI kk)
      · exact lv_tableIn (tgt := 542) hx hb dL_law_42 (by omega) (by omega) (off := 500) (by rw [h]; rfl) (by decide) (la_copies hC hS hI kk)
end LAW2
theorem cs_z (p : Nat → Bool) (h : ∀ i, p i = false) : ∀ n, cs_n p n = 0
  | 0 => rfl
  | n + 1 => by
    show _ = 0
    simp [cs_n, cs_z p h n, h n]
theorem cn_z : cn_f (fun _ => 0) = 0 := cs_z _ (fun i => by simp) _
theorem cw_z : cw_f (fun _ => 0) = 0 := cs_z _ (fun i => show decide ((0 : Int32) = 4) = false by decide) _
theorem sl_z : ∀ n, sl_n (fun _ => cn_f (fun _ => 0)) n = 0
  | 0 => rfl
  | n + 1 => by
    show sl_n (fun _ => cn_f (fun _ => 0)) n + cn_f (fun _ => 0) = 0
    rw [sl_z n, cn_z]
theorem iv_0 {top : Nat} (h1 : 1 ≤ top) (h3 : top ≤ 3) : iv_S top (fun _ => z0_L) (fun _ => 0) (fun _ => 0) := by
  refine ⟨h1, h3, ⟨fun i _ => ⟨0, by omega, rfl⟩, fun l _ p _ => ⟨rfl, fun z => absurd (show (0 : Int32) = 1 from z) (by decide)⟩, fun l _ q _ _ => rfl, fun l _ => rfl⟩, fun l _ => ⟨?_, ?_⟩, ?_, ?_⟩
  · show (0 : Int32) = nI (cn_f (fun _ => 0))
    rw [cn_z]; rfl
  · show (0 : Int32) = nI (cw_f (fun _ => 0))
    rw [cw_z]; rfl
  · show cn_f (fun _ => 0) ≤ 30
    rw [cn_z]; omega
  · show sl_n (fun _ => cn_f (fun _ => 0)) top ≤ 60
    rw [sl_z]; omega
theorem cl_ex (x : Int32) : ∃ top : Nat, 1 ≤ top ∧ top ≤ 3 ∧ cl_T x = nI top := by
  unfold cl_T
  by_cases h1 : x < 1
  · exact ⟨1, by omega, by omega, by rw [if_pos h1]; rfl⟩
  · rw [if_neg h1]
    by_cases h3 : x ≤ 3
    · rw [if_pos h3]
      have a1 : ¬ x.toInt < 1 := fun z => h1 (Int32.lt_iff_toInt_lt.mpr z)
      have a3 : x.toInt ≤ 3 := Int32.le_iff_toInt_le.mp h3
      refine ⟨x.toInt.toNat, by omega, by omega, ?_⟩
      apply Int32.toInt_inj.mp
      rw [nI_toInt (by omega)]
      omega
    · exact ⟨3, by omega, by omega, by rw [if_neg h3]; rfl⟩
/-- what the tables say at the start -/
theorem sk_K {s : State} {args : Array Value} (hts : ∀ w ∈ tsL, w.before args s = true) (hAO : va_AO RX0 s) : ∃ (dC : Nat → ClassId) (dI : Nat → Nat → Nat) (cI cQ : ClassId), va_K (dC, dI) vwCl (ty_Q cI cQ) s := by
  obtain ⟨c0, i0, k0⟩ := u_known (C := RX0) (T := TX0) (N := 3) hts (fun w hw => tw_in (usX0 w hw)) (hts _ (tw_in lk_351))
  obtain ⟨c1, i1, k1⟩ := u_known (C := RX2) (T := TX2) (N := 8) hts (fun w hw => tw_in (usX2 w hw)) (hts _ (tw_in lk_337))
  obtain ⟨c2, i2, k2⟩ := u_known (C := RX3) (T := TX3) (N := 15) hts (fun w hw => tw_in (usX3 w hw)) (hts _ (tw_in lk_428))
  obtain ⟨cI, kI, comp, e1, e2, e3⟩ := Cond.arrayClass_spec (hts _ (tw_in lk_355))
  obtain ⟨comp2, cQ, kQ, f1, f2, f3, f4, f5⟩ := Cond.arrayOver_spec hAO
  refine ⟨fun k => match k with | 0 => c0 | 1 => c1 | _ => c2, fun k => match k with | 0 => i0 | 1 => i1 | _ => i2, cI, cQ, fun c q hq => ?_, fun k q hq => ?_⟩
  · match c, hq with
    | 0, hq => cases hq; exact k0
    | 1, hq => cases hq; exact k1
    | 2, hq => cases hq; exact k2
    | n + 3, hq => cases hq
  · match k, hq with
    | 0, hq => cases hq; exact ⟨fun n z => ⟨fun k h => (by cases h), kI, e2, comp, e3⟩, e1⟩
    | 1, hq => cases hq; exact ⟨fun n z => ⟨fun k h => (by cases h), kQ, f3, comp2, f4⟩, kQ, comp2, f3, f4, f1, f5⟩
    | n + 2, hq => cases hq
