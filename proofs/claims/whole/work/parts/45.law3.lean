/-! THE CLAIM OUT OF ONE WALK OF THE LAW'S BODY. Your part is whole_start (and what it stands on); all else here is the same for every law, but numbers. -/
def R_law : String := "LayeredTreeLaw"
def lw_P (b : Addr) (xs : List Int32) (args : Array Value) (s : State) : Prop := args = #[.ref b] ∧ s.IntsAt b xs ∧ xs.length ≤ 2561 ∧ (Jvm.Cond.and given_1 narrow_1).before args s = true
def lw_Q (_ : Array Value) (s : State) (o : Outcome) (t : State) : Prop := o = .returned (some (.int 1)) ∧ Framed s o t [] 600000 7302250
def lw_Z (below : List Frame) (a : Array Value) (s : State) : State → Prop := fun t => ∃ o, t.status = .running ∧ Ended t below o ∧ lw_Q a s o t
/-- the law's own end, with 1 on the stack, nothing written that was there before, its room as the claim has it -/
theorem lw_ret {p : Program} {l : Launch} {e : Env} {s : State} {m : MethodId} {below : List Frame} {meth : Method} {c : Code} {b : Nat} (hx : p.tables.exec = Jvm.exec) (hb : c.code = code) (hr : meth.sig.returnType = ret) (hlocks : meth.locks = false) {pc : Nat} {H : Heap} {ls : Array Slot} (hdg : decode code pc = .ok (.ireturn, 1)) : W p l e room_1 s m #[Value.ref b] below meth c H [] 600000 7302250 (lw_Z below #[Value.ref b] s) (F0 m pc ls [.int 1]) := by
  intro T hT X
  obtain ⟨fs, hret, hrun, hended, hW, hframe⟩ := X.leave (v := some (.int 1)) (hlocks := hlocks) (fun h => by rw [hr] at h; cases h)
  have hmeth' : T.vm.method? m = some meth := X.method'
  refine ⟨T.setFrames fs, ?_, .returned (some (.int 1)), hrun, hended, rfl, ⟨_, rfl⟩, hW, hframe⟩
  jvm_step X.here [X.here.top, hx, hb, hdg, hmeth', hr, ret, narrow_b1]
  (try refine ⟨rfl, ?_⟩); (try refine ⟨rfl, ?_⟩)
  first | (intro acts; rw [hret _ acts rfl rfl rfl]) | rw [hret _ _ rfl rfl rfl]
  exact Steps.refl _
/-- what holds at the law's entry: the machine, the code, the tables' words (any of lw_tbl by 'hts w (by decide +kernel)'), the script of L ints xs at the cell b, what the Statement gives of the start (any of its parts by flat_of_before) -/
def lw_At (p : Program) (s : State) (m : MethodId) (meth : Method) (c : Code) (b L : Nat) (xs : Nat → Int32) : Prop :=
  p.tables.exec = Jvm.exec ∧ c.code = code ∧ meth.sig.returnType = ret ∧ c.maxLocals = 4 ∧ s.vm.findClass R_law = some m.cls ∧ (∀ w ∈ lw_tbl, w.before #[Value.ref b] s = true) ∧ va_X b L xs s s.heap ∧ b < s.heap.size ∧ meth.locks = false ∧ (Jvm.Cond.and given_1 narrow_1).before #[Value.ref b] s = true
/-- the two static rows of Places at the start -/
theorem st_T {s : State} {args : Array Value} (hts : ∀ w ∈ lw_tbl, w.before args s = true) (hgv : (Jvm.Cond.and given_1 narrow_1).before args s = true) : ∃ t1 t2 : Nat, va_Z RX1 "FIRST_OF_DEPTH" "[I" (.ref t1) (fun q => s.heap.size ≤ q) s s.heap ∧ va_T .int t1 5 (fun j => .int (ft_1 j)) (fun q => s.heap.size ≤ q) s s.heap ∧ va_Z RX1 "NUMBER_OF_DEPTH" "[I" (.ref t2) (fun q => s.heap.size ≤ q) s s.heap ∧ va_T .int t2 5 (fun j => .int (ft_2 j)) (fun q => s.heap.size ≤ q) s s.heap := by
  have hs := flat_of_before _ hgv
  have hA : ∀ a : Nat, a < s.heap.size → ¬ (fun q : Nat => s.heap.size ≤ q) a := fun a h => Nat.not_le.mpr h
  obtain ⟨t1, e1, h1⟩ := va_Tof (args := args) (s := s) (tm := .static "LayeredTree$Places" "FIRST_OF_DEPTH" "[I") (ty := .int) (N := 5) (f := fun j => .int (ft_1 j)) (A := fun q => s.heap.size ≤ q) (by decide) (hs _ (by decide +kernel)) (va_eqt (z := 5) (hs _ (by decide +kernel))) (fun j hj => by
    rcases (show j = 0 ∨ j = 1 ∨ j = 2 ∨ j = 3 ∨ j = 4 by omega) with rfl | rfl | rfl | rfl | rfl
    · exact va_eqt (z := 0) (hs _ (by decide +kernel))
    · exact va_eqt (z := 1) (hs _ (by decide +kernel))
    · exact va_eqt (z := 6) (hs _ (by decide +kernel))
    · exact va_eqt (z := 31) (hs _ (by decide +kernel))
    · exact va_eqt (z := 156) (hs _ (by decide +kernel))) hA
  obtain ⟨t2, e2, h2⟩ := va_Tof (args := args) (s := s) (tm := .static "LayeredTree$Places" "NUMBER_OF_DEPTH" "[I") (ty := .int) (N := 5) (f := fun j => .int (ft_2 j)) (A := fun q => s.heap.size ≤ q) (by decide) (hs _ (by decide +kernel)) (va_eqt (z := 5) (hs _ (by decide +kernel))) (fun j hj => by
    rcases (show j = 0 ∨ j = 1 ∨ j = 2 ∨ j = 3 ∨ j = 4 by omega) with rfl | rfl | rfl | rfl | rfl
    · exact va_eqt (z := 1) (hs _ (by decide +kernel))
    · exact va_eqt (z := 5) (hs _ (by decide +kernel))
    · exact va_eqt (z := 25) (hs _ (by decide +kernel))
    · exact va_eqt (z := 125) (hs _ (by decide +kernel))
    · exact va_eqt (z := 625) (hs _ (by decide +kernel))) hA
  exact ⟨t1, t2, va_Zof (hts (.laysStatic "LayeredTree$Places" "FIRST_OF_DEPTH" "[I") (by decide +kernel)) (hts _ (List.mem_filter.mp lk_1).1) e1 hA, h1, va_Zof (hts (.laysStatic "LayeredTree$Places" "NUMBER_OF_DEPTH" "[I") (by decide +kernel)) (hts _ (List.mem_filter.mp lk_1).1) e2 hA, h2⟩
set_option maxHeartbeats 8000000 in
set_option maxRecDepth 100000 in
/-- from the entry, for every script of at most 2561 ints, the law comes to its end with true -/
theorem whole_start {p : Program} {e : Env} {s : State} {m : MethodId} {below : List Frame} {meth : Method} {c : Code} (l : Launch) {b L : Nat} {xs : Nat → Int32} (hL : L ≤ 2561) (C0 : lw_At p s m meth c b L xs) : W p l e room_1 s m #[Value.ref b] below meth c s.heap [] 0 0 (lw_Z below #[Value.ref b] s) (entryFrame m ([Value.ref b] : List Value).toArray 4) := by
  obtain ⟨hx, hb, hr, hml, hown0, hts0, hX, hbl, hlocks, hgv⟩ := C0
  have hown : s.vm.findClass RL = some m.cls := hown0
  have hts : ∀ w ∈ tsL, w.before #[Value.ref b] s = true := fun w hw => by
    rcases List.mem_cons.mp hw with h | h
    · rw [h]; exact hts0 _ (List.mem_filter.mp lk_334).1
    · exact hts0 w (List.mem_filter.mp h).1
  have hAO : va_AO RX0 s := va_AO.of (hts0 (.arrayOver (.object "LayeredTree$Layer")) (by decide +kernel))
  have hNw : va_Nw (.methodLinkNest RX2 28 yX0_init "LayeredTree") s := va_Nw.of rfl (hts0 (.methodLinkNest RX2 28 yX0_init "LayeredTree") (by decide +kernel))
  obtain ⟨t1, t2, z1, z2, z3, z4⟩ := st_T hts0 hgv
  obtain ⟨dC, dI, cI, cQ, hK⟩ := sk_K hts hAO
  have hG0 : gk_K dC dI cI cQ t1 t2 s.heap.size s s.heap := ⟨hK, z1, z2, z3, z4⟩
  have hiX2 : ∀ w ∈ u_ws RX2 TX2 8, w ∈ tsL := fun w hw => tw_in (usX2 w hw)
  have hiX3 : ∀ w ∈ u_ws RX3 TX3 15, w ∈ tsL := fun w hw => tw_in (usX3 w hw)
  have hbA : ¬ (fun q : Nat => s.heap.size ≤ q) b := Nat.not_le.mpr hbl
  have hA : ∀ q : Nat, s.heap.size ≤ q → (fun q : Nat => s.heap.size ≤ q) q := fun q h => h
  have hS : va_S (fun q => s.heap.size ≤ q) s.heap s.heap [] := va_S.rf
  have hl := lv_entry ([.ref b]) (n := 4) (Nat.le_of_ble_eq_true rfl)
  rw [lg_entry_eq]
  generalize (lg_sl ([.ref b]) ++ List.replicate (4 - (lg_sl ([.ref b])).length) Slot.unset).toArray = ls at hl ⊢
  have hl : lv_has ls 4 [(0, .ref b)] := hl
  have hXk : ∀ {H : Heap} {locs : List Loc}, va_S (fun q => s.heap.size ≤ q) s.heap H locs → va_X b L xs s H := fun hS => hX.kept (hS.2.1 b hbl hbA)
  have hXm : ∀ (u U : State) (K : Heap), u.WarmedH U.vm → va_X b L xs u K → va_X b L xs U K := fun _ _ _ hW h => va_X.moved hW.alike h
  obtain ⟨top, h1, h3, htp⟩ := cl_ex (if 0 < L then xs 0 else 0)
  generalize hv : (if 0 < L then xs 0 else 0) = v at htp
  have hcell := cl_cell l b L xs hL
  rw [hv] at hcell
  have hP0 : va_P (dC, dI) vwCl [] s.heap := pz_0
  have hD0 : va_D (fun q => s.heap.size ≤ q) [] := dn_D (by simp) (fun a ha => by cases ha)
  refine va_new (ci := 1) (fs := [.int 0, .null, .null, .int 0, .int 0, .null, .int 0, .null]) (C := RX2) (T := TX2) (N := 8) hx hb hts hiX2 tyX2 tyX2_ok hown (hts _ (tw_in lk_336)) (hts _ (tw_in lk_337)) (hts _ (tw_in lk_37)) hK hP0 hD0 hS hA rfl (fun j hj => by rcases (show j = 0 ∨ j = 1 ∨ j = 2 ∨ j = 3 ∨ j = 4 ∨ j = 5 ∨ j = 6 ∨ j = 7 by omega) with rfl | rfl | rfl | rfl | rfl | rfl | rfl | rfl <;> rfl) (by decide) (by decide) dL_law_0 (fun xo H hP hD hS => ?_)
  have hxo : s.heap.size ≤ xo := hD.2 0 _ rfl
  have hzH : s.heap.size ≤ H.size := hS.1
  refine lv_dup hx hb dL_law_3 rfl ?_
  refine lv_aload_n hx hb dL_law_4 rfl (lv_at hl 0 rfl) ?_
  refine lv_iconst (v := 0) hx hb dL_law_5 (by decide) ?_
  refine pu_calli (va_runS (As := [.ref b, .int 0]) (rest := [.ref xo, .ref xo]) ⟨hx, hb, hml, hown, hts⟩ (hcell H.size) (va_cwS 2 hts (gs_S lk_424 lk_425 lk_334 lk_426) rfl rfl rfl (by decide +kernel) ⟨Nat.le_of_ble_eq_true rfl, Nat.le_of_ble_eq_true rfl⟩) (pr_S hXm (hXk hS)) rfl rfl hl.1 rfl (lv_room (Nat.le_of_ble_eq_true rfl)) dL_law_6 ⟨by decide, by decide⟩) ?_
  have hA1 : ∀ x, fr_A xo H.size x → (fun q : Nat => s.heap.size ≤ q) x := fun x h => by
    rcases h with h | h
    · rw [h]; exact hxo
    · exact Nat.le_trans hzH h
  refine va_callv (va_runI (As := [.int v]) (rest := [.ref xo]) ⟨hx, hb, hml, hown, hts⟩ (cx_init l dC dI cI cQ xo H.size top v htp h3) (cwI 1 hts (gs_A lk_340) rfl rfl rfl (hts _ (tw_in lk_37)) (hts _ (tw_in lk_338)) (hts _ (tw_in lk_339)) rfl (by decide +kernel) ⟨Nat.le_of_ble_eq_true rfl, Nat.le_of_ble_eq_true rfl⟩) (pr_S k0_W ⟨hK, hAO, hNw, hP⟩) rfl rfl hl.1 rfl (lv_room (Nat.le_of_ble_eq_true rfl)) dL_law_9 ⟨by decide, by decide⟩) hS (fun x _ h => hA1 x h) hA1 (fun u t H1 locs ht hvm hq hB hz1 hk1 hS => ?_)
  subst ht
  obtain ⟨la, ko, kc, nt, lo, lc⟩ := u
  have hPx : va_P (dC, dI) vwCl (wx_X cI cQ top xo la ko kc nt lo lc (fun _ => z0_L) 0 0 z0_L 0 (fun _ => 0)) t.heap := hB
  have hgx : gd_A s.heap.size (ad_X top xo la ko kc nt lo lc) := ⟨hq.1, fun a ha => hA1 a (hq.2 a ha)⟩
  clear hB hk1 hz1
  generalize t.heap = H at hPx hS ⊢
  refine lv_astore_n (i := 1) hx hb dL_law_12 rfl hl (by decide) rfl (fun ls hl => ?_)
  have hDx : va_D (fun q => s.heap.size ≤ q) (wx_X cI cQ top xo la ko kc nt lo lc (fun _ => z0_L) 0 0 z0_L 0 (fun _ => 0)) := dn_D (by rw [mx_X]; exact hgx.1) (fun a ha => hgx.2 a (by rw [mx_X] at ha; exact ha))
  refine va_new (ci := 2) (fs := [.int 0, .int 0, .int 0, .null, .null, .null, .null, .int 0, .int 0, .int 0, .int 0, .null, .null, .null, .int 0]) (C := RX3) (T := TX3) (N := 15) hx hb hts hiX3 tyX3 tyX3_ok hown (hts _ (tw_in lk_427)) (hts _ (tw_in lk_428)) (hts _ (tw_in lk_194)) hK hPx hDx hS hA rfl (fun j hj => by rcases (show j = 0 ∨ j = 1 ∨ j = 2 ∨ j = 3 ∨ j = 4 ∨ j = 5 ∨ j = 6 ∨ j = 7 ∨ j = 8 ∨ j = 9 ∨ j = 10 ∨ j = 11 ∨ j = 12 ∨ j = 13 ∨ j = 14 by omega) with rfl | rfl | rfl | rfl | rfl | rfl | rfl | rfl | rfl | rfl | rfl | rfl | rfl | rfl | rfl <;> rfl) (by decide) (by decide) dL_law_13 (fun mo H hP hD hS => ?_)
  have hzH : s.heap.size ≤ H.size := hS.1
  have hmm : (mo, (.inr (2, [.int 0, .int 0, .int 0, .null, .null, .null, .null, .int 0, .int 0, .int 0, .int 0, .null, .null, .null, .int 0]) : va_E)) ∈ wx_X cI cQ top xo la ko kc nt lo lc (fun _ => z0_L) 0 0 z0_L 0 (fun _ => 0) ++ [(mo, (.inr (2, [.int 0, .int 0, .int 0, .null, .null, .null, .null, .int 0, .int 0, .int 0, .int 0, .null, .null, .null, .int 0]) : va_E))] := List.mem_append_right _ List.mem_cons_self
  have hmo : s.heap.size ≤ mo := (nd_D hD).2 mo (List.mem_map_of_mem (f := Prod.fst) hmm)
  have hPm : va_P (dC, dI) vwCl [(mo, .inr (2, [.int 0, .int 0, .int 0, .null, .null, .null, .null, .int 0, .int 0, .int 0, .int 0, .null, .null, .null, .int 0]))] H := pm_P hP (fun x hx => List.mem_append_right _ hx)
  have hPx : va_P (dC, dI) vwCl (wx_X cI cQ top xo la ko kc nt lo lc (fun _ => z0_L) 0 0 z0_L 0 (fun _ => 0)) H := pm_P hP (fun x hx => List.mem_append_left _ hx)
  have hmn : mo ∉ ad_X top xo la ko kc nt lo lc := fun z => by
    have hn := (nd_D hD).1
    rw [List.map_append, mx_X] at hn
    exact (List.nodup_append.mp hn).2.2 mo z mo List.mem_cons_self rfl
  have hlx : ∀ a ∈ ad_X top xo la ko kc nt lo lc, a < H.size := fun a ha => by
    rw [← mx_X (cI := cI) (cQ := cQ) (c := fun _ => z0_L) (md := 0) (cu := 0) (kp := z0_L) (kcu := 0) (nf := fun _ => 0)] at ha
    obtain ⟨q, hq, rfl⟩ := List.mem_map.mp ha
    obtain ⟨k, hk⟩ := List.getElem?_of_mem hq
    exact (hPx k q hk).lt
  have hlm : mo < H.size := (hPm 0 _ rfl).lt
  refine lv_dup hx hb dL_law_16 rfl ?_
  refine lv_aload_n hx hb dL_law_17 rfl (lv_at hl 1 rfl) ?_
  refine lv_iconst (v := 0) hx hb dL_law_18 (by decide) ?_
  refine pu_calli (va_runS (As := [.ref b, .int 0]) (rest := [.ref mo, .ref mo]) ⟨hx, hb, hml, hown, hts⟩ (hcell H.size) (va_cwS 2 hts (gs_S lk_424 lk_425 lk_334 lk_426) rfl rfl rfl (by decide +kernel) ⟨Nat.le_of_ble_eq_true rfl, Nat.le_of_ble_eq_true rfl⟩) (pr_S hXm (hXk hS)) rfl rfl hl.1 rfl (lv_room (Nat.le_of_ble_eq_true rfl)) dL_law_19 ⟨by decide, by decide⟩) ?_
  have hA2 : ∀ x, fr_A mo H.size x → (fun q : Nat => s.heap.size ≤ q) x := fun x h => by
    rcases h with h | h
    · rw [h]; exact hmo
    · exact Nat.le_trans hzH h
  refine va_callv (va_runI (As := [.int v]) (rest := [.ref mo]) ⟨hx, hb, hml, hown, hts⟩ (cq_init l dC dI cI cQ mo H.size top v htp) (cwI 1 hts (gs_A lk_431) rfl rfl rfl (hts _ (tw_in lk_194)) (hts _ (tw_in lk_429)) (hts _ (tw_in lk_430)) rfl (by decide +kernel) ⟨Nat.le_of_ble_eq_true rfl, Nat.le_of_ble_eq_true rfl⟩) (pr_S k0_W ⟨hK, hAO, hNw, hPm⟩) rfl rfl hl.1 rfl (lv_room (Nat.le_of_ble_eq_true rfl)) dL_law_22 ⟨by decide, by decide⟩) hS (fun x _ h => hA2 x h) hA2 (fun u t H1 locs ht hvm hq hB hz1 hk1 hS => ?_)
  subst ht
  obtain ⟨m1, m2, m3, m4, m5, m6, m7⟩ := u
  have hq : gd_A H.size [m1, m2, m3, m4, m5, m6, m7] := hq
  have hgm : gd_A s.heap.size [mo, m1, m2, m3, m4, m5, m6, m7] := by
    refine ⟨List.nodup_cons.mpr ⟨fun z => ?_, hq.1⟩, fun a ha => ?_⟩
    · have := hq.2 mo z
      omega
    · rcases List.mem_cons.mp ha with h | h
      · rw [h]; exact hmo
      · exact Nat.le_trans hzH (hq.2 a h)
  have hdis : ∀ a ∈ [mo, m1, m2, m3, m4, m5, m6, m7], a ∉ ad_X top xo la ko kc nt lo lc := fun a ha z => by
    rcases List.mem_cons.mp ha with h | h
    · exact hmn (h ▸ z)
    · have := hq.2 a h
      have := hlx a z
      omega
  have hPx : va_P (dC, dI) vwCl (wx_X cI cQ top xo la ko kc nt lo lc (fun _ => z0_L) 0 0 z0_L 0 (fun _ => 0)) t.heap := kp_P (as1 := [mo]) hPx mx_X (fun q h2 h4 => hk1 q h2 (fun z => by
    rcases z with z | z
    · exact h4 (by rw [z]; exact List.mem_singleton.mpr rfl)
    · omega)) (fun a ha z => hmn ((List.mem_singleton.mp z) ▸ ha))
  have hI : lw_I dC dI cI cQ top xo la ko kc nt lo lc mo m1 m2 m3 m4 m5 m6 m7 t.heap := ⟨_, _, _, _, _, _, _, _, _, _, _, _, _, _, _, _, _, _, iv_0 h1 h3, Or.inl rfl, hPx, hB⟩
  refine lv_astore_n (i := 2) hx hb dL_law_25 rfl hl (by decide) rfl (fun ls hl => ?_)
  refine lv_iconst (v := 1) hx hb dL_law_26 (by decide) ?_
  refine lv_istore_n (i := 3) hx hb dL_law_27 rfl hl (by decide) rfl (fun ls hl => ?_)
  refine W.widen (k := 600000) (n := 7302250) (by decide) (by decide) ?_
  refine la_loop hx hb hml hown hts hX hbl hG0 hgx hgm hdis hL (fun ls H locs hS => ?_) L 1 (by omega) (by omega) ls t.heap locs hl hI hS
  refine lv_iconst (v := 1) hx hb dL_law_561 (by decide) ?_
  refine va_forget (fun q hq => hS.2.2 q hq) ?_
  exact lw_ret hx hb hr hlocks dL_law_562
set_option maxHeartbeats 4000000 in
theorem lw_walk (l : Launch) (b : Addr) (xs : List Int32) : MetFree l x (headSpec (Jvm.Cond.code x code maxLocals ret :: tables_1) room_1) (lw_P b xs) (fun _ _ _ _ _ => True) lw_Q := by
  refine MetFree.of_bodyS (code := code) (maxLocals := maxLocals) (ret := ret) (by decide) ?_ ?_
  · intro args s m h hn
    obtain ⟨meth, c, h1, h2, h3, h4, h5, h6, -, -⟩ := Cond.code_spec hn (atoms_spec (ws := Jvm.Cond.code x code maxLocals ret :: tables_1) h _ List.mem_cons_self)
    exact ⟨meth, c, h1, h2, h3, h4, h5, h6⟩
  · intro p e s m args below meth c s₁ B hml0 hP _
    obtain ⟨rfl, hx, hbd, hgv⟩ := hP
    obtain ⟨scr, harrAt, hlist, hof, hsmall⟩ := hx
    obtain ⟨hcb, hkn, -, -⟩ := State.arrayAt?_spec harrAt
    have hown : s.vm.findClass R_law = some m.cls := findClass_of_methodNamed B.named
    have hts0 : ∀ c ∈ (Jvm.Cond.code x code maxLocals ret :: tables_1), c.before #[Value.ref b] s = true := atoms_spec (ws := Jvm.Cond.code x code maxLocals ret :: tables_1) B.pre
    have hts : ∀ w ∈ lw_tbl, w.before #[Value.ref b] s = true := k2_hts_sels lw_privs (fun w hw => hts0 w (List.mem_cons_of_mem _ hw)) lw_privs_ok
    have hml : c.maxLocals = 4 := B.maxLocals_eq (hts0 _ List.mem_cons_self)
    have X₀ : Stand p l e room_1 s m #[Value.ref b] below meth c s₁ [] 0 0 := Stand.of_body B
    have hh0 : s₁.heap = s.heap := by rw [B.state]; rfl
    have hsz : scr.slots.size = xs.length := by rw [← Array.length_toList, hlist, List.length_map]
    have hval : ∀ j : Nat, j < xs.length → scr.slots[j]? = some (.int (xs.getD j 0)) := fun j hj => by
      rw [← Array.getElem?_toList, hlist]
      simp [hj]
    have hbl : b < s.heap.size := (Array.getElem?_eq_some_iff.mp hcb).1
    have hX : va_X b xs.length (fun j => xs.getD j 0) s s.heap := ⟨scr, hcb, hof, hkn, hsz, hval⟩
    have K : W p l e room_1 s m #[Value.ref b] below meth c s₁.heap [] 0 0 (lw_Z below #[Value.ref b] s) (entryFrame m ([Value.ref b] : List Value).toArray 4) := by
      rw [hh0]
      exact whole_start l hbd ⟨B.exec, B.bytes, B.returns, hml, hown, hts, hX, hbl, B.notSynchronized, hgv⟩
    obtain ⟨t, a1, o, b1, b2, b3⟩ := K s₁ rfl X₀
    exact ⟨t, o, a1, b1, b2, b3⟩
theorem lw_pre_spec {args : Array Value} {s : State} (h : (Jvm.Cond.and given_1 narrow_1).before args s = true) (hr : rest_1_c.before args s = true) : ∃ (b : Addr) (xs : List Int32), lw_P b xs args s := by
  have hs := flat_of_before _ h
  have hq := flat_of_before _ hr
  have hc : (Cond.count 1).before args s = true := hs _ (by decide +kernel)
  have harr : (Cond.arrayOf (.arg 0) .int).before args s = true := hs _ (by decide +kernel)
  have hle : (Cond.le (.length (.arg 0)) (.int 2561)).before args s = true := hs _ (by decide +kernel)
  have hlen : (Cond.isInt (.length (.arg 0))).before args s = true := hq _ (by decide +kernel)
  have hall : (Cond.all (.arg 0) (.isInt (.elem (.arg 0) (.index 0)))).before args s = true := hq _ (by decide +kernel)
  obtain ⟨b, xs, hb, hx⟩ := State.ints_of_pre rfl harr hlen hall
  have hsm : xs.length < 2 ^ 31 := hx.choose_spec.2.2.2
  have hev : (Term.length (.arg 0)).eval args s none [] s = some (.int xs.length.toInt32) := hx.length_eval hb
  have hv := Cond.le_ints hev (show (Term.int 2561).eval args s none [] s = some (.int 2561) from rfl)
  have hd : xs.length.toInt32 ≤ 2561 := by
    simpa [Cond.before, Cond.holds, hv] using hle
  have hN : xs.length ≤ 2561 := (Int32.ofNat_le_ofNat hsm (by decide)).mp (show Int32.ofNat xs.length ≤ Int32.ofNat 2561 from hd)
  exact ⟨b, xs, Cond.one_arg hc (show args[0]? = some (.ref b) from hb), hx, hN, h⟩
theorem lw_comes (l : Launch) : Comes l x (Jvm.Cond.code x code maxLocals ret :: tables_1) room_1 (fun tb e args s => Calls_1 tb e args s ∧ rest_1 tb e args s ∧ Pre_1 tb e args s)
    (fun _ _ args s o t => lw_Q args s o t) := by
  intro p e ha hc hk s m args below hf hfit hheap happ hpre
  obtain ⟨b, xs, hP⟩ := lw_pre_spec hpre.2.2 hpre.2.1
  obtain ⟨k, o, h1, h2, h3, hQ⟩ := lw_walk l b xs p e ha hc hk s m args below hf ((Spec.applies_iff_loose hf).mp happ).1 hP trivial
  exact ⟨k, o, h1, h2, h3, hQ⟩
theorem lw_frame {s t : State} {o : Outcome} {args : Array Value} (h : Framed s o t [] 600000 7302250) :
    Framed s o t (fieldLocs frame_1_writes args s ++ arrayLocs frame_1_arrays args s ++ staticLocs frame_1_statics s) 600000 7302250 := h
theorem lw_limb (L : Cond) (hL : ∀ (args : Array Value) (s t : State), L.after args s (.returned (some (.int 1))) t = true) :
    ArmFor flags0 classFile x code maxLocals ret World_1 tables_1 room_1 Calls_1 rest_1 Pre_1
      (fun tb e a s o t => postC L tb e a s o t ∧ Framed s o t (fieldLocs frame_1_writes a s ++ arrayLocs frame_1_arrays a s ++ staticLocs frame_1_statics s) 600000 7302250) := by
  intro l _ _ _ p e ha hc hk s m args below hf hfit hheap happ hpre
  obtain ⟨k, o, h1, h2, h3, rfl, hF⟩ := lw_comes l p e ha hc hk s m args below hf hfit hheap happ hpre
  exact ⟨k, _, h1, h2, h3, hL args s _, lw_frame hF⟩
theorem i_vc : Claimed_1_1 ∧ Claimed_1_2 := ⟨lw_limb limb_1_1 (fun args s t => by simp [limb_1_1, Cond.after, Cond.holds, Cond.value]), lw_limb limb_1_2 (fun args s t => Cond.after_iff.mpr (by
  first | (rw [show limb_1_2 = Cond.eq .result (.int 1) from rfl, Cond.eq_ints (x := 1) (y := 1) rfl rfl]; simp; done) | (simp [limb_1_2, Cond.value, Term.eval]; done)))⟩
