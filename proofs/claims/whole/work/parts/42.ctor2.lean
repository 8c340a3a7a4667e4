/-! the constructor of the tree -/
abbrev z0_L : ls_T := (fun _ => 0, 0, 0)
theorem wt_cg {cI : ClassId} {lo lo' lc lc' : Nat → Nat} {c : Nat → ls_T} : ∀ n : Nat, (∀ j, j < n → lo j = lo' j ∧ lc j = lc' j) → wx_T cI lo lc c n = wx_T cI lo' lc' c n
  | 0, _ => rfl
  | n + 1, h => by
    show wx_T cI lo lc c n ++ _ = wx_T cI lo' lc' c n ++ _
    rw [wt_cg n (fun j hj => h j (Nat.lt_succ_of_lt hj)), (h n (Nat.lt_succ_self n)).1, (h n (Nat.lt_succ_self n)).2]
section MKL
variable {p : Program} {l : Launch} {e : Env} {R : Room} {s : State} {m : MethodId} {args : Array Value} {below : List Frame} {meth : Method} {c : Code} {H : Heap} {locs : List Loc} {cells slots : Nat} {Q : State → Prop}
variable {pc : Nat} {ls : Array Slot} {rest : List Value} {A : Nat → Prop} {H0 : Heap} {dC : Nat → ClassId} {dI : Nat → Nat → Nat} {cI cQ : ClassId} {ws : va_W}
set_option maxHeartbeats 4000000 in
set_option maxRecDepth 100000 in
theorem mk_L (hx : p.tables.exec = Jvm.exec) (hb : c.code = cX2_init) (hml : c.maxLocals = 3) (hown : s.vm.findClass RX2 = some m.cls) (hts : ∀ w ∈ wsX2_init, w.before args s = true) (hK : va_K (dC, dI) vwCl (ty_Q cI cQ) s) (hAO : va_AO RX0 s) (hNw : va_Nw (.methodLinkNest RX2 28 yX0_init "LayeredTree") s) (hP : va_P (dC, dI) vwCl ws H) (hD : va_D A ws) (hS : va_S A H0 H locs) (hA : ∀ q, H0.size ≤ q → A q) (hls : ls.size = 3)
    (hfr : 2 ≤ R.frames) (hlo : 32 ≤ R.locals) (hcells : cells + 2 ≤ R.cells) (hslots : slots + 784 ≤ R.slots) (hrm : 1 + (rest.map fun v => v.category).sum ≤ 8)
    (d1 : decode cX2_init pc = .ok (.new 22, 3)) (d2 : decode cX2_init (pc + 3) = .ok (.dup, 1)) (d3 : decode cX2_init (pc + 3 + 1) = .ok (.invokespecial 28, 3))
    (kk : ∀ (q q1 : Nat) (H1 : Heap) (locs1 : List Loc), va_P (dC, dI) vwCl (ws ++ wl_L cI q q1 (fun _ => 0) 0 0) H1 → va_D A (ws ++ wl_L cI q q1 (fun _ => 0) 0 0) → va_S A H0 H1 locs1 → W p l e R s m args below meth c H1 locs1 (cells + 2) (slots + 784) Q (F0 m (pc + 7) ls (.ref q :: rest))) : W p l e R s m args below meth c H locs cells slots Q (F0 m pc ls rest) := by
  have hiX0 : ∀ w ∈ u_ws RX0 TX0 3, w ∈ wsX2_init := fun w hw => tw_in (usX0 w hw)
  refine va_new (ci := 0) (fs := [.null, .int 0, .int 0]) (C := RX0) (T := TX0) (N := 3) hx hb hts hiX0 tyX0 tyX0_ok hown (hts _ (tw_in lk_350)) (hts _ (tw_in lk_351)) (hts _ (tw_in lk_12)) hK hP hD hS hA rfl (fun j hj => by rcases (show j = 0 ∨ j = 1 ∨ j = 2 by omega) with rfl | rfl | rfl <;> rfl) (by omega) (by omega) d1 (fun q H hP hD hS => ?_)
  have hz0 := hS.1
  refine lv_dup hx hb d2 rfl ?_
  have hAq : A q := hD.2 ws.length (q, .inr (0, [.null, .int 0, .int 0])) (by simp)
  have hPc : va_P (dC, dI) vwCl [(q, .inr (0, [.null, .int 0, .int 0]))] H := pm_P hP (fun x hx => List.mem_append_right _ hx)
  obtain ⟨hn, hm⟩ := nd_D hD
  rw [List.map_append] at hn hm
  obtain ⟨n1, n2, n3⟩ := List.nodup_append.mp hn
  have hA1 : ∀ x, fr_A q H.size x → A x := fun x h => by
    rcases h with h | h
    · rw [h]; exact hAq
    · exact hA x (Nat.le_trans hS.1 h)
  refine va_callv (va_runIN (As := []) (rest := .ref q :: rest) ⟨hx, hb, hml, hown, hts⟩ (cy_init l dC dI cI cQ q H.size) ⟨va_cnB 0 hts (gs_A lk_353) rfl rfl rfl hNw (hts _ (tw_in lk_12)) (by decide +kernel) ⟨hfr, hlo⟩, rfl, hts _ (tw_in lk_352)⟩ (pr_S k0_W ⟨hK, hAO, hNw, hPc⟩) rfl rfl hls rfl (lv_room (by rw [List.map_cons, List.sum_cons]; exact hrm)) d3 ⟨by omega, by omega⟩) hS (fun x _ h => hA1 x h) hA1 (fun u t H1 locs ht hvm hq hB hz1 hk1 hS => ?_)
  subst ht
  have hlt : ∀ x ∈ ws, x.1 < H.size := fun x hx => by
    obtain ⟨k, hk⟩ := List.getElem?_of_mem (List.mem_append_left [(q, (.inr (0, [.null, .int 0, .int 0]) : va_E))] hx)
    exact (hP k x hk).lt
  have hqt : q < H.size := (hPc 0 _ rfl).lt
  refine kk q u _ locs ?_ ?_ hS
  · refine jn_P (as1 := [q]) hP hB (fun x h1 h2 => hk1 x h1 (fun z => ?_)) (fun x hx => ?_)
    · rcases z with z | z
      · exact h2 (by rw [z]; exact List.mem_singleton.mpr rfl)
      · omega
    · rcases List.mem_append.mp hx with h | h
      · refine Or.inr ⟨List.mem_append_left _ h, fun z => ?_⟩
        exact n3 x.1 (List.mem_map_of_mem (f := Prod.fst) h) q List.mem_cons_self (List.mem_singleton.mp z)
      · exact Or.inl h
  · refine dn_D ?_ ?_
    · rw [List.map_append]
      refine List.nodup_append.mpr ⟨n1, ?_, fun a ha b hb2 => ?_⟩
      · show [q, u].Nodup
        simp only [List.nodup_cons, List.mem_singleton, List.not_mem_nil, not_false_eq_true, and_true, List.nodup_nil]
        have : H.size ≤ u := hq
        omega
      · obtain ⟨x, hx, rfl⟩ := List.mem_map.mp ha
        have hb2 : b ∈ [q, u] := hb2
        rcases List.mem_cons.mp hb2 with h | h
        · rw [h]; exact n3 x.1 ha q List.mem_cons_self
        · rw [List.mem_singleton.mp h]
          have h1 := hlt x hx
          have h2 : H.size ≤ u := hq
          omega
    · rw [List.map_append]
      intro a ha
      rcases List.mem_append.mp ha with h | h
      · exact hm a (List.mem_append_left _ h)
      · have h : a ∈ [q, u] := h
        rcases List.mem_cons.mp h with h | h
        · rw [h]; exact hAq
        · rw [List.mem_singleton.mp h]; exact hA u (Nat.le_trans hz0 hq)
end MKL
theorem cl_max {x : Int32} : (if (1 : Int32) < (if (3 : Int32) < x then 3 else x) then (if (3 : Int32) < x then 3 else x) else 1) = cl_T x := by
  unfold cl_T
  simp only [Int32.lt_iff_toInt_lt, Int32.le_iff_toInt_le, show (1 : Int32).toInt = 1 from rfl, show (3 : Int32).toInt = 3 from rfl]
  by_cases h3 : 3 < x.toInt
  · rw [if_pos h3, if_neg (show ¬ x.toInt < 1 by omega), if_neg (show ¬ x.toInt ≤ 3 by omega)]
    rfl
  · rw [if_neg h3]
    by_cases h1 : x.toInt < 1
    · rw [if_pos h1, if_neg (by omega)]
    · rw [if_neg h1, if_pos (show x.toInt ≤ 3 by omega)]
      by_cases h2 : 1 < x.toInt
      · rw [if_pos h2]
      · rw [if_neg h2]
        apply Int32.toInt_inj.mp
        show (1 : Int) = x.toInt
        omega
theorem av_cg {cA : ClassId} {n : Nat} {f g : Nat → Option Nat} (h : ∀ j, j < n → f j = g j) : vp_cell cA (n, .inr (.inr (.inr (.inr f)))) = vp_cell cA (n, .inr (.inr (.inr (.inr g)))) := by
  rw [vp_cell_q, vp_cell_q]
  have e : (fun j : Fin n => va_rf (f j.val)) = (fun j : Fin n => va_rf (g j.val)) := funext fun j => by rw [h j.val j.isLt]
  unfold arrV
  rw [e]
abbrev rm_X : Room := { frames := 2, cells := 12, slots := 4080, locals := 32 }
abbrev wi_X (cQ : ClassId) (top xo la : Nat) (u k n : Value) (g : Nat → Option Nat) : va_W := [(xo, .inr (1, [.int (nI top), .ref la, u, .int 0, .int 0, k, .int 0, n])), (la, .inl (cQ, top + 1, .inr (.inr (.inr (.inr g)))))]
set_option maxHeartbeats 8000000 in
set_option maxRecDepth 100000 in
theorem cx_init (l : Launch) (dC : Nat → ClassId) (dI : Nat → Nat → Nat) (cI cQ : ClassId) (xo sz top : Nat) (x1 : Int32) (htp : cl_T x1 = nI top) (h3 : top ≤ 3) : Met l yX2_init wsX2_init rm_X (va_Pc [.ref xo, .int x1] (fun U => U.heap.size = sz ∧ k0_G dC dI cI cQ [(xo, .inr (1, [.int 0, .null, .null, .int 0, .int 0, .null, .int 0, .null]))] U U.heap)) (va_Qv (fun u : Nat × Nat × Nat × Nat × (Nat → Nat) × (Nat → Nat) => (ad_X top xo u.1 u.2.1 u.2.2.1 u.2.2.2.1 u.2.2.2.2.1 u.2.2.2.2.2).Nodup ∧ ∀ a ∈ ad_X top xo u.1 u.2.1 u.2.2.1 u.2.2.2.1 u.2.2.2.2.1 u.2.2.2.2.2, fr_A xo sz a) (fun u t => va_P (dC, dI) vwCl (wx_X cI cQ top xo u.1 u.2.1 u.2.2.1 u.2.2.2.1 u.2.2.2.2.1 u.2.2.2.2.2 (fun _ => z0_L) 0 0 z0_L 0 (fun _ => 0)) t.heap) (fr_A xo sz)) 12 4080 (fr_A xo sz) := by
  refine Met.ofW (cc := cX2_init) (maxL := 3) (ret := none) (by decide) rfl ?_
  intro p e s m args below meth c s₁ B hml hv
  obtain ⟨rfl, hsz, hK, hAO, hNw, hP⟩ := hv
  have hx := B.exec
  have hb := B.bytes
  have hr := B.returns
  have hts := atoms_spec (ws := wsX2_init) B.pre
  have hown : s.vm.findClass RX2 = some m.cls := findClass_of_methodNamed B.named
  have hlocks := B.notSynchronized
  have hin : meth.name = "<init>" := (name_of_methodNamed B.named B.method).1
  have hiX2 : ∀ w ∈ u_ws RX2 TX2 8, w ∈ wsX2_init := fun w hw => tw_in (usX2 w hw)
  subst hsz
  have hlt : xo < s.heap.size := (hP 0 _ rfl).lt
  have hD : va_D (fr_A xo s.heap.size) [(xo, .inr (1, [.int 0, .null, .null, .int 0, .int 0, .null, .int 0, .null]))] := dn_D (by simp) (fun a ha => Or.inl (by simpa using ha))
  have hA : ∀ q : Nat, s.heap.size ≤ q → fr_A xo s.heap.size q := fun q h => Or.inr h
  have hS : va_S (fr_A xo s.heap.size) s.heap s.heap [] := va_S.rf
  have hl := lv_entry ([.ref xo, .int x1]) (n := 3) (Nat.le_of_ble_eq_true rfl)
  rw [lg_entry_eq]
  generalize (lg_sl ([.ref xo, .int x1]) ++ List.replicate (3 - (lg_sl ([.ref xo, .int x1])).length) Slot.unset).toArray = ls at hl ⊢
  have hl : lv_has ls 3 [(0, .ref xo), (1, .int x1)] := hl
  refine nm_Q (fun Q hQ => ?_)
  refine lv_aload_n hx hb dX2_init_0 rfl (lv_at hl 0 rfl) ?_
  refine W.objInit hx hb hown (hts _ (tw_in lk_341)) (hts _ (tw_in lk_342)) (hts _ (tw_in lk_343)) rfl (by rw [hml]; exact hl.1) rfl dX2_init_1 (Nat.le_of_ble_eq_true rfl) (Nat.le_of_ble_eq_true rfl) ?_
  refine W.eq (g2 := F0 m 4 ls []) rfl ?_
  refine lv_aload_n hx hb dX2_init_4 rfl (lv_at hl 0 rfl) ?_
  refine lv_iconst (v := 1) hx hb dX2_init_5 (by decide) ?_
  refine lv_iload_n hx hb dX2_init_6 rfl (lv_at hl 1 rfl) ?_
  refine lv_iconst (v := 3) hx hb dX2_init_7 (by decide) ?_
  refine va_mmin hx hb (by rw [hml]; exact hl.1.symm) hown (hts _ (tw_in lk_344)) (hts _ (tw_in lk_345)) (hts _ (tw_in lk_335)) (hts _ (tw_in lk_346)) (Nat.le_of_ble_eq_true rfl) (Nat.le_of_ble_eq_true rfl) (Nat.le_of_ble_eq_true rfl) (Nat.le_of_ble_eq_true rfl) dX2_init_8 ?_
  refine va_mmax hx hb (by rw [hml]; exact hl.1.symm) hown (hts _ (tw_in lk_347)) (hts _ (tw_in lk_348)) (hts _ (tw_in lk_335)) (hts _ (tw_in lk_349)) (Nat.le_of_ble_eq_true rfl) (Nat.le_of_ble_eq_true rfl) (Nat.le_of_ble_eq_true rfl) (Nat.le_of_ble_eq_true rfl) dX2_init_11 ?_
  rw [cl_max, htp]
  refine va_putF (D := (dC, dI)) (ci := 1) (v := .int (nI top)) (ty := .int) (C := RX2) (T := TX2) (N := 8) hx hb hts hiX2 tyX2 tyX2_ok nmX2 hown hK hP hD hS 0 rfl rfl 0 (by decide) (hts _ (tw_in lk_4)) (fun _ h9 => h9) rfl hin rfl (by decide +kernel) rfl rfl (Nat.le_of_ble_eq_true rfl) dX2_init_14 (fun H locs hP hD hS => ?_)
  refine lv_aload_n hx hb dX2_init_17 rfl (lv_at hl 0 rfl) ?_
  refine lv_aload_n hx hb dX2_init_18 rfl (lv_at hl 0 rfl) ?_
  refine va_get (D := (dC, dI)) (ci := 1) (v := .int (nI top)) (C := RX2) (T := TX2) (N := 8) hx hb hts hiX2 hown hK hP 0 rfl rfl 0 (by decide) (hts _ (tw_in lk_4)) (fun _ h9 => h9) rfl dX2_init_19 ?_
  refine lv_iconst (v := 1) hx hb dX2_init_22 (by decide) ?_
  refine lv_iadd hx hb dX2_init_23 ?_
  rw [← nI_succ]
  have hR1 : (headSpec wsX2_init rm_X).room = rm_X := rfl
  refine va_newq (N' := top + 1) hx hb hown (hts _ (tw_in lk_350)) hAO hK hP hD hS hA (nI_pos (by omega)) (nI_clamp (by omega)) (by omega) (Nat.le_of_ble_eq_true rfl) (by show 0 + (top + 1) ≤ 4080; omega) dX2_init_24 (fun la cA H hK2 hP hD hS => ?_)
  obtain rfl := cQ_one hK2 (i := 1) (j := 2) rfl rfl
  refine va_putF (D := (dC, dI)) (ci := 1) (v := .ref la) (ty := .array (.object "LayeredTree$Layer")) (C := RX2) (T := TX2) (N := 8) hx hb hts hiX2 tyX2 tyX2_ok nmX2 hown hK hP hD hS 0 rfl rfl 1 (by decide) (hts _ (tw_in lk_17)) (fun _ h9 => h9) rfl hin rfl (by decide +kernel) rfl rfl (Nat.le_of_ble_eq_true rfl) dX2_init_27 (fun H locs hP hD hS => ?_)
  refine lv_iconst (v := 0) hx hb dX2_init_30 (by decide) ?_
  refine lv_istore_n (i := 2) hx hb dX2_init_31 rfl hl (by decide) rfl (fun ls hl => ?_)
  have hloop : ∀ (k i : Nat), i + k = top + 1 → ∀ (lo lc : Nat → Nat) (g : Nat → Option Nat) (ls : Array Slot) (H : Heap) (locs : List Loc), (∀ j, j < i → g j = some (lo j)) → lv_has ls 3 [(2, .int (nI i)), (0, .ref xo), (1, .int x1)] → va_P (dC, dI) vwCl (wi_X cA top xo la .null .null .null g ++ wx_T cI lo lc (fun _ => z0_L) i) H → va_D (fr_A xo s.heap.size) (wi_X cA top xo la .null .null .null g ++ wx_T cI lo lc (fun _ => z0_L) i) → va_S (fr_A xo s.heap.size) s.heap H locs → W p l e (headSpec wsX2_init rm_X).room s m #[Value.ref xo, Value.int x1] below meth c H locs (1 + 2 * i) (top + 1 + 784 * i) Q (F0 m 32 ls []) := by
    intro k
    induction k with
    | zero =>
      intro i hik lo lc g ls H locs hg hl hP hD hS
      have hi : i = top + 1 := by omega
      subst hi
      refine lv_iload_n hx hb dX2_init_32 rfl (lv_at hl 0 rfl) ?_
      refine lv_aload_n hx hb dX2_init_33 rfl (lv_at hl 1 rfl) ?_
      refine va_get (D := (dC, dI)) (ci := 1) (v := .int (nI top)) (C := RX2) (T := TX2) (N := 8) hx hb hts hiX2 hown hK hP 0 rfl rfl 0 (by decide) (hts _ (tw_in lk_4)) (fun _ h9 => h9) rfl dX2_init_34 ?_
      refine lv_icmp_gt (tgt := 59) hx hb dX2_init_37 (by decide) (fun hc => ?_) (fun hc => absurd (nI_lt (Nat.lt_succ_self top) (by omega)) hc)
      refine lv_aload_n hx hb dX2_init_59 rfl (lv_at hl 1 rfl) ?_
      refine lv_aload_n hx hb dX2_init_60 rfl (lv_at hl 1 rfl) ?_
      refine va_get (D := (dC, dI)) (ci := 1) (v := .ref la) (C := RX2) (T := TX2) (N := 8) hx hb hts hiX2 hown hK hP 0 rfl rfl 1 (by decide) (hts _ (tw_in lk_17)) (fun _ h9 => h9) rfl dX2_init_61 ?_
      refine lv_aload_n hx hb dX2_init_64 rfl (lv_at hl 1 rfl) ?_
      refine va_get (D := (dC, dI)) (ci := 1) (v := .int (nI top)) (C := RX2) (T := TX2) (N := 8) hx hb hts hiX2 hown hK hP 0 rfl rfl 0 (by decide) (hts _ (tw_in lk_4)) (fun _ h9 => h9) rfl dX2_init_65 ?_
      refine va_aldq hx hb hK hP 1 1 rfl rfl (nI_in (Nat.lt_succ_self top) (by omega)) dX2_init_68 ?_
      rw [nI_clamp (by omega), hg top (Nat.lt_succ_self top)]
      refine va_putF (D := (dC, dI)) (ci := 1) (v := .ref (lo top)) (ty := .object "LayeredTree$Layer") (C := RX2) (T := TX2) (N := 8) hx hb hts hiX2 tyX2 tyX2_ok nmX2 hown hK hP hD hS 0 rfl rfl 2 (by decide) (hts _ (tw_in lk_22)) (fun _ h9 => h9) rfl hin rfl (by decide +kernel) rfl rfl (Nat.le_of_ble_eq_true rfl) dX2_init_69 (fun H locs hP hD hS => ?_)
      have hP : va_P (dC, dI) vwCl (wi_X cA top xo la (.ref (lo top)) .null .null g ++ wx_T cI lo lc (fun _ => z0_L) (top + 1)) H := hP
      have hD : va_D (fr_A xo s.heap.size) (wi_X cA top xo la (.ref (lo top)) .null .null g ++ wx_T cI lo lc (fun _ => z0_L) (top + 1)) := hD
      refine lv_aload_n hx hb dX2_init_72 rfl (lv_at hl 1 rfl) ?_
      refine mk_L hx hb hml hown hts hK hAO hNw hP hD hS hA hl.1 (Nat.le_of_ble_eq_true rfl) (Nat.le_of_ble_eq_true rfl) (by show 1 + 2 * (top + 1) + 2 ≤ 12; omega) (by show top + 1 + 784 * (top + 1) + 784 ≤ 4080; omega) (Nat.le_of_ble_eq_true rfl) dX2_init_73 dX2_init_76 dX2_init_77 (fun ko kc H locs hP hD hS => ?_)
      refine va_putF (D := (dC, dI)) (ci := 1) (v := .ref ko) (ty := .object "LayeredTree$Layer") (C := RX2) (T := TX2) (N := 8) hx hb hts hiX2 tyX2 tyX2_ok nmX2 hown hK hP hD hS 0 rfl rfl 5 (by decide) (hts _ (tw_in lk_119)) (fun _ h9 => h9) rfl hin rfl (by decide +kernel) rfl rfl (Nat.le_of_ble_eq_true rfl) dX2_init_80 (fun H locs hP hD hS => ?_)
      have hP : va_P (dC, dI) vwCl (wi_X cA top xo la (.ref (lo top)) (.ref ko) .null g ++ (wx_T cI lo lc (fun _ => z0_L) (top + 1) ++ wl_L cI ko kc (fun _ => 0) 0 0)) H := hP
      have hD : va_D (fr_A xo s.heap.size) (wi_X cA top xo la (.ref (lo top)) (.ref ko) .null g ++ (wx_T cI lo lc (fun _ => z0_L) (top + 1) ++ wl_L cI ko kc (fun _ => 0) 0 0)) := hD
      refine lv_aload_n hx hb dX2_init_83 rfl (lv_at hl 1 rfl) ?_
      refine lv_sipush (v := 156) hx hb dX2_init_84 (by decide) ?_
      refine va_newa (atype := .int) (a0 := (156, .inl (fun _ => 0))) (ty := .int) hx hb (hts _ (tw_in lk_355)) rfl hK hP hD hS hA (fun cA => rfl) (by decide) rfl (by decide) (by show 1 + 2 * (top + 1) + 2 + 1 ≤ 12; omega) (by show top + 1 + 784 * (top + 1) + 784 + 156 ≤ 4080; omega) dX2_init_87 (fun nt cB H hK2 hP hD hS => ?_)
      obtain rfl := cI_one hK2 (i := 0) (j := 2) rfl rfl
      refine va_putF (D := (dC, dI)) (ci := 1) (v := .ref nt) (ty := .array .int) (C := RX2) (T := TX2) (N := 8) hx hb hts hiX2 tyX2 tyX2_ok nmX2 hown hK hP hD hS 0 rfl rfl 7 (by decide) (hts _ (tw_in lk_165)) (fun _ h9 => h9) rfl hin rfl (by decide +kernel) rfl rfl (Nat.le_of_ble_eq_true rfl) dX2_init_89 (fun H locs hP hD hS => ?_)
      have hP : va_P (dC, dI) vwCl (wi_X cA top xo la (.ref (lo top)) (.ref ko) (.ref nt) g ++ ((wx_T cB lo lc (fun _ => z0_L) (top + 1) ++ wl_L cB ko kc (fun _ => 0) 0 0) ++ [(nt, .inl (cB, 156, .inl (fun _ => 0)))])) H := hP
      have hD : va_D (fr_A xo s.heap.size) (wi_X cA top xo la (.ref (lo top)) (.ref ko) (.ref nt) g ++ ((wx_T cB lo lc (fun _ => z0_L) (top + 1) ++ wl_L cB ko kc (fun _ => 0) 0 0) ++ [(nt, .inl (cB, 156, .inl (fun _ => 0)))])) := hD
      obtain ⟨hn, hm⟩ := nd_D hD
      have em : (wi_X cA top xo la (.ref (lo top)) (.ref ko) (.ref nt) g ++ ((wx_T cB lo lc (fun _ => z0_L) (top + 1) ++ wl_L cB ko kc (fun _ => 0) 0 0) ++ [(nt, (.inl (cB, 156, .inl (fun _ => 0)) : va_E))])).map Prod.fst = [xo, la] ++ ((ad_T lo lc (top + 1) ++ [ko, kc]) ++ [nt]) := by
        rw [List.map_append, List.map_append, List.map_append, mx_T]
        rfl
      rw [em] at hn hm
      have hpm : (ad_X top xo la ko kc nt lo lc).Perm ([xo, la] ++ ((ad_T lo lc (top + 1) ++ [ko, kc]) ++ [nt])) := by
        show ([xo, la] ++ ([ko, kc, nt] ++ ad_T lo lc (top + 1))).Perm _
        rw [List.append_assoc]
        exact List.Perm.append_left _ List.perm_append_comm
      have hPX : va_P (dC, dI) vwCl (wx_X cB cA top xo la ko kc nt lo lc (fun _ => z0_L) 0 0 z0_L 0 (fun _ => 0)) H := by
        intro k q hk
        have hq := List.mem_of_getElem? hk
        have hof : ∀ x ∈ wi_X cA top xo la (.ref (lo top)) (.ref ko) (.ref nt) g ++ ((wx_T cB lo lc (fun _ => z0_L) (top + 1) ++ wl_L cB ko kc (fun _ => 0) 0 0) ++ [(nt, (.inl (cB, 156, .inl (fun _ => 0)) : va_E))]), va_at (dC, dI) vwCl x H := fun x hx => by
          obtain ⟨j, hj⟩ := List.getElem?_of_mem hx
          exact hP j x hj
        rcases List.mem_append.mp hq with hq | hq
        · simp only [List.mem_cons, List.not_mem_nil, or_false] at hq
          rcases hq with h | h | h | h | h
          · rw [h]; exact hof _ List.mem_cons_self
          · rw [h]
            have h0 := hof (la, .inl (cA, top + 1, .inr (.inr (.inr (.inr g))))) (List.mem_cons_of_mem _ List.mem_cons_self)
            show H[la]? = some (vp_cell cA (top + 1, .inr (.inr (.inr (.inr (fun j => some (lo j)))))))
            rw [← av_cg hg]
            exact h0
          · rw [h]; exact hof _ (List.mem_append_right _ (List.mem_append_left _ (List.mem_append_right _ List.mem_cons_self)))
          · rw [h]; exact hof _ (List.mem_append_right _ (List.mem_append_left _ (List.mem_append_right _ (List.mem_cons_of_mem _ List.mem_cons_self))))
          · rw [h]; exact hof _ (List.mem_append_right _ (List.mem_append_right _ List.mem_cons_self))
        · exact hof _ (List.mem_append_right _ (List.mem_append_left _ (List.mem_append_left _ hq)))
      refine W.widen (k := 12) (n := 4080) (by show 1 + 2 * (top + 1) + 2 + 1 ≤ 12; omega) (by show top + 1 + 784 * (top + 1) + 784 + 156 ≤ 4080; omega) ?_
      rw [hQ]
      exact W.vret hx hb hr (fun t ht hW => ⟨⟨(la, ko, kc, nt, lo, lc), rfl, ⟨hpm.nodup_iff.mpr hn, fun a ha => hm a (hpm.mem_iff.mp ha)⟩, by show va_P _ _ _ t.heap; rw [ht]; exact hPX⟩, hS.F ht⟩) hS.2.2 dX2_init_92
    | succ k ih =>
      intro i hik lo lc g ls H locs hg hl hP hD hS
      refine lv_iload_n hx hb dX2_init_32 rfl (lv_at hl 0 rfl) ?_
      refine lv_aload_n hx hb dX2_init_33 rfl (lv_at hl 1 rfl) ?_
      refine va_get (D := (dC, dI)) (ci := 1) (v := .int (nI top)) (C := RX2) (T := TX2) (N := 8) hx hb hts hiX2 hown hK hP 0 rfl rfl 0 (by decide) (hts _ (tw_in lk_4)) (fun _ h9 => h9) rfl dX2_init_34 ?_
      refine lv_icmp_gt (tgt := 59) hx hb dX2_init_37 (by decide) (fun hc => absurd hc (nI_nlt (by omega) (by omega))) (fun hc => ?_)
      refine lv_aload_n hx hb dX2_init_40 rfl (lv_at hl 1 rfl) ?_
      refine va_get (D := (dC, dI)) (ci := 1) (v := .ref la) (C := RX2) (T := TX2) (N := 8) hx hb hts hiX2 hown hK hP 0 rfl rfl 1 (by decide) (hts _ (tw_in lk_17)) (fun _ h9 => h9) rfl dX2_init_41 ?_
      refine lv_iload_n hx hb dX2_init_44 rfl (lv_at hl 0 rfl) ?_
      refine mk_L hx hb hml hown hts hK hAO hNw hP hD hS hA hl.1 (Nat.le_of_ble_eq_true rfl) (Nat.le_of_ble_eq_true rfl) (by show 1 + 2 * i + 2 ≤ 12; omega) (by show top + 1 + 784 * i + 784 ≤ 4080; omega) (Nat.le_of_ble_eq_true rfl) dX2_init_45 dX2_init_48 dX2_init_49 (fun q q1 H locs hP hD hS => ?_)
      have hm : (q, (.inr (0, [.ref q1, .int 0, .int 0]) : va_E)) ∈ (wi_X cA top xo la .null .null .null g ++ wx_T cI lo lc (fun _ => z0_L) i) ++ wl_L cI q q1 (fun _ => 0) 0 0 := List.mem_append_right _ List.mem_cons_self
      obtain ⟨kq, hkq⟩ := List.getElem?_of_mem hm
      refine va_astq hx hb hK hP hD hS 1 1 kq 0 rfl rfl hkq rfl (nI_in (show i < top + 1 by omega) (by omega)) dX2_init_52 (fun H locs hP hD hS => ?_)
      rw [nI_clamp (by omega)] at hP hD
      refine lv_iinc (k := 0) (v := nI (i + 1)) hx hb dX2_init_53 hl rfl (nI_succ i).symm (by decide) rfl (fun ls hl => ?_)
      refine lv_goto (tgt := 32) hx hb dX2_init_56 (by decide) ?_
      have ew : (wi_X cA top xo la .null .null .null g ++ wx_T cI lo lc (fun _ => z0_L) i ++ wl_L cI q q1 (fun _ => 0) 0 0).set 1 (la, .inl (cA, top + 1, .inr (.inr (.inr (.inr (va_up g i (some q))))))) = wi_X cA top xo la .null .null .null (va_up g i (some q)) ++ wx_T cI (va_up lo i q) (va_up lc i q1) (fun _ => z0_L) (i + 1) := by
        show wi_X cA top xo la .null .null .null (va_up g i (some q)) ++ (wx_T cI lo lc (fun _ => z0_L) i ++ wl_L cI q q1 (fun _ => 0) 0 0) = wi_X cA top xo la .null .null .null (va_up g i (some q)) ++ (wx_T cI (va_up lo i q) (va_up lc i q1) (fun _ => z0_L) i ++ wl_L cI (va_up lo i q i) (va_up lc i q1 i) (fun _ => 0) 0 0)
        rw [va_up_self, va_up_self, wt_cg i (fun j hj => ⟨(va_up_ne lo q (Nat.ne_of_lt hj)).symm, (va_up_ne lc q1 (Nat.ne_of_lt hj)).symm⟩)]
      rw [ew] at hP hD
      have := ih (i + 1) (by omega) (va_up lo i q) (va_up lc i q1) (va_up g i (some q)) ls H locs (fun j hj => ?_) hl hP hD hS
      · rw [show 1 + 2 * i + 2 = 1 + 2 * (i + 1) by omega, show top + 1 + 784 * i + 784 = top + 1 + 784 * (i + 1) by omega]
        exact this
      · by_cases hji : j = i
        · rw [hji, va_up_self, va_up_self]
        · rw [va_up_ne g _ hji, va_up_ne lo _ hji]
          exact hg j (by omega)
  have := hloop (top + 1) 0 (by omega) (fun _ => 0) (fun _ => 0) (fun _ => none) ls H locs (fun j hj => absurd hj (Nat.not_lt_zero j)) hl hP hD hS
  exact (by rw [Nat.zero_add, Nat.zero_add]; exact this)
