/-! my own rows: a mirrored function in Option, pure and changing contracts, worlds by lists of addresses -/
abbrev ls_T : Type := (Nat → Int32) × Int32 × Int32
def fu_n : Nat := 6000
def ck_d {α : Type} (b : Prop) [Decidable b] (x : Option α) : Option α := if b then none else x
theorem ck_s {α : Type} {b : Prop} [Decidable b] {x : Option α} {y : α} (h : ck_d b x = some y) : ¬ b ∧ x = some y := by
  unfold ck_d at h
  by_cases hb : b
  · rw [if_pos hb] at h; cases h
  · rw [if_neg hb] at h; exact ⟨hb, h⟩
theorem ck_n {α : Type} {b : Prop} [Decidable b] {x : Option α} (h : ¬ b) : ck_d b x = x := by
  unfold ck_d; rw [if_neg h]
theorem ob_s {α β : Type} {o : Option α} {g : α → Option β} {x : β} (h : o.bind g = some x) : ∃ r, o = some r ∧ g r = some x := by
  cases o with
  | none => cases h
  | some r => exact ⟨r, rfl, h⟩
def ft_1 : Nat → Int32 := fun j => match j with
  | 0 => 0
  | 1 => 1
  | 2 => 6
  | 3 => 31
  | _ => 156
def ft_2 : Nat → Int32 := fun j => match j with
  | 0 => 1
  | 1 => 5
  | 2 => 25
  | 3 => 125
  | _ => 625
/-- addresses that are apart and not below bs -/
def gd_A (bs : Nat) (as : List Nat) : Prop := as.Nodup ∧ ∀ a ∈ as, bs ≤ a
def in_A (as : List Nat) : Nat → Prop := fun q => q ∈ as
theorem bb_A {bs : Nat} {as : List Nat} (h : gd_A bs as) : ∀ q, in_A as q → bs ≤ q := fun q hq => h.2 q hq
theorem gd_sub {bs : Nat} {as as' : List Nat} (h : gd_A bs as) (hs : as'.Sublist as) : gd_A bs as' := ⟨h.1.sublist hs, fun a ha => h.2 a (hs.subset ha)⟩
theorem nd_inj : ∀ (l : List Nat), l.Nodup → ∀ (i j a : Nat), l[i]? = some a → l[j]? = some a → i = j
  | [], _, i, j, a, h, _ => by simp at h
  | b :: l, hn, i, j, a, h1, h2 => by
    obtain ⟨hb, hn⟩ := List.nodup_cons.mp hn
    cases i with
    | zero =>
      cases j with
      | zero => rfl
      | succ j =>
        rw [List.getElem?_cons_zero] at h1
        rw [List.getElem?_cons_succ] at h2
        cases h1
        exact absurd (List.mem_of_getElem? h2) hb
    | succ i =>
      rw [List.getElem?_cons_succ] at h1
      cases j with
      | zero =>
        rw [List.getElem?_cons_zero] at h2
        cases h2
        exact absurd (List.mem_of_getElem? h1) hb
      | succ j =>
        rw [List.getElem?_cons_succ] at h2
        rw [nd_inj l hn i j a h1 h2]
theorem dd_A {bs : Nat} {as : List Nat} {ws : va_W} (h : gd_A bs as) (he : ws.map Prod.fst = as) : va_D (in_A as) ws := by
  subst he
  refine ⟨fun i j p q hi hj hpq => ?_, fun k q hk => List.mem_map.mpr ⟨q, List.mem_of_getElem? hk, rfl⟩⟩
  refine nd_inj _ h.1 i j p.1 ?_ ?_
  · rw [List.getElem?_map, hi]; rfl
  · rw [List.getElem?_map, hj, hpq]; rfl
theorem pz_0 {D : va_G} {cl : List vw_C} {H : Heap} : va_P D cl [] H := fun k q hk => by simp at hk
theorem pm_P {D : va_G} {cl : List vw_C} {ws ws' : va_W} {H : Heap} (h : va_P D cl ws H) (hs : ∀ q ∈ ws', q ∈ ws) : va_P D cl ws' H := fun k q hk => by
  obtain ⟨i, hi⟩ := List.getElem?_of_mem (hs q (List.mem_of_getElem? hk))
  exact h i q hi
/-- behind a call that changed the cells w1 at the addresses as1 alone -/
theorem jn_P {D : va_G} {cl : List vw_C} {ws w1 ws' : va_W} {as1 : List Nat} {H H1 : Heap} (hP : va_P D cl ws H) (hP1 : va_P D cl w1 H1) (hk : ∀ q : Nat, q < H.size → ¬ in_A as1 q → H1[q]? = H[q]?) (hw : ∀ q ∈ ws', q ∈ w1 ∨ (q ∈ ws ∧ q.1 ∉ as1)) : va_P D cl ws' H1 := fun k q hq => by
  rcases hw q (List.mem_of_getElem? hq) with h | ⟨h, ha⟩
  · obtain ⟨i, hi⟩ := List.getElem?_of_mem h
    exact hP1 i q hi
  · obtain ⟨i, hi⟩ := List.getElem?_of_mem h
    exact (hP i q hi).kept (hk q.1 (hP i q hi).lt ha)
theorem nb_0 : narrow .boolean (.int 0) = .int 0 := rfl
theorem nb_1 : narrow .boolean (.int 1) = .int 1 := rfl
theorem nb_o {v : Int32} (h : ¬ ¬ (v = 0 ∨ v = 1)) : narrow .boolean (.int v) = .int v := by
  rcases Classical.not_not.mp h with h | h <;> rw [h] <;> rfl
section NMQ
variable {p : Program} {l : Launch} {e : Env} {R : Room} {s : State} {m : MethodId} {args : Array Value} {below : List Frame} {meth : Method} {c : Code} {H : Heap} {locs : List Loc} {cells slots : Nat} {Q : State → Prop}
theorem nm_Q {g : JFrame} (k : ∀ Q' : State → Prop, Q' = Q → W p l e R s m args below meth c H locs cells slots Q' g) : W p l e R s m args below meth c H locs cells slots Q g := k Q rfl
variable {cc : ByteArray} {pc : Nat} {ls : Array Slot} {rest st0 : List Value} {a : Array Value} {A0 A1 : Nat → Prop} {H0 : Heap}
/-- a pure call is one instruction -/
theorem pu_calli {v : Int32} (hr : va_Run p l e R s m args below meth c H locs cells slots 0 0 (F0 m pc ls st0) rest (va_Qi (fun r (_ : Unit) => r = v) (fun _ t => t.heap.size = H.size) (fun _ => False) a) (fun _ => False))
    (kk : W p l e R s m args below meth c H locs cells slots Q (F0 m (pc + 3) ls (.int v :: rest))) : W p l e R s m args below meth c H locs cells slots Q (F0 m pc ls st0) := by
  intro T hT X
  obtain ⟨v', st₀, t, T', L, h0, X', hL, e1, e2, ⟨⟨r, u, hv, hp, hz⟩, hz0, hk⟩, st⟩ := hr T hT X
  cases hv
  subst hp
  have hL0 : L = [] := by
    cases L with
    | nil => rfl
    | cons q L => exact (hL q List.mem_cons_self).elim
  subst hL0
  rw [List.append_nil] at X'
  have hH : T'.heap = H := by
    rw [e1]
    apply Array.ext_getElem?
    intro i
    by_cases hi : i < H.size
    · rw [hk i (by rw [h0]; exact hi) (fun z => z), h0]
    · rw [Array.getElem?_eq_none (by omega), Array.getElem?_eq_none (by omega)]
  obtain ⟨t2, a1, b1⟩ := kk T' hH X'
  exact ⟨t2, st t2 a1, b1⟩
theorem im_calli {v : Int32} {Gw : Heap → Prop} (hr : va_Run p l e R s m args below meth c H locs cells slots 0 0 (F0 m pc ls st0) rest (va_Qi (fun r (_ : Unit) => r = v) (fun _ t => Gw t.heap) A1 a) A1) (hS : va_S A0 H0 H locs) (hA : ∀ q, A1 q → A0 q)
    (kk : ∀ (H1 : Heap) (locs1 : List Loc), Gw H1 → (∀ q : Nat, q < H.size → ¬ A1 q → H1[q]? = H[q]?) → va_S A0 H0 H1 locs1 → W p l e R s m args below meth c H1 locs1 cells slots Q (F0 m (pc + 3) ls (.int v :: rest))) : W p l e R s m args below meth c H locs cells slots Q (F0 m pc ls st0) := by
  refine va_calli hr hS (fun q _ h => hA q h) hA (fun r u t H1 locs1 ht _ hp hB _ hk hS1 => ?_)
  subst hp
  subst ht
  exact kk _ locs1 hB hk hS1
theorem im_callv {Gw : Heap → Prop} (hr : va_Run p l e R s m args below meth c H locs cells slots 0 0 (F0 m pc ls st0) rest (va_Qv (fun (_ : Unit) => True) (fun _ t => Gw t.heap) A1 a) A1) (hS : va_S A0 H0 H locs) (hA : ∀ q, A1 q → A0 q)
    (kk : ∀ (H1 : Heap) (locs1 : List Loc), Gw H1 → (∀ q : Nat, q < H.size → ¬ A1 q → H1[q]? = H[q]?) → va_S A0 H0 H1 locs1 → W p l e R s m args below meth c H1 locs1 cells slots Q (F0 m (pc + 3) ls rest)) : W p l e R s m args below meth c H locs cells slots Q (F0 m pc ls st0) := by
  refine va_callv hr hS (fun q _ h => hA q h) hA (fun u t H1 locs1 ht _ hp hB _ hk hS1 => ?_)
  subst ht
  exact kk _ locs1 hB hk hS1
theorem pu_iret {v : Int32} {ty : FieldType} {sz : Nat} (hexec : p.tables.exec = Jvm.exec) (hb : c.code = cc) (hr : meth.sig.returnType = some ty) (hn : narrow ty (.int v) = .int v) (hsz : s.heap.size = sz) (hdg : decode cc pc = .ok (.ireturn, 1)) (hlocks : meth.locks = false) :
    W p l e R s m args below meth c s.heap [] 0 0 (MQ below (va_Qi (fun r (_ : Unit) => r = v) (fun _ t => t.heap.size = sz) (fun _ => False)) args s 0 0 (fun _ => False)) (F0 m pc ls [.int v]) :=
  W.zret hexec hb hr hn (fun t ht _ => ⟨⟨v, (), rfl, rfl, by show t.heap.size = sz; rw [ht]; exact hsz⟩, (va_S.rf (A := fun _ => False)).F ht⟩) (fun q h => by cases h) hdg hlocks
theorem im_iret {v : Int32} {ty : FieldType} {Gw : Heap → Prop} {A : Nat → Prop} (hexec : p.tables.exec = Jvm.exec) (hb : c.code = cc) (hr : meth.sig.returnType = some ty) (hn : narrow ty (.int v) = .int v) (hS : va_S A s.heap H locs) (hG : Gw H) (hdg : decode cc pc = .ok (.ireturn, 1)) (hlocks : meth.locks = false) :
    W p l e R s m args below meth c H locs 0 0 (MQ below (va_Qi (fun r (_ : Unit) => r = v) (fun _ t => Gw t.heap) A) args s 0 0 A) (F0 m pc ls [.int v]) :=
  W.zret hexec hb hr hn (fun t ht _ => ⟨⟨v, (), rfl, rfl, by show Gw t.heap; rw [ht]; exact hG⟩, hS.F ht⟩) hS.2.2 hdg hlocks
theorem im_vret {Gw : Heap → Prop} {A : Nat → Prop} (hexec : p.tables.exec = Jvm.exec) (hb : c.code = cc) (hr : meth.sig.returnType = none) (hS : va_S A s.heap H locs) (hG : Gw H) (hdg : decode cc pc = .ok (.return_, 1)) (hlocks : meth.locks = false) :
    W p l e R s m args below meth c H locs 0 0 (MQ below (va_Qv (fun (_ : Unit) => True) (fun _ t => Gw t.heap) A) args s 0 0 A) (F0 m pc ls []) :=
  W.vret hexec hb hr (fun t ht _ => ⟨⟨(), rfl, trivial, by show Gw t.heap; rw [ht]; exact hG⟩, hS.F ht⟩) hS.2.2 hdg hlocks
end NMQ
/-- a method that changes nothing, and its answer -/
abbrev pu_M (l : Launch) (y : MethodName) (ws : List Cond) (rm : Room) (as : List Value) (Gf : State → Heap → Prop) (v : Int32) : Prop := ∀ sz : Nat, Met l y ws rm (va_Pc as (fun U => U.heap.size = sz ∧ Gf U U.heap)) (va_Qi (fun r (_ : Unit) => r = v) (fun _ t => t.heap.size = sz) (fun _ => False)) 0 0 (fun _ => False)
/-- a method that changes its own cells, those in A -/
abbrev im_I (l : Launch) (y : MethodName) (ws : List Cond) (rm : Room) (as : List Value) (Gf : State → Heap → Prop) (v : Int32) (Gw : Heap → Prop) (A : Nat → Prop) : Prop := ∀ sz : Nat, Met l y ws rm (va_Pc as (fun U => U.heap.size = sz ∧ Gf U U.heap)) (va_Qi (fun r (_ : Unit) => r = v) (fun _ t => Gw t.heap) A) 0 0 A
abbrev im_V (l : Launch) (y : MethodName) (ws : List Cond) (rm : Room) (as : List Value) (Gf : State → Heap → Prop) (Gw : Heap → Prop) (A : Nat → Prop) : Prop := ∀ sz : Nat, Met l y ws rm (va_Pc as (fun U => U.heap.size = sz ∧ Gf U U.heap)) (va_Qv (fun (_ : Unit) => True) (fun _ t => Gw t.heap) A) 0 0 A
