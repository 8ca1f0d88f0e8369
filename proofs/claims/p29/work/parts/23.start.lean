theorem lkN_L_6 : Cond.classLink RL 21 RX6 ∈ tbG ∧ Cond.instantiable RX6 12 ∈ tbG ∧ Cond.initialized RX6 ∈ tbG := ⟨tg_i 35 (by decide +kernel) (by decide +kernel), tg_i 36 (by decide +kernel) (by decide +kernel), tg_i 19 (by decide +kernel) (by decide +kernel)⟩
theorem lkI_L_6 : Cond.methodLink RL 81 yX6_init ∈ tbG := tg_i 37 (by decide +kernel) (by decide +kernel)
/-- what the tables say of the arrays -/
theorem arr_prim {args : Array Value} {s : State} {ty : FieldType} (h : (Cond.arrayClass ty).before args s = true) (hno : ∀ C, ty ≠ .object C) : ∃ c : ClassId, (ArrOfT s c ty ∧ va_RA s c ty) ∧ ∃ k : Class, s.vm.classes[c]? = some k := by
  obtain ⟨c, k, comp, h1, h2, h3⟩ := Cond.arrayClass_spec h
  refine ⟨c, ⟨fun N z => ⟨(fun q hq => by cases hq), k, h2, comp, h3⟩, ?_⟩, k, h2⟩
  cases ty <;> first | exact h1 | exact absurd rfl (hno _)
theorem start_known {args : Array Value} {s : State} (hts : ∀ w ∈ lw_tbl, w.before args s = true) (hgv : (Jvm.Cond.and given_1 narrow_1).before args s = true) : ∃ (D : va_G) (cA : Nat → ClassId), zKK D cA s.heap.size s := by
  have hin : ∀ {C : String} {T : u_T} {N : Nat}, (∀ w ∈ u_ws C T N, w ∈ tbG) → ∀ w ∈ u_ws C T N, w ∈ lw_tbl := fun h w hw => tg_tbl (h w hw)
  obtain ⟨c0, i0, k0⟩ := u_known (C := RX0) (T := TX0) (N := 4) (n := 4) hts (hin clX0.1) (hts _ (List.mem_of_getElem? (i := 48) (by decide +kernel)))
  obtain ⟨c1, i1, k1⟩ := u_known (C := RX1) (T := TX1) (N := 11) (n := 11) hts (hin clX1.1) (hts _ (List.mem_of_getElem? (i := 107) (by decide +kernel)))
  obtain ⟨c2, i2, k2⟩ := u_known (C := RX2) (T := TX2) (N := 9) (n := 9) hts (hin clX2.1) (hts _ (List.mem_of_getElem? (i := 162) (by decide +kernel)))
  obtain ⟨c3, i3, k3⟩ := u_known (C := RX3) (T := TX3) (N := 1) (n := 1) hts (hin clX3.1) (hts _ (List.mem_of_getElem? (i := 150) (by decide +kernel)))
  obtain ⟨c4, i4, k4⟩ := u_known (C := RX4) (T := TX4) (N := 2) (n := 2) hts (hin clX4.1) (hts _ (List.mem_of_getElem? (i := 93) (by decide +kernel)))
  obtain ⟨c5, i5, k5⟩ := u_known (C := RX5) (T := TX5) (N := 2) (n := 2) hts (hin clX5.1) (hts _ (List.mem_of_getElem? (i := 80) (by decide +kernel)))
  obtain ⟨c6, i6, k6⟩ := u_known (C := RX6) (T := TX6) (N := 12) (n := 12) hts (hin clX6.1) (hts _ (List.mem_of_getElem? (i := 36) (by decide +kernel)))
  obtain ⟨a0, hA0, q0, hq0⟩ := arr_prim (ty := .int) (hts _ (List.mem_of_getElem? (i := 78) (by decide +kernel))) (fun C h => by cases h)
  obtain ⟨a1, hA1, -⟩ := arr_prim (ty := .boolean) (hts _ (List.mem_of_getElem? (i := 197) (by decide +kernel))) (fun C h => by cases h)
  obtain ⟨a2, hA2, -⟩ := arr_prim (ty := .byte) (hts _ (List.mem_of_getElem? (i := 309) (by decide +kernel))) (fun C h => by cases h)
  have hov : (Cond.arrayOver (.array .int)).before args s = true := hts _ (List.mem_of_getElem? (i := 54) (by decide +kernel))
  have hoA : (Cond.arrayOver (.object RX0)).before args s = true := hts _ (List.mem_of_getElem? (i := 47) (by decide +kernel))
  obtain ⟨cm3, a3, kk3, e31, -, e32, e33, e34⟩ := arrayOver_specB hov
  have e30 : cm3 = a0 := Option.some.inj (e31.symm.trans hA0.2)
  subst e30
  obtain ⟨cm4, a4, kk4, e41, -, e42, e43, e44⟩ := Cond.arrayOver_spec hoA
  refine ⟨(fun k => match k with | 0 => c0 | 1 => c1 | 2 => c2 | 3 => c3 | 4 => c4 | 5 => c5 | _ => c6, fun k => match k with | 0 => i0 | 1 => i1 | 2 => i2 | 3 => i3 | 4 => i4 | 5 => i5 | _ => i6), fun k => match k with | 0 => cm3 | 1 => a1 | 2 => a2 | 3 => a3 | _ => a4, ⟨fun c q hq => ?_, fun k q hq => ?_⟩, ⟨?_, ?_⟩, ?_, ?_, ?_, ⟨?_, ?_⟩, ?_⟩
  · match c, hq with
    | 0, hq => cases hq; exact k0
    | 1, hq => cases hq; exact k1
    | 2, hq => cases hq; exact k2
    | 3, hq => cases hq; exact k3
    | 4, hq => cases hq; exact k4
    | 5, hq => cases hq; exact k5
    | 6, hq => cases hq; exact k6
    | c + 7, hq => simp [kCl] at hq
  · match k, hq with
    | 0, hq => cases hq; exact hA0
    | 1, hq => cases hq; exact hA1
    | 2, hq => cases hq; exact hA2
    | 3, hq => cases hq; exact ⟨fun N z => ⟨(fun q hq => by cases hq), kk3, e32, cm3, e33⟩, e34⟩
    | 4, hq => cases hq; exact ⟨fun N z => ⟨(fun q hq => by cases hq), kk4, e42, cm4, e43⟩, kk4, cm4, e42, e43, e41, e44⟩
    | k + 5, hq => simp [tysOf] at hq
  · exact vx_Zqof (hts _ (List.mem_of_getElem? (i := 269) (by decide +kernel))) (hts _ (List.mem_of_getElem? (i := 26) (by decide +kernel))) (flat_of_before _ hgv _ (by decide +kernel)) (fun a h => Nat.not_le.mpr h)
  · exact vx_Zqof (hts _ (List.mem_of_getElem? (i := 271) (by decide +kernel))) (hts _ (List.mem_of_getElem? (i := 26) (by decide +kernel))) (flat_of_before _ hgv _ (by decide +kernel)) (fun a h => Nat.not_le.mpr h)
  · have key : ∀ (ix : Nat) (tx : String), (Cond.stringRef RX6 ix tx).before args s = true → ∃ sa : Nat, vk_R RX6 ix tx sa s := fun ix tx h => by
      obtain ⟨k, cf, i, a, -, -, -, -, -, hev⟩ := Cond.stringRef_spec k6.2.1 h
      exact ⟨a, vk_R.of h hev⟩
    intro q hq
    rcases List.mem_cons.mp hq with rfl | hq
    · exact key 261 "no such slot" (hts _ (List.mem_of_getElem? (i := 283) (by decide +kernel)))
    rcases List.mem_cons.mp hq with rfl | hq
    · exact key 269 "out of range" (hts _ (List.mem_of_getElem? (i := 322) (by decide +kernel)))
    rcases List.mem_cons.mp hq with rfl | hq
    · exact key 147 "too many states" (hts _ (List.mem_of_getElem? (i := 490) (by decide +kernel)))
    rcases List.mem_cons.mp hq with rfl | hq
    · exact key 170 "no star" (hts _ (List.mem_of_getElem? (i := 637) (by decide +kernel)))
    rcases List.mem_cons.mp hq with rfl | hq
    · exact key 206 "no such basis word" (hts _ (List.mem_of_getElem? (i := 672) (by decide +kernel)))
    rw [List.mem_singleton.mp hq]
    exact key 251 "nothing is saved" (hts _ (List.mem_of_getElem? (i := 367) (by decide +kernel)))
  · intro w hw
    exact va_Nw.of (isN_tab (List.mem_filter.mp hw).2) (hts w (List.mem_filter.mp hw).1)
  · exact ⟨kk3, q0, e32, e33, hq0⟩
  · exact va_AO.of hoA
  · exact arrayOver_alikeB (Vm.Alike.refl _) hov
  · exact trivial
/-- the law as a function: what it answers -/
def f_law (xs : Nat → Int32) (L b9 z : Nat) : Option Int32 :=
  nwO (fun _ => none) z (fun _ _ => 0, fun _ _ => 0, fun _ _ => 0) 6 fun Γ1 σ1 =>
  abnd (f_X6_init Γ1 (z + 1) z σ1) fun _ Γ2 z2 σ2 =>
  nwO Γ2 z2 σ2 6 fun Γ3 σ3 =>
  abnd (f_X6_init Γ3 (z2 + 1) z2 σ3) fun _ Γ4 z4 σ4 =>
  match f_L_law_R16 xs L b9 Γ4 b9 z z2 σ4 with
  | some q => some q.1
  | none => none
set_option maxHeartbeats 8000000 in
set_option maxRecDepth 100000 in
theorem start_of {p : Program} {e : Env} {s : State} {m : MethodId} {below : List Frame} {meth : Method} {c : Code} (l : Launch) (hflags : l.flags = flags0) {b L : Nat} {xs : Nat → Int32} (hp : f_law xs L b s.heap.size = some 1) (hx : p.tables.exec = Jvm.exec) (hb : c.code = code) (hr : meth.sig.returnType = ret) (hml : c.maxLocals = 6) (hown : s.vm.findClass RL = some m.cls) (hts : ∀ w ∈ lw_tbl, w.before #[Value.ref b] s = true) (hX : va_X b L xs s s.heap) (hbl : b < s.heap.size) (hlocks : meth.locks = false) (hgv : (Jvm.Cond.and given_1 narrow_1).before #[Value.ref b] s = true) {Q : State → Prop}
    (kE : ∀ (H : Heap) (locs : List Loc) (ls : Array Slot), va_S (FR s.heap.size) s.heap H locs → W p l e room_1 s m #[Value.ref b] below meth c H locs 600086 7301442 Q (F0 m 185 ls [.int 1])) : W p l e room_1 s m #[Value.ref b] below meth c s.heap [] 0 0 Q (entryFrame m ([Value.ref b] : List Value).toArray 6) := by
  obtain ⟨D, cA, hKK⟩ := start_known hts hgv
  have h9t : l.stackTraces = false := by unfold Launch.stackTraces; rw [hflags]; decide
  have hC : zC p l s m #[Value.ref b] meth c code 6 RL D cA s.heap.size := ⟨hx, hb, hml, hown, fun w hw => hts w (tg_tbl hw), hlocks, hKK, Nat.le_refl _, h9t⟩
  have h9 : va_X b L xs s s.heap ∧ b < s.heap.size ∧ ¬ FR s.heap.size b := ⟨hX, hbl, Nat.not_le.mpr hbl⟩
  have hw : zO D cA s.heap.size (fun _ => none) (fun _ _ => 0, fun _ _ => 0, fun _ _ => 0) (ZE s.heap.size) s.heap s.heap [] := ⟨fun a sh h => (by cases h), fun a sh h => (by cases h), rfl, va_S.rf⟩
  have hl := lv_entry ([.ref b]) (n := 6) (Nat.le_of_ble_eq_true rfl)
  rw [lg_entry_eq]
  generalize (lg_sl ([.ref b]) ++ List.replicate (6 - (lg_sl ([.ref b])).length) Slot.unset).toArray = ls at hl ⊢
  have hl : lv_has ls 6 [(0, .ref b)] := hl
  have hf := hp
  unfold f_law at hf
  refine r_nwO hC hw clX6 kdX6 lkN_L_6 ⟨Nat.le_of_ble_eq_true rfl, Nat.le_of_ble_eq_true rfl⟩ dL_law_0 (fun H hw => ?_)
  have hf := nwO_inv hf
  generalize upS (fun _ => none) s.heap.size (6 + 5, 0) = Γ1 at hf hw
  generalize clr (fun _ _ => 0, fun _ _ => 0, fun _ _ => 0) s.heap.size = σ1 at hf hw
  refine lv_dup hx hb dL_law_3 rfl ?_
  obtain ⟨_, Γ2, z2, σ2, hk, hf⟩ := abnd_inv hf
  refine z_callI (As := []) (rest := [.ref s.heap.size]) (m_X6_init h9t hk) hC hw wd_X6_init lkI_L_6 rfl ⟨rfl, rfl⟩ ⟨Nat.le_of_ble_eq_true rfl, Nat.le_of_ble_eq_true rfl⟩ hl.1 rfl (Nat.le_of_ble_eq_true rfl) dL_law_4 ⟨Nat.le_of_ble_eq_true rfl, Nat.le_of_ble_eq_true rfl⟩ (fun H locs hw => ?_)
  refine lv_astore_n (lv' := [(1, .ref s.heap.size), (0, .ref b)]) hx hb dL_law_7 rfl hl (Nat.le_of_ble_eq_true rfl) rfl (fun ls hl => ?_)
  refine r_nwO hC hw clX6 kdX6 lkN_L_6 ⟨Nat.le_of_ble_eq_true rfl, Nat.le_of_ble_eq_true rfl⟩ dL_law_8 (fun H hw => ?_)
  have hf := nwO_inv hf
  generalize upS Γ2 z2 (6 + 5, 0) = Γ3 at hf hw
  generalize clr σ2 z2 = σ3 at hf hw
  refine lv_dup hx hb dL_law_11 rfl ?_
  obtain ⟨_, Γ4, z4, σ4, hk, hf⟩ := abnd_inv hf
  refine z_callI (As := []) (rest := [.ref z2]) (m_X6_init h9t hk) hC hw wd_X6_init lkI_L_6 rfl ⟨rfl, rfl⟩ ⟨Nat.le_of_ble_eq_true rfl, Nat.le_of_ble_eq_true rfl⟩ hl.1 rfl (Nat.le_of_ble_eq_true rfl) dL_law_12 ⟨Nat.le_of_ble_eq_true rfl, Nat.le_of_ble_eq_true rfl⟩ (fun H locs hw => ?_)
  refine lv_astore_n (lv' := [(2, .ref z2), (1, .ref s.heap.size), (0, .ref b)]) hx hb dL_law_15 rfl hl (Nat.le_of_ble_eq_true rfl) rfl (fun ls hl => ?_)
  have hw : zO D cA s.heap.size Γ4 σ4 (ZB s.heap.size) s.heap H locs := ⟨hw.1, hw.2.1, hw.2.2.2.1, hw.2.2.2⟩
  cases hq : f_L_law_R16 xs L b Γ4 b s.heap.size z2 σ4 with
  | none => rw [hq] at hf; cases hf
  | some q =>
    obtain ⟨v, σ9⟩ := q
    rw [hq] at hf
    cases Option.some.inj hf
    refine W.widen (k := 914) (n := 115180) (Nat.le_of_ble_eq_true rfl) (Nat.le_of_ble_eq_true rfl) ?_
    refine t_L_law_R16 hC h9 hq hw (lv_sub hl [2, 1, 0] rfl) (fun v2 s2 e H locs ls hw => ?_)
    cases e
    exact kE H locs ls hw.2.2.2
