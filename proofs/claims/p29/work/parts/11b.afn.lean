theorem nwO_inv {β : Type} {Γ : zSh} {z : Nat} {σ : zSt} {c : Nat} {f : zSh → zSt → Option β} {o : β} (h : nwO Γ z σ c f = some o) : f (upS Γ z (c + 5, 0)) (clr σ z) = some o := h
theorem lkF_X2_9 : Cond.fieldLink RX2 9 (TX2 0).1 (TX2 0).2.1 (TX2 0).2.2.1 ∈ tbG := tg_i 170 (by decide +kernel) (by decide +kernel)
theorem lkF_X2_19 : Cond.fieldLink RX2 19 (TX2 2).1 (TX2 2).2.1 (TX2 2).2.2.1 ∈ tbG := tg_i 172 (by decide +kernel) (by decide +kernel)
theorem lkF_X2_23 : Cond.fieldLink RX2 23 (TX2 3).1 (TX2 3).2.1 (TX2 3).2.2.1 ∈ tbG := tg_i 173 (by decide +kernel) (by decide +kernel)
theorem lkF_X2_27 : Cond.fieldLink RX2 27 (TX2 4).1 (TX2 4).2.1 (TX2 4).2.2.1 ∈ tbG := tg_i 174 (by decide +kernel) (by decide +kernel)
theorem lkF_X2_30 : Cond.fieldLink RX2 30 (TX2 5).1 (TX2 5).2.1 (TX2 5).2.2.1 ∈ tbG := tg_i 175 (by decide +kernel) (by decide +kernel)
theorem lkF_X2_38 : Cond.fieldLink RX2 38 (TX2 6).1 (TX2 6).2.1 (TX2 6).2.2.1 ∈ tbG := tg_i 176 (by decide +kernel) (by decide +kernel)
theorem lkF_X2_42 : Cond.fieldLink RX2 42 (TX2 8).1 (TX2 8).2.1 (TX2 8).2.2.1 ∈ tbG := tg_i 177 (by decide +kernel) (by decide +kernel)
theorem lkM_X6_9 : Cond.methodLink RX6 9 yX6_automata ∈ tbG := tg_i 43 (by decide +kernel) (by decide +kernel)
theorem lkM_X6_30 : Cond.methodLink RX6 30 yX0_init ∈ tbG := tg_i 49 (by decide +kernel) (by decide +kernel)
theorem lkM_X2_35 : Cond.methodLink RX2 35 yX0_init ∈ tbG := tg_i 169 (by decide +kernel) (by decide +kernel)
theorem lkN_X6_42 : Cond.methodLinkNest RX6 42 yX5_init "SeriesBench" ∈ zNwL := nw_i 81 (by decide +kernel) (by decide +kernel)
theorem lkN_X6_49 : Cond.methodLinkNest RX6 49 yX4_init "SeriesBench" ∈ zNwL := nw_i 94 (by decide +kernel) (by decide +kernel)
theorem lkN_X6_56 : Cond.methodLinkNest RX6 56 yX1_init "SeriesBench" ∈ zNwL := nw_i 108 (by decide +kernel) (by decide +kernel)
theorem lkN_X6_63 : Cond.methodLinkNest RX6 63 yX3_init "SeriesBench" ∈ zNwL := nw_i 151 (by decide +kernel) (by decide +kernel)
theorem lkN_X6_73 : Cond.methodLinkNest RX6 73 yX2_init "SeriesBench" ∈ zNwL := nw_i 163 (by decide +kernel) (by decide +kernel)
theorem lkN_X2_15 : Cond.methodLinkNest RX2 15 yX6_automata "SeriesBench" ∈ zNwL := nw_i 167 (by decide +kernel) (by decide +kernel)
theorem tw_arr0 : Cond.arrayClass .int ∈ tbG := tg_i 78 (by decide +kernel) (by decide +kernel)
theorem tw_arr1 : Cond.arrayClass .boolean ∈ tbG := tg_i 197 (by decide +kernel) (by decide +kernel)
theorem kdX0 : kDef 0 4 tyX0 := by
  intro k hk
  have h : (List.range 4).all (fun k => decide (defaultValue (tyX0 k) = (match kK 0 k with | 0 => .int 0 | 2 => .long 0 | _ => .null))) = true := by decide +kernel
  exact of_decide_eq_true (List.all_eq_true.mp h k (List.mem_range.mpr hk))
theorem kdX1 : kDef 1 11 tyX1 := by
  intro k hk
  have h : (List.range 11).all (fun k => decide (defaultValue (tyX1 k) = (match kK 1 k with | 0 => .int 0 | 2 => .long 0 | _ => .null))) = true := by decide +kernel
  exact of_decide_eq_true (List.all_eq_true.mp h k (List.mem_range.mpr hk))
theorem kdX2 : kDef 2 9 tyX2 := by
  intro k hk
  have h : (List.range 9).all (fun k => decide (defaultValue (tyX2 k) = (match kK 2 k with | 0 => .int 0 | 2 => .long 0 | _ => .null))) = true := by decide +kernel
  exact of_decide_eq_true (List.all_eq_true.mp h k (List.mem_range.mpr hk))
theorem kdX3 : kDef 3 1 tyX3 := by
  intro k hk
  have h : (List.range 1).all (fun k => decide (defaultValue (tyX3 k) = (match kK 3 k with | 0 => .int 0 | 2 => .long 0 | _ => .null))) = true := by decide +kernel
  exact of_decide_eq_true (List.all_eq_true.mp h k (List.mem_range.mpr hk))
theorem kdX4 : kDef 4 2 tyX4 := by
  intro k hk
  have h : (List.range 2).all (fun k => decide (defaultValue (tyX4 k) = (match kK 4 k with | 0 => .int 0 | 2 => .long 0 | _ => .null))) = true := by decide +kernel
  exact of_decide_eq_true (List.all_eq_true.mp h k (List.mem_range.mpr hk))
theorem kdX5 : kDef 5 2 tyX5 := by
  intro k hk
  have h : (List.range 2).all (fun k => decide (defaultValue (tyX5 k) = (match kK 5 k with | 0 => .int 0 | 2 => .long 0 | _ => .null))) = true := by decide +kernel
  exact of_decide_eq_true (List.all_eq_true.mp h k (List.mem_range.mpr hk))
theorem kdX6 : kDef 6 12 tyX6 := by
  intro k hk
  have h : (List.range 12).all (fun k => decide (defaultValue (tyX6 k) = (match kK 6 k with | 0 => .int 0 | 2 => .long 0 | _ => .null))) = true := by decide +kernel
  exact of_decide_eq_true (List.all_eq_true.mp h k (List.mem_range.mpr hk))
theorem lkC_X2_33 : Cond.classLink RX2 33 RX0 ∈ tbG ∧ Cond.instantiable RX0 4 ∈ tbG ∧ Cond.initialized RX0 ∈ tbG := ⟨tg_i 168 (by decide +kernel) (by decide +kernel), tg_i 48 (by decide +kernel) (by decide +kernel), tg_i 20 (by decide +kernel) (by decide +kernel)⟩
theorem lkC_X6_28 : Cond.classLink RX6 28 RX0 ∈ tbG ∧ Cond.instantiable RX0 4 ∈ tbG ∧ Cond.initialized RX0 ∈ tbG := ⟨tg_i 46 (by decide +kernel) (by decide +kernel), tg_i 48 (by decide +kernel) (by decide +kernel), tg_i 20 (by decide +kernel) (by decide +kernel)⟩
theorem lkC_X6_40 : Cond.classLink RX6 40 RX5 ∈ tbG ∧ Cond.instantiable RX5 2 ∈ tbG ∧ Cond.initialized RX5 ∈ tbG := ⟨tg_i 79 (by decide +kernel) (by decide +kernel), tg_i 80 (by decide +kernel) (by decide +kernel), tg_i 21 (by decide +kernel) (by decide +kernel)⟩
theorem lkC_X6_47 : Cond.classLink RX6 47 RX4 ∈ tbG ∧ Cond.instantiable RX4 2 ∈ tbG ∧ Cond.initialized RX4 ∈ tbG := ⟨tg_i 92 (by decide +kernel) (by decide +kernel), tg_i 93 (by decide +kernel) (by decide +kernel), tg_i 22 (by decide +kernel) (by decide +kernel)⟩
theorem lkC_X6_54 : Cond.classLink RX6 54 RX1 ∈ tbG ∧ Cond.instantiable RX1 11 ∈ tbG ∧ Cond.initialized RX1 ∈ tbG := ⟨tg_i 106 (by decide +kernel) (by decide +kernel), tg_i 107 (by decide +kernel) (by decide +kernel), tg_i 23 (by decide +kernel) (by decide +kernel)⟩
theorem lkC_X6_61 : Cond.classLink RX6 61 RX3 ∈ tbG ∧ Cond.instantiable RX3 1 ∈ tbG ∧ Cond.initialized RX3 ∈ tbG := ⟨tg_i 149 (by decide +kernel) (by decide +kernel), tg_i 150 (by decide +kernel) (by decide +kernel), tg_i 24 (by decide +kernel) (by decide +kernel)⟩
theorem lkC_X6_71 : Cond.classLink RX6 71 RX2 ∈ tbG ∧ Cond.instantiable RX2 9 ∈ tbG ∧ Cond.initialized RX2 ∈ tbG := ⟨tg_i 161 (by decide +kernel) (by decide +kernel), tg_i 162 (by decide +kernel) (by decide +kernel), tg_i 25 (by decide +kernel) (by decide +kernel)⟩
theorem lkG_X0_22 : Cond.classLink RX0 22 "[[I" ∈ tbG := tg_i 53 (by decide +kernel) (by decide +kernel)
theorem lkG_X1_18 : Cond.classLink RX1 18 "[[I" ∈ tbG := tg_i 112 (by decide +kernel) (by decide +kernel)
theorem lkG_X3_9 : Cond.classLink RX3 9 "[[I" ∈ tbG := tg_i 155 (by decide +kernel) (by decide +kernel)
theorem lkG_X4_15 : Cond.classLink RX4 15 "[[I" ∈ tbG := tg_i 98 (by decide +kernel) (by decide +kernel)
theorem lkO_X0_3 : Cond.methodLink RX0 3 objectInit ∈ tbG ∧ Cond.instanceMethod objectInit ∈ tbG ∧ Cond.code objectInit ⟨#[0xb1]⟩ 1 none ∈ tbG := ⟨tg_i 52 (by decide +kernel) (by decide +kernel), tg_i 41 (by decide +kernel) (by decide +kernel), tg_i 42 (by decide +kernel) (by decide +kernel)⟩
theorem lkO_X1_3 : Cond.methodLink RX1 3 objectInit ∈ tbG ∧ Cond.instanceMethod objectInit ∈ tbG ∧ Cond.code objectInit ⟨#[0xb1]⟩ 1 none ∈ tbG := ⟨tg_i 111 (by decide +kernel) (by decide +kernel), tg_i 41 (by decide +kernel) (by decide +kernel), tg_i 42 (by decide +kernel) (by decide +kernel)⟩
theorem lkO_X2_3 : Cond.methodLink RX2 3 objectInit ∈ tbG ∧ Cond.instanceMethod objectInit ∈ tbG ∧ Cond.code objectInit ⟨#[0xb1]⟩ 1 none ∈ tbG := ⟨tg_i 166 (by decide +kernel) (by decide +kernel), tg_i 41 (by decide +kernel) (by decide +kernel), tg_i 42 (by decide +kernel) (by decide +kernel)⟩
theorem lkO_X3_3 : Cond.methodLink RX3 3 objectInit ∈ tbG ∧ Cond.instanceMethod objectInit ∈ tbG ∧ Cond.code objectInit ⟨#[0xb1]⟩ 1 none ∈ tbG := ⟨tg_i 154 (by decide +kernel) (by decide +kernel), tg_i 41 (by decide +kernel) (by decide +kernel), tg_i 42 (by decide +kernel) (by decide +kernel)⟩
theorem lkO_X4_3 : Cond.methodLink RX4 3 objectInit ∈ tbG ∧ Cond.instanceMethod objectInit ∈ tbG ∧ Cond.code objectInit ⟨#[0xb1]⟩ 1 none ∈ tbG := ⟨tg_i 97 (by decide +kernel) (by decide +kernel), tg_i 41 (by decide +kernel) (by decide +kernel), tg_i 42 (by decide +kernel) (by decide +kernel)⟩
theorem lkO_X5_3 : Cond.methodLink RX5 3 objectInit ∈ tbG ∧ Cond.instanceMethod objectInit ∈ tbG ∧ Cond.code objectInit ⟨#[0xb1]⟩ 1 none ∈ tbG := ⟨tg_i 84 (by decide +kernel) (by decide +kernel), tg_i 41 (by decide +kernel) (by decide +kernel), tg_i 42 (by decide +kernel) (by decide +kernel)⟩
theorem lkO_X6_3 : Cond.methodLink RX6 3 objectInit ∈ tbG ∧ Cond.instanceMethod objectInit ∈ tbG ∧ Cond.code objectInit ⟨#[0xb1]⟩ 1 none ∈ tbG := ⟨tg_i 40 (by decide +kernel) (by decide +kernel), tg_i 41 (by decide +kernel) (by decide +kernel), tg_i 42 (by decide +kernel) (by decide +kernel)⟩
theorem wd_X0_init : zWi yX0_init cX0_init 2 1 := ⟨⟨tg_i 50 (by decide +kernel) (by decide +kernel), tg_i 20 (by decide +kernel) (by decide +kernel), tg_i 51 (by decide +kernel) (by decide +kernel)⟩, rfl, by decide +kernel⟩
def rm_X0_init : Room := { frames := 1, cells := 5, slots := 1202, locals := 100 }
theorem wd_X1_init : zWi yX1_init cX1_init 1 0 := ⟨⟨tg_i 109 (by decide +kernel) (by decide +kernel), tg_i 23 (by decide +kernel) (by decide +kernel), tg_i 110 (by decide +kernel) (by decide +kernel)⟩, rfl, by decide +kernel⟩
def rm_X1_init : Room := { frames := 1, cells := 130, slots := 3144, locals := 100 }
theorem wd_X3_init : zWi yX3_init cX3_init 1 0 := ⟨⟨tg_i 152 (by decide +kernel) (by decide +kernel), tg_i 24 (by decide +kernel) (by decide +kernel), tg_i 153 (by decide +kernel) (by decide +kernel)⟩, rfl, by decide +kernel⟩
def rm_X3_init : Room := { frames := 1, cells := 32, slots := 992, locals := 100 }
theorem wd_X4_init : zWi yX4_init cX4_init 1 0 := ⟨⟨tg_i 95 (by decide +kernel) (by decide +kernel), tg_i 22 (by decide +kernel) (by decide +kernel), tg_i 96 (by decide +kernel) (by decide +kernel)⟩, rfl, by decide +kernel⟩
def rm_X4_init : Room := { frames := 1, cells := 14, slots := 168, locals := 100 }
theorem wd_X5_init : zWi yX5_init cX5_init 1 0 := ⟨⟨tg_i 82 (by decide +kernel) (by decide +kernel), tg_i 21 (by decide +kernel) (by decide +kernel), tg_i 83 (by decide +kernel) (by decide +kernel)⟩, rfl, by decide +kernel⟩
def rm_X5_init : Room := { frames := 1, cells := 2, slots := 24, locals := 100 }
theorem wd_X6_automata : zWs yX6_automata cX6_automata 3 (Option.some (FieldType.array (FieldType.object "SeriesBench$Automaton"))) 1 := ⟨⟨tg_i 44 (by decide +kernel) (by decide +kernel), tg_i 19 (by decide +kernel) (by decide +kernel), tg_i 45 (by decide +kernel) (by decide +kernel)⟩, by decide +kernel⟩
def rm_X6_automata : Room := { frames := 2, cells := 61, slots := 12069, locals := 121 }
theorem wd_X2_init : zWi yX2_init cX2_init 1 0 := ⟨⟨tg_i 164 (by decide +kernel) (by decide +kernel), tg_i 25 (by decide +kernel) (by decide +kernel), tg_i 165 (by decide +kernel) (by decide +kernel)⟩, rfl, by decide +kernel⟩
def rm_X2_init : Room := { frames := 3, cells := 137, slots := 26628, locals := 143 }
theorem wd_X6_init : zWi yX6_init cX6_init 1 0 := ⟨⟨tg_i 38 (by decide +kernel) (by decide +kernel), tg_i 19 (by decide +kernel) (by decide +kernel), tg_i 39 (by decide +kernel) (by decide +kernel)⟩, rfl, by decide +kernel⟩
def rm_X6_init : Room := { frames := 4, cells := 456, slots := 57578, locals := 163 }
def f_X0_init (Γ : zSh) (z : Nat) (a0 : Nat) (a1 : Int32) (σ : zSt) : Option (Unit × zSh × Nat × zSt) :=
  pfI Γ σ a0 0 0 0 fun σ1 =>
  nwA Γ z σ1 0 a1 24 fun Γ2 σ3 =>
  pfR Γ2 σ3 a0 0 1 z fun σ4 =>
  nwA Γ2 (z + 1) σ4 0 a1 24 fun Γ5 σ6 =>
  pfR Γ5 σ6 a0 0 2 (z + 1) fun σ7 =>
  nwG Γ5 (z + 2) σ7 2 (a1 * a1) 2 576 fun Γ8 σ9 =>
  pfR Γ8 σ9 a0 0 3 (z + 2) fun σ10 =>
  some ((), Γ8, z + 5, σ10)
def f_X1_init (Γ : zSh) (z : Nat) (a0 : Nat) (σ : zSt) : Option (Unit × zSh × Nat × zSt) :=
  nwA Γ z σ 0 24 24 fun Γ1 σ2 =>
  pfR Γ1 σ2 a0 1 1 z fun σ3 =>
  nwA Γ1 (z + 1) σ3 0 24 24 fun Γ4 σ5 =>
  pfR Γ4 σ5 a0 1 2 (z + 1) fun σ6 =>
  nwG Γ4 (z + 2) σ6 24 24 24 24 fun Γ7 σ8 =>
  pfR Γ7 σ8 a0 1 3 (z + 2) fun σ9 =>
  nwG Γ7 (z + 27) σ9 24 24 24 24 fun Γ10 σ11 =>
  pfR Γ10 σ11 a0 1 4 (z + 27) fun σ12 =>
  nwG Γ10 (z + 52) σ12 24 24 24 24 fun Γ13 σ14 =>
  pfR Γ13 σ14 a0 1 5 (z + 52) fun σ15 =>
  nwA Γ13 (z + 77) σ15 0 24 24 fun Γ16 σ17 =>
  pfR Γ16 σ17 a0 1 6 (z + 77) fun σ18 =>
  nwG Γ16 (z + 78) σ18 48 24 48 24 fun Γ19 σ20 =>
  pfR Γ19 σ20 a0 1 7 (z + 78) fun σ21 =>
  nwA Γ19 (z + 127) σ21 0 24 24 fun Γ22 σ23 =>
  pfR Γ22 σ23 a0 1 8 (z + 127) fun σ24 =>
  nwA Γ22 (z + 128) σ24 0 24 24 fun Γ25 σ26 =>
  pfR Γ25 σ26 a0 1 9 (z + 128) fun σ27 =>
  nwA Γ25 (z + 129) σ27 0 24 24 fun Γ28 σ29 =>
  pfR Γ28 σ29 a0 1 10 (z + 129) fun σ30 =>
  some ((), Γ28, z + 130, σ30)
def f_X3_init (Γ : zSh) (z : Nat) (a0 : Nat) (σ : zSt) : Option (Unit × zSh × Nat × zSt) :=
  nwG Γ z σ 31 31 31 31 fun Γ1 σ2 =>
  pfR Γ1 σ2 a0 3 0 z fun σ3 =>
  some ((), Γ1, z + 32, σ3)
def f_X4_init (Γ : zSh) (z : Nat) (a0 : Nat) (σ : zSt) : Option (Unit × zSh × Nat × zSt) :=
  nwA Γ z σ 0 12 12 fun Γ1 σ2 =>
  pfR Γ1 σ2 a0 4 0 z fun σ3 =>
  nwG Γ1 (z + 1) σ3 12 12 12 12 fun Γ4 σ5 =>
  pfR Γ4 σ5 a0 4 1 (z + 1) fun σ6 =>
  some ((), Γ4, z + 14, σ6)
def f_X5_init (Γ : zSh) (z : Nat) (a0 : Nat) (σ : zSt) : Option (Unit × zSh × Nat × zSt) :=
  nwA Γ z σ 0 12 12 fun Γ1 σ2 =>
  pfR Γ1 σ2 a0 5 0 z fun σ3 =>
  nwA Γ1 (z + 1) σ3 0 12 12 fun Γ4 σ5 =>
  pfR Γ4 σ5 a0 5 1 (z + 1) fun σ6 =>
  some ((), Γ4, z + 2, σ6)
def f_X6_automata_B6 (Γ : zSh) (z : Nat) (x0 : Int32) (x1 : Nat) (x2 : Int32) (σ : zSt) : Option ((Int32 × zSh × Nat × zSt) ⊕ (zSh × Nat × zSt)) :=
  if x0 ≤ x2 then (some (.inr (Γ, z, σ))) else (nwO Γ z σ 0 fun Γ1 σ1 =>
  abnd (f_X0_init Γ1 (z + 1) z 12 σ1) fun _ Γ2 z2 σ2 =>
  chk (decide (z ≠ 0)) <| stA Γ2 σ2 x1 x2 z fun σ3 =>
  some (.inl ((x2 + 1), Γ2, z2, σ3)))
def f_X6_automata (Γ : zSh) (z : Nat) (a0 : Int32) (σ : zSt) : Option (Nat × zSh × Nat × zSt) :=
  nwA Γ z σ 4 a0 9 fun Γ1 σ1 =>
  match loopM (fun q => f_X6_automata_B6 q.2.1 q.2.2.1 a0 z q.1 q.2.2.2) 10 (0, Γ1, z + 1, σ1) with
  | none => none
  | some q => chk (decide (z ≠ 0)) <| some (z, q.1, q.2.1, q.2.2)
def f_X2_init (Γ : zSh) (z : Nat) (a0 : Nat) (σ : zSt) : Option (Unit × zSh × Nat × zSt) :=
  nwA Γ z σ 0 60 60 fun Γ1 σ2 =>
  pfR Γ1 σ2 a0 2 0 z fun σ3 =>
  abnd (f_X6_automata Γ1 (z + 1) 9 σ3) fun r7 Γ4 z5 σ6 =>
  pfR Γ4 σ6 a0 2 2 r7 fun σ8 =>
  nwA Γ4 z5 σ8 1 9 9 fun Γ9 σ10 =>
  pfR Γ9 σ10 a0 2 3 z5 fun σ11 =>
  abnd (f_X6_automata Γ9 (z5 + 1) 9 σ11) fun r15 Γ12 z13 σ14 =>
  pfR Γ12 σ14 a0 2 4 r15 fun σ16 =>
  nwA Γ12 z13 σ16 1 9 9 fun Γ17 σ18 =>
  pfR Γ17 σ18 a0 2 5 z13 fun σ19 =>
  nwO Γ17 (z13 + 1) σ19 0 fun Γ20 σ21 =>
  abnd (f_X0_init Γ20 (z13 + 2) (z13 + 1) 12 σ21) fun _ Γ22 z23 σ24 =>
  pfR Γ22 σ24 a0 2 6 (z13 + 1) fun σ25 =>
  nwO Γ22 z23 σ25 0 fun Γ26 σ27 =>
  abnd (f_X0_init Γ26 (z23 + 1) z23 12 σ27) fun _ Γ28 z29 σ30 =>
  pfR Γ28 σ30 a0 2 8 z23 fun σ31 =>
  some ((), Γ28, z29, σ31)
def f_X6_init (Γ : zSh) (z : Nat) (a0 : Nat) (σ : zSt) : Option (Unit × zSh × Nat × zSt) :=
  abnd (f_X6_automata Γ z 4 σ) fun r4 Γ1 z2 σ3 =>
  pfR Γ1 σ3 a0 6 0 r4 fun σ5 =>
  abnd (f_X6_automata Γ1 z2 4 σ5) fun r9 Γ6 z7 σ8 =>
  pfR Γ6 σ8 a0 6 1 r9 fun σ10 =>
  nwA Γ6 z7 σ10 0 4 4 fun Γ11 σ12 =>
  pfR Γ11 σ12 a0 6 2 z7 fun σ13 =>
  pfI Γ11 σ13 a0 6 3 0 fun σ14 =>
  nwO Γ11 (z7 + 1) σ14 0 fun Γ15 σ16 =>
  abnd (f_X0_init Γ15 (z7 + 2) (z7 + 1) 12 σ16) fun _ Γ17 z18 σ19 =>
  pfR Γ17 σ19 a0 6 4 (z7 + 1) fun σ20 =>
  nwO Γ17 z18 σ20 0 fun Γ21 σ22 =>
  abnd (f_X0_init Γ21 (z18 + 1) z18 24 σ22) fun _ Γ23 z24 σ25 =>
  pfR Γ23 σ25 a0 6 5 z18 fun σ26 =>
  nwO Γ23 z24 σ26 5 fun Γ27 σ28 =>
  abnd (f_X5_init Γ27 (z24 + 1) z24 σ28) fun _ Γ29 z30 σ31 =>
  pfR Γ29 σ31 a0 6 6 z24 fun σ32 =>
  nwO Γ29 z30 σ32 4 fun Γ33 σ34 =>
  abnd (f_X4_init Γ33 (z30 + 1) z30 σ34) fun _ Γ35 z36 σ37 =>
  pfR Γ35 σ37 a0 6 7 z30 fun σ38 =>
  nwO Γ35 z36 σ38 1 fun Γ39 σ40 =>
  abnd (f_X1_init Γ39 (z36 + 1) z36 σ40) fun _ Γ41 z42 σ43 =>
  pfR Γ41 σ43 a0 6 8 z36 fun σ44 =>
  nwO Γ41 z42 σ44 3 fun Γ45 σ46 =>
  abnd (f_X3_init Γ45 (z42 + 1) z42 σ46) fun _ Γ47 z48 σ49 =>
  pfR Γ47 σ49 a0 6 9 z42 fun σ50 =>
  nwA Γ47 z48 σ50 0 43 43 fun Γ51 σ52 =>
  pfR Γ51 σ52 a0 6 10 z48 fun σ53 =>
  nwO Γ51 (z48 + 1) σ53 2 fun Γ54 σ55 =>
  abnd (f_X2_init Γ54 (z48 + 2) (z48 + 1) σ55) fun _ Γ56 z57 σ58 =>
  pfR Γ56 σ58 a0 6 11 (z48 + 1) fun σ59 =>
  some ((), Γ56, z57, σ59)
