theorem sp_inv {α β : Type} {a c : α} {b d : β} (h : some (a, b) = some (c, d)) : a = c ∧ b = d := by
  have e := Option.some.inj h
  exact ⟨congrArg Prod.fst e, congrArg Prod.snd e⟩
def f_J7_rangeCheck_23922 (Γ : zSh) (a0 : Int32) (a1 : Int32) (a2 : Int32) (σ : zSt) : Option (Unit × zSt) :=
  if a1 ≤ a2 then (if 0 ≤ a1 then (if a2 ≤ a0 then (some ((), σ)) else (none)) else (none)) else (none)
def f_J7_fill_fda19_B10 (Γ : zSh) (x0 : Nat) (x2 : Int32) (x3 : Int32) (x4 : Int32) (σ : zSt) : Option ((Int32 × zSt) ⊕ (zSt)) :=
  if x2 ≤ x4 then (some (.inr σ)) else (stI Γ σ x0 x4 x3 fun σ3 =>
  some (.inl ((x4 + 1), σ3)))
def f_J7_fill_fda19 (Γ : zSh) (a0 : Nat) (a1 : Int32) (a2 : Int32) (a3 : Int32) (σ : zSt) : Option (Unit × zSt) :=
  alI Γ a0 fun v1 =>
  bnd (f_J7_rangeCheck_23922 Γ v1 a1 a2 σ) fun _ σ2 =>
  lb0 (loopM (fun q => f_J7_fill_fda19_B10 Γ a0 a2 a3 q.1 q.2) FUEL (a1, σ2)) fun σ4 =>
  some ((), σ4)
def f_X0_clear_B27 (Γ : zSh) (x0 : Nat) (x1 : Int32) (x2 : Int32) (σ : zSt) : Option ((Int32 × zSt) ⊕ (zSt)) :=
  if 2 ≤ x2 then (some (.inr σ)) else (gfR Γ σ x0 0 3 fun v6 =>
  ldG Γ σ v6 x2 fun v7 =>
  bnd (f_J7_fill_fda19 Γ v7 0 (x1 * x1) 0 σ) fun _ σ8 =>
  some (.inl ((x2 + 1), σ8)))
def f_X0_clear (Γ : zSh) (a0 : Nat) (a1 : Int32) (σ : zSt) : Option (Unit × zSt) :=
  pfI Γ σ a0 0 0 a1 fun σ1 =>
  gfR Γ σ1 a0 0 1 fun v2 =>
  bnd (f_J7_fill_fda19 Γ v2 0 a1 0 σ1) fun _ σ3 =>
  gfR Γ σ3 a0 0 2 fun v4 =>
  bnd (f_J7_fill_fda19 Γ v4 0 a1 0 σ3) fun _ σ5 =>
  lb0 (loopM (fun q => f_X0_clear_B27 Γ a0 a1 q.1 q.2) FUEL (0, σ5)) fun σ9 =>
  some ((), σ9)
def f_X0_copyFrom_B44 (Γ : zSh) (x0 : Nat) (x1 : Nat) (x2 : Int32) (σ : zSt) : Option ((Int32 × zSt) ⊕ (zSt)) :=
  if 2 ≤ x2 then (some (.inr σ)) else (gfR Γ σ x1 0 3 fun v11 =>
  ldG Γ σ v11 x2 fun v12 =>
  gfR Γ σ x0 0 3 fun v13 =>
  ldG Γ σ v13 x2 fun v14 =>
  gfI Γ σ x0 0 0 fun v15 =>
  gfI Γ σ x0 0 0 fun v16 =>
  cpI Γ σ v12 0 v14 0 (v15 * v16) fun σ17 =>
  some (.inl ((x2 + 1), σ17)))
def f_X0_copyFrom (Γ : zSh) (a0 : Nat) (a1 : Nat) (σ : zSt) : Option (Unit × zSt) :=
  gfI Γ σ a1 0 0 fun v1 =>
  pfI Γ σ a0 0 0 v1 fun σ2 =>
  gfR Γ σ2 a1 0 1 fun v3 =>
  gfR Γ σ2 a0 0 1 fun v4 =>
  gfI Γ σ2 a0 0 0 fun v5 =>
  cpI Γ σ2 v3 0 v4 0 v5 fun σ6 =>
  gfR Γ σ6 a1 0 2 fun v7 =>
  gfR Γ σ6 a0 0 2 fun v8 =>
  gfI Γ σ6 a0 0 0 fun v9 =>
  cpI Γ σ6 v7 0 v8 0 v9 fun σ10 =>
  lb0 (loopM (fun q => f_X0_copyFrom_B44 Γ a0 a1 q.1 q.2) FUEL (0, σ10)) fun σ18 =>
  some ((), σ18)
def f_X0_nextDraw (Γ : zSh) (a0 : Int64) (σ : zSt) : Option (Int64 × zSt) :=
  rmL ((1103515245 * a0) + 12345) 2147483648 fun v1 =>
  some (v1, σ)
def f_X0_drawn (Γ : zSh) (a0 : Int64) (σ : zSt) : Option (Int32 × zSt) :=
  dvL a0 65536 fun v1 =>
  rmL v1 4 fun v2 =>
  some ((v2.toInt32), σ)
def f_X0_draw_B11 (Γ : zSh) (x0 : Nat) (x1 : Int32) (x3 : Int64) (x5 : Int32) (σ : zSt) : Option ((Int64 × Int32 × zSt) ⊕ (Int64 × zSt)) :=
  if x1 ≤ x5 then (some (.inr (x3, σ))) else (bnd (f_X0_nextDraw Γ x3 σ) fun r3 σ2 =>
  gfR Γ σ2 x0 0 1 fun v4 =>
  bnd (f_X0_drawn Γ r3 σ2) fun r6 σ5 =>
  stI Γ σ5 v4 x5 r6 fun σ7 =>
  bnd (f_X0_nextDraw Γ r3 σ7) fun r9 σ8 =>
  gfR Γ σ8 x0 0 2 fun v10 =>
  bnd (f_X0_drawn Γ r9 σ8) fun r12 σ11 =>
  stI Γ σ11 v10 x5 r12 fun σ13 =>
  some (.inl (r9, (x5 + 1), σ13)))
def f_X0_draw_B67 (Γ : zSh) (x0 : Nat) (x1 : Int32) (x5 : Int32) (x3 : Int64) (x6 : Int32) (σ : zSt) : Option ((Int64 × Int32 × zSt) ⊕ (Int64 × zSt)) :=
  if (x1 * x1) ≤ x6 then (some (.inr (x3, σ))) else (bnd (f_X0_nextDraw Γ x3 σ) fun r17 σ16 =>
  gfR Γ σ16 x0 0 3 fun v18 =>
  ldG Γ σ16 v18 x5 fun v19 =>
  bnd (f_X0_drawn Γ r17 σ16) fun r21 σ20 =>
  stI Γ σ20 v19 x6 r21 fun σ22 =>
  some (.inl (r17, (x6 + 1), σ22)))
def f_X0_draw_B58 (Γ : zSh) (x0 : Nat) (x1 : Int32) (x3 : Int64) (x5 : Int32) (σ : zSt) : Option ((Int64 × Int32 × zSt) ⊕ (zSt)) :=
  if 2 ≤ x5 then (some (.inr σ)) else (lb1 (loopM (fun q => f_X0_draw_B67 Γ x0 x1 x5 q.1 q.2.1 q.2.2) FUEL (x3, 0, σ)) fun w24 σ23 =>
  some (.inl (w24, (x5 + 1), σ23)))
def f_X0_draw (Γ : zSh) (a0 : Nat) (a1 : Int32) (a2 : Int32) (σ : zSt) : Option (Unit × zSt) :=
  pfI Γ σ a0 0 0 a1 fun σ1 =>
  lb1 (loopM (fun q => f_X0_draw_B11 Γ a0 a1 q.1 q.2.1 q.2.2) FUEL ((a2.toInt64), 0, σ1)) fun w15 σ14 =>
  lb0 (loopM (fun q => f_X0_draw_B58 Γ a0 a1 q.1 q.2.1 q.2.2) FUEL (w15, 0, σ14)) fun σ25 =>
  some ((), σ25)
def f_X0_placeBlock_B45 (Γ : zSh) (x0 : Nat) (x1 : Nat) (x2 : Int32) (x3 : Int32) (x4 : Int32) (x5 : Int32) (σ : zSt) : Option ((Int32 × zSt) ⊕ (zSt)) :=
  if x3 ≤ x5 then (some (.inr σ)) else (gfR Γ σ x1 0 3 fun v8 =>
  ldG Γ σ v8 x4 fun v9 =>
  gfR Γ σ x0 0 3 fun v10 =>
  ldG Γ σ v10 x4 fun v11 =>
  gfI Γ σ x0 0 0 fun v12 =>
  cpI Γ σ v9 (x5 * x3) v11 (((x2 + x5) * v12) + x2) x3 fun σ13 =>
  some (.inl ((x5 + 1), σ13)))
def f_X0_placeBlock_B36 (Γ : zSh) (x0 : Nat) (x1 : Nat) (x2 : Int32) (x3 : Int32) (x4 : Int32) (σ : zSt) : Option ((Int32 × zSt) ⊕ (zSt)) :=
  if 2 ≤ x4 then (some (.inr σ)) else (lb0 (loopM (fun q => f_X0_placeBlock_B45 Γ x0 x1 x2 x3 x4 q.1 q.2) FUEL (0, σ)) fun σ14 =>
  some (.inl ((x4 + 1), σ14)))
def f_X0_placeBlock (Γ : zSh) (a0 : Nat) (a1 : Nat) (a2 : Int32) (σ : zSt) : Option (Unit × zSt) :=
  gfI Γ σ a1 0 0 fun v1 =>
  gfR Γ σ a1 0 1 fun v2 =>
  gfR Γ σ a0 0 1 fun v3 =>
  cpI Γ σ v2 0 v3 a2 v1 fun σ4 =>
  gfR Γ σ4 a1 0 2 fun v5 =>
  gfR Γ σ4 a0 0 2 fun v6 =>
  cpI Γ σ4 v5 0 v6 a2 v1 fun σ7 =>
  lb0 (loopM (fun q => f_X0_placeBlock_B36 Γ a0 a1 a2 v1 q.1 q.2) FUEL (0, σ7)) fun σ15 =>
  some ((), σ15)
def f_X0_becomeSum (Γ : zSh) (a0 : Nat) (a1 : Nat) (a2 : Nat) (σ : zSt) : Option (Unit × zSt) :=
  gfI Γ σ a1 0 0 fun v1 =>
  gfI Γ σ a2 0 0 fun v2 =>
  chk (isO Γ a0 0) <| bnd (f_X0_clear Γ a0 (v1 + v2) σ) fun _ σ3 =>
  chk (isO Γ a0 0) <| bnd (f_X0_placeBlock Γ a0 a1 0 σ3) fun _ σ4 =>
  gfI Γ σ4 a1 0 0 fun v5 =>
  chk (isO Γ a0 0) <| bnd (f_X0_placeBlock Γ a0 a2 v5 σ4) fun _ σ6 =>
  some ((), σ6)
def f_X0_becomeDifference_B11 (Γ : zSh) (x0 : Nat) (x3 : Int32) (σ : zSt) : Option ((Int32 × zSt) ⊕ (zSt)) :=
  gfI Γ σ x0 0 0 fun v3 =>
  if v3 ≤ x3 then (some (.inr σ)) else (gfR Γ σ x0 0 1 fun v4 =>
  gfR Γ σ x0 0 1 fun v5 =>
  ldI Γ σ v5 x3 fun v6 =>
  rmI (10007 - v6) 10007 fun v7 =>
  stI Γ σ v4 x3 v7 fun σ8 =>
  some (.inl ((x3 + 1), σ8)))
def f_X0_becomeDifference (Γ : zSh) (a0 : Nat) (a1 : Nat) (a2 : Nat) (σ : zSt) : Option (Unit × zSt) :=
  chk (isO Γ a0 0) <| bnd (f_X0_becomeSum Γ a0 a1 a2 σ) fun _ σ1 =>
  gfI Γ σ1 a1 0 0 fun v2 =>
  lb0 (loopM (fun q => f_X0_becomeDifference_B11 Γ a0 q.1 q.2) FUEL (v2, σ1)) fun σ9 =>
  some ((), σ9)
def f_X0_placeProducts_B50 (Γ : zSh) (x0 : Nat) (x1 : Nat) (x2 : Int32) (x3 : Nat) (x4 : Int32) (x5 : Int32) (x6 : Int32) (x7 : Int32) (x8 : Int32) (x9 : Int32) (σ : zSt) : Option ((Int32 × zSt) ⊕ (zSt)) :=
  gfI Γ σ x3 0 0 fun v8 =>
  if v8 ≤ x9 then (some (.inr σ)) else (gfR Γ σ x3 0 3 fun v9 =>
  ldG Γ σ v9 x5 fun v10 =>
  gfI Γ σ x3 0 0 fun v11 =>
  ldI Γ σ v10 ((x4 * v11) + x9) fun v12 =>
  gfR Γ σ x0 0 3 fun v13 =>
  ldG Γ σ v13 x5 fun v14 =>
  gfI Γ σ x3 0 0 fun v15 =>
  rmI (x8 * v12) 10007 fun v16 =>
  stI Γ σ v14 ((x6 + (v15 * x7)) + x9) v16 fun σ17 =>
  some (.inl ((x9 + 1), σ17)))
def f_X0_placeProducts_B19 (Γ : zSh) (x0 : Nat) (x1 : Nat) (x2 : Int32) (x3 : Nat) (x4 : Int32) (x5 : Int32) (x6 : Int32) (x7 : Int32) (σ : zSt) : Option ((Int32 × zSt) ⊕ (zSt)) :=
  gfI Γ σ x1 0 0 fun v3 =>
  if v3 ≤ x7 then (some (.inr σ)) else (gfR Γ σ x1 0 3 fun v4 =>
  ldG Γ σ v4 x5 fun v5 =>
  gfI Γ σ x1 0 0 fun v6 =>
  ldI Γ σ v5 ((x2 * v6) + x7) fun v7 =>
  lb0 (loopM (fun q => f_X0_placeProducts_B50 Γ x0 x1 x2 x3 x4 x5 x6 x7 v7 q.1 q.2) FUEL (0, σ)) fun σ18 =>
  some (.inl ((x7 + 1), σ18)))
def f_X0_placeProducts (Γ : zSh) (a0 : Nat) (a1 : Nat) (a2 : Int32) (a3 : Nat) (a4 : Int32) (a5 : Int32) (σ : zSt) : Option (Unit × zSt) :=
  gfI Γ σ a3 0 0 fun v1 =>
  gfI Γ σ a0 0 0 fun v2 =>
  lb0 (loopM (fun q => f_X0_placeProducts_B19 Γ a0 a1 a2 a3 a4 a5 (((v1 * a2) + a4) * v2) q.1 q.2) FUEL (0, σ)) fun σ19 =>
  some ((), σ19)
def f_X0_becomeHadamard_B99 (Γ : zSh) (x0 : Nat) (x1 : Nat) (x2 : Nat) (x3 : Int32) (x4 : Int32) (x6 : Int32) (σ : zSt) : Option ((Int32 × zSt) ⊕ (zSt)) :=
  if 2 ≤ x6 then (some (.inr σ)) else (chk (isO Γ x0 0) <| bnd (f_X0_placeProducts Γ x0 x1 x3 x2 x4 x6 σ) fun _ σ21 =>
  some (.inl ((x6 + 1), σ21)))
def f_X0_becomeHadamard_B26 (Γ : zSh) (x0 : Nat) (x1 : Nat) (x2 : Nat) (x3 : Int32) (x4 : Int32) (σ : zSt) : Option ((Int32 × zSt) ⊕ (zSt)) :=
  gfI Γ σ x2 0 0 fun v5 =>
  if v5 ≤ x4 then (some (.inr σ)) else (gfI Γ σ x2 0 0 fun v6 =>
  gfR Γ σ x0 0 1 fun v7 =>
  gfR Γ σ x1 0 1 fun v8 =>
  ldI Γ σ v8 x3 fun v9 =>
  gfR Γ σ x2 0 1 fun v10 =>
  ldI Γ σ v10 x4 fun v11 =>
  rmI (v9 * v11) 10007 fun v12 =>
  stI Γ σ v7 ((v6 * x3) + x4) v12 fun σ13 =>
  gfR Γ σ13 x0 0 2 fun v14 =>
  gfR Γ σ13 x1 0 2 fun v15 =>
  ldI Γ σ13 v15 x3 fun v16 =>
  gfR Γ σ13 x2 0 2 fun v17 =>
  ldI Γ σ13 v17 x4 fun v18 =>
  rmI (v16 * v18) 10007 fun v19 =>
  stI Γ σ13 v14 ((v6 * x3) + x4) v19 fun σ20 =>
  lb0 (loopM (fun q => f_X0_becomeHadamard_B99 Γ x0 x1 x2 x3 x4 q.1 q.2) FUEL (0, σ20)) fun σ22 =>
  some (.inl ((x4 + 1), σ22)))
def f_X0_becomeHadamard_B15 (Γ : zSh) (x0 : Nat) (x1 : Nat) (x2 : Nat) (x3 : Int32) (σ : zSt) : Option ((Int32 × zSt) ⊕ (zSt)) :=
  gfI Γ σ x1 0 0 fun v4 =>
  if v4 ≤ x3 then (some (.inr σ)) else (lb0 (loopM (fun q => f_X0_becomeHadamard_B26 Γ x0 x1 x2 x3 q.1 q.2) FUEL (0, σ)) fun σ23 =>
  some (.inl ((x3 + 1), σ23)))
def f_X0_becomeHadamard (Γ : zSh) (a0 : Nat) (a1 : Nat) (a2 : Nat) (σ : zSt) : Option (Unit × zSt) :=
  gfI Γ σ a1 0 0 fun v1 =>
  gfI Γ σ a2 0 0 fun v2 =>
  pfI Γ σ a0 0 0 (v1 * v2) fun σ3 =>
  lb0 (loopM (fun q => f_X0_becomeHadamard_B15 Γ a0 a1 a2 q.1 q.2) FUEL (0, σ3)) fun σ24 =>
  some ((), σ24)
def f_X0_weightFrom_B4_L35 (Γ : zSh) (x0 : Nat) (x1 : Nat) (x2 : Int32) (x3 : Int32) (σ : zSt) : Option ((Int32 × Int32 × zSt) ⊕ (Int32 × zSt)) :=
  some (.inl (x2, (x3 + 1), σ))
def f_X0_weightFrom_B4 (Γ : zSh) (x0 : Nat) (x1 : Nat) (x2 : Int32) (x3 : Int32) (σ : zSt) : Option ((Int32 × Int32 × zSt) ⊕ (Int32 × zSt)) :=
  gfI Γ σ x0 0 0 fun v1 =>
  if v1 ≤ x3 then (some (.inr (x2, σ))) else (ldI Γ σ x1 x3 fun v2 =>
  if v2 = 0 then (f_X0_weightFrom_B4_L35 Γ x0 x1 x2 x3 σ) else (ldI Γ σ x1 x3 fun v3 =>
  gfR Γ σ x0 0 2 fun v4 =>
  ldI Γ σ v4 x3 fun v5 =>
  rmI (x2 + (v3 * v5)) 10007 fun v6 =>
  f_X0_weightFrom_B4_L35 Γ x0 x1 v6 x3 σ))
def f_X0_weightFrom (Γ : zSh) (a0 : Nat) (a1 : Nat) (σ : zSt) : Option (Int32 × zSt) :=
  lb1 (loopM (fun q => f_X0_weightFrom_B4 Γ a0 a1 q.1 q.2.1 q.2.2) FUEL (0, 0, σ)) fun w8 σ7 =>
  some (w8, σ7)
def f_X0_emptyWeight (Γ : zSh) (a0 : Nat) (σ : zSt) : Option (Int32 × zSt) :=
  gfR Γ σ a0 0 1 fun v1 =>
  chk (isO Γ a0 0) <| bnd (f_X0_weightFrom Γ a0 v1 σ) fun r3 σ2 =>
  some (r3, σ2)
def f_X6_multiply_B2 (Γ : zSh) (x0 : Nat) (x1 : Int32) (x2 : Int32) (x3 : Int32) (σ : zSt) : Option ((Int32 × zSt) ⊕ (zSt)) :=
  if x2 ≤ x3 then (some (.inr σ)) else (ldI Γ σ x0 x3 fun v1 =>
  rmI (v1 * x1) 10007 fun v2 =>
  stI Γ σ x0 x3 v2 fun σ3 =>
  some (.inl ((x3 + 1), σ3)))
def f_X6_multiply (Γ : zSh) (a0 : Nat) (a1 : Int32) (a2 : Int32) (σ : zSt) : Option (Unit × zSt) :=
  lb0 (loopM (fun q => f_X6_multiply_B2 Γ a0 a1 a2 q.1 q.2) FUEL (0, σ)) fun σ4 =>
  some ((), σ4)
def f_X0_stepThenLast_B5 (Γ : zSh) (x0 : Nat) (x1 : Int32) (x2 : Int32) (x3 : Int32) (x4 : Int32) (σ : zSt) : Option ((Int32 × Int32 × zSt) ⊕ (Int32 × zSt)) :=
  gfI Γ σ x0 0 0 fun v1 =>
  if v1 ≤ x4 then (some (.inr (x3, σ))) else (gfR Γ σ x0 0 3 fun v2 =>
  ldG Γ σ v2 x1 fun v3 =>
  gfI Γ σ x0 0 0 fun v4 =>
  ldI Γ σ v3 ((x2 * v4) + x4) fun v5 =>
  gfR Γ σ x0 0 2 fun v6 =>
  ldI Γ σ v6 x4 fun v7 =>
  rmI (x3 + (v5 * v7)) 10007 fun v8 =>
  some (.inl (v8, (x4 + 1), σ)))
def f_X0_stepThenLast (Γ : zSh) (a0 : Nat) (a1 : Int32) (a2 : Int32) (σ : zSt) : Option (Int32 × zSt) :=
  lb1 (loopM (fun q => f_X0_stepThenLast_B5 Γ a0 a1 a2 q.1 q.2.1 q.2.2) FUEL (0, 0, σ)) fun w10 σ9 =>
  some (w10, σ9)
def f_X0_becomeCauchy_B32 (Γ : zSh) (x0 : Nat) (x1 : Nat) (x2 : Nat) (x3 : Int32) (x4 : Int32) (x5 : Int32) (σ : zSt) : Option ((Int32 × zSt) ⊕ (zSt)) :=
  gfI Γ σ x0 0 0 fun v9 =>
  if v9 ≤ x5 then (some (.inr σ)) else (gfR Γ σ x0 0 1 fun v10 =>
  gfR Γ σ x0 0 1 fun v11 =>
  ldI Γ σ v11 x5 fun v12 =>
  rmI (v12 * x4) 10007 fun v13 =>
  stI Γ σ v10 x5 v13 fun σ14 =>
  some (.inl ((x5 + 1), σ14)))
def f_X0_becomeCauchy_B99 (Γ : zSh) (x0 : Nat) (x1 : Nat) (x2 : Nat) (x3 : Int32) (x5 : Int32) (x6 : Int32) (x7 : Int32) (x8 : Int32) (σ : zSt) : Option ((Int32 × zSt) ⊕ (zSt)) :=
  gfI Γ σ x2 0 0 fun v18 =>
  if v18 ≤ x8 then (some (.inr σ)) else (gfR Γ σ x0 0 3 fun v19 =>
  ldG Γ σ v19 x5 fun v20 =>
  gfI Γ σ x0 0 0 fun v21 =>
  gfR Γ σ x2 0 1 fun v22 =>
  ldI Γ σ v22 x8 fun v23 =>
  rmI (x7 * v23) 10007 fun v24 =>
  stI Γ σ v20 (((x6 * v21) + x3) + x8) v24 fun σ25 =>
  some (.inl ((x8 + 1), σ25)))
def f_X0_becomeCauchy_B80 (Γ : zSh) (x0 : Nat) (x1 : Nat) (x2 : Nat) (x3 : Int32) (x5 : Int32) (x6 : Int32) (σ : zSt) : Option ((Int32 × zSt) ⊕ (zSt)) :=
  if x3 ≤ x6 then (some (.inr σ)) else (chk (isO Γ x1 0) <| bnd (f_X0_stepThenLast Γ x1 x5 x6 σ) fun r17 σ16 =>
  lb0 (loopM (fun q => f_X0_becomeCauchy_B99 Γ x0 x1 x2 x3 x5 x6 r17 q.1 q.2) FUEL (0, σ16)) fun σ26 =>
  some (.inl ((x6 + 1), σ26)))
def f_X0_becomeCauchy_B71 (Γ : zSh) (x0 : Nat) (x1 : Nat) (x2 : Nat) (x3 : Int32) (x5 : Int32) (σ : zSt) : Option ((Int32 × zSt) ⊕ (zSt)) :=
  if 2 ≤ x5 then (some (.inr σ)) else (lb0 (loopM (fun q => f_X0_becomeCauchy_B80 Γ x0 x1 x2 x3 x5 q.1 q.2) FUEL (0, σ)) fun σ27 =>
  some (.inl ((x5 + 1), σ27)))
def f_X0_becomeCauchy (Γ : zSh) (a0 : Nat) (a1 : Nat) (a2 : Nat) (σ : zSt) : Option (Unit × zSt) :=
  chk (isO Γ a0 0) <| bnd (f_X0_becomeSum Γ a0 a1 a2 σ) fun _ σ1 =>
  gfI Γ σ1 a1 0 0 fun v2 =>
  gfR Γ σ1 a0 0 2 fun v3 =>
  chk (isO Γ a2 0) <| bnd (f_X0_emptyWeight Γ a2 σ1) fun r5 σ4 =>
  bnd (f_X6_multiply Γ v3 r5 v2 σ4) fun _ σ6 =>
  chk (isO Γ a1 0) <| bnd (f_X0_emptyWeight Γ a1 σ6) fun r8 σ7 =>
  lb0 (loopM (fun q => f_X0_becomeCauchy_B32 Γ a0 a1 a2 v2 r8 q.1 q.2) FUEL (v2, σ7)) fun σ15 =>
  lb0 (loopM (fun q => f_X0_becomeCauchy_B71 Γ a0 a1 a2 v2 q.1 q.2) FUEL (0, σ15)) fun σ28 =>
  some ((), σ28)
def f_X0_hasStar_L21 (Γ : zSh) (s0 : Int32) (σ : zSt) : Option (Int32 × zSt) :=
  chk (isB s0) (some (s0, σ))
def f_X0_hasStar_L20 (Γ : zSh)  (σ : zSt) : Option (Int32 × zSt) :=
  f_X0_hasStar_L21 Γ 0 σ
def f_X0_hasStar (Γ : zSh) (a0 : Nat) (σ : zSt) : Option (Int32 × zSt) :=
  gfI Γ σ a0 0 0 fun v1 =>
  if 12 ≤ v1 then (f_X0_hasStar_L20 Γ σ) else (chk (isO Γ a0 0) <| bnd (f_X0_emptyWeight Γ a0 σ) fun r3 σ2 =>
  if r3 = 0 then (f_X0_hasStar_L21 Γ 1 σ2) else (f_X0_hasStar_L20 Γ σ2))
def f_X0_initialThenStep_B5 (Γ : zSh) (x0 : Nat) (x1 : Int32) (x2 : Int32) (x3 : Int32) (x4 : Int32) (σ : zSt) : Option ((Int32 × Int32 × zSt) ⊕ (Int32 × zSt)) :=
  gfI Γ σ x0 0 0 fun v1 =>
  if v1 ≤ x4 then (some (.inr (x3, σ))) else (gfR Γ σ x0 0 1 fun v2 =>
  ldI Γ σ v2 x4 fun v3 =>
  gfR Γ σ x0 0 3 fun v4 =>
  ldG Γ σ v4 x1 fun v5 =>
  gfI Γ σ x0 0 0 fun v6 =>
  ldI Γ σ v5 ((x4 * v6) + x2) fun v7 =>
  rmI (x3 + (v3 * v7)) 10007 fun v8 =>
  some (.inl (v8, (x4 + 1), σ)))
def f_X0_initialThenStep (Γ : zSh) (a0 : Nat) (a1 : Int32) (a2 : Int32) (σ : zSt) : Option (Int32 × zSt) :=
  lb1 (loopM (fun q => f_X0_initialThenStep_B5 Γ a0 a1 a2 q.1 q.2.1 q.2.2) FUEL (0, 0, σ)) fun w10 σ9 =>
  some (w10, σ9)
def f_X0_becomeStar_B68 (Γ : zSh) (x0 : Nat) (x1 : Nat) (x2 : Int32) (x3 : Int32) (x4 : Int32) (σ : zSt) : Option ((Int32 × Int32 × zSt) ⊕ (Int32 × zSt)) :=
  gfI Γ σ x1 0 0 fun v14 =>
  if v14 ≤ x4 then (some (.inr (x3, σ))) else (chk (isO Γ x1 0) <| bnd (f_X0_stepThenLast Γ x1 x2 x4 σ) fun r16 σ15 =>
  gfR Γ σ15 x1 0 1 fun v17 =>
  ldI Γ σ15 v17 x4 fun v18 =>
  rmI (x3 + (v18 * r16)) 10007 fun v19 =>
  gfR Γ σ15 x0 0 3 fun v20 =>
  ldG Γ σ15 v20 x2 fun v21 =>
  gfI Γ σ15 x0 0 0 fun v22 =>
  stI Γ σ15 v21 ((1 + x4) * v22) r16 fun σ23 =>
  gfR Γ σ23 x0 0 3 fun v24 =>
  ldG Γ σ23 v24 x2 fun v25 =>
  chk (isO Γ x1 0) <| bnd (f_X0_initialThenStep Γ x1 x2 x4 σ23) fun r27 σ26 =>
  stI Γ σ26 v25 (1 + x4) r27 fun σ28 =>
  some (.inl (v19, (x4 + 1), σ28)))
def f_X0_becomeStar_B58 (Γ : zSh) (x0 : Nat) (x1 : Nat) (x2 : Int32) (σ : zSt) : Option ((Int32 × zSt) ⊕ (zSt)) :=
  if 2 ≤ x2 then (some (.inr σ)) else (lb1 (loopM (fun q => f_X0_becomeStar_B68 Γ x0 x1 x2 q.1 q.2.1 q.2.2) FUEL (0, 0, σ)) fun w30 σ29 =>
  gfR Γ σ29 x0 0 3 fun v31 =>
  ldG Γ σ29 v31 x2 fun v32 =>
  stI Γ σ29 v32 0 w30 fun σ33 =>
  some (.inl ((x2 + 1), σ33)))
def f_X0_becomeStar (Γ : zSh) (a0 : Nat) (a1 : Nat) (σ : zSt) : Option (Unit × zSt) :=
  gfI Γ σ a1 0 0 fun v1 =>
  chk (isO Γ a0 0) <| bnd (f_X0_clear Γ a0 (v1 + 1) σ) fun _ σ2 =>
  chk (isO Γ a0 0) <| bnd (f_X0_placeBlock Γ a0 a1 1 σ2) fun _ σ3 =>
  gfR Γ σ3 a0 0 1 fun v4 =>
  gfI Γ σ3 a0 0 0 fun v5 =>
  bnd (f_J7_fill_fda19 Γ v4 0 v5 0 σ3) fun _ σ6 =>
  gfR Γ σ6 a0 0 2 fun v7 =>
  gfI Γ σ6 a0 0 0 fun v8 =>
  bnd (f_J7_fill_fda19 Γ v7 0 v8 0 σ6) fun _ σ9 =>
  gfR Γ σ9 a0 0 1 fun v10 =>
  stI Γ σ9 v10 0 1 fun σ11 =>
  gfR Γ σ11 a0 0 2 fun v12 =>
  stI Γ σ11 v12 0 1 fun σ13 =>
  lb0 (loopM (fun q => f_X0_becomeStar_B58 Γ a0 a1 q.1 q.2) FUEL (0, σ13)) fun σ34 =>
  some ((), σ34)
def f_X0_startAfter_B2 (Γ : zSh) (x0 : Nat) (x1 : Nat) (x2 : Int32) (x3 : Int32) (σ : zSt) : Option ((Int32 × zSt) ⊕ (zSt)) :=
  gfI Γ σ x0 0 0 fun v1 =>
  if v1 ≤ x3 then (some (.inr σ)) else (gfR Γ σ x0 0 1 fun v2 =>
  chk (isO Γ x1 0) <| bnd (f_X0_initialThenStep Γ x1 x2 x3 σ) fun r4 σ3 =>
  stI Γ σ3 v2 x3 r4 fun σ5 =>
  some (.inl ((x3 + 1), σ5)))
def f_X0_startAfter (Γ : zSh) (a0 : Nat) (a1 : Nat) (a2 : Int32) (σ : zSt) : Option (Unit × zSt) :=
  lb0 (loopM (fun q => f_X0_startAfter_B2 Γ a0 a1 a2 q.1 q.2) FUEL (0, σ)) fun σ6 =>
  some ((), σ6)
def f_X0_transpose_B12 (Γ : zSh) (x0 : Nat) (x1 : Nat) (x2 : Int32) (x3 : Int32) (σ : zSt) : Option ((Int32 × zSt) ⊕ (zSt)) :=
  if x2 ≤ x3 then (some (.inr σ)) else (gfI Γ σ x0 0 0 fun v2 =>
  ldI Γ σ x1 ((x2 * v2) + x3) fun v3 =>
  gfI Γ σ x0 0 0 fun v4 =>
  gfI Γ σ x0 0 0 fun v5 =>
  ldI Γ σ x1 ((x3 * v5) + x2) fun v6 =>
  stI Γ σ x1 ((x2 * v4) + x3) v6 fun σ7 =>
  gfI Γ σ7 x0 0 0 fun v8 =>
  stI Γ σ7 x1 ((x3 * v8) + x2) v3 fun σ9 =>
  some (.inl ((x3 + 1), σ9)))
def f_X0_transpose_B2 (Γ : zSh) (x0 : Nat) (x1 : Nat) (x2 : Int32) (σ : zSt) : Option ((Int32 × zSt) ⊕ (zSt)) :=
  gfI Γ σ x0 0 0 fun v1 =>
  if v1 ≤ x2 then (some (.inr σ)) else (lb0 (loopM (fun q => f_X0_transpose_B12 Γ x0 x1 x2 q.1 q.2) FUEL (0, σ)) fun σ10 =>
  some (.inl ((x2 + 1), σ10)))
def f_X0_transpose (Γ : zSh) (a0 : Nat) (a1 : Nat) (σ : zSt) : Option (Unit × zSt) :=
  lb0 (loopM (fun q => f_X0_transpose_B2 Γ a0 a1 q.1 q.2) FUEL (0, σ)) fun σ11 =>
  some ((), σ11)
def f_X0_reverse_B2 (Γ : zSh) (x0 : Nat) (x1 : Int32) (σ : zSt) : Option ((Int32 × zSt) ⊕ (zSt)) :=
  gfI Γ σ x0 0 0 fun v1 =>
  if v1 ≤ x1 then (some (.inr σ)) else (gfR Γ σ x0 0 1 fun v2 =>
  ldI Γ σ v2 x1 fun v3 =>
  gfR Γ σ x0 0 1 fun v4 =>
  gfR Γ σ x0 0 2 fun v5 =>
  ldI Γ σ v5 x1 fun v6 =>
  stI Γ σ v4 x1 v6 fun σ7 =>
  gfR Γ σ7 x0 0 2 fun v8 =>
  stI Γ σ7 v8 x1 v3 fun σ9 =>
  some (.inl ((x1 + 1), σ9)))
def f_X0_reverse_B44 (Γ : zSh) (x0 : Nat) (x1 : Int32) (σ : zSt) : Option ((Int32 × zSt) ⊕ (zSt)) :=
  if 2 ≤ x1 then (some (.inr σ)) else (gfR Γ σ x0 0 3 fun v11 =>
  ldG Γ σ v11 x1 fun v12 =>
  chk (isO Γ x0 0) <| bnd (f_X0_transpose Γ x0 v12 σ) fun _ σ13 =>
  some (.inl ((x1 + 1), σ13)))
def f_X0_reverse (Γ : zSh) (a0 : Nat) (σ : zSt) : Option (Unit × zSt) :=
  lb0 (loopM (fun q => f_X0_reverse_B2 Γ a0 q.1 q.2) FUEL (0, σ)) fun σ10 =>
  lb0 (loopM (fun q => f_X0_reverse_B44 Γ a0 q.1 q.2) FUEL (0, σ10)) fun σ14 =>
  some ((), σ14)
def f_X0_addStep_B11_L82 (Γ : zSh) (x0 : Nat) (x1 : Nat) (x3 : Nat) (x4 : Nat) (x5 : Int32) (σ : zSt) : Option ((Int32 × zSt) ⊕ (zSt)) :=
  some (.inl ((x5 + 1), σ))
def f_X0_addStep_B43 (Γ : zSh) (x0 : Nat) (x1 : Nat) (x3 : Nat) (x4 : Nat) (x5 : Int32) (x6 : Int32) (x7 : Int32) (x8 : Int32) (σ : zSt) : Option ((Int32 × zSt) ⊕ (zSt)) :=
  gfI Γ σ x0 0 0 fun v6 =>
  if v6 ≤ x8 then (some (.inr σ)) else (ldI Γ σ x3 x8 fun v7 =>
  ldI Γ σ x4 (x7 + x8) fun v8 =>
  rmI (v7 + (x6 * v8)) 10007 fun v9 =>
  stI Γ σ x3 x8 v9 fun σ10 =>
  some (.inl ((x8 + 1), σ10)))
def f_X0_addStep_B11 (Γ : zSh) (x0 : Nat) (x1 : Nat) (x3 : Nat) (x4 : Nat) (x5 : Int32) (σ : zSt) : Option ((Int32 × zSt) ⊕ (zSt)) :=
  gfI Γ σ x0 0 0 fun v3 =>
  if v3 ≤ x5 then (some (.inr σ)) else (ldI Γ σ x1 x5 fun v4 =>
  if v4 = 0 then (f_X0_addStep_B11_L82 Γ x0 x1 x3 x4 x5 σ) else (gfI Γ σ x0 0 0 fun v5 =>
  lb0 (loopM (fun q => f_X0_addStep_B43 Γ x0 x1 x3 x4 x5 v4 (x5 * v5) q.1 q.2) FUEL (0, σ)) fun σ11 =>
  f_X0_addStep_B11_L82 Γ x0 x1 x3 x4 x5 σ11))
def f_X0_addStep (Γ : zSh) (a0 : Nat) (a1 : Nat) (a2 : Int32) (a3 : Nat) (σ : zSt) : Option (Unit × zSt) :=
  gfR Γ σ a0 0 3 fun v1 =>
  ldG Γ σ v1 a2 fun v2 =>
  lb0 (loopM (fun q => f_X0_addStep_B11 Γ a0 a1 a3 v2 q.1 q.2) FUEL (0, σ)) fun σ12 =>
  some ((), σ12)
def f_X0_takeStep (Γ : zSh) (a0 : Nat) (a1 : Nat) (a2 : Int32) (a3 : Nat) (σ : zSt) : Option (Unit × zSt) :=
  gfI Γ σ a0 0 0 fun v1 =>
  bnd (f_J7_fill_fda19 Γ a3 0 v1 0 σ) fun _ σ2 =>
  chk (isO Γ a0 0) <| bnd (f_X0_addStep Γ a0 a1 a2 a3 σ2) fun _ σ3 =>
  some ((), σ3)
def f_X0_hash_B15 (Γ : zSh) (x0 : Nat) (x3 : Int64) (x5 : Int32) (σ : zSt) : Option ((Int64 × Int32 × zSt) ⊕ (Int64 × zSt)) :=
  gfI Γ σ x0 0 0 fun v2 =>
  if v2 ≤ x5 then (some (.inr (x3, σ))) else (gfR Γ σ x0 0 1 fun v3 =>
  ldI Γ σ v3 x5 fun v4 =>
  gfR Γ σ x0 0 2 fun v5 =>
  ldI Γ σ v5 x5 fun v6 =>
  some (.inl (((31 * ((31 * x3) + (v4.toInt64))) + (v6.toInt64)), (x5 + 1), σ)))
def f_X0_hash_B72 (Γ : zSh) (x0 : Nat) (x5 : Int32) (x3 : Int64) (x6 : Int32) (σ : zSt) : Option ((Int64 × Int32 × zSt) ⊕ (Int64 × zSt)) :=
  gfI Γ σ x0 0 0 fun v9 =>
  gfI Γ σ x0 0 0 fun v10 =>
  if (v9 * v10) ≤ x6 then (some (.inr (x3, σ))) else (gfR Γ σ x0 0 3 fun v11 =>
  ldG Γ σ v11 x5 fun v12 =>
  ldI Γ σ v12 x6 fun v13 =>
  some (.inl (((31 * x3) + (v13.toInt64)), (x6 + 1), σ)))
def f_X0_hash_B63 (Γ : zSh) (x0 : Nat) (x3 : Int64) (x5 : Int32) (σ : zSt) : Option ((Int64 × Int32 × zSt) ⊕ (Int64 × zSt)) :=
  if 2 ≤ x5 then (some (.inr (x3, σ))) else (lb1 (loopM (fun q => f_X0_hash_B72 Γ x0 x5 q.1 q.2.1 q.2.2) FUEL (x3, 0, σ)) fun w15 σ14 =>
  some (.inl (w15, (x5 + 1), σ14)))
def f_X0_hash (Γ : zSh) (a0 : Nat) (a1 : Int64) (σ : zSt) : Option (Int64 × zSt) :=
  gfI Γ σ a0 0 0 fun v1 =>
  lb1 (loopM (fun q => f_X0_hash_B15 Γ a0 q.1 q.2.1 q.2.2) FUEL (((31 * a1) + (v1.toInt64)), 0, σ)) fun w8 σ7 =>
  lb1 (loopM (fun q => f_X0_hash_B63 Γ a0 q.1 q.2.1 q.2.2) FUEL (w8, 0, σ7)) fun w17 σ16 =>
  some (w17, σ16)
def f_X6_addMultiple_B3 (Γ : zSh) (x0 : Nat) (x1 : Int32) (x2 : Nat) (x3 : Int32) (x4 : Int32) (σ : zSt) : Option ((Int32 × zSt) ⊕ (zSt)) :=
  if x3 ≤ x4 then (some (.inr σ)) else (ldI Γ σ x0 x4 fun v1 =>
  ldI Γ σ x2 x4 fun v2 =>
  rmI (v1 + (x1 * v2)) 10007 fun v3 =>
  stI Γ σ x0 x4 v3 fun σ4 =>
  some (.inl ((x4 + 1), σ4)))
def f_X6_addMultiple (Γ : zSh) (a0 : Nat) (a1 : Int32) (a2 : Nat) (a3 : Int32) (σ : zSt) : Option (Unit × zSt) :=
  lb0 (loopM (fun q => f_X6_addMultiple_B3 Γ a0 a1 a2 a3 q.1 q.2) FUEL (0, σ)) fun σ5 =>
  some ((), σ5)
def f_X6_firstNonZero_B2 (Γ : zSh) (x0 : Nat) (x1 : Int32) (x2 : Int32) (σ : zSt) : Option ((Int32 × zSt) ⊕ ((zSt) ⊕ (Int32 × zSt))) :=
  if x1 ≤ x2 then (some (.inr (.inl σ))) else (ldI Γ σ x0 x2 fun v1 =>
  if v1 = 0 then (some (.inl ((x2 + 1), σ))) else (some (.inr (.inr (x2, σ)))))
def f_X6_firstNonZero (Γ : zSh) (a0 : Nat) (a1 : Int32) (σ : zSt) : Option (Int32 × zSt) :=
  lbr (loopM (fun q => f_X6_firstNonZero_B2 Γ a0 a1 q.1 q.2) FUEL (0, σ)) (fun v σ => some (v, σ)) fun o => lb0 o fun σ2 =>
  some ((-1), σ2)
def f_X6_reciprocal_B8_L27 (Γ : zSh) (x1 : Int32) (x2 : Int32) (x3 : Int32) (σ : zSt) : Option ((Int32 × Int32 × Int32 × zSt) ⊕ (Int32 × zSt)) :=
  rmI (x2 * x2) 10007 fun v1 =>
  some (.inl (x1, v1, (x3 >>> (1 &&& 31)), σ))
def f_X6_reciprocal_B8 (Γ : zSh) (x1 : Int32) (x2 : Int32) (x3 : Int32) (σ : zSt) : Option ((Int32 × Int32 × Int32 × zSt) ⊕ (Int32 × zSt)) :=
  if x3 ≤ 0 then (some (.inr (x1, σ))) else (if (x3 &&& 1) = 1 then (rmI (x1 * x2) 10007 fun v2 =>
  f_X6_reciprocal_B8_L27 Γ v2 x2 x3 σ) else (f_X6_reciprocal_B8_L27 Γ x1 x2 x3 σ))
def f_X6_reciprocal (Γ : zSh) (a0 : Int32) (σ : zSt) : Option (Int32 × zSt) :=
  lb1 (loopM (fun q => f_X6_reciprocal_B8 Γ q.1 q.2.1 q.2.2.1 q.2.2.2) FUEL (1, a0, 10005, σ)) fun w4 σ3 =>
  some (w4, σ3)
def f_X1_extend_B8 (Γ : zSh) (x0 : Nat) (x1 : Int32) (x2 : Int32) (x3 : Int32) (x4 : Int32) (σ : zSt) : Option ((Int32 × zSt) ⊕ (zSt)) :=
  if x2 ≤ x4 then (some (.inr σ)) else (gfR Γ σ x0 1 3 fun v2 =>
  ldG Γ σ v2 x3 fun v3 =>
  gfR Γ σ x0 1 8 fun v4 =>
  ldI Γ σ v4 x4 fun v5 =>
  stI Γ σ v3 x4 v5 fun σ6 =>
  gfR Γ σ6 x0 1 4 fun v7 =>
  ldG Γ σ6 v7 x3 fun v8 =>
  gfR Γ σ6 x0 1 9 fun v9 =>
  ldI Γ σ6 v9 x4 fun v10 =>
  rmI (v10 * x1) 10007 fun v11 =>
  stI Γ σ6 v8 x4 v11 fun σ12 =>
  gfR Γ σ12 x0 1 5 fun v13 =>
  ldG Γ σ12 v13 x3 fun v14 =>
  gfR Γ σ12 x0 1 10 fun v15 =>
  ldI Γ σ12 v15 x4 fun v16 =>
  rmI (v16 * (10007 - x1)) 10007 fun v17 =>
  stI Γ σ12 v14 x4 v17 fun σ18 =>
  gfR Γ σ18 x0 1 10 fun v19 =>
  stI Γ σ18 v19 x4 0 fun σ20 =>
  some (.inl ((x4 + 1), σ20)))
def f_X1_extend (Γ : zSh) (a0 : Nat) (a1 : Int32) (a2 : Int32) (σ : zSt) : Option (Unit × zSt) :=
  gfI Γ σ a0 1 0 fun v1 =>
  lb0 (loopM (fun q => f_X1_extend_B8 Γ a0 a1 a2 v1 q.1 q.2) FUEL (0, σ)) fun σ21 =>
  gfR Γ σ21 a0 1 5 fun v22 =>
  ldG Γ σ21 v22 v1 fun v23 =>
  stI Γ σ21 v23 v1 a1 fun σ24 =>
  gfR Γ σ24 a0 1 10 fun v25 =>
  stI Γ σ24 v25 v1 1 fun σ26 =>
  gfI Γ σ26 a0 1 0 fun v27 =>
  pfI Γ σ26 a0 1 0 (v27 + 1) fun σ28 =>
  some ((), σ28)
def f_X1_place_B32_L98 (Γ : zSh) (x0 : Nat) (x1 : Nat) (x2 : Int32) (x3 : Int32) (x4 : Int32) (σ : zSt) : Option ((Int32 × zSt) ⊕ (zSt)) :=
  some (.inl ((x4 + 1), σ))
def f_X1_place_B32 (Γ : zSh) (x0 : Nat) (x1 : Nat) (x2 : Int32) (x3 : Int32) (x4 : Int32) (σ : zSt) : Option ((Int32 × zSt) ⊕ (zSt)) :=
  gfI Γ σ x0 1 0 fun v7 =>
  if v7 ≤ x4 then (some (.inr σ)) else (gfR Γ σ x0 1 9 fun v8 =>
  gfR Γ σ x0 1 6 fun v9 =>
  ldI Γ σ v9 x4 fun v10 =>
  ldI Γ σ v8 v10 fun v11 =>
  if v11 = 0 then (f_X1_place_B32_L98 Γ x0 x1 x2 x3 x4 σ) else (gfR Γ σ x0 1 9 fun v12 =>
  gfR Γ σ x0 1 4 fun v13 =>
  ldG Γ σ v13 x4 fun v14 =>
  bnd (f_X6_addMultiple Γ v12 (10007 - v11) v14 x3 σ) fun _ σ15 =>
  gfR Γ σ15 x0 1 10 fun v16 =>
  gfR Γ σ15 x0 1 5 fun v17 =>
  ldG Γ σ15 v17 x4 fun v18 =>
  bnd (f_X6_addMultiple Γ v16 v11 v18 x3 σ15) fun _ σ19 =>
  f_X1_place_B32_L98 Γ x0 x1 x2 x3 x4 σ19))
def f_X1_place_L182 (Γ : zSh)  (σ : zSt) : Option (Unit × zSt) :=
  some ((), σ)
def f_X1_place (Γ : zSh) (a0 : Nat) (a1 : Nat) (a2 : Int32) (σ : zSt) : Option (Unit × zSt) :=
  gfI Γ σ a1 0 0 fun v1 =>
  gfR Γ σ a0 1 8 fun v2 =>
  gfR Γ σ a0 1 9 fun v3 =>
  cpI Γ σ v2 0 v3 0 v1 fun σ4 =>
  gfR Γ σ4 a0 1 10 fun v5 =>
  bnd (f_J7_fill_fda19 Γ v5 0 v1 0 σ4) fun _ σ6 =>
  lb0 (loopM (fun q => f_X1_place_B32 Γ a0 a1 a2 v1 q.1 q.2) FUEL (0, σ6)) fun σ20 =>
  gfR Γ σ20 a0 1 9 fun v21 =>
  bnd (f_X6_firstNonZero Γ v21 v1 σ20) fun r23 σ22 =>
  if r23 = (-1) then (f_X1_place_L182 Γ σ22) else (gfI Γ σ22 a0 1 0 fun v24 =>
  if 24 ≤ v24 then (f_X1_place_L182 Γ σ22) else (gfR Γ σ22 a0 1 1 fun v25 =>
  gfI Γ σ22 a0 1 0 fun v26 =>
  stI Γ σ22 v25 v26 a2 fun σ27 =>
  gfR Γ σ27 a0 1 2 fun v28 =>
  gfI Γ σ27 a0 1 0 fun v29 =>
  gfR Γ σ27 a0 1 8 fun v30 =>
  chk (isO Γ a1 0) <| bnd (f_X0_weightFrom Γ a1 v30 σ27) fun r32 σ31 =>
  stI Γ σ31 v28 v29 r32 fun σ33 =>
  gfR Γ σ33 a0 1 6 fun v34 =>
  gfI Γ σ33 a0 1 0 fun v35 =>
  stI Γ σ33 v34 v35 r23 fun σ36 =>
  gfR Γ σ36 a0 1 9 fun v37 =>
  ldI Γ σ36 v37 r23 fun v38 =>
  bnd (f_X6_reciprocal Γ v38 σ36) fun r40 σ39 =>
  chk (isO Γ a0 1) <| bnd (f_X1_extend Γ a0 r40 v1 σ39) fun _ σ41 =>
  f_X1_place_L182 Γ σ41))
def f_X1_explore_B49 (Γ : zSh) (x0 : Nat) (x1 : Nat) (x2 : Int32) (x3 : Int32) (x4 : Int32) (σ : zSt) : Option ((Int32 × zSt) ⊕ (zSt)) :=
  if 2 ≤ x4 then (some (.inr σ)) else (gfR Γ σ x0 1 3 fun v8 =>
  ldG Γ σ v8 x3 fun v9 =>
  gfR Γ σ x0 1 8 fun v10 =>
  chk (isO Γ x1 0) <| bnd (f_X0_takeStep Γ x1 v9 x4 v10 σ) fun _ σ11 =>
  gfR Γ σ11 x0 1 1 fun v12 =>
  ldI Γ σ11 v12 x3 fun v13 =>
  chk (isO Γ x0 1) <| bnd (f_X1_place Γ x0 x1 (((2 * v13) + 1) + x4) σ11) fun _ σ14 =>
  gfR Γ σ14 x0 1 10 fun v15 =>
  gfR Γ σ14 x0 1 7 fun v16 =>
  ldG Γ σ14 v16 ((2 * x3) + x4) fun v17 =>
  cpI Γ σ14 v15 0 v17 0 x2 fun σ18 =>
  some (.inl ((x4 + 1), σ18)))
def f_X1_explore_B32 (Γ : zSh) (x0 : Nat) (x1 : Nat) (x2 : Int32) (x3 : Int32) (σ : zSt) : Option ((Int32 × zSt) ⊕ (zSt)) :=
  gfI Γ σ x0 1 0 fun v7 =>
  if v7 ≤ x3 then (some (.inr σ)) else (if 24 ≤ x3 then (some (.inr σ)) else (lb0 (loopM (fun q => f_X1_explore_B49 Γ x0 x1 x2 x3 q.1 q.2) FUEL (0, σ)) fun σ19 =>
  some (.inl ((x3 + 1), σ19))))
def f_X1_explore (Γ : zSh) (a0 : Nat) (a1 : Nat) (σ : zSt) : Option (Unit × zSt) :=
  gfI Γ σ a1 0 0 fun v1 =>
  pfI Γ σ a0 1 0 0 fun σ2 =>
  gfR Γ σ2 a1 0 1 fun v3 =>
  gfR Γ σ2 a0 1 8 fun v4 =>
  cpI Γ σ2 v3 0 v4 0 v1 fun σ5 =>
  chk (isO Γ a0 1) <| bnd (f_X1_place Γ a0 a1 0 σ5) fun _ σ6 =>
  lb0 (loopM (fun q => f_X1_explore_B32 Γ a0 a1 v1 q.1 q.2) FUEL (0, σ6)) fun σ20 =>
  some ((), σ20)
def f_X1_firstWeighted_L27 (Γ : zSh) (s0 : Int32) (σ : zSt) : Option (Int32 × zSt) :=
  some (s0, σ)
def f_X1_firstWeighted (Γ : zSh) (a0 : Nat) (σ : zSt) : Option (Int32 × zSt) :=
  gfR Γ σ a0 1 2 fun v1 =>
  gfI Γ σ a0 1 0 fun v2 =>
  bnd (f_X6_firstNonZero Γ v1 v2 σ) fun r4 σ3 =>
  if r4 = (-1) then (f_X1_firstWeighted_L27 Γ (-1) σ3) else (gfR Γ σ3 a0 1 1 fun v5 =>
  ldI Γ σ3 v5 r4 fun v6 =>
  f_X1_firstWeighted_L27 Γ v6 σ3)
def f_X1_build_B52 (Γ : zSh) (x0 : Nat) (x1 : Nat) (x2 : Int32) (x3 : Int32) (σ : zSt) : Option ((Int32 × zSt) ⊕ (zSt)) :=
  if 2 ≤ x3 then (some (.inr σ)) else (gfR Γ σ x0 1 7 fun v10 =>
  ldG Γ σ v10 ((2 * x2) + x3) fun v11 =>
  gfR Γ σ x1 0 3 fun v12 =>
  ldG Γ σ v12 x3 fun v13 =>
  gfI Γ σ x0 1 0 fun v14 =>
  gfI Γ σ x0 1 0 fun v15 =>
  cpI Γ σ v11 0 v13 (x2 * v14) v15 fun σ16 =>
  some (.inl ((x3 + 1), σ16)))
def f_X1_build_B27_L49 (Γ : zSh) (x0 : Nat) (x1 : Nat) (x2 : Int32) (s0 : Int32) (s1 : Int32) (s2 : Nat) (σ : zSt) : Option ((Int32 × zSt) ⊕ (zSt)) :=
  stI Γ σ s2 s1 s0 fun σ9 =>
  lb0 (loopM (fun q => f_X1_build_B52 Γ x0 x1 x2 q.1 q.2) FUEL (0, σ9)) fun σ17 =>
  some (.inl ((x2 + 1), σ17))
def f_X1_build_B27 (Γ : zSh) (x0 : Nat) (x1 : Nat) (x2 : Int32) (σ : zSt) : Option ((Int32 × zSt) ⊕ (zSt)) :=
  gfI Γ σ x0 1 0 fun v7 =>
  if v7 ≤ x2 then (some (.inr σ)) else (gfR Γ σ x1 0 1 fun v8 =>
  if x2 = 0 then (f_X1_build_B27_L49 Γ x0 x1 x2 1 x2 v8 σ) else (f_X1_build_B27_L49 Γ x0 x1 x2 0 x2 v8 σ))
def f_X1_build (Γ : zSh) (a0 : Nat) (a1 : Nat) (σ : zSt) : Option (Unit × zSt) :=
  gfI Γ σ a0 1 0 fun v1 =>
  chk (isO Γ a1 0) <| bnd (f_X0_clear Γ a1 v1 σ) fun _ σ2 =>
  gfR Γ σ2 a0 1 2 fun v3 =>
  gfR Γ σ2 a1 0 2 fun v4 =>
  gfI Γ σ2 a0 1 0 fun v5 =>
  cpI Γ σ2 v3 0 v4 0 v5 fun σ6 =>
  lb0 (loopM (fun q => f_X1_build_B27 Γ a0 a1 q.1 q.2) FUEL (0, σ6)) fun σ18 =>
  some ((), σ18)
def f_X1_reduce (Γ : zSh) (a0 : Nat) (a1 : Nat) (σ : zSt) : Option (Unit × zSt) :=
  chk (isO Γ a0 1) <| bnd (f_X1_explore Γ a0 a1 σ) fun _ σ1 =>
  chk (isO Γ a0 1) <| bnd (f_X1_build Γ a0 a1 σ1) fun _ σ2 =>
  some ((), σ2)
def f_X1_minimize_B2 (Γ : zSh) (x0 : Nat) (x1 : Nat) (x2 : Int32) (σ : zSt) : Option ((Int32 × zSt) ⊕ (zSt)) :=
  if 2 ≤ x2 then (some (.inr σ)) else (chk (isO Γ x0 1) <| bnd (f_X1_explore Γ x0 x1 σ) fun _ σ1 =>
  chk (isO Γ x0 1) <| bnd (f_X1_build Γ x0 x1 σ1) fun _ σ2 =>
  chk (isO Γ x1 0) <| bnd (f_X0_reverse Γ x1 σ2) fun _ σ3 =>
  some (.inl ((x2 + 1), σ3)))
def f_X1_minimize (Γ : zSh) (a0 : Nat) (a1 : Nat) (σ : zSt) : Option (Unit × zSt) :=
  lb0 (loopM (fun q => f_X1_minimize_B2 Γ a0 a1 q.1 q.2) FUEL (0, σ)) fun σ4 =>
  some ((), σ4)
def f_X3_raisePivot_B3 (Γ : zSh) (x0 : Nat) (x1 : Int32) (x2 : Int32) (x3 : Int32) (x4 : Int32) (σ : zSt) : Option ((Int32 × zSt) ⊕ ((zSt) ⊕ (Int32 × zSt))) :=
  if x2 ≤ x4 then (some (.inr (.inl σ))) else (gfR Γ σ x0 3 0 fun v1 =>
  ldG Γ σ v1 x4 fun v2 =>
  ldI Γ σ v2 x3 fun v3 =>
  if v3 = 0 then (some (.inl ((x4 + 1), σ))) else (gfR Γ σ x0 3 0 fun v4 =>
  ldG Γ σ v4 x4 fun v5 =>
  gfR Γ σ x0 3 0 fun v6 =>
  gfR Γ σ x0 3 0 fun v7 =>
  ldG Γ σ v7 x1 fun v8 =>
  chk (decide (v8 ≠ 0)) <| stG Γ σ v6 x4 v8 fun σ9 =>
  gfR Γ σ9 x0 3 0 fun v10 =>
  chk (decide (v5 ≠ 0)) <| stG Γ σ9 v10 x1 v5 fun σ11 =>
  chk (isB 1) (some (.inr (.inr (1, σ11))))))
def f_X3_raisePivot (Γ : zSh) (a0 : Nat) (a1 : Int32) (a2 : Int32) (a3 : Int32) (σ : zSt) : Option (Int32 × zSt) :=
  lbr (loopM (fun q => f_X3_raisePivot_B3 Γ a0 a1 a2 a3 q.1 q.2) FUEL (a1, σ)) (fun v σ => some (v, σ)) fun o => lb0 o fun σ12 =>
  chk (isB 0) (some (0, σ12))
def f_X3_clearBelow_B22_L71 (Γ : zSh) (x0 : Nat) (x1 : Int32) (x2 : Int32) (x3 : Int32) (x4 : Int32) (x5 : Int32) (x6 : Int32) (σ : zSt) : Option ((Int32 × zSt) ⊕ (zSt)) :=
  some (.inl ((x6 + 1), σ))
def f_X3_clearBelow_B22 (Γ : zSh) (x0 : Nat) (x1 : Int32) (x2 : Int32) (x3 : Int32) (x4 : Int32) (x5 : Int32) (x6 : Int32) (σ : zSt) : Option ((Int32 × zSt) ⊕ (zSt)) :=
  if x2 ≤ x6 then (some (.inr σ)) else (gfR Γ σ x0 3 0 fun v6 =>
  ldG Γ σ v6 x6 fun v7 =>
  ldI Γ σ v7 x3 fun v8 =>
  rmI (v8 * x5) 10007 fun v9 =>
  if v9 = 0 then (f_X3_clearBelow_B22_L71 Γ x0 x1 x2 x3 x4 x5 x6 σ) else (gfR Γ σ x0 3 0 fun v10 =>
  ldG Γ σ v10 x6 fun v11 =>
  gfR Γ σ x0 3 0 fun v12 =>
  ldG Γ σ v12 x1 fun v13 =>
  bnd (f_X6_addMultiple Γ v11 v9 v13 x4 σ) fun _ σ14 =>
  f_X3_clearBelow_B22_L71 Γ x0 x1 x2 x3 x4 x5 x6 σ14))
def f_X3_clearBelow (Γ : zSh) (a0 : Nat) (a1 : Int32) (a2 : Int32) (a3 : Int32) (a4 : Int32) (σ : zSt) : Option (Unit × zSt) :=
  gfR Γ σ a0 3 0 fun v1 =>
  ldG Γ σ v1 a1 fun v2 =>
  ldI Γ σ v2 a3 fun v3 =>
  bnd (f_X6_reciprocal Γ v3 σ) fun r5 σ4 =>
  lb0 (loopM (fun q => f_X3_clearBelow_B22 Γ a0 a1 a2 a3 a4 (10007 - r5) q.1 q.2) FUEL ((a1 + 1), σ4)) fun σ15 =>
  some ((), σ15)
def f_X3_rank_B5_L39 (Γ : zSh) (x0 : Nat) (x1 : Int32) (x2 : Int32) (x3 : Int32) (x4 : Int32) (σ : zSt) : Option ((Int32 × Int32 × zSt) ⊕ (Int32 × zSt)) :=
  some (.inl (x3, (x4 + 1), σ))
def f_X3_rank_B5 (Γ : zSh) (x0 : Nat) (x1 : Int32) (x2 : Int32) (x3 : Int32) (x4 : Int32) (σ : zSt) : Option ((Int32 × Int32 × zSt) ⊕ (Int32 × zSt)) :=
  if x2 ≤ x4 then (some (.inr (x3, σ))) else (if x1 ≤ x3 then (some (.inr (x3, σ))) else (chk (isO Γ x0 3) <| bnd (f_X3_raisePivot Γ x0 x3 x1 x4 σ) fun r2 σ1 =>
  if r2 = 0 then (f_X3_rank_B5_L39 Γ x0 x1 x2 x3 x4 σ1) else (chk (isO Γ x0 3) <| bnd (f_X3_clearBelow Γ x0 x3 x1 x4 x2 σ1) fun _ σ3 =>
  f_X3_rank_B5_L39 Γ x0 x1 x2 (x3 + 1) x4 σ3)))
def f_X3_rank (Γ : zSh) (a0 : Nat) (a1 : Int32) (a2 : Int32) (σ : zSt) : Option (Int32 × zSt) :=
  lb1 (loopM (fun q => f_X3_rank_B5 Γ a0 a1 a2 q.1 q.2.1 q.2.2) FUEL (0, 0, σ)) fun w5 σ4 =>
  some (w5, σ4)
def f_J7_fill_53178_B5 (Γ : zSh) (x0 : Nat) (x1 : Int32) (x3 : Int32) (x2 : Int32) (σ : zSt) : Option ((Int32 × zSt) ⊕ (zSt)) :=
  if x3 ≤ x2 then (some (.inr σ)) else (stI Γ σ x0 x2 x1 fun σ2 =>
  some (.inl ((x2 + 1), σ2)))
def f_J7_fill_53178 (Γ : zSh) (a0 : Nat) (a1 : Int32) (σ : zSt) : Option (Unit × zSt) :=
  alI Γ a0 fun v1 =>
  lb0 (loopM (fun q => f_J7_fill_53178_B5 Γ a0 a1 v1 q.1 q.2) FUEL (0, σ)) fun σ3 =>
  some ((), σ3)
def f_X4_start (Γ : zSh) (a0 : Nat) (a1 : Nat) (σ : zSt) : Option (Unit × zSt) :=
  gfR Γ σ a0 4 0 fun v1 =>
  bnd (f_J7_fill_53178 Γ v1 0 σ) fun _ σ2 =>
  gfR Γ σ2 a1 0 1 fun v3 =>
  gfR Γ σ2 a0 4 1 fun v4 =>
  ldG Γ σ2 v4 0 fun v5 =>
  gfI Γ σ2 a1 0 0 fun v6 =>
  cpI Γ σ2 v3 0 v5 0 v6 fun σ7 =>
  some ((), σ7)
def f_X6_lengthOf_B8 (Γ : zSh) (x1 : Int32) (x2 : Int32) (σ : zSt) : Option ((Int32 × Int32 × zSt) ⊕ (Int32 × zSt)) :=
  if x2 ≤ 0 then (some (.inr (x1, σ))) else (some (.inl ((x1 + 1), (x2 >>> (1 &&& 31)), σ)))
def f_X6_lengthOf (Γ : zSh) (a0 : Int32) (σ : zSt) : Option (Int32 × zSt) :=
  lb1 (loopM (fun q => f_X6_lengthOf_B8 Γ q.1 q.2.1 q.2.2) FUEL (0, ((a0 + 1) >>> (1 &&& 31)), σ)) fun w2 σ1 =>
  some (w2, σ1)
def f_X4_weigh_B13_L74 (Γ : zSh) (x0 : Nat) (x1 : Nat) (x2 : Int32) (x3 : Int32) (x4 : Int32) (σ : zSt) : Option ((Int32 × zSt) ⊕ (zSt)) :=
  some (.inl ((x4 + 1), σ))
def f_X4_weigh_B13 (Γ : zSh) (x0 : Nat) (x1 : Nat) (x2 : Int32) (x3 : Int32) (x4 : Int32) (σ : zSt) : Option ((Int32 × zSt) ⊕ (zSt)) :=
  if x3 < x4 then (some (.inr σ)) else (gfR Γ σ x0 4 0 fun v3 =>
  ldI Γ σ v3 x4 fun v4 =>
  if v4 = ((x2 + 1) >>> ((x3 - x4) &&& 31)) then (f_X4_weigh_B13_L74 Γ x0 x1 x2 x3 x4 σ) else (gfR Γ σ x0 4 1 fun v5 =>
  ldG Γ σ v5 (x4 - 1) fun v6 =>
  gfR Γ σ x0 4 1 fun v7 =>
  ldG Γ σ v7 x4 fun v8 =>
  chk (isO Γ x1 0) <| bnd (f_X0_takeStep Γ x1 v6 (((x2 + 1) >>> ((x3 - x4) &&& 31)) &&& 1) v8 σ) fun _ σ9 =>
  gfR Γ σ9 x0 4 0 fun v10 =>
  stI Γ σ9 v10 x4 ((x2 + 1) >>> ((x3 - x4) &&& 31)) fun σ11 =>
  f_X4_weigh_B13_L74 Γ x0 x1 x2 x3 x4 σ11))
def f_X4_weigh (Γ : zSh) (a0 : Nat) (a1 : Nat) (a2 : Int32) (σ : zSt) : Option (Int32 × zSt) :=
  bnd (f_X6_lengthOf Γ a2 σ) fun r2 σ1 =>
  lb0 (loopM (fun q => f_X4_weigh_B13 Γ a0 a1 a2 (if 11 < r2 then 11 else r2) q.1 q.2) FUEL (1, σ1)) fun σ12 =>
  gfR Γ σ12 a0 4 1 fun v13 =>
  ldG Γ σ12 v13 (if 11 < r2 then 11 else r2) fun v14 =>
  chk (isO Γ a1 0) <| bnd (f_X0_weightFrom Γ a1 v14 σ12) fun r16 σ15 =>
  some (r16, σ15)
def f_X5_start (Γ : zSh) (a0 : Nat) (a1 : Nat) (σ : zSt) : Option (Unit × zSt) :=
  gfR Γ σ a1 0 1 fun v1 =>
  gfR Γ σ a0 5 0 fun v2 =>
  gfI Γ σ a1 0 0 fun v3 =>
  cpI Γ σ v1 0 v2 0 v3 fun σ4 =>
  some ((), σ4)
def f_X5_swap (Γ : zSh) (a0 : Nat) (σ : zSt) : Option (Unit × zSt) :=
  gfR Γ σ a0 5 0 fun v1 =>
  gfR Γ σ a0 5 1 fun v2 =>
  pfR Γ σ a0 5 0 v2 fun σ3 =>
  pfR Γ σ3 a0 5 1 v1 fun σ4 =>
  some ((), σ4)
def f_X5_takeWord_B8_L44 (Γ : zSh) (x0 : Nat) (x1 : Nat) (x3 : Int32) (x4 : Int32) (σ : zSt) : Option ((Int32 × zSt) ⊕ (zSt)) :=
  some (.inl ((x4 + (-1)), σ))
def f_X5_takeWord_B8 (Γ : zSh) (x0 : Nat) (x1 : Nat) (x3 : Int32) (x4 : Int32) (σ : zSt) : Option ((Int32 × zSt) ⊕ (zSt)) :=
  if x4 < 0 then (some (.inr σ)) else (if (x3 >>> ((x4 + 1) &&& 31)) = 0 then (f_X5_takeWord_B8_L44 Γ x0 x1 x3 x4 σ) else (gfR Γ σ x0 5 0 fun v1 =>
  gfR Γ σ x0 5 1 fun v2 =>
  chk (isO Γ x1 0) <| bnd (f_X0_takeStep Γ x1 v1 ((x3 >>> (x4 &&& 31)) &&& 1) v2 σ) fun _ σ3 =>
  chk (isO Γ x0 5) <| bnd (f_X5_swap Γ x0 σ3) fun _ σ4 =>
  f_X5_takeWord_B8_L44 Γ x0 x1 x3 x4 σ4))
def f_X5_takeWord (Γ : zSh) (a0 : Nat) (a1 : Nat) (a2 : Int32) (σ : zSt) : Option (Unit × zSt) :=
  lb0 (loopM (fun q => f_X5_takeWord_B8 Γ a0 a1 (a2 + 1) q.1 q.2) FUEL (18, σ)) fun σ5 =>
  some ((), σ5)
def f_X5_takeBoth_B15 (Γ : zSh) (x0 : Nat) (x1 : Nat) (x2 : Int32) (σ : zSt) : Option ((Int32 × zSt) ⊕ (zSt)) :=
  if 2 ≤ x2 then (some (.inr σ)) else (gfR Γ σ x0 5 0 fun v4 =>
  gfR Γ σ x0 5 1 fun v5 =>
  chk (isO Γ x1 0) <| bnd (f_X0_addStep Γ x1 v4 x2 v5 σ) fun _ σ6 =>
  some (.inl ((x2 + 1), σ6)))
def f_X5_takeBoth (Γ : zSh) (a0 : Nat) (a1 : Nat) (σ : zSt) : Option (Unit × zSt) :=
  gfR Γ σ a0 5 1 fun v1 =>
  gfI Γ σ a1 0 0 fun v2 =>
  bnd (f_J7_fill_fda19 Γ v1 0 v2 0 σ) fun _ σ3 =>
  lb0 (loopM (fun q => f_X5_takeBoth_B15 Γ a0 a1 q.1 q.2) FUEL (0, σ3)) fun σ7 =>
  chk (isO Γ a0 5) <| bnd (f_X5_swap Γ a0 σ7) fun _ σ8 =>
  some ((), σ8)
def f_X5_value (Γ : zSh) (a0 : Nat) (a1 : Nat) (σ : zSt) : Option (Int32 × zSt) :=
  gfR Γ σ a0 5 0 fun v1 =>
  chk (isO Γ a1 0) <| bnd (f_X0_weightFrom Γ a1 v1 σ) fun r3 σ2 =>
  some (r3, σ2)
def f_X6_checkSlot_L9 (Γ : zSh)  (σ : zSt) : Option ((Unit × zSt) ⊕ (Nat × zSt)) :=
  some (.inr (0, σ))
def f_X6_checkSlot (Γ : zSh) (a0 : Int32) (σ : zSt) : Option ((Unit × zSt) ⊕ (Nat × zSt)) :=
  if a0 < 0 then (f_X6_checkSlot_L9 Γ σ) else (if a0 < 4 then (some (.inl ((), σ))) else (f_X6_checkSlot_L9 Γ σ))
def f_X6_checkRange_L10 (Γ : zSh)  (σ : zSt) : Option ((Unit × zSt) ⊕ (Nat × zSt)) :=
  some (.inr (1, σ))
def f_X6_checkRange (Γ : zSh) (a0 : Int32) (a1 : Int32) (a2 : Int32) (σ : zSt) : Option ((Unit × zSt) ⊕ (Nat × zSt)) :=
  if a0 < a1 then (f_X6_checkRange_L10 Γ σ) else (if a0 ≤ a2 then (some (.inl ((), σ))) else (f_X6_checkRange_L10 Γ σ))
def f_X6_dropOldest_B9 (Γ : zSh) (x0 : Nat) (x1 : Nat) (x2 : Int32) (σ : zSt) : Option ((Int32 × zSt) ⊕ (zSt)) :=
  if 4 ≤ x2 then (some (.inr σ)) else (gfR Γ σ x0 6 1 fun v3 =>
  gfR Γ σ x0 6 1 fun v4 =>
  ldA Γ σ v4 x2 fun v5 =>
  chk (decide (v5 ≠ 0)) <| stA Γ σ v3 (x2 - 1) v5 fun σ6 =>
  gfR Γ σ6 x0 6 2 fun v7 =>
  gfR Γ σ6 x0 6 2 fun v8 =>
  ldI Γ σ6 v8 x2 fun v9 =>
  stI Γ σ6 v7 (x2 - 1) v9 fun σ10 =>
  some (.inl ((x2 + 1), σ10)))
def f_X6_dropOldest (Γ : zSh) (a0 : Nat) (σ : zSt) : Option (Unit × zSt) :=
  gfR Γ σ a0 6 1 fun v1 =>
  ldA Γ σ v1 0 fun v2 =>
  lb0 (loopM (fun q => f_X6_dropOldest_B9 Γ a0 v2 q.1 q.2) FUEL (1, σ)) fun σ11 =>
  gfR Γ σ11 a0 6 1 fun v12 =>
  chk (decide (v2 ≠ 0)) <| stA Γ σ11 v12 3 v2 fun σ13 =>
  pfI Γ σ13 a0 6 3 3 fun σ14 =>
  some ((), σ14)
def f_X6_save_L12 (Γ : zSh) (x0 : Nat) (x1 : Int32) (σ : zSt) : Option (Unit × zSt) :=
  gfR Γ σ x0 6 2 fun v2 =>
  gfI Γ σ x0 6 3 fun v3 =>
  stI Γ σ v2 v3 x1 fun σ4 =>
  gfR Γ σ4 x0 6 1 fun v5 =>
  gfI Γ σ4 x0 6 3 fun v6 =>
  ldA Γ σ4 v5 v6 fun v7 =>
  gfR Γ σ4 x0 6 0 fun v8 =>
  ldA Γ σ4 v8 x1 fun v9 =>
  chk (isO Γ v7 0) <| bnd (f_X0_copyFrom Γ v7 v9 σ4) fun _ σ10 =>
  gfI Γ σ10 x0 6 3 fun v11 =>
  pfI Γ σ10 x0 6 3 (v11 + 1) fun σ12 =>
  some ((), σ12)
def f_X6_save (Γ : zSh) (a0 : Nat) (a1 : Int32) (σ : zSt) : Option (Unit × zSt) :=
  gfI Γ σ a0 6 3 fun v1 =>
  if v1 < 4 then (f_X6_save_L12 Γ a0 a1 σ) else (chk (isO Γ a0 6) <| bnd (f_X6_dropOldest Γ a0 σ) fun _ σ13 =>
  f_X6_save_L12 Γ a0 a1 σ13)
def f_X6_begin (Γ : zSh) (a0 : Nat) (a1 : Int32) (a2 : Int32) (σ : zSt) : Option ((Int32 × zSt) ⊕ (Nat × zSt)) :=
  xbnd (f_X6_checkSlot Γ a1 σ) fun _ σ1 =>
  xbnd (f_X6_checkRange Γ a2 0 12 σ1) fun _ σ2 =>
  gfR Γ σ2 a0 6 0 fun v3 =>
  ldA Γ σ2 v3 a1 fun v4 =>
  gfI Γ σ2 v4 0 0 fun v5 =>
  chk (isO Γ a0 6) <| bnd (f_X6_save Γ a0 a1 σ2) fun _ σ6 =>
  chk (isO Γ v4 0) <| bnd (f_X0_clear Γ v4 a2 σ6) fun _ σ7 =>
  some (.inl (v5, σ7))
def f_X6_random (Γ : zSh) (a0 : Nat) (a1 : Int32) (a2 : Int32) (a3 : Int32) (σ : zSt) : Option ((Int32 × zSt) ⊕ (Nat × zSt)) :=
  xbnd (f_X6_checkSlot Γ a1 σ) fun _ σ1 =>
  xbnd (f_X6_checkRange Γ a2 0 12 σ1) fun _ σ2 =>
  xbnd (f_X6_checkRange Γ a3 0 999999 σ2) fun _ σ3 =>
  chk (isO Γ a0 6) <| bnd (f_X6_save Γ a0 a1 σ3) fun _ σ4 =>
  gfR Γ σ4 a0 6 0 fun v5 =>
  ldA Γ σ4 v5 a1 fun v6 =>
  chk (isO Γ v6 0) <| bnd (f_X0_draw Γ v6 a2 a3 σ4) fun _ σ7 =>
  gfR Γ σ7 a0 6 0 fun v8 =>
  ldA Γ σ7 v8 a1 fun v9 =>
  chk (isO Γ v9 0) <| bnd (f_X0_emptyWeight Γ v9 σ7) fun r11 σ10 =>
  some (.inl (r11, σ10))
def f_X6_states (Γ : zSh) (a0 : Nat) (a1 : Int32) (σ : zSt) : Option ((Int32 × zSt) ⊕ (Nat × zSt)) :=
  xbnd (f_X6_checkSlot Γ a1 σ) fun _ σ1 =>
  gfR Γ σ1 a0 6 0 fun v2 =>
  ldA Γ σ1 v2 a1 fun v3 =>
  gfI Γ σ1 v3 0 0 fun v4 =>
  some (.inl (v4, σ1))
def f_X6_weight (Γ : zSh) (a0 : Nat) (a1 : Int32) (a2 : Int32) (σ : zSt) : Option ((Int32 × zSt) ⊕ (Nat × zSt)) :=
  xbnd (f_X6_checkSlot Γ a1 σ) fun _ σ1 =>
  xbnd (f_X6_checkRange Γ a2 0 1000000 σ1) fun _ σ2 =>
  gfR Γ σ2 a0 6 6 fun v3 =>
  gfR Γ σ2 a0 6 0 fun v4 =>
  ldA Γ σ2 v4 a1 fun v5 =>
  chk (isO Γ v3 5) <| bnd (f_X5_start Γ v3 v5 σ2) fun _ σ6 =>
  gfR Γ σ6 a0 6 6 fun v7 =>
  gfR Γ σ6 a0 6 0 fun v8 =>
  ldA Γ σ6 v8 a1 fun v9 =>
  chk (isO Γ v7 5) <| bnd (f_X5_takeWord Γ v7 v9 a2 σ6) fun _ σ10 =>
  gfR Γ σ10 a0 6 6 fun v11 =>
  gfR Γ σ10 a0 6 0 fun v12 =>
  ldA Γ σ10 v12 a1 fun v13 =>
  chk (isO Γ v11 5) <| bnd (f_X5_value Γ v11 v13 σ10) fun r15 σ14 =>
  some (.inl (r15, σ14))
def f_X6_powerWeight_B35 (Γ : zSh) (x0 : Nat) (x1 : Int32) (x2 : Int32) (x3 : Int32) (x4 : Int32) (σ : zSt) : Option ((Int32 × zSt) ⊕ (zSt)) :=
  if x3 ≤ x4 then (some (.inr σ)) else (gfR Γ σ x0 6 6 fun v8 =>
  gfR Γ σ x0 6 0 fun v9 =>
  ldA Γ σ v9 x1 fun v10 =>
  chk (isO Γ v8 5) <| bnd (f_X5_takeWord Γ v8 v10 x2 σ) fun _ σ11 =>
  some (.inl ((x4 + 1), σ11)))
def f_X6_powerWeight (Γ : zSh) (a0 : Nat) (a1 : Int32) (a2 : Int32) (a3 : Int32) (σ : zSt) : Option ((Int32 × zSt) ⊕ (Nat × zSt)) :=
  xbnd (f_X6_checkSlot Γ a1 σ) fun _ σ1 =>
  xbnd (f_X6_checkRange Γ a2 0 1000000 σ1) fun _ σ2 =>
  xbnd (f_X6_checkRange Γ a3 0 200 σ2) fun _ σ3 =>
  gfR Γ σ3 a0 6 6 fun v4 =>
  gfR Γ σ3 a0 6 0 fun v5 =>
  ldA Γ σ3 v5 a1 fun v6 =>
  chk (isO Γ v4 5) <| bnd (f_X5_start Γ v4 v6 σ3) fun _ σ7 =>
  lb0 (loopM (fun q => f_X6_powerWeight_B35 Γ a0 a1 a2 a3 q.1 q.2) FUEL (0, σ7)) fun σ12 =>
  gfR Γ σ12 a0 6 6 fun v13 =>
  gfR Γ σ12 a0 6 0 fun v14 =>
  ldA Γ σ12 v14 a1 fun v15 =>
  chk (isO Γ v13 5) <| bnd (f_X5_value Γ v13 v15 σ12) fun r17 σ16 =>
  some (.inl (r17, σ16))
def f_X6_total_B27 (Γ : zSh) (x0 : Nat) (x1 : Int32) (x2 : Int32) (x3 : Int32) (σ : zSt) : Option ((Int32 × zSt) ⊕ (zSt)) :=
  if x2 ≤ x3 then (some (.inr σ)) else (gfR Γ σ x0 6 6 fun v7 =>
  gfR Γ σ x0 6 0 fun v8 =>
  ldA Γ σ v8 x1 fun v9 =>
  chk (isO Γ v7 5) <| bnd (f_X5_takeBoth Γ v7 v9 σ) fun _ σ10 =>
  some (.inl ((x3 + 1), σ10)))
def f_X6_total (Γ : zSh) (a0 : Nat) (a1 : Int32) (a2 : Int32) (σ : zSt) : Option ((Int32 × zSt) ⊕ (Nat × zSt)) :=
  xbnd (f_X6_checkSlot Γ a1 σ) fun _ σ1 =>
  xbnd (f_X6_checkRange Γ a2 0 2000 σ1) fun _ σ2 =>
  gfR Γ σ2 a0 6 6 fun v3 =>
  gfR Γ σ2 a0 6 0 fun v4 =>
  ldA Γ σ2 v4 a1 fun v5 =>
  chk (isO Γ v3 5) <| bnd (f_X5_start Γ v3 v5 σ2) fun _ σ6 =>
  lb0 (loopM (fun q => f_X6_total_B27 Γ a0 a1 a2 q.1 q.2) FUEL (0, σ6)) fun σ11 =>
  gfR Γ σ11 a0 6 6 fun v12 =>
  gfR Γ σ11 a0 6 0 fun v13 =>
  ldA Γ σ11 v13 a1 fun v14 =>
  chk (isO Γ v12 5) <| bnd (f_X5_value Γ v12 v14 σ11) fun r16 σ15 =>
  some (.inl (r16, σ15))
def f_X6_first (Γ : zSh) (a0 : Nat) (a1 : Int32) (σ : zSt) : Option ((Int32 × zSt) ⊕ (Nat × zSt)) :=
  xbnd (f_X6_checkSlot Γ a1 σ) fun _ σ1 =>
  gfR Γ σ1 a0 6 8 fun v2 =>
  gfR Γ σ1 a0 6 0 fun v3 =>
  ldA Γ σ1 v3 a1 fun v4 =>
  chk (isO Γ v2 1) <| bnd (f_X1_explore Γ v2 v4 σ1) fun _ σ5 =>
  gfR Γ σ5 a0 6 8 fun v6 =>
  chk (isO Γ v6 1) <| bnd (f_X1_firstWeighted Γ v6 σ5) fun r8 σ7 =>
  some (.inl (r8, σ7))
def f_X6_store (Γ : zSh) (a0 : Nat) (a1 : Int32) (σ : zSt) : Option (Int32 × zSt) :=
  chk (isO Γ a0 6) <| bnd (f_X6_save Γ a0 a1 σ) fun _ σ1 =>
  gfR Γ σ1 a0 6 0 fun v2 =>
  ldA Γ σ1 v2 a1 fun v3 =>
  gfR Γ σ1 a0 6 4 fun v4 =>
  chk (isO Γ v3 0) <| bnd (f_X0_copyFrom Γ v3 v4 σ1) fun _ σ5 =>
  gfR Γ σ5 a0 6 4 fun v6 =>
  gfI Γ σ5 v6 0 0 fun v7 =>
  some (v7, σ5)
def f_X6_combine_L135 (Γ : zSh) (x0 : Nat) (x1 : Int32) (σ : zSt) : Option ((Int32 × zSt) ⊕ (Nat × zSt)) :=
  chk (isO Γ x0 6) <| bnd (f_X6_store Γ x0 x1 σ) fun r14 σ13 =>
  some (.inl (r14, σ13))
def f_X6_combine_L66 (Γ : zSh) (x0 : Nat) (x1 : Int32) (x4 : Int32) (x5 : Nat) (x6 : Nat) (s0 : Int32) (σ : zSt) : Option ((Int32 × zSt) ⊕ (Nat × zSt)) :=
  if s0 ≤ 12 then (if x4 = 0 then (gfR Γ σ x0 6 4 fun v17 =>
  chk (isO Γ v17 0) <| bnd (f_X0_becomeSum Γ v17 x5 x6 σ) fun _ σ18 =>
  f_X6_combine_L135 Γ x0 x1 σ18) else (if x4 = 1 then (gfR Γ σ x0 6 4 fun v15 =>
  chk (isO Γ v15 0) <| bnd (f_X0_becomeHadamard Γ v15 x5 x6 σ) fun _ σ16 =>
  f_X6_combine_L135 Γ x0 x1 σ16) else (gfR Γ σ x0 6 4 fun v11 =>
  chk (isO Γ v11 0) <| bnd (f_X0_becomeCauchy Γ v11 x5 x6 σ) fun _ σ12 =>
  f_X6_combine_L135 Γ x0 x1 σ12))) else (some (.inr (2, σ)))
def f_X6_combine (Γ : zSh) (a0 : Nat) (a1 : Int32) (a2 : Int32) (a3 : Int32) (a4 : Int32) (σ : zSt) : Option ((Int32 × zSt) ⊕ (Nat × zSt)) :=
  xbnd (f_X6_checkSlot Γ a1 σ) fun _ σ1 =>
  xbnd (f_X6_checkSlot Γ a2 σ1) fun _ σ2 =>
  xbnd (f_X6_checkSlot Γ a3 σ2) fun _ σ3 =>
  xbnd (f_X6_checkRange Γ a4 0 2 σ3) fun _ σ4 =>
  gfR Γ σ4 a0 6 0 fun v5 =>
  ldA Γ σ4 v5 a2 fun v6 =>
  gfR Γ σ4 a0 6 0 fun v7 =>
  ldA Γ σ4 v7 a3 fun v8 =>
  if a4 = 1 then (gfI Γ σ4 v6 0 0 fun v19 =>
  gfI Γ σ4 v8 0 0 fun v20 =>
  f_X6_combine_L66 Γ a0 a1 a4 v6 v8 (v19 * v20) σ4) else (gfI Γ σ4 v6 0 0 fun v9 =>
  gfI Γ σ4 v8 0 0 fun v10 =>
  f_X6_combine_L66 Γ a0 a1 a4 v6 v8 (v9 + v10) σ4)
def f_X6_derive_L172 (Γ : zSh) (x0 : Nat) (x1 : Int32) (σ : zSt) : Option ((Int32 × zSt) ⊕ (Nat × zSt)) :=
  chk (isO Γ x0 6) <| bnd (f_X6_store Γ x0 x1 σ) fun r11 σ10 =>
  some (.inl (r11, σ10))
def f_X6_derive_L46 (Γ : zSh) (x0 : Nat) (x1 : Int32) (x3 : Int32) (x4 : Nat) (σ : zSt) : Option ((Int32 × zSt) ⊕ (Nat × zSt)) :=
  gfR Γ σ x0 6 4 fun v6 =>
  chk (isO Γ v6 0) <| bnd (f_X0_copyFrom Γ v6 x4 σ) fun _ σ7 =>
  if x3 = 1 then (gfR Γ σ7 x0 6 4 fun v8 =>
  chk (isO Γ v8 0) <| bnd (f_X0_reverse Γ v8 σ7) fun _ σ9 =>
  f_X6_derive_L172 Γ x0 x1 σ9) else (if x3 = 2 then (gfR Γ σ7 x0 6 4 fun v12 =>
  chk (isO Γ v12 0) <| bnd (f_X0_becomeStar Γ v12 x4 σ7) fun _ σ13 =>
  f_X6_derive_L172 Γ x0 x1 σ13) else (if x3 = 3 then (gfR Γ σ7 x0 6 4 fun v14 =>
  chk (isO Γ v14 0) <| bnd (f_X0_startAfter Γ v14 x4 0 σ7) fun _ σ15 =>
  f_X6_derive_L172 Γ x0 x1 σ15) else (if x3 = 4 then (gfR Γ σ7 x0 6 4 fun v16 =>
  chk (isO Γ v16 0) <| bnd (f_X0_startAfter Γ v16 x4 1 σ7) fun _ σ17 =>
  f_X6_derive_L172 Γ x0 x1 σ17) else (if x3 = 5 then (gfR Γ σ7 x0 6 8 fun v18 =>
  gfR Γ σ7 x0 6 4 fun v19 =>
  chk (isO Γ v18 1) <| bnd (f_X1_reduce Γ v18 v19 σ7) fun _ σ20 =>
  f_X6_derive_L172 Γ x0 x1 σ20) else (if x3 = 6 then (gfR Γ σ7 x0 6 8 fun v21 =>
  gfR Γ σ7 x0 6 4 fun v22 =>
  chk (isO Γ v21 1) <| bnd (f_X1_minimize Γ v21 v22 σ7) fun _ σ23 =>
  f_X6_derive_L172 Γ x0 x1 σ23) else (f_X6_derive_L172 Γ x0 x1 σ7))))))
def f_X6_derive (Γ : zSh) (a0 : Nat) (a1 : Int32) (a2 : Int32) (a3 : Int32) (σ : zSt) : Option ((Int32 × zSt) ⊕ (Nat × zSt)) :=
  xbnd (f_X6_checkSlot Γ a1 σ) fun _ σ1 =>
  xbnd (f_X6_checkSlot Γ a2 σ1) fun _ σ2 =>
  xbnd (f_X6_checkRange Γ a3 0 6 σ2) fun _ σ3 =>
  gfR Γ σ3 a0 6 0 fun v4 =>
  ldA Γ σ3 v4 a2 fun v5 =>
  if a3 = 2 then (chk (isO Γ v5 0) <| bnd (f_X0_hasStar Γ v5 σ3) fun r25 σ24 =>
  if r25 = 0 then (some (.inr (2, σ24))) else (f_X6_derive_L46 Γ a0 a1 a3 v5 σ24)) else (f_X6_derive_L46 Γ a0 a1 a3 v5 σ3)
def f_X6_scale (Γ : zSh) (a0 : Nat) (a1 : Int32) (a2 : Int32) (σ : zSt) : Option ((Int32 × zSt) ⊕ (Nat × zSt)) :=
  xbnd (f_X6_checkSlot Γ a1 σ) fun _ σ1 =>
  xbnd (f_X6_checkRange Γ a2 0 10006 σ1) fun _ σ2 =>
  chk (isO Γ a0 6) <| bnd (f_X6_save Γ a0 a1 σ2) fun _ σ3 =>
  gfR Γ σ3 a0 6 0 fun v4 =>
  ldA Γ σ3 v4 a1 fun v5 =>
  gfR Γ σ3 v5 0 1 fun v6 =>
  gfI Γ σ3 v5 0 0 fun v7 =>
  bnd (f_X6_multiply Γ v6 a2 v7 σ3) fun _ σ8 =>
  chk (isO Γ v5 0) <| bnd (f_X0_emptyWeight Γ v5 σ8) fun r10 σ9 =>
  some (.inl (r10, σ9))
def f_X6_spaceSize_L55 (Γ : zSh) (x0 : Nat) (σ : zSt) : Option (Int32 × zSt) :=
  gfR Γ σ x0 6 4 fun v8 =>
  gfI Γ σ v8 0 0 fun v9 =>
  some (v9, σ)
def f_X6_spaceSize_L25 (Γ : zSh) (x0 : Nat) (x2 : Int32) (σ : zSt) : Option (Int32 × zSt) :=
  if x2 = 2 then (gfR Γ σ x0 6 8 fun v10 =>
  gfR Γ σ x0 6 4 fun v11 =>
  chk (isO Γ v10 1) <| bnd (f_X1_minimize Γ v10 v11 σ) fun _ σ12 =>
  f_X6_spaceSize_L55 Γ x0 σ12) else (gfR Γ σ x0 6 8 fun v5 =>
  gfR Γ σ x0 6 4 fun v6 =>
  chk (isO Γ v5 1) <| bnd (f_X1_reduce Γ v5 v6 σ) fun _ σ7 =>
  f_X6_spaceSize_L55 Γ x0 σ7)
def f_X6_spaceSize (Γ : zSh) (a0 : Nat) (a1 : Int32) (a2 : Int32) (σ : zSt) : Option (Int32 × zSt) :=
  gfR Γ σ a0 6 4 fun v1 =>
  gfR Γ σ a0 6 0 fun v2 =>
  ldA Γ σ v2 a1 fun v3 =>
  chk (isO Γ v1 0) <| bnd (f_X0_copyFrom Γ v1 v3 σ) fun _ σ4 =>
  if a2 = 1 then (gfR Γ σ4 a0 6 4 fun v13 =>
  chk (isO Γ v13 0) <| bnd (f_X0_reverse Γ v13 σ4) fun _ σ14 =>
  f_X6_spaceSize_L25 Γ a0 a2 σ14) else (f_X6_spaceSize_L25 Γ a0 a2 σ4)
def f_X6_dimension (Γ : zSh) (a0 : Nat) (a1 : Int32) (a2 : Int32) (σ : zSt) : Option ((Int32 × zSt) ⊕ (Nat × zSt)) :=
  xbnd (f_X6_checkSlot Γ a1 σ) fun _ σ1 =>
  xbnd (f_X6_checkRange Γ a2 0 2 σ1) fun _ σ2 =>
  chk (isO Γ a0 6) <| bnd (f_X6_spaceSize Γ a0 a1 a2 σ2) fun r4 σ3 =>
  some (.inl (r4, σ3))
def f_X6_basisWord_L32 (Γ : zSh)  (σ : zSt) : Option ((Int32 × zSt) ⊕ (Nat × zSt)) :=
  some (.inr (0, σ))
def f_X6_basisWord (Γ : zSh) (a0 : Nat) (a1 : Int32) (a2 : Int32) (σ : zSt) : Option ((Int32 × zSt) ⊕ (Nat × zSt)) :=
  xbnd (f_X6_checkSlot Γ a1 σ) fun _ σ1 =>
  gfR Γ σ1 a0 6 8 fun v2 =>
  gfR Γ σ1 a0 6 0 fun v3 =>
  ldA Γ σ1 v3 a1 fun v4 =>
  chk (isO Γ v2 1) <| bnd (f_X1_explore Γ v2 v4 σ1) fun _ σ5 =>
  if a2 < 0 then (f_X6_basisWord_L32 Γ σ5) else (gfR Γ σ5 a0 6 8 fun v6 =>
  gfI Γ σ5 v6 1 0 fun v7 =>
  if a2 < v7 then (gfR Γ σ5 a0 6 8 fun v8 =>
  gfR Γ σ5 v8 1 1 fun v9 =>
  ldI Γ σ5 v9 a2 fun v10 =>
  some (.inl (v10, σ5))) else (f_X6_basisWord_L32 Γ σ5))
def f_X6_differing (Γ : zSh) (a0 : Nat) (a1 : Int32) (a2 : Int32) (σ : zSt) : Option ((Int32 × zSt) ⊕ (Nat × zSt)) :=
  xbnd (f_X6_checkSlot Γ a1 σ) fun _ σ1 =>
  xbnd (f_X6_checkSlot Γ a2 σ1) fun _ σ2 =>
  gfR Γ σ2 a0 6 5 fun v3 =>
  gfR Γ σ2 a0 6 0 fun v4 =>
  ldA Γ σ2 v4 a1 fun v5 =>
  gfR Γ σ2 a0 6 0 fun v6 =>
  ldA Γ σ2 v6 a2 fun v7 =>
  chk (isO Γ v3 0) <| bnd (f_X0_becomeDifference Γ v3 v5 v7 σ2) fun _ σ8 =>
  gfR Γ σ8 a0 6 8 fun v9 =>
  gfR Γ σ8 a0 6 5 fun v10 =>
  chk (isO Γ v9 1) <| bnd (f_X1_explore Γ v9 v10 σ8) fun _ σ11 =>
  gfR Γ σ11 a0 6 8 fun v12 =>
  chk (isO Γ v12 1) <| bnd (f_X1_firstWeighted Γ v12 σ11) fun r14 σ13 =>
  some (.inl (r14, σ13))
def f_X6_joinedWord (Γ : zSh) (a0 : Int32) (a1 : Int32) (σ : zSt) : Option (Int32 × zSt) :=
  bnd (f_X6_lengthOf Γ a1 σ) fun r2 σ1 =>
  some (((((a0 + 1) * ((1 : Int32) <<< (r2 &&& 31))) + ((a1 + 1) - ((1 : Int32) <<< (r2 &&& 31)))) - 1), σ1)
def f_X6_hankelRank_B34 (Γ : zSh) (x0 : Nat) (x1 : Int32) (x2 : Int32) (x3 : Int32) (x4 : Int32) (σ : zSt) : Option ((Int32 × zSt) ⊕ (zSt)) :=
  if x2 ≤ x4 then (some (.inr σ)) else (gfR Γ σ x0 6 9 fun v7 =>
  gfR Γ σ v7 3 0 fun v8 =>
  ldG Γ σ v8 x3 fun v9 =>
  gfR Γ σ x0 6 7 fun v10 =>
  gfR Γ σ x0 6 0 fun v11 =>
  ldA Γ σ v11 x1 fun v12 =>
  bnd (f_X6_joinedWord Γ x3 x4 σ) fun r14 σ13 =>
  chk (isO Γ v10 4) <| bnd (f_X4_weigh Γ v10 v12 r14 σ13) fun r16 σ15 =>
  stI Γ σ15 v9 x4 r16 fun σ17 =>
  some (.inl ((x4 + 1), σ17)))
def f_X6_hankelRank_B26 (Γ : zSh) (x0 : Nat) (x1 : Int32) (x2 : Int32) (x3 : Int32) (σ : zSt) : Option ((Int32 × zSt) ⊕ (zSt)) :=
  if x2 ≤ x3 then (some (.inr σ)) else (lb0 (loopM (fun q => f_X6_hankelRank_B34 Γ x0 x1 x2 x3 q.1 q.2) FUEL (0, σ)) fun σ18 =>
  some (.inl ((x3 + 1), σ18)))
def f_X6_hankelRank (Γ : zSh) (a0 : Nat) (a1 : Int32) (a2 : Int32) (σ : zSt) : Option ((Int32 × zSt) ⊕ (Nat × zSt)) :=
  xbnd (f_X6_checkSlot Γ a1 σ) fun _ σ1 =>
  xbnd (f_X6_checkRange Γ a2 0 31 σ1) fun _ σ2 =>
  gfR Γ σ2 a0 6 7 fun v3 =>
  gfR Γ σ2 a0 6 0 fun v4 =>
  ldA Γ σ2 v4 a1 fun v5 =>
  chk (isO Γ v3 4) <| bnd (f_X4_start Γ v3 v5 σ2) fun _ σ6 =>
  lb0 (loopM (fun q => f_X6_hankelRank_B26 Γ a0 a1 a2 q.1 q.2) FUEL (0, σ6)) fun σ19 =>
  gfR Γ σ19 a0 6 9 fun v20 =>
  chk (isO Γ v20 3) <| bnd (f_X3_rank Γ v20 a2 a2 σ19) fun r22 σ21 =>
  some (.inl (r22, σ21))
def f_X6_collectTotals_B15 (Γ : zSh) (x0 : Nat) (x1 : Int32) (x2 : Int32) (x3 : Int32) (σ : zSt) : Option ((Int32 × zSt) ⊕ (zSt)) :=
  if x2 ≤ x3 then (some (.inr σ)) else (gfR Γ σ x0 6 10 fun v5 =>
  gfR Γ σ x0 6 6 fun v6 =>
  gfR Γ σ x0 6 0 fun v7 =>
  ldA Γ σ v7 x1 fun v8 =>
  chk (isO Γ v6 5) <| bnd (f_X5_value Γ v6 v8 σ) fun r10 σ9 =>
  stI Γ σ9 v5 x3 r10 fun σ11 =>
  gfR Γ σ11 x0 6 6 fun v12 =>
  gfR Γ σ11 x0 6 0 fun v13 =>
  ldA Γ σ11 v13 x1 fun v14 =>
  chk (isO Γ v12 5) <| bnd (f_X5_takeBoth Γ v12 v14 σ11) fun _ σ15 =>
  some (.inl ((x3 + 1), σ15)))
def f_X6_collectTotals (Γ : zSh) (a0 : Nat) (a1 : Int32) (a2 : Int32) (σ : zSt) : Option (Unit × zSt) :=
  gfR Γ σ a0 6 6 fun v1 =>
  gfR Γ σ a0 6 0 fun v2 =>
  ldA Γ σ v2 a1 fun v3 =>
  chk (isO Γ v1 5) <| bnd (f_X5_start Γ v1 v3 σ) fun _ σ4 =>
  lb0 (loopM (fun q => f_X6_collectTotals_B15 Γ a0 a1 a2 q.1 q.2) FUEL (0, σ4)) fun σ16 =>
  some ((), σ16)
def f_X6_fillRecurrences_B10 (Γ : zSh) (x0 : Nat) (x1 : Int32) (x2 : Int32) (x3 : Int32) (σ : zSt) : Option ((Int32 × zSt) ⊕ (zSt)) :=
  if x1 < x3 then (some (.inr σ)) else (gfR Γ σ x0 6 9 fun v1 =>
  gfR Γ σ v1 3 0 fun v2 =>
  ldG Γ σ v2 x2 fun v3 =>
  gfR Γ σ x0 6 10 fun v4 =>
  ldI Γ σ v4 (x2 + x3) fun v5 =>
  stI Γ σ v3 x3 v5 fun σ6 =>
  some (.inl ((x3 + 1), σ6)))
def f_X6_fillRecurrences_B2 (Γ : zSh) (x0 : Nat) (x1 : Int32) (x2 : Int32) (σ : zSt) : Option ((Int32 × zSt) ⊕ (zSt)) :=
  if 31 ≤ x2 then (some (.inr σ)) else (lb0 (loopM (fun q => f_X6_fillRecurrences_B10 Γ x0 x1 x2 q.1 q.2) FUEL (0, σ)) fun σ7 =>
  some (.inl ((x2 + 1), σ7)))
def f_X6_fillRecurrences (Γ : zSh) (a0 : Nat) (a1 : Int32) (σ : zSt) : Option (Unit × zSt) :=
  lb0 (loopM (fun q => f_X6_fillRecurrences_B2 Γ a0 a1 q.1 q.2) FUEL (0, σ)) fun σ8 =>
  some ((), σ8)
def f_X6_recurs_L62 (Γ : zSh) (s0 : Int32) (σ : zSt) : Option ((Int32 × zSt) ⊕ (Nat × zSt)) :=
  chk (isB s0) (some (.inl (s0, σ)))
def f_X6_recurs (Γ : zSh) (a0 : Nat) (a1 : Int32) (a2 : Int32) (σ : zSt) : Option ((Int32 × zSt) ⊕ (Nat × zSt)) :=
  xbnd (f_X6_checkSlot Γ a1 σ) fun _ σ1 =>
  xbnd (f_X6_checkRange Γ a2 1 12 σ1) fun _ σ2 =>
  chk (isO Γ a0 6) <| bnd (f_X6_collectTotals Γ a0 a1 (31 + a2) σ2) fun _ σ3 =>
  chk (isO Γ a0 6) <| bnd (f_X6_fillRecurrences Γ a0 a2 σ3) fun _ σ4 =>
  gfR Γ σ4 a0 6 9 fun v5 =>
  chk (isO Γ v5 3) <| bnd (f_X3_rank Γ v5 31 a2 σ4) fun r7 σ6 =>
  chk (isO Γ a0 6) <| bnd (f_X6_fillRecurrences Γ a0 a2 σ6) fun _ σ8 =>
  gfR Γ σ8 a0 6 9 fun v9 =>
  chk (isO Γ v9 3) <| bnd (f_X3_rank Γ v9 31 (a2 + 1) σ8) fun r11 σ10 =>
  if r11 = r7 then (f_X6_recurs_L62 Γ 1 σ10) else (f_X6_recurs_L62 Γ 0 σ10)
def f_X6_inverse (Γ : zSh) (a0 : Nat) (a1 : Int32) (σ : zSt) : Option ((Int32 × zSt) ⊕ (Nat × zSt)) :=
  xbnd (f_X6_checkRange Γ a1 1 10006 σ) fun _ σ1 =>
  bnd (f_X6_reciprocal Γ a1 σ1) fun r3 σ2 =>
  some (.inl (r3, σ2))
def f_X6_undo (Γ : zSh) (a0 : Nat) (σ : zSt) : Option ((Int32 × zSt) ⊕ (Nat × zSt)) :=
  gfI Γ σ a0 6 3 fun v1 =>
  if 0 < v1 then (gfI Γ σ a0 6 3 fun v2 =>
  pfI Γ σ a0 6 3 (v2 - 1) fun σ3 =>
  gfR Γ σ3 a0 6 0 fun v4 =>
  gfR Γ σ3 a0 6 2 fun v5 =>
  gfI Γ σ3 a0 6 3 fun v6 =>
  ldI Γ σ3 v5 v6 fun v7 =>
  ldA Γ σ3 v4 v7 fun v8 =>
  gfR Γ σ3 a0 6 1 fun v9 =>
  gfI Γ σ3 a0 6 3 fun v10 =>
  ldA Γ σ3 v9 v10 fun v11 =>
  chk (isO Γ v8 0) <| bnd (f_X0_copyFrom Γ v8 v11 σ3) fun _ σ12 =>
  gfI Γ σ12 a0 6 3 fun v13 =>
  some (.inl (v13, σ12))) else (some (.inr (2, σ)))
def f_X6_digest_B34 (Γ : zSh) (x0 : Nat) (x3 : Int32) (x1 : Int64) (x4 : Int32) (σ : zSt) : Option ((Int64 × Int32 × zSt) ⊕ (Int64 × zSt)) :=
  if 2 < x4 then (some (.inr (x1, σ))) else (chk (isO Γ x0 6) <| bnd (f_X6_spaceSize Γ x0 x3 x4 σ) fun r8 σ7 =>
  some (.inl (((31 * x1) + (r8.toInt64)), (x4 + 1), σ7)))
def f_X6_digest_B15 (Γ : zSh) (x0 : Nat) (x1 : Int64) (x3 : Int32) (σ : zSt) : Option ((Int64 × Int32 × zSt) ⊕ (Int64 × zSt)) :=
  if 4 ≤ x3 then (some (.inr (x1, σ))) else (gfR Γ σ x0 6 0 fun v3 =>
  ldA Γ σ v3 x3 fun v4 =>
  chk (isO Γ v4 0) <| bnd (f_X0_hash Γ v4 x1 σ) fun r6 σ5 =>
  lb1 (loopM (fun q => f_X6_digest_B34 Γ x0 x3 q.1 q.2.1 q.2.2) FUEL (r6, 0, σ5)) fun w10 σ9 =>
  some (.inl (w10, (x3 + 1), σ9)))
def f_X6_digest (Γ : zSh) (a0 : Nat) (σ : zSt) : Option (Int64 × zSt) :=
  gfR Γ σ a0 6 11 fun v1 =>
  gfI Γ σ v1 2 1 fun v2 =>
  lb1 (loopM (fun q => f_X6_digest_B15 Γ a0 q.1 q.2.1 q.2.2) FUEL ((93589 + (v2.toInt64)), 0, σ)) fun w12 σ11 =>
  gfI Γ σ11 a0 6 3 fun v13 =>
  some (((31 * w12) + (v13.toInt64)), σ11)
