theorem sp_inv {α β : Type} {a c : α} {b d : β} (h : some (a, b) = some (c, d)) : a = c ∧ b = d := by
  have e := Option.some.inj h
  exact ⟨congrArg Prod.fst e, congrArg Prod.snd e⟩
def f_X0_ends_L15 (Γ : zSh) (s0 : Nat) (σ : zSt) : Option (Nat × zSt) :=
  some (s0, σ)
def f_X0_ends (Γ : zSh) (a0 : Nat) (a1 : Int32) (σ : zSt) : Option (Nat × zSt) :=
  if a1 = 0 then (gfR Γ σ a0 0 1 fun v1 =>
  f_X0_ends_L15 Γ v1 σ) else (gfR Γ σ a0 0 2 fun v2 =>
  f_X0_ends_L15 Γ v2 σ)
def f_J7_rangeCheck_23922 (Γ : zSh) (a0 : Int32) (a1 : Int32) (a2 : Int32) (σ : zSt) : Option (Unit × zSt) :=
  if a1 ≤ a2 then (if 0 ≤ a1 then (if a2 ≤ a0 then (some ((), σ)) else (none)) else (none)) else (none)
def f_J7_fill_fda19_B10 (Γ : zSh) (x0 : Nat) (x2 : Int32) (x3 : Int32) (x4 : Int32) (σ : zSt) : Option ((Int32 × zSt) ⊕ (zSt)) :=
  if x2 ≤ x4 then (some (.inr σ)) else (stI Γ σ x0 x4 x3 fun σ3 =>
  some (.inl ((x4 + 1), σ3)))
def f_J7_fill_fda19 (Γ : zSh) (a0 : Nat) (a1 : Int32) (a2 : Int32) (a3 : Int32) (σ : zSt) : Option (Unit × zSt) :=
  alI Γ a0 fun v1 =>
  bnd (f_J7_rangeCheck_23922 Γ v1 a1 a2 σ) fun _ σ2 =>
  lb0 (loopM (fun q => f_J7_fill_fda19_B10 Γ a0 a2 a3 q.1 q.2) FUEL (a1, σ2)) fun σ4 =>
  some ((), σ4)
def f_X0_clear_B27 (Γ : zSh) (x0 : Nat) (x1 : Int32) (x2 : Int32) (σ : zSt) : Option ((Int32 × zSt) ⊕ (zSt)) :=
  if 2 ≤ x2 then (some (.inr σ)) else (gfR Γ σ x0 0 3 fun v6 =>
  ldG Γ σ v6 x2 fun v7 =>
  bnd (f_J7_fill_fda19 Γ v7 0 (x1 * x1) 0 σ) fun _ σ8 =>
  some (.inl ((x2 + 1), σ8)))
def f_X0_clear (Γ : zSh) (a0 : Nat) (a1 : Int32) (σ : zSt) : Option (Unit × zSt) :=
  pfI Γ σ a0 0 0 a1 fun σ1 =>
  gfR Γ σ1 a0 0 1 fun v2 =>
  bnd (f_J7_fill_fda19 Γ v2 0 a1 0 σ1) fun _ σ3 =>
  gfR Γ σ3 a0 0 2 fun v4 =>
  bnd (f_J7_fill_fda19 Γ v4 0 a1 0 σ3) fun _ σ5 =>
  lb0 (loopM (fun q => f_X0_clear_B27 Γ a0 a1 q.1 q.2) FUEL (0, σ5)) fun σ9 =>
  some ((), σ9)
def f_X0_copyFrom_B44 (Γ : zSh) (x0 : Nat) (x1 : Nat) (x2 : Int32) (σ : zSt) : Option ((Int32 × zSt) ⊕ (zSt)) :=
  if 2 ≤ x2 then (some (.inr σ)) else (gfR Γ σ x1 0 3 fun v11 =>
  ldG Γ σ v11 x2 fun v12 =>
  gfR Γ σ x0 0 3 fun v13 =>
  ldG Γ σ v13 x2 fun v14 =>
  gfI Γ σ x0 0 0 fun v15 =>
  gfI Γ σ x0 0 0 fun v16 =>
  cpI Γ σ v12 0 v14 0 (v15 * v16) fun σ17 =>
  some (.inl ((x2 + 1), σ17)))
def f_X0_copyFrom (Γ : zSh) (a0 : Nat) (a1 : Nat) (σ : zSt) : Option (Unit × zSt) :=
  gfI Γ σ a1 0 0 fun v1 =>
  pfI Γ σ a0 0 0 v1 fun σ2 =>
  gfR Γ σ2 a1 0 1 fun v3 =>
  gfR Γ σ2 a0 0 1 fun v4 =>
  gfI Γ σ2 a0 0 0 fun v5 =>
  cpI Γ σ2 v3 0 v4 0 v5 fun σ6 =>
  gfR Γ σ6 a1 0 2 fun v7 =>
  gfR Γ σ6 a0 0 2 fun v8 =>
  gfI Γ σ6 a0 0 0 fun v9 =>
  cpI Γ σ6 v7 0 v8 0 v9 fun σ10 =>
  lb0 (loopM (fun q => f_X0_copyFrom_B44 Γ a0 a1 q.1 q.2) FUEL (0, σ10)) fun σ18 =>
  some ((), σ18)
def f_X0_nextDraw (Γ : zSh) (a0 : Int64) (σ : zSt) : Option (Int64 × zSt) :=
  rmL ((1103515245 * a0) + 12345) 2147483648 fun v1 =>
  some (v1, σ)
def f_X0_drawn (Γ : zSh) (a0 : Int64) (σ : zSt) : Option (Int32 × zSt) :=
  dvL a0 65536 fun v1 =>
  rmL v1 4 fun v2 =>
  some ((v2.toInt32), σ)
def f_X0_draw_B11 (Γ : zSh) (x0 : Nat) (x1 : Int32) (x3 : Int64) (x5 : Int32) (σ : zSt) : Option ((Int64 × Int32 × zSt) ⊕ (Int64 × zSt)) :=
  if x1 ≤ x5 then (some (.inr (x3, σ))) else (bnd (f_X0_nextDraw Γ x3 σ) fun r3 σ2 =>
  gfR Γ σ2 x0 0 1 fun v4 =>
  bnd (f_X0_drawn Γ r3 σ2) fun r6 σ5 =>
  stI Γ σ5 v4 x5 r6 fun σ7 =>
  bnd (f_X0_nextDraw Γ r3 σ7) fun r9 σ8 =>
  gfR Γ σ8 x0 0 2 fun v10 =>
  bnd (f_X0_drawn Γ r9 σ8) fun r12 σ11 =>
  stI Γ σ11 v10 x5 r12 fun σ13 =>
  some (.inl (r9, (x5 + 1), σ13)))
def f_X0_draw_B67 (Γ : zSh) (x0 : Nat) (x1 : Int32) (x5 : Int32) (x3 : Int64) (x6 : Int32) (σ : zSt) : Option ((Int64 × Int32 × zSt) ⊕ (Int64 × zSt)) :=
  if (x1 * x1) ≤ x6 then (some (.inr (x3, σ))) else (bnd (f_X0_nextDraw Γ x3 σ) fun r17 σ16 =>
  gfR Γ σ16 x0 0 3 fun v18 =>
  ldG Γ σ16 v18 x5 fun v19 =>
  bnd (f_X0_drawn Γ r17 σ16) fun r21 σ20 =>
  stI Γ σ20 v19 x6 r21 fun σ22 =>
  some (.inl (r17, (x6 + 1), σ22)))
def f_X0_draw_B58 (Γ : zSh) (x0 : Nat) (x1 : Int32) (x3 : Int64) (x5 : Int32) (σ : zSt) : Option ((Int64 × Int32 × zSt) ⊕ (zSt)) :=
  if 2 ≤ x5 then (some (.inr σ)) else (lb1 (loopM (fun q => f_X0_draw_B67 Γ x0 x1 x5 q.1 q.2.1 q.2.2) FUEL (x3, 0, σ)) fun w24 σ23 =>
  some (.inl (w24, (x5 + 1), σ23)))
def f_X0_draw (Γ : zSh) (a0 : Nat) (a1 : Int32) (a2 : Int32) (σ : zSt) : Option (Unit × zSt) :=
  pfI Γ σ a0 0 0 a1 fun σ1 =>
  lb1 (loopM (fun q => f_X0_draw_B11 Γ a0 a1 q.1 q.2.1 q.2.2) FUEL ((a2.toInt64), 0, σ1)) fun w15 σ14 =>
  lb0 (loopM (fun q => f_X0_draw_B58 Γ a0 a1 q.1 q.2.1 q.2.2) FUEL (w15, 0, σ14)) fun σ25 =>
  some ((), σ25)
def f_X0_becomeNumber (Γ : zSh) (a0 : Nat) (a1 : Int32) (σ : zSt) : Option (Unit × zSt) :=
  chk (isO Γ a0 0) <| bnd (f_X0_clear Γ a0 1 σ) fun _ σ1 =>
  gfR Γ σ1 a0 0 1 fun v2 =>
  stI Γ σ1 v2 0 1 fun σ3 =>
  gfR Γ σ3 a0 0 2 fun v4 =>
  stI Γ σ3 v4 0 a1 fun σ5 =>
  some ((), σ5)
def f_X0_becomeLetter (Γ : zSh) (a0 : Nat) (a1 : Int32) (σ : zSt) : Option (Unit × zSt) :=
  chk (isO Γ a0 0) <| bnd (f_X0_clear Γ a0 2 σ) fun _ σ1 =>
  gfR Γ σ1 a0 0 1 fun v2 =>
  stI Γ σ1 v2 0 1 fun σ3 =>
  gfR Γ σ3 a0 0 2 fun v4 =>
  stI Γ σ3 v4 1 1 fun σ5 =>
  gfR Γ σ5 a0 0 3 fun v6 =>
  ldG Γ σ5 v6 a1 fun v7 =>
  stI Γ σ5 v7 1 1 fun σ8 =>
  some ((), σ8)
def f_X0_placeBlock_B45 (Γ : zSh) (x0 : Nat) (x1 : Nat) (x2 : Int32) (x3 : Int32) (x4 : Int32) (x5 : Int32) (σ : zSt) : Option ((Int32 × zSt) ⊕ (zSt)) :=
  if x3 ≤ x5 then (some (.inr σ)) else (gfR Γ σ x1 0 3 fun v8 =>
  ldG Γ σ v8 x4 fun v9 =>
  gfR Γ σ x0 0 3 fun v10 =>
  ldG Γ σ v10 x4 fun v11 =>
  gfI Γ σ x0 0 0 fun v12 =>
  cpI Γ σ v9 (x5 * x3) v11 (((x2 + x5) * v12) + x2) x3 fun σ13 =>
  some (.inl ((x5 + 1), σ13)))
def f_X0_placeBlock_B36 (Γ : zSh) (x0 : Nat) (x1 : Nat) (x2 : Int32) (x3 : Int32) (x4 : Int32) (σ : zSt) : Option ((Int32 × zSt) ⊕ (zSt)) :=
  if 2 ≤ x4 then (some (.inr σ)) else (lb0 (loopM (fun q => f_X0_placeBlock_B45 Γ x0 x1 x2 x3 x4 q.1 q.2) FUEL (0, σ)) fun σ14 =>
  some (.inl ((x4 + 1), σ14)))
def f_X0_placeBlock (Γ : zSh) (a0 : Nat) (a1 : Nat) (a2 : Int32) (σ : zSt) : Option (Unit × zSt) :=
  gfI Γ σ a1 0 0 fun v1 =>
  gfR Γ σ a1 0 1 fun v2 =>
  gfR Γ σ a0 0 1 fun v3 =>
  cpI Γ σ v2 0 v3 a2 v1 fun σ4 =>
  gfR Γ σ4 a1 0 2 fun v5 =>
  gfR Γ σ4 a0 0 2 fun v6 =>
  cpI Γ σ4 v5 0 v6 a2 v1 fun σ7 =>
  lb0 (loopM (fun q => f_X0_placeBlock_B36 Γ a0 a1 a2 v1 q.1 q.2) FUEL (0, σ7)) fun σ15 =>
  some ((), σ15)
def f_X0_becomeSum (Γ : zSh) (a0 : Nat) (a1 : Nat) (a2 : Nat) (σ : zSt) : Option (Unit × zSt) :=
  gfI Γ σ a1 0 0 fun v1 =>
  gfI Γ σ a2 0 0 fun v2 =>
  chk (isO Γ a0 0) <| bnd (f_X0_clear Γ a0 (v1 + v2) σ) fun _ σ3 =>
  chk (isO Γ a0 0) <| bnd (f_X0_placeBlock Γ a0 a1 0 σ3) fun _ σ4 =>
  gfI Γ σ4 a1 0 0 fun v5 =>
  chk (isO Γ a0 0) <| bnd (f_X0_placeBlock Γ a0 a2 v5 σ4) fun _ σ6 =>
  some ((), σ6)
def f_X0_becomeDifference_B11 (Γ : zSh) (x0 : Nat) (x3 : Int32) (σ : zSt) : Option ((Int32 × zSt) ⊕ (zSt)) :=
  gfI Γ σ x0 0 0 fun v3 =>
  if v3 ≤ x3 then (some (.inr σ)) else (gfR Γ σ x0 0 1 fun v4 =>
  gfR Γ σ x0 0 1 fun v5 =>
  ldI Γ σ v5 x3 fun v6 =>
  rmI (10007 - v6) 10007 fun v7 =>
  stI Γ σ v4 x3 v7 fun σ8 =>
  some (.inl ((x3 + 1), σ8)))
def f_X0_becomeDifference (Γ : zSh) (a0 : Nat) (a1 : Nat) (a2 : Nat) (σ : zSt) : Option (Unit × zSt) :=
  chk (isO Γ a0 0) <| bnd (f_X0_becomeSum Γ a0 a1 a2 σ) fun _ σ1 =>
  gfI Γ σ1 a1 0 0 fun v2 =>
  lb0 (loopM (fun q => f_X0_becomeDifference_B11 Γ a0 q.1 q.2) FUEL (v2, σ1)) fun σ9 =>
  some ((), σ9)
def f_X0_placeProducts_B50 (Γ : zSh) (x0 : Nat) (x1 : Nat) (x2 : Int32) (x3 : Nat) (x4 : Int32) (x5 : Int32) (x6 : Int32) (x7 : Int32) (x8 : Int32) (x9 : Int32) (σ : zSt) : Option ((Int32 × zSt) ⊕ (zSt)) :=
  gfI Γ σ x3 0 0 fun v8 =>
  if v8 ≤ x9 then (some (.inr σ)) else (gfR Γ σ x3 0 3 fun v9 =>
  ldG Γ σ v9 x5 fun v10 =>
  gfI Γ σ x3 0 0 fun v11 =>
  ldI Γ σ v10 ((x4 * v11) + x9) fun v12 =>
  gfR Γ σ x0 0 3 fun v13 =>
  ldG Γ σ v13 x5 fun v14 =>
  gfI Γ σ x3 0 0 fun v15 =>
  rmI (x8 * v12) 10007 fun v16 =>
  stI Γ σ v14 ((x6 + (v15 * x7)) + x9) v16 fun σ17 =>
  some (.inl ((x9 + 1), σ17)))
def f_X0_placeProducts_B19 (Γ : zSh) (x0 : Nat) (x1 : Nat) (x2 : Int32) (x3 : Nat) (x4 : Int32) (x5 : Int32) (x6 : Int32) (x7 : Int32) (σ : zSt) : Option ((Int32 × zSt) ⊕ (zSt)) :=
  gfI Γ σ x1 0 0 fun v3 =>
  if v3 ≤ x7 then (some (.inr σ)) else (gfR Γ σ x1 0 3 fun v4 =>
  ldG Γ σ v4 x5 fun v5 =>
  gfI Γ σ x1 0 0 fun v6 =>
  ldI Γ σ v5 ((x2 * v6) + x7) fun v7 =>
  lb0 (loopM (fun q => f_X0_placeProducts_B50 Γ x0 x1 x2 x3 x4 x5 x6 x7 v7 q.1 q.2) FUEL (0, σ)) fun σ18 =>
  some (.inl ((x7 + 1), σ18)))
def f_X0_placeProducts (Γ : zSh) (a0 : Nat) (a1 : Nat) (a2 : Int32) (a3 : Nat) (a4 : Int32) (a5 : Int32) (σ : zSt) : Option (Unit × zSt) :=
  gfI Γ σ a3 0 0 fun v1 =>
  gfI Γ σ a0 0 0 fun v2 =>
  lb0 (loopM (fun q => f_X0_placeProducts_B19 Γ a0 a1 a2 a3 a4 a5 (((v1 * a2) + a4) * v2) q.1 q.2) FUEL (0, σ)) fun σ19 =>
  some ((), σ19)
def f_X0_becomeHadamard_B99 (Γ : zSh) (x0 : Nat) (x1 : Nat) (x2 : Nat) (x3 : Int32) (x4 : Int32) (x6 : Int32) (σ : zSt) : Option ((Int32 × zSt) ⊕ (zSt)) :=
  if 2 ≤ x6 then (some (.inr σ)) else (chk (isO Γ x0 0) <| bnd (f_X0_placeProducts Γ x0 x1 x3 x2 x4 x6 σ) fun _ σ21 =>
  some (.inl ((x6 + 1), σ21)))
def f_X0_becomeHadamard_B26 (Γ : zSh) (x0 : Nat) (x1 : Nat) (x2 : Nat) (x3 : Int32) (x4 : Int32) (σ : zSt) : Option ((Int32 × zSt) ⊕ (zSt)) :=
  gfI Γ σ x2 0 0 fun v5 =>
  if v5 ≤ x4 then (some (.inr σ)) else (gfI Γ σ x2 0 0 fun v6 =>
  gfR Γ σ x0 0 1 fun v7 =>
  gfR Γ σ x1 0 1 fun v8 =>
  ldI Γ σ v8 x3 fun v9 =>
  gfR Γ σ x2 0 1 fun v10 =>
  ldI Γ σ v10 x4 fun v11 =>
  rmI (v9 * v11) 10007 fun v12 =>
  stI Γ σ v7 ((v6 * x3) + x4) v12 fun σ13 =>
  gfR Γ σ13 x0 0 2 fun v14 =>
  gfR Γ σ13 x1 0 2 fun v15 =>
  ldI Γ σ13 v15 x3 fun v16 =>
  gfR Γ σ13 x2 0 2 fun v17 =>
  ldI Γ σ13 v17 x4 fun v18 =>
  rmI (v16 * v18) 10007 fun v19 =>
  stI Γ σ13 v14 ((v6 * x3) + x4) v19 fun σ20 =>
  lb0 (loopM (fun q => f_X0_becomeHadamard_B99 Γ x0 x1 x2 x3 x4 q.1 q.2) FUEL (0, σ20)) fun σ22 =>
  some (.inl ((x4 + 1), σ22)))
def f_X0_becomeHadamard_B15 (Γ : zSh) (x0 : Nat) (x1 : Nat) (x2 : Nat) (x3 : Int32) (σ : zSt) : Option ((Int32 × zSt) ⊕ (zSt)) :=
  gfI Γ σ x1 0 0 fun v4 =>
  if v4 ≤ x3 then (some (.inr σ)) else (lb0 (loopM (fun q => f_X0_becomeHadamard_B26 Γ x0 x1 x2 x3 q.1 q.2) FUEL (0, σ)) fun σ23 =>
  some (.inl ((x3 + 1), σ23)))
def f_X0_becomeHadamard (Γ : zSh) (a0 : Nat) (a1 : Nat) (a2 : Nat) (σ : zSt) : Option (Unit × zSt) :=
  gfI Γ σ a1 0 0 fun v1 =>
  gfI Γ σ a2 0 0 fun v2 =>
  pfI Γ σ a0 0 0 (v1 * v2) fun σ3 =>
  lb0 (loopM (fun q => f_X0_becomeHadamard_B15 Γ a0 a1 a2 q.1 q.2) FUEL (0, σ3)) fun σ24 =>
  some ((), σ24)
def f_X0_weightFrom_B4_L35 (Γ : zSh) (x0 : Nat) (x1 : Nat) (x2 : Int32) (x3 : Int32) (σ : zSt) : Option ((Int32 × Int32 × zSt) ⊕ (Int32 × zSt)) :=
  some (.inl (x2, (x3 + 1), σ))
def f_X0_weightFrom_B4 (Γ : zSh) (x0 : Nat) (x1 : Nat) (x2 : Int32) (x3 : Int32) (σ : zSt) : Option ((Int32 × Int32 × zSt) ⊕ (Int32 × zSt)) :=
  gfI Γ σ x0 0 0 fun v1 =>
  if v1 ≤ x3 then (some (.inr (x2, σ))) else (ldI Γ σ x1 x3 fun v2 =>
  if v2 = 0 then (f_X0_weightFrom_B4_L35 Γ x0 x1 x2 x3 σ) else (ldI Γ σ x1 x3 fun v3 =>
  gfR Γ σ x0 0 2 fun v4 =>
  ldI Γ σ v4 x3 fun v5 =>
  rmI (x2 + (v3 * v5)) 10007 fun v6 =>
  f_X0_weightFrom_B4_L35 Γ x0 x1 v6 x3 σ))
def f_X0_weightFrom (Γ : zSh) (a0 : Nat) (a1 : Nat) (σ : zSt) : Option (Int32 × zSt) :=
  lb1 (loopM (fun q => f_X0_weightFrom_B4 Γ a0 a1 q.1 q.2.1 q.2.2) FUEL (0, 0, σ)) fun w8 σ7 =>
  some (w8, σ7)
def f_X0_emptyWeight (Γ : zSh) (a0 : Nat) (σ : zSt) : Option (Int32 × zSt) :=
  gfR Γ σ a0 0 1 fun v1 =>
  chk (isO Γ a0 0) <| bnd (f_X0_weightFrom Γ a0 v1 σ) fun r3 σ2 =>
  some (r3, σ2)
def f_X6_multiply_B2 (Γ : zSh) (x0 : Nat) (x1 : Int32) (x2 : Int32) (x3 : Int32) (σ : zSt) : Option ((Int32 × zSt) ⊕ (zSt)) :=
  if x2 ≤ x3 then (some (.inr σ)) else (ldI Γ σ x0 x3 fun v1 =>
  rmI (v1 * x1) 10007 fun v2 =>
  stI Γ σ x0 x3 v2 fun σ3 =>
  some (.inl ((x3 + 1), σ3)))
def f_X6_multiply (Γ : zSh) (a0 : Nat) (a1 : Int32) (a2 : Int32) (σ : zSt) : Option (Unit × zSt) :=
  lb0 (loopM (fun q => f_X6_multiply_B2 Γ a0 a1 a2 q.1 q.2) FUEL (0, σ)) fun σ4 =>
  some ((), σ4)
def f_X0_stepThenLast_B5 (Γ : zSh) (x0 : Nat) (x1 : Int32) (x2 : Int32) (x3 : Int32) (x4 : Int32) (σ : zSt) : Option ((Int32 × Int32 × zSt) ⊕ (Int32 × zSt)) :=
  gfI Γ σ x0 0 0 fun v1 =>
  if v1 ≤ x4 then (some (.inr (x3, σ))) else (gfR Γ σ x0 0 3 fun v2 =>
  ldG Γ σ v2 x1 fun v3 =>
  gfI Γ σ x0 0 0 fun v4 =>
  ldI Γ σ v3 ((x2 * v4) + x4) fun v5 =>
  gfR Γ σ x0 0 2 fun v6 =>
  ldI Γ σ v6 x4 fun v7 =>
  rmI (x3 + (v5 * v7)) 10007 fun v8 =>
  some (.inl (v8, (x4 + 1), σ)))
def f_X0_stepThenLast (Γ : zSh) (a0 : Nat) (a1 : Int32) (a2 : Int32) (σ : zSt) : Option (Int32 × zSt) :=
  lb1 (loopM (fun q => f_X0_stepThenLast_B5 Γ a0 a1 a2 q.1 q.2.1 q.2.2) FUEL (0, 0, σ)) fun w10 σ9 =>
  some (w10, σ9)
def f_X0_becomeCauchy_B32 (Γ : zSh) (x0 : Nat) (x1 : Nat) (x2 : Nat) (x3 : Int32) (x4 : Int32) (x5 : Int32) (σ : zSt) : Option ((Int32 × zSt) ⊕ (zSt)) :=
  gfI Γ σ x0 0 0 fun v9 =>
  if v9 ≤ x5 then (some (.inr σ)) else (gfR Γ σ x0 0 1 fun v10 =>
  gfR Γ σ x0 0 1 fun v11 =>
  ldI Γ σ v11 x5 fun v12 =>
  rmI (v12 * x4) 10007 fun v13 =>
  stI Γ σ v10 x5 v13 fun σ14 =>
  some (.inl ((x5 + 1), σ14)))
def f_X0_becomeCauchy_B99 (Γ : zSh) (x0 : Nat) (x1 : Nat) (x2 : Nat) (x3 : Int32) (x5 : Int32) (x6 : Int32) (x7 : Int32) (x8 : Int32) (σ : zSt) : Option ((Int32 × zSt) ⊕ (zSt)) :=
  gfI Γ σ x2 0 0 fun v18 =>
  if v18 ≤ x8 then (some (.inr σ)) else (gfR Γ σ x0 0 3 fun v19 =>
  ldG Γ σ v19 x5 fun v20 =>
  gfI Γ σ x0 0 0 fun v21 =>
  gfR Γ σ x2 0 1 fun v22 =>
  ldI Γ σ v22 x8 fun v23 =>
  rmI (x7 * v23) 10007 fun v24 =>
  stI Γ σ v20 (((x6 * v21) + x3) + x8) v24 fun σ25 =>
  some (.inl ((x8 + 1), σ25)))
def f_X0_becomeCauchy_B80 (Γ : zSh) (x0 : Nat) (x1 : Nat) (x2 : Nat) (x3 : Int32) (x5 : Int32) (x6 : Int32) (σ : zSt) : Option ((Int32 × zSt) ⊕ (zSt)) :=
  if x3 ≤ x6 then (some (.inr σ)) else (chk (isO Γ x1 0) <| bnd (f_X0_stepThenLast Γ x1 x5 x6 σ) fun r17 σ16 =>
  lb0 (loopM (fun q => f_X0_becomeCauchy_B99 Γ x0 x1 x2 x3 x5 x6 r17 q.1 q.2) FUEL (0, σ16)) fun σ26 =>
  some (.inl ((x6 + 1), σ26)))
def f_X0_becomeCauchy_B71 (Γ : zSh) (x0 : Nat) (x1 : Nat) (x2 : Nat) (x3 : Int32) (x5 : Int32) (σ : zSt) : Option ((Int32 × zSt) ⊕ (zSt)) :=
  if 2 ≤ x5 then (some (.inr σ)) else (lb0 (loopM (fun q => f_X0_becomeCauchy_B80 Γ x0 x1 x2 x3 x5 q.1 q.2) FUEL (0, σ)) fun σ27 =>
  some (.inl ((x5 + 1), σ27)))
def f_X0_becomeCauchy (Γ : zSh) (a0 : Nat) (a1 : Nat) (a2 : Nat) (σ : zSt) : Option (Unit × zSt) :=
  chk (isO Γ a0 0) <| bnd (f_X0_becomeSum Γ a0 a1 a2 σ) fun _ σ1 =>
  gfI Γ σ1 a1 0 0 fun v2 =>
  gfR Γ σ1 a0 0 2 fun v3 =>
  chk (isO Γ a2 0) <| bnd (f_X0_emptyWeight Γ a2 σ1) fun r5 σ4 =>
  bnd (f_X6_multiply Γ v3 r5 v2 σ4) fun _ σ6 =>
  chk (isO Γ a1 0) <| bnd (f_X0_emptyWeight Γ a1 σ6) fun r8 σ7 =>
  lb0 (loopM (fun q => f_X0_becomeCauchy_B32 Γ a0 a1 a2 v2 r8 q.1 q.2) FUEL (v2, σ7)) fun σ15 =>
  lb0 (loopM (fun q => f_X0_becomeCauchy_B71 Γ a0 a1 a2 v2 q.1 q.2) FUEL (0, σ15)) fun σ28 =>
  some ((), σ28)
def f_X0_hasStar_L21 (Γ : zSh) (s0 : Int32) (σ : zSt) : Option (Int32 × zSt) :=
  chk (isB s0) (some (s0, σ))
def f_X0_hasStar_L20 (Γ : zSh)  (σ : zSt) : Option (Int32 × zSt) :=
  f_X0_hasStar_L21 Γ 0 σ
def f_X0_hasStar (Γ : zSh) (a0 : Nat) (σ : zSt) : Option (Int32 × zSt) :=
  gfI Γ σ a0 0 0 fun v1 =>
  if 12 ≤ v1 then (f_X0_hasStar_L20 Γ σ) else (chk (isO Γ a0 0) <| bnd (f_X0_emptyWeight Γ a0 σ) fun r3 σ2 =>
  if r3 = 0 then (f_X0_hasStar_L21 Γ 1 σ2) else (f_X0_hasStar_L20 Γ σ2))
def f_X0_initialThenStep_B5 (Γ : zSh) (x0 : Nat) (x1 : Int32) (x2 : Int32) (x3 : Int32) (x4 : Int32) (σ : zSt) : Option ((Int32 × Int32 × zSt) ⊕ (Int32 × zSt)) :=
  gfI Γ σ x0 0 0 fun v1 =>
  if v1 ≤ x4 then (some (.inr (x3, σ))) else (gfR Γ σ x0 0 1 fun v2 =>
  ldI Γ σ v2 x4 fun v3 =>
  gfR Γ σ x0 0 3 fun v4 =>
  ldG Γ σ v4 x1 fun v5 =>
  gfI Γ σ x0 0 0 fun v6 =>
  ldI Γ σ v5 ((x4 * v6) + x2) fun v7 =>
  rmI (x3 + (v3 * v7)) 10007 fun v8 =>
  some (.inl (v8, (x4 + 1), σ)))
def f_X0_initialThenStep (Γ : zSh) (a0 : Nat) (a1 : Int32) (a2 : Int32) (σ : zSt) : Option (Int32 × zSt) :=
  lb1 (loopM (fun q => f_X0_initialThenStep_B5 Γ a0 a1 a2 q.1 q.2.1 q.2.2) FUEL (0, 0, σ)) fun w10 σ9 =>
  some (w10, σ9)
def f_X0_becomeStar_B68 (Γ : zSh) (x0 : Nat) (x1 : Nat) (x2 : Int32) (x3 : Int32) (x4 : Int32) (σ : zSt) : Option ((Int32 × Int32 × zSt) ⊕ (Int32 × zSt)) :=
  gfI Γ σ x1 0 0 fun v14 =>
  if v14 ≤ x4 then (some (.inr (x3, σ))) else (chk (isO Γ x1 0) <| bnd (f_X0_stepThenLast Γ x1 x2 x4 σ) fun r16 σ15 =>
  gfR Γ σ15 x1 0 1 fun v17 =>
  ldI Γ σ15 v17 x4 fun v18 =>
  rmI (x3 + (v18 * r16)) 10007 fun v19 =>
  gfR Γ σ15 x0 0 3 fun v20 =>
  ldG Γ σ15 v20 x2 fun v21 =>
  gfI Γ σ15 x0 0 0 fun v22 =>
  stI Γ σ15 v21 ((1 + x4) * v22) r16 fun σ23 =>
  gfR Γ σ23 x0 0 3 fun v24 =>
  ldG Γ σ23 v24 x2 fun v25 =>
  chk (isO Γ x1 0) <| bnd (f_X0_initialThenStep Γ x1 x2 x4 σ23) fun r27 σ26 =>
  stI Γ σ26 v25 (1 + x4) r27 fun σ28 =>
  some (.inl (v19, (x4 + 1), σ28)))
def f_X0_becomeStar_B58 (Γ : zSh) (x0 : Nat) (x1 : Nat) (x2 : Int32) (σ : zSt) : Option ((Int32 × zSt) ⊕ (zSt)) :=
  if 2 ≤ x2 then (some (.inr σ)) else (lb1 (loopM (fun q => f_X0_becomeStar_B68 Γ x0 x1 x2 q.1 q.2.1 q.2.2) FUEL (0, 0, σ)) fun w30 σ29 =>
  gfR Γ σ29 x0 0 3 fun v31 =>
  ldG Γ σ29 v31 x2 fun v32 =>
  stI Γ σ29 v32 0 w30 fun σ33 =>
  some (.inl ((x2 + 1), σ33)))
def f_X0_becomeStar (Γ : zSh) (a0 : Nat) (a1 : Nat) (σ : zSt) : Option (Unit × zSt) :=
  gfI Γ σ a1 0 0 fun v1 =>
  chk (isO Γ a0 0) <| bnd (f_X0_clear Γ a0 (v1 + 1) σ) fun _ σ2 =>
  chk (isO Γ a0 0) <| bnd (f_X0_placeBlock Γ a0 a1 1 σ2) fun _ σ3 =>
  gfR Γ σ3 a0 0 1 fun v4 =>
  gfI Γ σ3 a0 0 0 fun v5 =>
  bnd (f_J7_fill_fda19 Γ v4 0 v5 0 σ3) fun _ σ6 =>
  gfR Γ σ6 a0 0 2 fun v7 =>
  gfI Γ σ6 a0 0 0 fun v8 =>
  bnd (f_J7_fill_fda19 Γ v7 0 v8 0 σ6) fun _ σ9 =>
  gfR Γ σ9 a0 0 1 fun v10 =>
  stI Γ σ9 v10 0 1 fun σ11 =>
  gfR Γ σ11 a0 0 2 fun v12 =>
  stI Γ σ11 v12 0 1 fun σ13 =>
  lb0 (loopM (fun q => f_X0_becomeStar_B58 Γ a0 a1 q.1 q.2) FUEL (0, σ13)) fun σ34 =>
  some ((), σ34)
def f_X0_startAfter_B2 (Γ : zSh) (x0 : Nat) (x1 : Nat) (x2 : Int32) (x3 : Int32) (σ : zSt) : Option ((Int32 × zSt) ⊕ (zSt)) :=
  gfI Γ σ x0 0 0 fun v1 =>
  if v1 ≤ x3 then (some (.inr σ)) else (gfR Γ σ x0 0 1 fun v2 =>
  chk (isO Γ x1 0) <| bnd (f_X0_initialThenStep Γ x1 x2 x3 σ) fun r4 σ3 =>
  stI Γ σ3 v2 x3 r4 fun σ5 =>
  some (.inl ((x3 + 1), σ5)))
def f_X0_startAfter (Γ : zSh) (a0 : Nat) (a1 : Nat) (a2 : Int32) (σ : zSt) : Option (Unit × zSt) :=
  lb0 (loopM (fun q => f_X0_startAfter_B2 Γ a0 a1 a2 q.1 q.2) FUEL (0, σ)) fun σ6 =>
  some ((), σ6)
def f_X0_transpose_B12 (Γ : zSh) (x0 : Nat) (x1 : Nat) (x2 : Int32) (x3 : Int32) (σ : zSt) : Option ((Int32 × zSt) ⊕ (zSt)) :=
  if x2 ≤ x3 then (some (.inr σ)) else (gfI Γ σ x0 0 0 fun v2 =>
  ldI Γ σ x1 ((x2 * v2) + x3) fun v3 =>
  gfI Γ σ x0 0 0 fun v4 =>
  gfI Γ σ x0 0 0 fun v5 =>
  ldI Γ σ x1 ((x3 * v5) + x2) fun v6 =>
  stI Γ σ x1 ((x2 * v4) + x3) v6 fun σ7 =>
  gfI Γ σ7 x0 0 0 fun v8 =>
  stI Γ σ7 x1 ((x3 * v8) + x2) v3 fun σ9 =>
  some (.inl ((x3 + 1), σ9)))
def f_X0_transpose_B2 (Γ : zSh) (x0 : Nat) (x1 : Nat) (x2 : Int32) (σ : zSt) : Option ((Int32 × zSt) ⊕ (zSt)) :=
  gfI Γ σ x0 0 0 fun v1 =>
  if v1 ≤ x2 then (some (.inr σ)) else (lb0 (loopM (fun q => f_X0_transpose_B12 Γ x0 x1 x2 q.1 q.2) FUEL (0, σ)) fun σ10 =>
  some (.inl ((x2 + 1), σ10)))
def f_X0_transpose (Γ : zSh) (a0 : Nat) (a1 : Nat) (σ : zSt) : Option (Unit × zSt) :=
  lb0 (loopM (fun q => f_X0_transpose_B2 Γ a0 a1 q.1 q.2) FUEL (0, σ)) fun σ11 =>
  some ((), σ11)
def f_X0_reverse_B2 (Γ : zSh) (x0 : Nat) (x1 : Int32) (σ : zSt) : Option ((Int32 × zSt) ⊕ (zSt)) :=
  gfI Γ σ x0 0 0 fun v1 =>
  if v1 ≤ x1 then (some (.inr σ)) else (gfR Γ σ x0 0 1 fun v2 =>
  ldI Γ σ v2 x1 fun v3 =>
  gfR Γ σ x0 0 1 fun v4 =>
  gfR Γ σ x0 0 2 fun v5 =>
  ldI Γ σ v5 x1 fun v6 =>
  stI Γ σ v4 x1 v6 fun σ7 =>
  gfR Γ σ7 x0 0 2 fun v8 =>
  stI Γ σ7 v8 x1 v3 fun σ9 =>
  some (.inl ((x1 + 1), σ9)))
def f_X0_reverse_B44 (Γ : zSh) (x0 : Nat) (x1 : Int32) (σ : zSt) : Option ((Int32 × zSt) ⊕ (zSt)) :=
  if 2 ≤ x1 then (some (.inr σ)) else (gfR Γ σ x0 0 3 fun v11 =>
  ldG Γ σ v11 x1 fun v12 =>
  chk (isO Γ x0 0) <| bnd (f_X0_transpose Γ x0 v12 σ) fun _ σ13 =>
  some (.inl ((x1 + 1), σ13)))
def f_X0_reverse (Γ : zSh) (a0 : Nat) (σ : zSt) : Option (Unit × zSt) :=
  lb0 (loopM (fun q => f_X0_reverse_B2 Γ a0 q.1 q.2) FUEL (0, σ)) fun σ10 =>
  lb0 (loopM (fun q => f_X0_reverse_B44 Γ a0 q.1 q.2) FUEL (0, σ10)) fun σ14 =>
  some ((), σ14)
def f_X0_addStep_B11_L82 (Γ : zSh) (x0 : Nat) (x1 : Nat) (x3 : Nat) (x4 : Nat) (x5 : Int32) (σ : zSt) : Option ((Int32 × zSt) ⊕ (zSt)) :=
  some (.inl ((x5 + 1), σ))
def f_X0_addStep_B43 (Γ : zSh) (x0 : Nat) (x1 : Nat) (x3 : Nat) (x4 : Nat) (x5 : Int32) (x6 : Int32) (x7 : Int32) (x8 : Int32) (σ : zSt) : Option ((Int32 × zSt) ⊕ (zSt)) :=
  gfI Γ σ x0 0 0 fun v6 =>
  if v6 ≤ x8 then (some (.inr σ)) else (ldI Γ σ x3 x8 fun v7 =>
  ldI Γ σ x4 (x7 + x8) fun v8 =>
  rmI (v7 + (x6 * v8)) 10007 fun v9 =>
  stI Γ σ x3 x8 v9 fun σ10 =>
  some (.inl ((x8 + 1), σ10)))
def f_X0_addStep_B11 (Γ : zSh) (x0 : Nat) (x1 : Nat) (x3 : Nat) (x4 : Nat) (x5 : Int32) (σ : zSt) : Option ((Int32 × zSt) ⊕ (zSt)) :=
  gfI Γ σ x0 0 0 fun v3 =>
  if v3 ≤ x5 then (some (.inr σ)) else (ldI Γ σ x1 x5 fun v4 =>
  if v4 = 0 then (f_X0_addStep_B11_L82 Γ x0 x1 x3 x4 x5 σ) else (gfI Γ σ x0 0 0 fun v5 =>
  lb0 (loopM (fun q => f_X0_addStep_B43 Γ x0 x1 x3 x4 x5 v4 (x5 * v5) q.1 q.2) FUEL (0, σ)) fun σ11 =>
  f_X0_addStep_B11_L82 Γ x0 x1 x3 x4 x5 σ11))
def f_X0_addStep (Γ : zSh) (a0 : Nat) (a1 : Nat) (a2 : Int32) (a3 : Nat) (σ : zSt) : Option (Unit × zSt) :=
  gfR Γ σ a0 0 3 fun v1 =>
  ldG Γ σ v1 a2 fun v2 =>
  lb0 (loopM (fun q => f_X0_addStep_B11 Γ a0 a1 a3 v2 q.1 q.2) FUEL (0, σ)) fun σ12 =>
  some ((), σ12)
def f_X0_takeStep (Γ : zSh) (a0 : Nat) (a1 : Nat) (a2 : Int32) (a3 : Nat) (σ : zSt) : Option (Unit × zSt) :=
  gfI Γ σ a0 0 0 fun v1 =>
  bnd (f_J7_fill_fda19 Γ a3 0 v1 0 σ) fun _ σ2 =>
  chk (isO Γ a0 0) <| bnd (f_X0_addStep Γ a0 a1 a2 a3 σ2) fun _ σ3 =>
  some ((), σ3)
def f_X0_hash_B15 (Γ : zSh) (x0 : Nat) (x3 : Int64) (x5 : Int32) (σ : zSt) : Option ((Int64 × Int32 × zSt) ⊕ (Int64 × zSt)) :=
  gfI Γ σ x0 0 0 fun v2 =>
  if v2 ≤ x5 then (some (.inr (x3, σ))) else (gfR Γ σ x0 0 1 fun v3 =>
  ldI Γ σ v3 x5 fun v4 =>
  gfR Γ σ x0 0 2 fun v5 =>
  ldI Γ σ v5 x5 fun v6 =>
  some (.inl (((31 * ((31 * x3) + (v4.toInt64))) + (v6.toInt64)), (x5 + 1), σ)))
def f_X0_hash_B72 (Γ : zSh) (x0 : Nat) (x5 : Int32) (x3 : Int64) (x6 : Int32) (σ : zSt) : Option ((Int64 × Int32 × zSt) ⊕ (Int64 × zSt)) :=
  gfI Γ σ x0 0 0 fun v9 =>
  gfI Γ σ x0 0 0 fun v10 =>
  if (v9 * v10) ≤ x6 then (some (.inr (x3, σ))) else (gfR Γ σ x0 0 3 fun v11 =>
  ldG Γ σ v11 x5 fun v12 =>
  ldI Γ σ v12 x6 fun v13 =>
  some (.inl (((31 * x3) + (v13.toInt64)), (x6 + 1), σ)))
def f_X0_hash_B63 (Γ : zSh) (x0 : Nat) (x3 : Int64) (x5 : Int32) (σ : zSt) : Option ((Int64 × Int32 × zSt) ⊕ (Int64 × zSt)) :=
  if 2 ≤ x5 then (some (.inr (x3, σ))) else (lb1 (loopM (fun q => f_X0_hash_B72 Γ x0 x5 q.1 q.2.1 q.2.2) FUEL (x3, 0, σ)) fun w15 σ14 =>
  some (.inl (w15, (x5 + 1), σ14)))
def f_X0_hash (Γ : zSh) (a0 : Nat) (a1 : Int64) (σ : zSt) : Option (Int64 × zSt) :=
  gfI Γ σ a0 0 0 fun v1 =>
  lb1 (loopM (fun q => f_X0_hash_B15 Γ a0 q.1 q.2.1 q.2.2) FUEL (((31 * a1) + (v1.toInt64)), 0, σ)) fun w8 σ7 =>
  lb1 (loopM (fun q => f_X0_hash_B63 Γ a0 q.1 q.2.1 q.2.2) FUEL (w8, 0, σ7)) fun w17 σ16 =>
  some (w17, σ16)
def f_X6_addMultiple_B3 (Γ : zSh) (x0 : Nat) (x1 : Int32) (x2 : Nat) (x3 : Int32) (x4 : Int32) (σ : zSt) : Option ((Int32 × zSt) ⊕ (zSt)) :=
  if x3 ≤ x4 then (some (.inr σ)) else (ldI Γ σ x0 x4 fun v1 =>
  ldI Γ σ x2 x4 fun v2 =>
  rmI (v1 + (x1 * v2)) 10007 fun v3 =>
  stI Γ σ x0 x4 v3 fun σ4 =>
  some (.inl ((x4 + 1), σ4)))
def f_X6_addMultiple (Γ : zSh) (a0 : Nat) (a1 : Int32) (a2 : Nat) (a3 : Int32) (σ : zSt) : Option (Unit × zSt) :=
  lb0 (loopM (fun q => f_X6_addMultiple_B3 Γ a0 a1 a2 a3 q.1 q.2) FUEL (0, σ)) fun σ5 =>
  some ((), σ5)
def f_X6_firstNonZero_B2 (Γ : zSh) (x0 : Nat) (x1 : Int32) (x2 : Int32) (σ : zSt) : Option ((Int32 × zSt) ⊕ ((zSt) ⊕ (Int32 × zSt))) :=
  if x1 ≤ x2 then (some (.inr (.inl σ))) else (ldI Γ σ x0 x2 fun v1 =>
  if v1 = 0 then (some (.inl ((x2 + 1), σ))) else (some (.inr (.inr (x2, σ)))))
def f_X6_firstNonZero (Γ : zSh) (a0 : Nat) (a1 : Int32) (σ : zSt) : Option (Int32 × zSt) :=
  lbr (loopM (fun q => f_X6_firstNonZero_B2 Γ a0 a1 q.1 q.2) FUEL (0, σ)) (fun v σ => some (v, σ)) fun o => lb0 o fun σ2 =>
  some ((-1), σ2)
def f_X6_reciprocal_B8_L27 (Γ : zSh) (x1 : Int32) (x2 : Int32) (x3 : Int32) (σ : zSt) : Option ((Int32 × Int32 × Int32 × zSt) ⊕ (Int32 × zSt)) :=
  rmI (x2 * x2) 10007 fun v1 =>
  some (.inl (x1, v1, (x3 >>> (1 &&& 31)), σ))
def f_X6_reciprocal_B8 (Γ : zSh) (x1 : Int32) (x2 : Int32) (x3 : Int32) (σ : zSt) : Option ((Int32 × Int32 × Int32 × zSt) ⊕ (Int32 × zSt)) :=
  if x3 ≤ 0 then (some (.inr (x1, σ))) else (if (x3 &&& 1) = 1 then (rmI (x1 * x2) 10007 fun v2 =>
  f_X6_reciprocal_B8_L27 Γ v2 x2 x3 σ) else (f_X6_reciprocal_B8_L27 Γ x1 x2 x3 σ))
def f_X6_reciprocal (Γ : zSh) (a0 : Int32) (σ : zSt) : Option (Int32 × zSt) :=
  lb1 (loopM (fun q => f_X6_reciprocal_B8 Γ q.1 q.2.1 q.2.2.1 q.2.2.2) FUEL (1, a0, 10005, σ)) fun w4 σ3 =>
  some (w4, σ3)
def f_X1_extend_B8 (Γ : zSh) (x0 : Nat) (x1 : Int32) (x2 : Int32) (x3 : Int32) (x4 : Int32) (σ : zSt) : Option ((Int32 × zSt) ⊕ (zSt)) :=
  if x2 ≤ x4 then (some (.inr σ)) else (gfR Γ σ x0 1 3 fun v2 =>
  ldG Γ σ v2 x3 fun v3 =>
  gfR Γ σ x0 1 8 fun v4 =>
  ldI Γ σ v4 x4 fun v5 =>
  stI Γ σ v3 x4 v5 fun σ6 =>
  gfR Γ σ6 x0 1 4 fun v7 =>
  ldG Γ σ6 v7 x3 fun v8 =>
  gfR Γ σ6 x0 1 9 fun v9 =>
  ldI Γ σ6 v9 x4 fun v10 =>
  rmI (v10 * x1) 10007 fun v11 =>
  stI Γ σ6 v8 x4 v11 fun σ12 =>
  gfR Γ σ12 x0 1 5 fun v13 =>
  ldG Γ σ12 v13 x3 fun v14 =>
  gfR Γ σ12 x0 1 10 fun v15 =>
  ldI Γ σ12 v15 x4 fun v16 =>
  rmI (v16 * (10007 - x1)) 10007 fun v17 =>
  stI Γ σ12 v14 x4 v17 fun σ18 =>
  gfR Γ σ18 x0 1 10 fun v19 =>
  stI Γ σ18 v19 x4 0 fun σ20 =>
  some (.inl ((x4 + 1), σ20)))
def f_X1_extend (Γ : zSh) (a0 : Nat) (a1 : Int32) (a2 : Int32) (σ : zSt) : Option (Unit × zSt) :=
  gfI Γ σ a0 1 0 fun v1 =>
  lb0 (loopM (fun q => f_X1_extend_B8 Γ a0 a1 a2 v1 q.1 q.2) FUEL (0, σ)) fun σ21 =>
  gfR Γ σ21 a0 1 5 fun v22 =>
  ldG Γ σ21 v22 v1 fun v23 =>
  stI Γ σ21 v23 v1 a1 fun σ24 =>
  gfR Γ σ24 a0 1 10 fun v25 =>
  stI Γ σ24 v25 v1 1 fun σ26 =>
  gfI Γ σ26 a0 1 0 fun v27 =>
  pfI Γ σ26 a0 1 0 (v27 + 1) fun σ28 =>
  some ((), σ28)
def f_X1_place_B32_L98 (Γ : zSh) (x0 : Nat) (x1 : Nat) (x2 : Int32) (x3 : Int32) (x4 : Int32) (σ : zSt) : Option ((Int32 × zSt) ⊕ (zSt)) :=
  some (.inl ((x4 + 1), σ))
def f_X1_place_B32 (Γ : zSh) (x0 : Nat) (x1 : Nat) (x2 : Int32) (x3 : Int32) (x4 : Int32) (σ : zSt) : Option ((Int32 × zSt) ⊕ (zSt)) :=
  gfI Γ σ x0 1 0 fun v7 =>
  if v7 ≤ x4 then (some (.inr σ)) else (gfR Γ σ x0 1 9 fun v8 =>
  gfR Γ σ x0 1 6 fun v9 =>
  ldI Γ σ v9 x4 fun v10 =>
  ldI Γ σ v8 v10 fun v11 =>
  if v11 = 0 then (f_X1_place_B32_L98 Γ x0 x1 x2 x3 x4 σ) else (gfR Γ σ x0 1 9 fun v12 =>
  gfR Γ σ x0 1 4 fun v13 =>
  ldG Γ σ v13 x4 fun v14 =>
  bnd (f_X6_addMultiple Γ v12 (10007 - v11) v14 x3 σ) fun _ σ15 =>
  gfR Γ σ15 x0 1 10 fun v16 =>
  gfR Γ σ15 x0 1 5 fun v17 =>
  ldG Γ σ15 v17 x4 fun v18 =>
  bnd (f_X6_addMultiple Γ v16 v11 v18 x3 σ15) fun _ σ19 =>
  f_X1_place_B32_L98 Γ x0 x1 x2 x3 x4 σ19))
def f_X1_place_L182 (Γ : zSh)  (σ : zSt) : Option (Unit × zSt) :=
  some ((), σ)
def f_X1_place (Γ : zSh) (a0 : Nat) (a1 : Nat) (a2 : Int32) (σ : zSt) : Option (Unit × zSt) :=
  gfI Γ σ a1 0 0 fun v1 =>
  gfR Γ σ a0 1 8 fun v2 =>
  gfR Γ σ a0 1 9 fun v3 =>
  cpI Γ σ v2 0 v3 0 v1 fun σ4 =>
  gfR Γ σ4 a0 1 10 fun v5 =>
  bnd (f_J7_fill_fda19 Γ v5 0 v1 0 σ4) fun _ σ6 =>
  lb0 (loopM (fun q => f_X1_place_B32 Γ a0 a1 a2 v1 q.1 q.2) FUEL (0, σ6)) fun σ20 =>
  gfR Γ σ20 a0 1 9 fun v21 =>
  bnd (f_X6_firstNonZero Γ v21 v1 σ20) fun r23 σ22 =>
  if r23 = (-1) then (f_X1_place_L182 Γ σ22) else (gfI Γ σ22 a0 1 0 fun v24 =>
  if 24 ≤ v24 then (f_X1_place_L182 Γ σ22) else (gfR Γ σ22 a0 1 1 fun v25 =>
  gfI Γ σ22 a0 1 0 fun v26 =>
  stI Γ σ22 v25 v26 a2 fun σ27 =>
  gfR Γ σ27 a0 1 2 fun v28 =>
  gfI Γ σ27 a0 1 0 fun v29 =>
  gfR Γ σ27 a0 1 8 fun v30 =>
  chk (isO Γ a1 0) <| bnd (f_X0_weightFrom Γ a1 v30 σ27) fun r32 σ31 =>
  stI Γ σ31 v28 v29 r32 fun σ33 =>
  gfR Γ σ33 a0 1 6 fun v34 =>
  gfI Γ σ33 a0 1 0 fun v35 =>
  stI Γ σ33 v34 v35 r23 fun σ36 =>
  gfR Γ σ36 a0 1 9 fun v37 =>
  ldI Γ σ36 v37 r23 fun v38 =>
  bnd (f_X6_reciprocal Γ v38 σ36) fun r40 σ39 =>
  chk (isO Γ a0 1) <| bnd (f_X1_extend Γ a0 r40 v1 σ39) fun _ σ41 =>
  f_X1_place_L182 Γ σ41))
def f_X1_explore_B49 (Γ : zSh) (x0 : Nat) (x1 : Nat) (x2 : Int32) (x3 : Int32) (x4 : Int32) (σ : zSt) : Option ((Int32 × zSt) ⊕ (zSt)) :=
  if 2 ≤ x4 then (some (.inr σ)) else (gfR Γ σ x0 1 3 fun v8 =>
  ldG Γ σ v8 x3 fun v9 =>
  gfR Γ σ x0 1 8 fun v10 =>
  chk (isO Γ x1 0) <| bnd (f_X0_takeStep Γ x1 v9 x4 v10 σ) fun _ σ11 =>
  gfR Γ σ11 x0 1 1 fun v12 =>
  ldI Γ σ11 v12 x3 fun v13 =>
  chk (isO Γ x0 1) <| bnd (f_X1_place Γ x0 x1 (((2 * v13) + 1) + x4) σ11) fun _ σ14 =>
  gfR Γ σ14 x0 1 10 fun v15 =>
  gfR Γ σ14 x0 1 7 fun v16 =>
  ldG Γ σ14 v16 ((2 * x3) + x4) fun v17 =>
  cpI Γ σ14 v15 0 v17 0 x2 fun σ18 =>
  some (.inl ((x4 + 1), σ18)))
def f_X1_explore_B32 (Γ : zSh) (x0 : Nat) (x1 : Nat) (x2 : Int32) (x3 : Int32) (σ : zSt) : Option ((Int32 × zSt) ⊕ (zSt)) :=
  gfI Γ σ x0 1 0 fun v7 =>
  if v7 ≤ x3 then (some (.inr σ)) else (if 24 ≤ x3 then (some (.inr σ)) else (lb0 (loopM (fun q => f_X1_explore_B49 Γ x0 x1 x2 x3 q.1 q.2) FUEL (0, σ)) fun σ19 =>
  some (.inl ((x3 + 1), σ19))))
def f_X1_explore (Γ : zSh) (a0 : Nat) (a1 : Nat) (σ : zSt) : Option (Unit × zSt) :=
  gfI Γ σ a1 0 0 fun v1 =>
  pfI Γ σ a0 1 0 0 fun σ2 =>
  gfR Γ σ2 a1 0 1 fun v3 =>
  gfR Γ σ2 a0 1 8 fun v4 =>
  cpI Γ σ2 v3 0 v4 0 v1 fun σ5 =>
  chk (isO Γ a0 1) <| bnd (f_X1_place Γ a0 a1 0 σ5) fun _ σ6 =>
  lb0 (loopM (fun q => f_X1_explore_B32 Γ a0 a1 v1 q.1 q.2) FUEL (0, σ6)) fun σ20 =>
  some ((), σ20)
def f_X1_firstWeighted_L27 (Γ : zSh) (s0 : Int32) (σ : zSt) : Option (Int32 × zSt) :=
  some (s0, σ)
def f_X1_firstWeighted (Γ : zSh) (a0 : Nat) (σ : zSt) : Option (Int32 × zSt) :=
  gfR Γ σ a0 1 2 fun v1 =>
  gfI Γ σ a0 1 0 fun v2 =>
  bnd (f_X6_firstNonZero Γ v1 v2 σ) fun r4 σ3 =>
  if r4 = (-1) then (f_X1_firstWeighted_L27 Γ (-1) σ3) else (gfR Γ σ3 a0 1 1 fun v5 =>
  ldI Γ σ3 v5 r4 fun v6 =>
  f_X1_firstWeighted_L27 Γ v6 σ3)
def f_X1_build_B52 (Γ : zSh) (x0 : Nat) (x1 : Nat) (x2 : Int32) (x3 : Int32) (σ : zSt) : Option ((Int32 × zSt) ⊕ (zSt)) :=
  if 2 ≤ x3 then (some (.inr σ)) else (gfR Γ σ x0 1 7 fun v10 =>
  ldG Γ σ v10 ((2 * x2) + x3) fun v11 =>
  gfR Γ σ x1 0 3 fun v12 =>
  ldG Γ σ v12 x3 fun v13 =>
  gfI Γ σ x0 1 0 fun v14 =>
  gfI Γ σ x0 1 0 fun v15 =>
  cpI Γ σ v11 0 v13 (x2 * v14) v15 fun σ16 =>
  some (.inl ((x3 + 1), σ16)))
def f_X1_build_B27_L49 (Γ : zSh) (x0 : Nat) (x1 : Nat) (x2 : Int32) (s0 : Int32) (s1 : Int32) (s2 : Nat) (σ : zSt) : Option ((Int32 × zSt) ⊕ (zSt)) :=
  stI Γ σ s2 s1 s0 fun σ9 =>
  lb0 (loopM (fun q => f_X1_build_B52 Γ x0 x1 x2 q.1 q.2) FUEL (0, σ9)) fun σ17 =>
  some (.inl ((x2 + 1), σ17))
def f_X1_build_B27 (Γ : zSh) (x0 : Nat) (x1 : Nat) (x2 : Int32) (σ : zSt) : Option ((Int32 × zSt) ⊕ (zSt)) :=
  gfI Γ σ x0 1 0 fun v7 =>
  if v7 ≤ x2 then (some (.inr σ)) else (gfR Γ σ x1 0 1 fun v8 =>
  if x2 = 0 then (f_X1_build_B27_L49 Γ x0 x1 x2 1 x2 v8 σ) else (f_X1_build_B27_L49 Γ x0 x1 x2 0 x2 v8 σ))
def f_X1_build (Γ : zSh) (a0 : Nat) (a1 : Nat) (σ : zSt) : Option (Unit × zSt) :=
  gfI Γ σ a0 1 0 fun v1 =>
  chk (isO Γ a1 0) <| bnd (f_X0_clear Γ a1 v1 σ) fun _ σ2 =>
  gfR Γ σ2 a0 1 2 fun v3 =>
  gfR Γ σ2 a1 0 2 fun v4 =>
  gfI Γ σ2 a0 1 0 fun v5 =>
  cpI Γ σ2 v3 0 v4 0 v5 fun σ6 =>
  lb0 (loopM (fun q => f_X1_build_B27 Γ a0 a1 q.1 q.2) FUEL (0, σ6)) fun σ18 =>
  some ((), σ18)
def f_X1_reduce (Γ : zSh) (a0 : Nat) (a1 : Nat) (σ : zSt) : Option (Unit × zSt) :=
  chk (isO Γ a0 1) <| bnd (f_X1_explore Γ a0 a1 σ) fun _ σ1 =>
  chk (isO Γ a0 1) <| bnd (f_X1_build Γ a0 a1 σ1) fun _ σ2 =>
  some ((), σ2)
def f_X1_minimize_B2 (Γ : zSh) (x0 : Nat) (x1 : Nat) (x2 : Int32) (σ : zSt) : Option ((Int32 × zSt) ⊕ (zSt)) :=
  if 2 ≤ x2 then (some (.inr σ)) else (chk (isO Γ x0 1) <| bnd (f_X1_explore Γ x0 x1 σ) fun _ σ1 =>
  chk (isO Γ x0 1) <| bnd (f_X1_build Γ x0 x1 σ1) fun _ σ2 =>
  chk (isO Γ x1 0) <| bnd (f_X0_reverse Γ x1 σ2) fun _ σ3 =>
  some (.inl ((x2 + 1), σ3)))
def f_X1_minimize (Γ : zSh) (a0 : Nat) (a1 : Nat) (σ : zSt) : Option (Unit × zSt) :=
  lb0 (loopM (fun q => f_X1_minimize_B2 Γ a0 a1 q.1 q.2) FUEL (0, σ)) fun σ4 =>
  some ((), σ4)
def f_X2_isDigit_L17 (Γ : zSh) (s0 : Int32) (σ : zSt) : Option (Int32 × zSt) :=
  chk (isB s0) (some (s0, σ))
def f_X2_isDigit_L16 (Γ : zSh)  (σ : zSt) : Option (Int32 × zSt) :=
  f_X2_isDigit_L17 Γ 0 σ
def f_X2_isDigit (Γ : zSh) (a0 : Int32) (σ : zSt) : Option (Int32 × zSt) :=
  if a0 < 48 then (f_X2_isDigit_L16 Γ σ) else (if 57 < a0 then (f_X2_isDigit_L16 Γ σ) else (f_X2_isDigit_L17 Γ 1 σ))
def f_X2_canStand_L73 (Γ : zSh) (s0 : Int32) (σ : zSt) : Option (Int32 × zSt) :=
  chk (isB s0) (some (s0, σ))
def f_X2_canStand_L87 (Γ : zSh) (s0 : Int32) (σ : zSt) : Option (Int32 × zSt) :=
  chk (isB s0) (some (s0, σ))
def f_X2_canStand_L86 (Γ : zSh)  (σ : zSt) : Option (Int32 × zSt) :=
  f_X2_canStand_L87 Γ 0 σ
def f_X2_canStand_L97 (Γ : zSh) (s0 : Int32) (σ : zSt) : Option (Int32 × zSt) :=
  chk (isB s0) (some (s0, σ))
def f_X2_canStand (Γ : zSh) (a0 : Int32) (a1 : Int32) (a2 : Int32) (σ : zSt) : Option (Int32 × zSt) :=
  if a0 = 40 then (if 8 ≤ a2 then (f_X2_canStand_L73 Γ 0 σ) else (f_X2_canStand_L73 Γ 1 σ)) else (if a0 = 41 then (if a1 = 0 then (if a2 ≤ 0 then (f_X2_canStand_L86 Γ σ) else (f_X2_canStand_L87 Γ 1 σ)) else (f_X2_canStand_L86 Γ σ)) else (if a0 = 42 then (if a1 = 0 then (f_X2_canStand_L97 Γ 1 σ) else (f_X2_canStand_L97 Γ 0 σ)) else (if a0 = 43 then (if a1 = 0 then (f_X2_canStand_L97 Γ 1 σ) else (f_X2_canStand_L97 Γ 0 σ)) else (if a0 = 97 then (chk (isB 1) (some (1, σ))) else (if a0 = 98 then (chk (isB 1) (some (1, σ))) else (bnd (f_X2_isDigit Γ a0 σ) fun r2 σ1 =>
  chk (isB r2) (some (r2, σ1))))))))
def f_X2_syntaxError_B9_L58 (Γ : zSh) (x4 : Int32) (σ : zSt) : Option ((Int32 × Int32 × Int32 × Int32 × zSt) ⊕ ((Int32 × Int32 × zSt) ⊕ (Int32 × zSt))) :=
  some (.inr (.inr (x4, σ)))
def f_X2_syntaxError_B9_L103 (Γ : zSh) (x0 : Nat) (x1 : Int32) (x2 : Int32) (x4 : Int32) (s0 : Int32) (σ : zSt) : Option ((Int32 × Int32 × Int32 × Int32 × zSt) ⊕ ((Int32 × Int32 × zSt) ⊕ (Int32 × zSt))) :=
  some (.inl (x1, x2, s0, (x4 + 1), σ))
def f_X2_syntaxError_B9_L98 (Γ : zSh) (x0 : Nat) (x1 : Int32) (x2 : Int32) (x4 : Int32) (σ : zSt) : Option ((Int32 × Int32 × Int32 × Int32 × zSt) ⊕ ((Int32 × Int32 × zSt) ⊕ (Int32 × zSt))) :=
  f_X2_syntaxError_B9_L103 Γ x0 x1 x2 x4 1 σ
def f_X2_syntaxError_B9_L84 (Γ : zSh) (x0 : Nat) (x1 : Int32) (x2 : Int32) (x4 : Int32) (x5 : Int32) (σ : zSt) : Option ((Int32 × Int32 × Int32 × Int32 × zSt) ⊕ ((Int32 × Int32 × zSt) ⊕ (Int32 × zSt))) :=
  if x5 = 40 then (f_X2_syntaxError_B9_L98 Γ x0 x1 x2 x4 σ) else (if x5 = 43 then (f_X2_syntaxError_B9_L98 Γ x0 x1 x2 x4 σ) else (f_X2_syntaxError_B9_L103 Γ x0 x1 x2 x4 0 σ))
def f_X2_syntaxError_B9_L42 (Γ : zSh) (x0 : Nat) (x1 : Int32) (x3 : Int32) (x4 : Int32) (x5 : Int32) (s0 : Int32) (σ : zSt) : Option ((Int32 × Int32 × Int32 × Int32 × zSt) ⊕ ((Int32 × Int32 × zSt) ⊕ (Int32 × zSt))) :=
  if 4 < s0 then (f_X2_syntaxError_B9_L58 Γ x4 σ) else (bnd (f_X2_canStand Γ x5 x3 x1 σ) fun r7 σ6 =>
  if r7 = 0 then (f_X2_syntaxError_B9_L58 Γ x4 σ6) else (if x5 = 40 then (f_X2_syntaxError_B9_L84 Γ x0 (x1 + 1) s0 x4 x5 σ6) else (if x5 = 41 then (f_X2_syntaxError_B9_L84 Γ x0 (x1 + (-1)) s0 x4 x5 σ6) else (f_X2_syntaxError_B9_L84 Γ x0 x1 s0 x4 x5 σ6))))
def f_X2_syntaxError_B9 (Γ : zSh) (x0 : Nat) (x1 : Int32) (x2 : Int32) (x3 : Int32) (x4 : Int32) (σ : zSt) : Option ((Int32 × Int32 × Int32 × Int32 × zSt) ⊕ ((Int32 × Int32 × zSt) ⊕ (Int32 × zSt))) :=
  gfI Γ σ x0 2 1 fun v1 =>
  if v1 ≤ x4 then (some (.inr (.inl (x1, x3, σ)))) else (gfR Γ σ x0 2 0 fun v2 =>
  ldI Γ σ v2 x4 fun v3 =>
  bnd (f_X2_isDigit Γ v3 σ) fun r5 σ4 =>
  if r5 = 0 then (f_X2_syntaxError_B9_L42 Γ x0 x1 x3 x4 v3 0 σ4) else (f_X2_syntaxError_B9_L42 Γ x0 x1 x3 x4 v3 (x2 + 1) σ4))
def f_X2_syntaxError_L126 (Γ : zSh) (s0 : Int32) (σ : zSt) : Option (Int32 × zSt) :=
  some (s0, σ)
def f_X2_syntaxError_L118 (Γ : zSh) (x0 : Nat) (σ : zSt) : Option (Int32 × zSt) :=
  gfI Γ σ x0 2 1 fun v11 =>
  f_X2_syntaxError_L126 Γ v11 σ
def f_X2_syntaxError (Γ : zSh) (a0 : Nat) (σ : zSt) : Option (Int32 × zSt) :=
  lbr (loopM (fun q => f_X2_syntaxError_B9 Γ a0 q.1 q.2.1 q.2.2.1 q.2.2.2.1 q.2.2.2.2) FUEL (0, 0, 1, 0, σ)) (fun v σ => some (v, σ)) fun o => lb2 o fun w9 w10 σ8 =>
  if w10 = 0 then (if w9 ≤ 0 then (f_X2_syntaxError_L126 Γ (-1) σ8) else (f_X2_syntaxError_L118 Γ a0 σ8)) else (f_X2_syntaxError_L118 Γ a0 σ8)
def f_X2_open (Γ : zSh) (a0 : Nat) (a1 : Int32) (σ : zSt) : Option (Unit × zSt) :=
  gfR Γ σ a0 2 3 fun v1 =>
  stZ Γ σ v1 a1 0 fun σ2 =>
  gfR Γ σ2 a0 2 5 fun v3 =>
  stZ Γ σ2 v3 a1 0 fun σ4 =>
  some ((), σ4)
def f_X2_repeatFactor (Γ : zSh) (a0 : Nat) (a1 : Nat) (σ : zSt) : Option (Int32 × zSt) :=
  gfR Γ σ a0 2 6 fun v1 =>
  chk (isO Γ v1 0) <| bnd (f_X0_hasStar Γ v1 σ) fun r3 σ2 =>
  if r3 = 0 then (chk (isB 0) (some (0, σ2))) else (gfR Γ σ2 a0 2 8 fun v4 =>
  gfR Γ σ2 a0 2 6 fun v5 =>
  chk (isO Γ v4 0) <| bnd (f_X0_becomeStar Γ v4 v5 σ2) fun _ σ6 =>
  gfR Γ σ6 a0 2 8 fun v7 =>
  chk (isO Γ a1 1) <| bnd (f_X1_minimize Γ a1 v7 σ6) fun _ σ8 =>
  gfR Γ σ8 a0 2 6 fun v9 =>
  gfR Γ σ8 a0 2 8 fun v10 =>
  chk (isO Γ v9 0) <| bnd (f_X0_copyFrom Γ v9 v10 σ8) fun _ σ11 =>
  chk (isB 1) (some (1, σ11)))
def f_X2_closeFactor (Γ : zSh) (a0 : Nat) (a1 : Int32) (a2 : Nat) (σ : zSt) : Option (Int32 × zSt) :=
  gfI Γ σ a0 2 7 fun v1 =>
  if v1 = 0 then (chk (isB 1) (some (1, σ))) else (pfZ Γ σ a0 2 7 0 fun σ2 =>
  gfR Γ σ2 a0 2 4 fun v3 =>
  ldA Γ σ2 v3 a1 fun v4 =>
  gfR Γ σ2 a0 2 5 fun v5 =>
  ldZ Γ σ2 v5 a1 fun v6 =>
  if v6 = 0 then (gfR Γ σ2 a0 2 5 fun v17 =>
  stZ Γ σ2 v17 a1 1 fun σ18 =>
  gfR Γ σ18 a0 2 6 fun v19 =>
  chk (isO Γ v4 0) <| bnd (f_X0_copyFrom Γ v4 v19 σ18) fun _ σ20 =>
  chk (isB 1) (some (1, σ20))) else (gfI Γ σ2 v4 0 0 fun v7 =>
  gfR Γ σ2 a0 2 6 fun v8 =>
  gfI Γ σ2 v8 0 0 fun v9 =>
  if (v7 + v9) ≤ 12 then (gfR Γ σ2 a0 2 8 fun v10 =>
  gfR Γ σ2 a0 2 6 fun v11 =>
  chk (isO Γ v10 0) <| bnd (f_X0_becomeCauchy Γ v10 v4 v11 σ2) fun _ σ12 =>
  gfR Γ σ12 a0 2 8 fun v13 =>
  chk (isO Γ a2 1) <| bnd (f_X1_minimize Γ a2 v13 σ12) fun _ σ14 =>
  gfR Γ σ14 a0 2 8 fun v15 =>
  chk (isO Γ v4 0) <| bnd (f_X0_copyFrom Γ v4 v15 σ14) fun _ σ16 =>
  chk (isB 1) (some (1, σ16))) else (chk (isB 0) (some (0, σ2)))))
def f_X2_closeProduct (Γ : zSh) (a0 : Nat) (a1 : Int32) (a2 : Nat) (σ : zSt) : Option (Int32 × zSt) :=
  gfR Γ σ a0 2 4 fun v1 =>
  ldA Γ σ v1 a1 fun v2 =>
  gfR Γ σ a0 2 2 fun v3 =>
  ldA Γ σ v3 a1 fun v4 =>
  gfR Γ σ a0 2 5 fun v5 =>
  stZ Γ σ v5 a1 0 fun σ6 =>
  gfR Γ σ6 a0 2 3 fun v7 =>
  ldZ Γ σ6 v7 a1 fun v8 =>
  if v8 = 0 then (gfR Γ σ6 a0 2 3 fun v17 =>
  stZ Γ σ6 v17 a1 1 fun σ18 =>
  chk (isO Γ v4 0) <| bnd (f_X0_copyFrom Γ v4 v2 σ18) fun _ σ19 =>
  chk (isB 1) (some (1, σ19))) else (gfI Γ σ6 v4 0 0 fun v9 =>
  gfI Γ σ6 v2 0 0 fun v10 =>
  if (v9 + v10) ≤ 12 then (gfR Γ σ6 a0 2 8 fun v11 =>
  chk (isO Γ v11 0) <| bnd (f_X0_becomeSum Γ v11 v4 v2 σ6) fun _ σ12 =>
  gfR Γ σ12 a0 2 8 fun v13 =>
  chk (isO Γ a2 1) <| bnd (f_X1_minimize Γ a2 v13 σ12) fun _ σ14 =>
  gfR Γ σ14 a0 2 8 fun v15 =>
  chk (isO Γ v4 0) <| bnd (f_X0_copyFrom Γ v4 v15 σ14) fun _ σ16 =>
  chk (isB 1) (some (1, σ16))) else (chk (isB 0) (some (0, σ6))))
def f_X2_beginFactor_L39 (Γ : zSh) (x0 : Nat) (σ : zSt) : Option (Unit × zSt) :=
  pfZ Γ σ x0 2 7 1 fun σ5 =>
  some ((), σ5)
def f_X2_beginFactor_L36 (Γ : zSh) (x0 : Nat) (s0 : Int32) (s1 : Nat) (σ : zSt) : Option (Unit × zSt) :=
  chk (isO Γ s1 0) <| bnd (f_X0_becomeLetter Γ s1 s0 σ) fun _ σ4 =>
  f_X2_beginFactor_L39 Γ x0 σ4
def f_X2_beginFactor (Γ : zSh) (a0 : Nat) (a1 : Int32) (σ : zSt) : Option (Unit × zSt) :=
  bnd (f_X2_isDigit Γ a1 σ) fun r2 σ1 =>
  if r2 = 0 then (gfR Γ σ1 a0 2 6 fun v3 =>
  if a1 = 98 then (f_X2_beginFactor_L36 Γ a0 1 v3 σ1) else (f_X2_beginFactor_L36 Γ a0 0 v3 σ1)) else (gfR Γ σ1 a0 2 6 fun v6 =>
  chk (isO Γ v6 0) <| bnd (f_X0_becomeNumber Γ v6 (a1 - 48) σ1) fun _ σ7 =>
  f_X2_beginFactor_L39 Γ a0 σ7)
def f_X2_evaluate_B17_L248 (Γ : zSh) (x0 : Nat) (x1 : Nat) (x2 : Int32) (x3 : Int32) (x4 : Int32) (σ : zSt) : Option ((Int32 × Int32 × Int32 × zSt) ⊕ (Int32 × Int32 × zSt)) :=
  some (.inl (x2, x3, (x4 + 1), σ))
def f_X2_evaluate_B17_L211 (Γ : zSh) (x0 : Nat) (x1 : Nat) (x2 : Int32) (x4 : Int32) (x5 : Int32) (σ : zSt) : Option ((Int32 × Int32 × Int32 × zSt) ⊕ (Int32 × Int32 × zSt)) :=
  chk (isO Γ x0 2) <| bnd (f_X2_closeFactor Γ x0 x2 x1 σ) fun r9 σ8 =>
  if x5 = 40 then (chk (isO Γ x0 2) <| bnd (f_X2_open Γ x0 (if 8 < (x2 + 1) then 8 else (x2 + 1)) σ8) fun _ σ11 =>
  f_X2_evaluate_B17_L248 Γ x0 x1 (if 8 < (x2 + 1) then 8 else (x2 + 1)) r9 x4 σ11) else (chk (isO Γ x0 2) <| bnd (f_X2_beginFactor Γ x0 x5 σ8) fun _ σ10 =>
  f_X2_evaluate_B17_L248 Γ x0 x1 x2 r9 x4 σ10)
def f_X2_evaluate_B17_L119 (Γ : zSh) (x0 : Nat) (x1 : Nat) (x2 : Int32) (x4 : Int32) (s0 : Int32) (σ : zSt) : Option ((Int32 × Int32 × Int32 × zSt) ⊕ (Int32 × Int32 × zSt)) :=
  gfR Γ σ x0 2 6 fun v25 =>
  gfR Γ σ x0 2 2 fun v26 =>
  ldA Γ σ v26 x2 fun v27 =>
  chk (isO Γ v25 0) <| bnd (f_X0_copyFrom Γ v25 v27 σ) fun _ σ28 =>
  pfZ Γ σ28 x0 2 7 1 fun σ29 =>
  f_X2_evaluate_B17_L248 Γ x0 x1 (if (x2 - 1) < 0 then 0 else (x2 - 1)) s0 x4 σ29
def f_X2_evaluate_B17_L118 (Γ : zSh) (x0 : Nat) (x1 : Nat) (x2 : Int32) (x4 : Int32) (σ : zSt) : Option ((Int32 × Int32 × Int32 × zSt) ⊕ (Int32 × Int32 × zSt)) :=
  f_X2_evaluate_B17_L119 Γ x0 x1 x2 x4 0 σ
def f_X2_evaluate_B17_L85 (Γ : zSh) (x0 : Nat) (x1 : Nat) (x2 : Int32) (x4 : Int32) (s0 : Int32) (σ : zSt) : Option ((Int32 × Int32 × Int32 × zSt) ⊕ (Int32 × Int32 × zSt)) :=
  f_X2_evaluate_B17_L248 Γ x0 x1 x2 s0 x4 σ
def f_X2_evaluate_B17_L84 (Γ : zSh) (x0 : Nat) (x1 : Nat) (x2 : Int32) (x4 : Int32) (σ : zSt) : Option ((Int32 × Int32 × Int32 × zSt) ⊕ (Int32 × Int32 × zSt)) :=
  f_X2_evaluate_B17_L85 Γ x0 x1 x2 x4 0 σ
def f_X2_evaluate_B17 (Γ : zSh) (x0 : Nat) (x1 : Nat) (x2 : Int32) (x3 : Int32) (x4 : Int32) (σ : zSt) : Option ((Int32 × Int32 × Int32 × zSt) ⊕ (Int32 × Int32 × zSt)) :=
  gfI Γ σ x0 2 1 fun v3 =>
  if v3 ≤ x4 then (some (.inr (x2, x3, σ))) else (if x3 = 0 then (some (.inr (x2, x3, σ))) else (gfR Γ σ x0 2 0 fun v4 =>
  ldI Γ σ v4 x4 fun v5 =>
  if v5 = 42 then (chk (isO Γ x0 2) <| bnd (f_X2_repeatFactor Γ x0 x1 σ) fun r37 σ36 =>
  f_X2_evaluate_B17_L248 Γ x0 x1 x2 r37 x4 σ36) else (if v5 = 43 then (chk (isO Γ x0 2) <| bnd (f_X2_closeFactor Γ x0 x2 x1 σ) fun r33 σ32 =>
  if r33 = 0 then (f_X2_evaluate_B17_L84 Γ x0 x1 x2 x4 σ32) else (chk (isO Γ x0 2) <| bnd (f_X2_closeProduct Γ x0 x2 x1 σ32) fun r35 σ34 =>
  if r35 = 0 then (f_X2_evaluate_B17_L84 Γ x0 x1 x2 x4 σ34) else (f_X2_evaluate_B17_L85 Γ x0 x1 x2 x4 1 σ34))) else (if v5 = 41 then (chk (isO Γ x0 2) <| bnd (f_X2_closeFactor Γ x0 x2 x1 σ) fun r24 σ23 =>
  if r24 = 0 then (f_X2_evaluate_B17_L118 Γ x0 x1 x2 x4 σ23) else (chk (isO Γ x0 2) <| bnd (f_X2_closeProduct Γ x0 x2 x1 σ23) fun r31 σ30 =>
  if r31 = 0 then (f_X2_evaluate_B17_L118 Γ x0 x1 x2 x4 σ30) else (f_X2_evaluate_B17_L119 Γ x0 x1 x2 x4 1 σ30))) else (bnd (f_X2_isDigit Γ v5 σ) fun r7 σ6 =>
  if r7 = 0 then (f_X2_evaluate_B17_L211 Γ x0 x1 x2 x4 v5 σ6) else (if x4 ≤ 0 then (f_X2_evaluate_B17_L211 Γ x0 x1 x2 x4 v5 σ6) else (gfR Γ σ6 x0 2 0 fun v12 =>
  ldI Γ σ6 v12 (x4 - 1) fun v13 =>
  bnd (f_X2_isDigit Γ v13 σ6) fun r15 σ14 =>
  if r15 = 0 then (f_X2_evaluate_B17_L211 Γ x0 x1 x2 x4 v5 σ14) else (gfR Γ σ14 x0 2 6 fun v16 =>
  gfR Γ σ14 v16 0 2 fun v17 =>
  gfR Γ σ14 x0 2 6 fun v18 =>
  gfR Γ σ14 v18 0 2 fun v19 =>
  ldI Γ σ14 v19 0 fun v20 =>
  rmI (((10 * v20) + v5) - 48) 10007 fun v21 =>
  stI Γ σ14 v17 0 v21 fun σ22 =>
  f_X2_evaluate_B17_L248 Γ x0 x1 x2 x3 x4 σ22))))))))
def f_X2_evaluate_L281 (Γ : zSh) (s0 : Int32) (σ : zSt) : Option (Int32 × zSt) :=
  chk (isB s0) (some (s0, σ))
def f_X2_evaluate_L280 (Γ : zSh)  (σ : zSt) : Option (Int32 × zSt) :=
  f_X2_evaluate_L281 Γ 0 σ
def f_X2_evaluate (Γ : zSh) (a0 : Nat) (a1 : Nat) (σ : zSt) : Option (Int32 × zSt) :=
  pfZ Γ σ a0 2 7 0 fun σ1 =>
  chk (isO Γ a0 2) <| bnd (f_X2_open Γ a0 0 σ1) fun _ σ2 =>
  lb2 (loopM (fun q => f_X2_evaluate_B17 Γ a0 a1 q.1 q.2.1 q.2.2.1 q.2.2.2) FUEL (0, 1, 0, σ2)) fun w39 w40 σ38 =>
  if w40 = 0 then (f_X2_evaluate_L280 Γ σ38) else (chk (isO Γ a0 2) <| bnd (f_X2_closeFactor Γ a0 w39 a1 σ38) fun r42 σ41 =>
  if r42 = 0 then (f_X2_evaluate_L280 Γ σ41) else (chk (isO Γ a0 2) <| bnd (f_X2_closeProduct Γ a0 w39 a1 σ41) fun r44 σ43 =>
  if r44 = 0 then (f_X2_evaluate_L280 Γ σ43) else (f_X2_evaluate_L281 Γ 1 σ43)))
def f_X3_raisePivot_B3 (Γ : zSh) (x0 : Nat) (x1 : Int32) (x2 : Int32) (x3 : Int32) (x4 : Int32) (σ : zSt) : Option ((Int32 × zSt) ⊕ ((zSt) ⊕ (Int32 × zSt))) :=
  if x2 ≤ x4 then (some (.inr (.inl σ))) else (gfR Γ σ x0 3 0 fun v1 =>
  ldG Γ σ v1 x4 fun v2 =>
  ldI Γ σ v2 x3 fun v3 =>
  if v3 = 0 then (some (.inl ((x4 + 1), σ))) else (gfR Γ σ x0 3 0 fun v4 =>
  ldG Γ σ v4 x4 fun v5 =>
  gfR Γ σ x0 3 0 fun v6 =>
  gfR Γ σ x0 3 0 fun v7 =>
  ldG Γ σ v7 x1 fun v8 =>
  chk (decide (v8 ≠ 0)) <| stG Γ σ v6 x4 v8 fun σ9 =>
  gfR Γ σ9 x0 3 0 fun v10 =>
  chk (decide (v5 ≠ 0)) <| stG Γ σ9 v10 x1 v5 fun σ11 =>
  chk (isB 1) (some (.inr (.inr (1, σ11))))))
def f_X3_raisePivot (Γ : zSh) (a0 : Nat) (a1 : Int32) (a2 : Int32) (a3 : Int32) (σ : zSt) : Option (Int32 × zSt) :=
  lbr (loopM (fun q => f_X3_raisePivot_B3 Γ a0 a1 a2 a3 q.1 q.2) FUEL (a1, σ)) (fun v σ => some (v, σ)) fun o => lb0 o fun σ12 =>
  chk (isB 0) (some (0, σ12))
def f_X3_clearBelow_B22_L71 (Γ : zSh) (x0 : Nat) (x1 : Int32) (x2 : Int32) (x3 : Int32) (x4 : Int32) (x5 : Int32) (x6 : Int32) (σ : zSt) : Option ((Int32 × zSt) ⊕ (zSt)) :=
  some (.inl ((x6 + 1), σ))
def f_X3_clearBelow_B22 (Γ : zSh) (x0 : Nat) (x1 : Int32) (x2 : Int32) (x3 : Int32) (x4 : Int32) (x5 : Int32) (x6 : Int32) (σ : zSt) : Option ((Int32 × zSt) ⊕ (zSt)) :=
  if x2 ≤ x6 then (some (.inr σ)) else (gfR Γ σ x0 3 0 fun v6 =>
  ldG Γ σ v6 x6 fun v7 =>
  ldI Γ σ v7 x3 fun v8 =>
  rmI (v8 * x5) 10007 fun v9 =>
  if v9 = 0 then (f_X3_clearBelow_B22_L71 Γ x0 x1 x2 x3 x4 x5 x6 σ) else (gfR Γ σ x0 3 0 fun v10 =>
  ldG Γ σ v10 x6 fun v11 =>
  gfR Γ σ x0 3 0 fun v12 =>
  ldG Γ σ v12 x1 fun v13 =>
  bnd (f_X6_addMultiple Γ v11 v9 v13 x4 σ) fun _ σ14 =>
  f_X3_clearBelow_B22_L71 Γ x0 x1 x2 x3 x4 x5 x6 σ14))
def f_X3_clearBelow (Γ : zSh) (a0 : Nat) (a1 : Int32) (a2 : Int32) (a3 : Int32) (a4 : Int32) (σ : zSt) : Option (Unit × zSt) :=
  gfR Γ σ a0 3 0 fun v1 =>
  ldG Γ σ v1 a1 fun v2 =>
  ldI Γ σ v2 a3 fun v3 =>
  bnd (f_X6_reciprocal Γ v3 σ) fun r5 σ4 =>
  lb0 (loopM (fun q => f_X3_clearBelow_B22 Γ a0 a1 a2 a3 a4 (10007 - r5) q.1 q.2) FUEL ((a1 + 1), σ4)) fun σ15 =>
  some ((), σ15)
def f_X3_rank_B5_L39 (Γ : zSh) (x0 : Nat) (x1 : Int32) (x2 : Int32) (x3 : Int32) (x4 : Int32) (σ : zSt) : Option ((Int32 × Int32 × zSt) ⊕ (Int32 × zSt)) :=
  some (.inl (x3, (x4 + 1), σ))
def f_X3_rank_B5 (Γ : zSh) (x0 : Nat) (x1 : Int32) (x2 : Int32) (x3 : Int32) (x4 : Int32) (σ : zSt) : Option ((Int32 × Int32 × zSt) ⊕ (Int32 × zSt)) :=
  if x2 ≤ x4 then (some (.inr (x3, σ))) else (if x1 ≤ x3 then (some (.inr (x3, σ))) else (chk (isO Γ x0 3) <| bnd (f_X3_raisePivot Γ x0 x3 x1 x4 σ) fun r2 σ1 =>
  if r2 = 0 then (f_X3_rank_B5_L39 Γ x0 x1 x2 x3 x4 σ1) else (chk (isO Γ x0 3) <| bnd (f_X3_clearBelow Γ x0 x3 x1 x4 x2 σ1) fun _ σ3 =>
  f_X3_rank_B5_L39 Γ x0 x1 x2 (x3 + 1) x4 σ3)))
def f_X3_rank (Γ : zSh) (a0 : Nat) (a1 : Int32) (a2 : Int32) (σ : zSt) : Option (Int32 × zSt) :=
  lb1 (loopM (fun q => f_X3_rank_B5 Γ a0 a1 a2 q.1 q.2.1 q.2.2) FUEL (0, 0, σ)) fun w5 σ4 =>
  some (w5, σ4)
def f_J7_fill_53178_B5 (Γ : zSh) (x0 : Nat) (x1 : Int32) (x3 : Int32) (x2 : Int32) (σ : zSt) : Option ((Int32 × zSt) ⊕ (zSt)) :=
  if x3 ≤ x2 then (some (.inr σ)) else (stI Γ σ x0 x2 x1 fun σ2 =>
  some (.inl ((x2 + 1), σ2)))
def f_J7_fill_53178 (Γ : zSh) (a0 : Nat) (a1 : Int32) (σ : zSt) : Option (Unit × zSt) :=
  alI Γ a0 fun v1 =>
  lb0 (loopM (fun q => f_J7_fill_53178_B5 Γ a0 a1 v1 q.1 q.2) FUEL (0, σ)) fun σ3 =>
  some ((), σ3)
def f_X4_start (Γ : zSh) (a0 : Nat) (a1 : Nat) (σ : zSt) : Option (Unit × zSt) :=
  gfR Γ σ a0 4 0 fun v1 =>
  bnd (f_J7_fill_53178 Γ v1 0 σ) fun _ σ2 =>
  gfR Γ σ2 a1 0 1 fun v3 =>
  gfR Γ σ2 a0 4 1 fun v4 =>
  ldG Γ σ2 v4 0 fun v5 =>
  gfI Γ σ2 a1 0 0 fun v6 =>
  cpI Γ σ2 v3 0 v5 0 v6 fun σ7 =>
  some ((), σ7)
def f_X6_lengthOf_B8 (Γ : zSh) (x1 : Int32) (x2 : Int32) (σ : zSt) : Option ((Int32 × Int32 × zSt) ⊕ (Int32 × zSt)) :=
  if x2 ≤ 0 then (some (.inr (x1, σ))) else (some (.inl ((x1 + 1), (x2 >>> (1 &&& 31)), σ)))
def f_X6_lengthOf (Γ : zSh) (a0 : Int32) (σ : zSt) : Option (Int32 × zSt) :=
  lb1 (loopM (fun q => f_X6_lengthOf_B8 Γ q.1 q.2.1 q.2.2) FUEL (0, ((a0 + 1) >>> (1 &&& 31)), σ)) fun w2 σ1 =>
  some (w2, σ1)
def f_X4_weigh_B13_L74 (Γ : zSh) (x0 : Nat) (x1 : Nat) (x2 : Int32) (x3 : Int32) (x4 : Int32) (σ : zSt) : Option ((Int32 × zSt) ⊕ (zSt)) :=
  some (.inl ((x4 + 1), σ))
def f_X4_weigh_B13 (Γ : zSh) (x0 : Nat) (x1 : Nat) (x2 : Int32) (x3 : Int32) (x4 : Int32) (σ : zSt) : Option ((Int32 × zSt) ⊕ (zSt)) :=
  if x3 < x4 then (some (.inr σ)) else (gfR Γ σ x0 4 0 fun v3 =>
  ldI Γ σ v3 x4 fun v4 =>
  if v4 = ((x2 + 1) >>> ((x3 - x4) &&& 31)) then (f_X4_weigh_B13_L74 Γ x0 x1 x2 x3 x4 σ) else (gfR Γ σ x0 4 1 fun v5 =>
  ldG Γ σ v5 (x4 - 1) fun v6 =>
  gfR Γ σ x0 4 1 fun v7 =>
  ldG Γ σ v7 x4 fun v8 =>
  chk (isO Γ x1 0) <| bnd (f_X0_takeStep Γ x1 v6 (((x2 + 1) >>> ((x3 - x4) &&& 31)) &&& 1) v8 σ) fun _ σ9 =>
  gfR Γ σ9 x0 4 0 fun v10 =>
  stI Γ σ9 v10 x4 ((x2 + 1) >>> ((x3 - x4) &&& 31)) fun σ11 =>
  f_X4_weigh_B13_L74 Γ x0 x1 x2 x3 x4 σ11))
def f_X4_weigh (Γ : zSh) (a0 : Nat) (a1 : Nat) (a2 : Int32) (σ : zSt) : Option (Int32 × zSt) :=
  bnd (f_X6_lengthOf Γ a2 σ) fun r2 σ1 =>
  lb0 (loopM (fun q => f_X4_weigh_B13 Γ a0 a1 a2 (if 11 < r2 then 11 else r2) q.1 q.2) FUEL (1, σ1)) fun σ12 =>
  gfR Γ σ12 a0 4 1 fun v13 =>
  ldG Γ σ12 v13 (if 11 < r2 then 11 else r2) fun v14 =>
  chk (isO Γ a1 0) <| bnd (f_X0_weightFrom Γ a1 v14 σ12) fun r16 σ15 =>
  some (r16, σ15)
def f_X5_start (Γ : zSh) (a0 : Nat) (a1 : Nat) (σ : zSt) : Option (Unit × zSt) :=
  gfR Γ σ a1 0 1 fun v1 =>
  gfR Γ σ a0 5 0 fun v2 =>
  gfI Γ σ a1 0 0 fun v3 =>
  cpI Γ σ v1 0 v2 0 v3 fun σ4 =>
  some ((), σ4)
def f_X5_swap (Γ : zSh) (a0 : Nat) (σ : zSt) : Option (Unit × zSt) :=
  gfR Γ σ a0 5 0 fun v1 =>
  gfR Γ σ a0 5 1 fun v2 =>
  pfR Γ σ a0 5 0 v2 fun σ3 =>
  pfR Γ σ3 a0 5 1 v1 fun σ4 =>
  some ((), σ4)
def f_X5_takeWord_B8_L44 (Γ : zSh) (x0 : Nat) (x1 : Nat) (x3 : Int32) (x4 : Int32) (σ : zSt) : Option ((Int32 × zSt) ⊕ (zSt)) :=
  some (.inl ((x4 + (-1)), σ))
def f_X5_takeWord_B8 (Γ : zSh) (x0 : Nat) (x1 : Nat) (x3 : Int32) (x4 : Int32) (σ : zSt) : Option ((Int32 × zSt) ⊕ (zSt)) :=
  if x4 < 0 then (some (.inr σ)) else (if (x3 >>> ((x4 + 1) &&& 31)) = 0 then (f_X5_takeWord_B8_L44 Γ x0 x1 x3 x4 σ) else (gfR Γ σ x0 5 0 fun v1 =>
  gfR Γ σ x0 5 1 fun v2 =>
  chk (isO Γ x1 0) <| bnd (f_X0_takeStep Γ x1 v1 ((x3 >>> (x4 &&& 31)) &&& 1) v2 σ) fun _ σ3 =>
  chk (isO Γ x0 5) <| bnd (f_X5_swap Γ x0 σ3) fun _ σ4 =>
  f_X5_takeWord_B8_L44 Γ x0 x1 x3 x4 σ4))
def f_X5_takeWord (Γ : zSh) (a0 : Nat) (a1 : Nat) (a2 : Int32) (σ : zSt) : Option (Unit × zSt) :=
  lb0 (loopM (fun q => f_X5_takeWord_B8 Γ a0 a1 (a2 + 1) q.1 q.2) FUEL (18, σ)) fun σ5 =>
  some ((), σ5)
def f_X5_takeBoth_B15 (Γ : zSh) (x0 : Nat) (x1 : Nat) (x2 : Int32) (σ : zSt) : Option ((Int32 × zSt) ⊕ (zSt)) :=
  if 2 ≤ x2 then (some (.inr σ)) else (gfR Γ σ x0 5 0 fun v4 =>
  gfR Γ σ x0 5 1 fun v5 =>
  chk (isO Γ x1 0) <| bnd (f_X0_addStep Γ x1 v4 x2 v5 σ) fun _ σ6 =>
  some (.inl ((x2 + 1), σ6)))
def f_X5_takeBoth (Γ : zSh) (a0 : Nat) (a1 : Nat) (σ : zSt) : Option (Unit × zSt) :=
  gfR Γ σ a0 5 1 fun v1 =>
  gfI Γ σ a1 0 0 fun v2 =>
  bnd (f_J7_fill_fda19 Γ v1 0 v2 0 σ) fun _ σ3 =>
  lb0 (loopM (fun q => f_X5_takeBoth_B15 Γ a0 a1 q.1 q.2) FUEL (0, σ3)) fun σ7 =>
  chk (isO Γ a0 5) <| bnd (f_X5_swap Γ a0 σ7) fun _ σ8 =>
  some ((), σ8)
def f_X5_value (Γ : zSh) (a0 : Nat) (a1 : Nat) (σ : zSt) : Option (Int32 × zSt) :=
  gfR Γ σ a0 5 0 fun v1 =>
  chk (isO Γ a1 0) <| bnd (f_X0_weightFrom Γ a1 v1 σ) fun r3 σ2 =>
  some (r3, σ2)
def f_X6_checkSlot_L9 (Γ : zSh)  (σ : zSt) : Option ((Unit × zSt) ⊕ (Nat × zSt)) :=
  some (.inr (0, σ))
def f_X6_checkSlot (Γ : zSh) (a0 : Int32) (σ : zSt) : Option ((Unit × zSt) ⊕ (Nat × zSt)) :=
  if a0 < 0 then (f_X6_checkSlot_L9 Γ σ) else (if a0 < 4 then (some (.inl ((), σ))) else (f_X6_checkSlot_L9 Γ σ))
def f_X6_checkRange_L10 (Γ : zSh)  (σ : zSt) : Option ((Unit × zSt) ⊕ (Nat × zSt)) :=
  some (.inr (1, σ))
def f_X6_checkRange (Γ : zSh) (a0 : Int32) (a1 : Int32) (a2 : Int32) (σ : zSt) : Option ((Unit × zSt) ⊕ (Nat × zSt)) :=
  if a0 < a1 then (f_X6_checkRange_L10 Γ σ) else (if a0 ≤ a2 then (some (.inl ((), σ))) else (f_X6_checkRange_L10 Γ σ))
def f_X6_dropOldest_B9 (Γ : zSh) (x0 : Nat) (x1 : Nat) (x2 : Int32) (σ : zSt) : Option ((Int32 × zSt) ⊕ (zSt)) :=
  if 4 ≤ x2 then (some (.inr σ)) else (gfR Γ σ x0 6 1 fun v3 =>
  gfR Γ σ x0 6 1 fun v4 =>
  ldA Γ σ v4 x2 fun v5 =>
  chk (decide (v5 ≠ 0)) <| stA Γ σ v3 (x2 - 1) v5 fun σ6 =>
  gfR Γ σ6 x0 6 2 fun v7 =>
  gfR Γ σ6 x0 6 2 fun v8 =>
  ldI Γ σ6 v8 x2 fun v9 =>
  stI Γ σ6 v7 (x2 - 1) v9 fun σ10 =>
  some (.inl ((x2 + 1), σ10)))
def f_X6_dropOldest (Γ : zSh) (a0 : Nat) (σ : zSt) : Option (Unit × zSt) :=
  gfR Γ σ a0 6 1 fun v1 =>
  ldA Γ σ v1 0 fun v2 =>
  lb0 (loopM (fun q => f_X6_dropOldest_B9 Γ a0 v2 q.1 q.2) FUEL (1, σ)) fun σ11 =>
  gfR Γ σ11 a0 6 1 fun v12 =>
  chk (decide (v2 ≠ 0)) <| stA Γ σ11 v12 3 v2 fun σ13 =>
  pfI Γ σ13 a0 6 3 3 fun σ14 =>
  some ((), σ14)
def f_X6_save_L12 (Γ : zSh) (x0 : Nat) (x1 : Int32) (σ : zSt) : Option (Unit × zSt) :=
  gfR Γ σ x0 6 2 fun v2 =>
  gfI Γ σ x0 6 3 fun v3 =>
  stI Γ σ v2 v3 x1 fun σ4 =>
  gfR Γ σ4 x0 6 1 fun v5 =>
  gfI Γ σ4 x0 6 3 fun v6 =>
  ldA Γ σ4 v5 v6 fun v7 =>
  gfR Γ σ4 x0 6 0 fun v8 =>
  ldA Γ σ4 v8 x1 fun v9 =>
  chk (isO Γ v7 0) <| bnd (f_X0_copyFrom Γ v7 v9 σ4) fun _ σ10 =>
  gfI Γ σ10 x0 6 3 fun v11 =>
  pfI Γ σ10 x0 6 3 (v11 + 1) fun σ12 =>
  some ((), σ12)
def f_X6_save (Γ : zSh) (a0 : Nat) (a1 : Int32) (σ : zSt) : Option (Unit × zSt) :=
  gfI Γ σ a0 6 3 fun v1 =>
  if v1 < 4 then (f_X6_save_L12 Γ a0 a1 σ) else (chk (isO Γ a0 6) <| bnd (f_X6_dropOldest Γ a0 σ) fun _ σ13 =>
  f_X6_save_L12 Γ a0 a1 σ13)
def f_X6_begin (Γ : zSh) (a0 : Nat) (a1 : Int32) (a2 : Int32) (σ : zSt) : Option ((Int32 × zSt) ⊕ (Nat × zSt)) :=
  xbnd (f_X6_checkSlot Γ a1 σ) fun _ σ1 =>
  xbnd (f_X6_checkRange Γ a2 0 12 σ1) fun _ σ2 =>
  gfR Γ σ2 a0 6 0 fun v3 =>
  ldA Γ σ2 v3 a1 fun v4 =>
  gfI Γ σ2 v4 0 0 fun v5 =>
  chk (isO Γ a0 6) <| bnd (f_X6_save Γ a0 a1 σ2) fun _ σ6 =>
  chk (isO Γ v4 0) <| bnd (f_X0_clear Γ v4 a2 σ6) fun _ σ7 =>
  some (.inl (v5, σ7))
def f_X6_checkState_L17 (Γ : zSh)  (σ : zSt) : Option ((Unit × zSt) ⊕ (Nat × zSt)) :=
  some (.inr (0, σ))
def f_X6_checkState (Γ : zSh) (a0 : Nat) (a1 : Int32) (a2 : Int32) (σ : zSt) : Option ((Unit × zSt) ⊕ (Nat × zSt)) :=
  if a2 < 0 then (f_X6_checkState_L17 Γ σ) else (gfR Γ σ a0 6 0 fun v1 =>
  ldA Γ σ v1 a1 fun v2 =>
  gfI Γ σ v2 0 0 fun v3 =>
  if a2 < v3 then (some (.inl ((), σ))) else (f_X6_checkState_L17 Γ σ))
def f_X6_setEnd (Γ : zSh) (a0 : Nat) (a1 : Int32) (a2 : Int32) (a3 : Int32) (a4 : Int32) (σ : zSt) : Option ((Int32 × zSt) ⊕ (Nat × zSt)) :=
  xbnd (f_X6_checkSlot Γ a1 σ) fun _ σ1 =>
  chk (isO Γ a0 6) <| xbnd (f_X6_checkState Γ a0 a1 a2 σ1) fun _ σ2 =>
  xbnd (f_X6_checkRange Γ a4 0 10006 σ2) fun _ σ3 =>
  gfR Γ σ3 a0 6 0 fun v4 =>
  ldA Γ σ3 v4 a1 fun v5 =>
  chk (isO Γ v5 0) <| bnd (f_X0_ends Γ v5 a3 σ3) fun r7 σ6 =>
  ldI Γ σ6 r7 a2 fun v8 =>
  chk (isO Γ a0 6) <| bnd (f_X6_save Γ a0 a1 σ6) fun _ σ9 =>
  stI Γ σ9 r7 a2 a4 fun σ10 =>
  some (.inl (v8, σ10))
def f_X6_checkStep_L9 (Γ : zSh)  (σ : zSt) : Option ((Unit × zSt) ⊕ (Nat × zSt)) :=
  some (.inr (0, σ))
def f_X6_checkStep (Γ : zSh) (a0 : Nat) (a1 : Int32) (a2 : Int32) (a3 : Int32) (a4 : Int32) (σ : zSt) : Option ((Unit × zSt) ⊕ (Nat × zSt)) :=
  if a2 < 0 then (f_X6_checkStep_L9 Γ σ) else (if a2 < 2 then (chk (isO Γ a0 6) <| xbnd (f_X6_checkState Γ a0 a1 a3 σ) fun _ σ1 =>
  chk (isO Γ a0 6) <| xbnd (f_X6_checkState Γ a0 a1 a4 σ1) fun _ σ2 =>
  some (.inl ((), σ2))) else (f_X6_checkStep_L9 Γ σ))
def f_X6_setStep (Γ : zSh) (a0 : Nat) (a1 : Int32) (a2 : Int32) (a3 : Int32) (a4 : Int32) (a5 : Int32) (σ : zSt) : Option ((Int32 × zSt) ⊕ (Nat × zSt)) :=
  xbnd (f_X6_checkSlot Γ a1 σ) fun _ σ1 =>
  chk (isO Γ a0 6) <| xbnd (f_X6_checkStep Γ a0 a1 a2 a3 a4 σ1) fun _ σ2 =>
  xbnd (f_X6_checkRange Γ a5 0 10006 σ2) fun _ σ3 =>
  gfR Γ σ3 a0 6 0 fun v4 =>
  ldA Γ σ3 v4 a1 fun v5 =>
  gfI Γ σ3 v5 0 0 fun v6 =>
  gfR Γ σ3 v5 0 3 fun v7 =>
  ldG Γ σ3 v7 a2 fun v8 =>
  ldI Γ σ3 v8 ((a3 * v6) + a4) fun v9 =>
  chk (isO Γ a0 6) <| bnd (f_X6_save Γ a0 a1 σ3) fun _ σ10 =>
  gfR Γ σ10 v5 0 3 fun v11 =>
  ldG Γ σ10 v11 a2 fun v12 =>
  stI Γ σ10 v12 ((a3 * v6) + a4) a5 fun σ13 =>
  some (.inl (v9, σ13))
def f_X6_random (Γ : zSh) (a0 : Nat) (a1 : Int32) (a2 : Int32) (a3 : Int32) (σ : zSt) : Option ((Int32 × zSt) ⊕ (Nat × zSt)) :=
  xbnd (f_X6_checkSlot Γ a1 σ) fun _ σ1 =>
  xbnd (f_X6_checkRange Γ a2 0 12 σ1) fun _ σ2 =>
  xbnd (f_X6_checkRange Γ a3 0 999999 σ2) fun _ σ3 =>
  chk (isO Γ a0 6) <| bnd (f_X6_save Γ a0 a1 σ3) fun _ σ4 =>
  gfR Γ σ4 a0 6 0 fun v5 =>
  ldA Γ σ4 v5 a1 fun v6 =>
  chk (isO Γ v6 0) <| bnd (f_X0_draw Γ v6 a2 a3 σ4) fun _ σ7 =>
  gfR Γ σ7 a0 6 0 fun v8 =>
  ldA Γ σ7 v8 a1 fun v9 =>
  chk (isO Γ v9 0) <| bnd (f_X0_emptyWeight Γ v9 σ7) fun r11 σ10 =>
  some (.inl (r11, σ10))
def f_X6_states (Γ : zSh) (a0 : Nat) (a1 : Int32) (σ : zSt) : Option ((Int32 × zSt) ⊕ (Nat × zSt)) :=
  xbnd (f_X6_checkSlot Γ a1 σ) fun _ σ1 =>
  gfR Γ σ1 a0 6 0 fun v2 =>
  ldA Γ σ1 v2 a1 fun v3 =>
  gfI Γ σ1 v3 0 0 fun v4 =>
  some (.inl (v4, σ1))
def f_X6_end (Γ : zSh) (a0 : Nat) (a1 : Int32) (a2 : Int32) (a3 : Int32) (σ : zSt) : Option ((Int32 × zSt) ⊕ (Nat × zSt)) :=
  xbnd (f_X6_checkSlot Γ a1 σ) fun _ σ1 =>
  chk (isO Γ a0 6) <| xbnd (f_X6_checkState Γ a0 a1 a2 σ1) fun _ σ2 =>
  gfR Γ σ2 a0 6 0 fun v3 =>
  ldA Γ σ2 v3 a1 fun v4 =>
  chk (isO Γ v4 0) <| bnd (f_X0_ends Γ v4 a3 σ2) fun r6 σ5 =>
  ldI Γ σ5 r6 a2 fun v7 =>
  some (.inl (v7, σ5))
def f_X6_step (Γ : zSh) (a0 : Nat) (a1 : Int32) (a2 : Int32) (a3 : Int32) (a4 : Int32) (σ : zSt) : Option ((Int32 × zSt) ⊕ (Nat × zSt)) :=
  xbnd (f_X6_checkSlot Γ a1 σ) fun _ σ1 =>
  chk (isO Γ a0 6) <| xbnd (f_X6_checkStep Γ a0 a1 a2 a3 a4 σ1) fun _ σ2 =>
  gfR Γ σ2 a0 6 0 fun v3 =>
  ldA Γ σ2 v3 a1 fun v4 =>
  gfR Γ σ2 v4 0 3 fun v5 =>
  ldG Γ σ2 v5 a2 fun v6 =>
  gfI Γ σ2 v4 0 0 fun v7 =>
  ldI Γ σ2 v6 ((a3 * v7) + a4) fun v8 =>
  some (.inl (v8, σ2))
def f_X6_weight (Γ : zSh) (a0 : Nat) (a1 : Int32) (a2 : Int32) (σ : zSt) : Option ((Int32 × zSt) ⊕ (Nat × zSt)) :=
  xbnd (f_X6_checkSlot Γ a1 σ) fun _ σ1 =>
  xbnd (f_X6_checkRange Γ a2 0 1000000 σ1) fun _ σ2 =>
  gfR Γ σ2 a0 6 6 fun v3 =>
  gfR Γ σ2 a0 6 0 fun v4 =>
  ldA Γ σ2 v4 a1 fun v5 =>
  chk (isO Γ v3 5) <| bnd (f_X5_start Γ v3 v5 σ2) fun _ σ6 =>
  gfR Γ σ6 a0 6 6 fun v7 =>
  gfR Γ σ6 a0 6 0 fun v8 =>
  ldA Γ σ6 v8 a1 fun v9 =>
  chk (isO Γ v7 5) <| bnd (f_X5_takeWord Γ v7 v9 a2 σ6) fun _ σ10 =>
  gfR Γ σ10 a0 6 6 fun v11 =>
  gfR Γ σ10 a0 6 0 fun v12 =>
  ldA Γ σ10 v12 a1 fun v13 =>
  chk (isO Γ v11 5) <| bnd (f_X5_value Γ v11 v13 σ10) fun r15 σ14 =>
  some (.inl (r15, σ14))
def f_X6_powerWeight_B35 (Γ : zSh) (x0 : Nat) (x1 : Int32) (x2 : Int32) (x3 : Int32) (x4 : Int32) (σ : zSt) : Option ((Int32 × zSt) ⊕ (zSt)) :=
  if x3 ≤ x4 then (some (.inr σ)) else (gfR Γ σ x0 6 6 fun v8 =>
  gfR Γ σ x0 6 0 fun v9 =>
  ldA Γ σ v9 x1 fun v10 =>
  chk (isO Γ v8 5) <| bnd (f_X5_takeWord Γ v8 v10 x2 σ) fun _ σ11 =>
  some (.inl ((x4 + 1), σ11)))
def f_X6_powerWeight (Γ : zSh) (a0 : Nat) (a1 : Int32) (a2 : Int32) (a3 : Int32) (σ : zSt) : Option ((Int32 × zSt) ⊕ (Nat × zSt)) :=
  xbnd (f_X6_checkSlot Γ a1 σ) fun _ σ1 =>
  xbnd (f_X6_checkRange Γ a2 0 1000000 σ1) fun _ σ2 =>
  xbnd (f_X6_checkRange Γ a3 0 200 σ2) fun _ σ3 =>
  gfR Γ σ3 a0 6 6 fun v4 =>
  gfR Γ σ3 a0 6 0 fun v5 =>
  ldA Γ σ3 v5 a1 fun v6 =>
  chk (isO Γ v4 5) <| bnd (f_X5_start Γ v4 v6 σ3) fun _ σ7 =>
  lb0 (loopM (fun q => f_X6_powerWeight_B35 Γ a0 a1 a2 a3 q.1 q.2) FUEL (0, σ7)) fun σ12 =>
  gfR Γ σ12 a0 6 6 fun v13 =>
  gfR Γ σ12 a0 6 0 fun v14 =>
  ldA Γ σ12 v14 a1 fun v15 =>
  chk (isO Γ v13 5) <| bnd (f_X5_value Γ v13 v15 σ12) fun r17 σ16 =>
  some (.inl (r17, σ16))
def f_X6_total_B27 (Γ : zSh) (x0 : Nat) (x1 : Int32) (x2 : Int32) (x3 : Int32) (σ : zSt) : Option ((Int32 × zSt) ⊕ (zSt)) :=
  if x2 ≤ x3 then (some (.inr σ)) else (gfR Γ σ x0 6 6 fun v7 =>
  gfR Γ σ x0 6 0 fun v8 =>
  ldA Γ σ v8 x1 fun v9 =>
  chk (isO Γ v7 5) <| bnd (f_X5_takeBoth Γ v7 v9 σ) fun _ σ10 =>
  some (.inl ((x3 + 1), σ10)))
def f_X6_total (Γ : zSh) (a0 : Nat) (a1 : Int32) (a2 : Int32) (σ : zSt) : Option ((Int32 × zSt) ⊕ (Nat × zSt)) :=
  xbnd (f_X6_checkSlot Γ a1 σ) fun _ σ1 =>
  xbnd (f_X6_checkRange Γ a2 0 2000 σ1) fun _ σ2 =>
  gfR Γ σ2 a0 6 6 fun v3 =>
  gfR Γ σ2 a0 6 0 fun v4 =>
  ldA Γ σ2 v4 a1 fun v5 =>
  chk (isO Γ v3 5) <| bnd (f_X5_start Γ v3 v5 σ2) fun _ σ6 =>
  lb0 (loopM (fun q => f_X6_total_B27 Γ a0 a1 a2 q.1 q.2) FUEL (0, σ6)) fun σ11 =>
  gfR Γ σ11 a0 6 6 fun v12 =>
  gfR Γ σ11 a0 6 0 fun v13 =>
  ldA Γ σ11 v13 a1 fun v14 =>
  chk (isO Γ v12 5) <| bnd (f_X5_value Γ v12 v14 σ11) fun r16 σ15 =>
  some (.inl (r16, σ15))
def f_X6_support_B30_L57 (Γ : zSh) (x0 : Nat) (x1 : Int32) (x2 : Int32) (x3 : Int32) (x4 : Int32) (σ : zSt) : Option ((Int32 × Int32 × zSt) ⊕ (Int32 × zSt)) :=
  some (.inl (x3, (x4 + 1), σ))
def f_X6_support_B30 (Γ : zSh) (x0 : Nat) (x1 : Int32) (x2 : Int32) (x3 : Int32) (x4 : Int32) (σ : zSt) : Option ((Int32 × Int32 × zSt) ⊕ (Int32 × zSt)) :=
  if x2 ≤ x4 then (some (.inr (x3, σ))) else (gfR Γ σ x0 6 7 fun v7 =>
  gfR Γ σ x0 6 0 fun v8 =>
  ldA Γ σ v8 x1 fun v9 =>
  chk (isO Γ v7 4) <| bnd (f_X4_weigh Γ v7 v9 x4 σ) fun r11 σ10 =>
  if r11 = 0 then (f_X6_support_B30_L57 Γ x0 x1 x2 x3 x4 σ10) else (f_X6_support_B30_L57 Γ x0 x1 x2 (x3 + 1) x4 σ10))
def f_X6_support (Γ : zSh) (a0 : Nat) (a1 : Int32) (a2 : Int32) (σ : zSt) : Option ((Int32 × zSt) ⊕ (Nat × zSt)) :=
  xbnd (f_X6_checkSlot Γ a1 σ) fun _ σ1 =>
  xbnd (f_X6_checkRange Γ a2 0 4095 σ1) fun _ σ2 =>
  gfR Γ σ2 a0 6 7 fun v3 =>
  gfR Γ σ2 a0 6 0 fun v4 =>
  ldA Γ σ2 v4 a1 fun v5 =>
  chk (isO Γ v3 4) <| bnd (f_X4_start Γ v3 v5 σ2) fun _ σ6 =>
  lb1 (loopM (fun q => f_X6_support_B30 Γ a0 a1 a2 q.1 q.2.1 q.2.2) FUEL (0, 0, σ6)) fun w13 σ12 =>
  some (.inl (w13, σ12))
def f_X6_first (Γ : zSh) (a0 : Nat) (a1 : Int32) (σ : zSt) : Option ((Int32 × zSt) ⊕ (Nat × zSt)) :=
  xbnd (f_X6_checkSlot Γ a1 σ) fun _ σ1 =>
  gfR Γ σ1 a0 6 8 fun v2 =>
  gfR Γ σ1 a0 6 0 fun v3 =>
  ldA Γ σ1 v3 a1 fun v4 =>
  chk (isO Γ v2 1) <| bnd (f_X1_explore Γ v2 v4 σ1) fun _ σ5 =>
  gfR Γ σ5 a0 6 8 fun v6 =>
  chk (isO Γ v6 1) <| bnd (f_X1_firstWeighted Γ v6 σ5) fun r8 σ7 =>
  some (.inl (r8, σ7))
def f_X6_store (Γ : zSh) (a0 : Nat) (a1 : Int32) (σ : zSt) : Option (Int32 × zSt) :=
  chk (isO Γ a0 6) <| bnd (f_X6_save Γ a0 a1 σ) fun _ σ1 =>
  gfR Γ σ1 a0 6 0 fun v2 =>
  ldA Γ σ1 v2 a1 fun v3 =>
  gfR Γ σ1 a0 6 4 fun v4 =>
  chk (isO Γ v3 0) <| bnd (f_X0_copyFrom Γ v3 v4 σ1) fun _ σ5 =>
  gfR Γ σ5 a0 6 4 fun v6 =>
  gfI Γ σ5 v6 0 0 fun v7 =>
  some (v7, σ5)
def f_X6_combine_L135 (Γ : zSh) (x0 : Nat) (x1 : Int32) (σ : zSt) : Option ((Int32 × zSt) ⊕ (Nat × zSt)) :=
  chk (isO Γ x0 6) <| bnd (f_X6_store Γ x0 x1 σ) fun r14 σ13 =>
  some (.inl (r14, σ13))
def f_X6_combine_L66 (Γ : zSh) (x0 : Nat) (x1 : Int32) (x4 : Int32) (x5 : Nat) (x6 : Nat) (s0 : Int32) (σ : zSt) : Option ((Int32 × zSt) ⊕ (Nat × zSt)) :=
  if s0 ≤ 12 then (if x4 = 0 then (gfR Γ σ x0 6 4 fun v17 =>
  chk (isO Γ v17 0) <| bnd (f_X0_becomeSum Γ v17 x5 x6 σ) fun _ σ18 =>
  f_X6_combine_L135 Γ x0 x1 σ18) else (if x4 = 1 then (gfR Γ σ x0 6 4 fun v15 =>
  chk (isO Γ v15 0) <| bnd (f_X0_becomeHadamard Γ v15 x5 x6 σ) fun _ σ16 =>
  f_X6_combine_L135 Γ x0 x1 σ16) else (gfR Γ σ x0 6 4 fun v11 =>
  chk (isO Γ v11 0) <| bnd (f_X0_becomeCauchy Γ v11 x5 x6 σ) fun _ σ12 =>
  f_X6_combine_L135 Γ x0 x1 σ12))) else (some (.inr (2, σ)))
def f_X6_combine (Γ : zSh) (a0 : Nat) (a1 : Int32) (a2 : Int32) (a3 : Int32) (a4 : Int32) (σ : zSt) : Option ((Int32 × zSt) ⊕ (Nat × zSt)) :=
  xbnd (f_X6_checkSlot Γ a1 σ) fun _ σ1 =>
  xbnd (f_X6_checkSlot Γ a2 σ1) fun _ σ2 =>
  xbnd (f_X6_checkSlot Γ a3 σ2) fun _ σ3 =>
  xbnd (f_X6_checkRange Γ a4 0 2 σ3) fun _ σ4 =>
  gfR Γ σ4 a0 6 0 fun v5 =>
  ldA Γ σ4 v5 a2 fun v6 =>
  gfR Γ σ4 a0 6 0 fun v7 =>
  ldA Γ σ4 v7 a3 fun v8 =>
  if a4 = 1 then (gfI Γ σ4 v6 0 0 fun v19 =>
  gfI Γ σ4 v8 0 0 fun v20 =>
  f_X6_combine_L66 Γ a0 a1 a4 v6 v8 (v19 * v20) σ4) else (gfI Γ σ4 v6 0 0 fun v9 =>
  gfI Γ σ4 v8 0 0 fun v10 =>
  f_X6_combine_L66 Γ a0 a1 a4 v6 v8 (v9 + v10) σ4)
def f_X6_derive_L172 (Γ : zSh) (x0 : Nat) (x1 : Int32) (σ : zSt) : Option ((Int32 × zSt) ⊕ (Nat × zSt)) :=
  chk (isO Γ x0 6) <| bnd (f_X6_store Γ x0 x1 σ) fun r11 σ10 =>
  some (.inl (r11, σ10))
def f_X6_derive_L46 (Γ : zSh) (x0 : Nat) (x1 : Int32) (x3 : Int32) (x4 : Nat) (σ : zSt) : Option ((Int32 × zSt) ⊕ (Nat × zSt)) :=
  gfR Γ σ x0 6 4 fun v6 =>
  chk (isO Γ v6 0) <| bnd (f_X0_copyFrom Γ v6 x4 σ) fun _ σ7 =>
  if x3 = 1 then (gfR Γ σ7 x0 6 4 fun v8 =>
  chk (isO Γ v8 0) <| bnd (f_X0_reverse Γ v8 σ7) fun _ σ9 =>
  f_X6_derive_L172 Γ x0 x1 σ9) else (if x3 = 2 then (gfR Γ σ7 x0 6 4 fun v12 =>
  chk (isO Γ v12 0) <| bnd (f_X0_becomeStar Γ v12 x4 σ7) fun _ σ13 =>
  f_X6_derive_L172 Γ x0 x1 σ13) else (if x3 = 3 then (gfR Γ σ7 x0 6 4 fun v14 =>
  chk (isO Γ v14 0) <| bnd (f_X0_startAfter Γ v14 x4 0 σ7) fun _ σ15 =>
  f_X6_derive_L172 Γ x0 x1 σ15) else (if x3 = 4 then (gfR Γ σ7 x0 6 4 fun v16 =>
  chk (isO Γ v16 0) <| bnd (f_X0_startAfter Γ v16 x4 1 σ7) fun _ σ17 =>
  f_X6_derive_L172 Γ x0 x1 σ17) else (if x3 = 5 then (gfR Γ σ7 x0 6 8 fun v18 =>
  gfR Γ σ7 x0 6 4 fun v19 =>
  chk (isO Γ v18 1) <| bnd (f_X1_reduce Γ v18 v19 σ7) fun _ σ20 =>
  f_X6_derive_L172 Γ x0 x1 σ20) else (if x3 = 6 then (gfR Γ σ7 x0 6 8 fun v21 =>
  gfR Γ σ7 x0 6 4 fun v22 =>
  chk (isO Γ v21 1) <| bnd (f_X1_minimize Γ v21 v22 σ7) fun _ σ23 =>
  f_X6_derive_L172 Γ x0 x1 σ23) else (f_X6_derive_L172 Γ x0 x1 σ7))))))
def f_X6_derive (Γ : zSh) (a0 : Nat) (a1 : Int32) (a2 : Int32) (a3 : Int32) (σ : zSt) : Option ((Int32 × zSt) ⊕ (Nat × zSt)) :=
  xbnd (f_X6_checkSlot Γ a1 σ) fun _ σ1 =>
  xbnd (f_X6_checkSlot Γ a2 σ1) fun _ σ2 =>
  xbnd (f_X6_checkRange Γ a3 0 6 σ2) fun _ σ3 =>
  gfR Γ σ3 a0 6 0 fun v4 =>
  ldA Γ σ3 v4 a2 fun v5 =>
  if a3 = 2 then (chk (isO Γ v5 0) <| bnd (f_X0_hasStar Γ v5 σ3) fun r25 σ24 =>
  if r25 = 0 then (some (.inr (2, σ24))) else (f_X6_derive_L46 Γ a0 a1 a3 v5 σ24)) else (f_X6_derive_L46 Γ a0 a1 a3 v5 σ3)
def f_X6_scale (Γ : zSh) (a0 : Nat) (a1 : Int32) (a2 : Int32) (σ : zSt) : Option ((Int32 × zSt) ⊕ (Nat × zSt)) :=
  xbnd (f_X6_checkSlot Γ a1 σ) fun _ σ1 =>
  xbnd (f_X6_checkRange Γ a2 0 10006 σ1) fun _ σ2 =>
  chk (isO Γ a0 6) <| bnd (f_X6_save Γ a0 a1 σ2) fun _ σ3 =>
  gfR Γ σ3 a0 6 0 fun v4 =>
  ldA Γ σ3 v4 a1 fun v5 =>
  gfR Γ σ3 v5 0 1 fun v6 =>
  gfI Γ σ3 v5 0 0 fun v7 =>
  bnd (f_X6_multiply Γ v6 a2 v7 σ3) fun _ σ8 =>
  chk (isO Γ v5 0) <| bnd (f_X0_emptyWeight Γ v5 σ8) fun r10 σ9 =>
  some (.inl (r10, σ9))
def f_X6_spaceSize_L55 (Γ : zSh) (x0 : Nat) (σ : zSt) : Option (Int32 × zSt) :=
  gfR Γ σ x0 6 4 fun v8 =>
  gfI Γ σ v8 0 0 fun v9 =>
  some (v9, σ)
def f_X6_spaceSize_L25 (Γ : zSh) (x0 : Nat) (x2 : Int32) (σ : zSt) : Option (Int32 × zSt) :=
  if x2 = 2 then (gfR Γ σ x0 6 8 fun v10 =>
  gfR Γ σ x0 6 4 fun v11 =>
  chk (isO Γ v10 1) <| bnd (f_X1_minimize Γ v10 v11 σ) fun _ σ12 =>
  f_X6_spaceSize_L55 Γ x0 σ12) else (gfR Γ σ x0 6 8 fun v5 =>
  gfR Γ σ x0 6 4 fun v6 =>
  chk (isO Γ v5 1) <| bnd (f_X1_reduce Γ v5 v6 σ) fun _ σ7 =>
  f_X6_spaceSize_L55 Γ x0 σ7)
def f_X6_spaceSize (Γ : zSh) (a0 : Nat) (a1 : Int32) (a2 : Int32) (σ : zSt) : Option (Int32 × zSt) :=
  gfR Γ σ a0 6 4 fun v1 =>
  gfR Γ σ a0 6 0 fun v2 =>
  ldA Γ σ v2 a1 fun v3 =>
  chk (isO Γ v1 0) <| bnd (f_X0_copyFrom Γ v1 v3 σ) fun _ σ4 =>
  if a2 = 1 then (gfR Γ σ4 a0 6 4 fun v13 =>
  chk (isO Γ v13 0) <| bnd (f_X0_reverse Γ v13 σ4) fun _ σ14 =>
  f_X6_spaceSize_L25 Γ a0 a2 σ14) else (f_X6_spaceSize_L25 Γ a0 a2 σ4)
def f_X6_dimension (Γ : zSh) (a0 : Nat) (a1 : Int32) (a2 : Int32) (σ : zSt) : Option ((Int32 × zSt) ⊕ (Nat × zSt)) :=
  xbnd (f_X6_checkSlot Γ a1 σ) fun _ σ1 =>
  xbnd (f_X6_checkRange Γ a2 0 2 σ1) fun _ σ2 =>
  chk (isO Γ a0 6) <| bnd (f_X6_spaceSize Γ a0 a1 a2 σ2) fun r4 σ3 =>
  some (.inl (r4, σ3))
def f_X6_basisWord_L32 (Γ : zSh)  (σ : zSt) : Option ((Int32 × zSt) ⊕ (Nat × zSt)) :=
  some (.inr (0, σ))
def f_X6_basisWord (Γ : zSh) (a0 : Nat) (a1 : Int32) (a2 : Int32) (σ : zSt) : Option ((Int32 × zSt) ⊕ (Nat × zSt)) :=
  xbnd (f_X6_checkSlot Γ a1 σ) fun _ σ1 =>
  gfR Γ σ1 a0 6 8 fun v2 =>
  gfR Γ σ1 a0 6 0 fun v3 =>
  ldA Γ σ1 v3 a1 fun v4 =>
  chk (isO Γ v2 1) <| bnd (f_X1_explore Γ v2 v4 σ1) fun _ σ5 =>
  if a2 < 0 then (f_X6_basisWord_L32 Γ σ5) else (gfR Γ σ5 a0 6 8 fun v6 =>
  gfI Γ σ5 v6 1 0 fun v7 =>
  if a2 < v7 then (gfR Γ σ5 a0 6 8 fun v8 =>
  gfR Γ σ5 v8 1 1 fun v9 =>
  ldI Γ σ5 v9 a2 fun v10 =>
  some (.inl (v10, σ5))) else (f_X6_basisWord_L32 Γ σ5))
def f_X6_differing (Γ : zSh) (a0 : Nat) (a1 : Int32) (a2 : Int32) (σ : zSt) : Option ((Int32 × zSt) ⊕ (Nat × zSt)) :=
  xbnd (f_X6_checkSlot Γ a1 σ) fun _ σ1 =>
  xbnd (f_X6_checkSlot Γ a2 σ1) fun _ σ2 =>
  gfR Γ σ2 a0 6 5 fun v3 =>
  gfR Γ σ2 a0 6 0 fun v4 =>
  ldA Γ σ2 v4 a1 fun v5 =>
  gfR Γ σ2 a0 6 0 fun v6 =>
  ldA Γ σ2 v6 a2 fun v7 =>
  chk (isO Γ v3 0) <| bnd (f_X0_becomeDifference Γ v3 v5 v7 σ2) fun _ σ8 =>
  gfR Γ σ8 a0 6 8 fun v9 =>
  gfR Γ σ8 a0 6 5 fun v10 =>
  chk (isO Γ v9 1) <| bnd (f_X1_explore Γ v9 v10 σ8) fun _ σ11 =>
  gfR Γ σ11 a0 6 8 fun v12 =>
  chk (isO Γ v12 1) <| bnd (f_X1_firstWeighted Γ v12 σ11) fun r14 σ13 =>
  some (.inl (r14, σ13))
def f_X6_joinedWord (Γ : zSh) (a0 : Int32) (a1 : Int32) (σ : zSt) : Option (Int32 × zSt) :=
  bnd (f_X6_lengthOf Γ a1 σ) fun r2 σ1 =>
  some (((((a0 + 1) * ((1 : Int32) <<< (r2 &&& 31))) + ((a1 + 1) - ((1 : Int32) <<< (r2 &&& 31)))) - 1), σ1)
def f_X6_hankelRank_B34 (Γ : zSh) (x0 : Nat) (x1 : Int32) (x2 : Int32) (x3 : Int32) (x4 : Int32) (σ : zSt) : Option ((Int32 × zSt) ⊕ (zSt)) :=
  if x2 ≤ x4 then (some (.inr σ)) else (gfR Γ σ x0 6 9 fun v7 =>
  gfR Γ σ v7 3 0 fun v8 =>
  ldG Γ σ v8 x3 fun v9 =>
  gfR Γ σ x0 6 7 fun v10 =>
  gfR Γ σ x0 6 0 fun v11 =>
  ldA Γ σ v11 x1 fun v12 =>
  bnd (f_X6_joinedWord Γ x3 x4 σ) fun r14 σ13 =>
  chk (isO Γ v10 4) <| bnd (f_X4_weigh Γ v10 v12 r14 σ13) fun r16 σ15 =>
  stI Γ σ15 v9 x4 r16 fun σ17 =>
  some (.inl ((x4 + 1), σ17)))
def f_X6_hankelRank_B26 (Γ : zSh) (x0 : Nat) (x1 : Int32) (x2 : Int32) (x3 : Int32) (σ : zSt) : Option ((Int32 × zSt) ⊕ (zSt)) :=
  if x2 ≤ x3 then (some (.inr σ)) else (lb0 (loopM (fun q => f_X6_hankelRank_B34 Γ x0 x1 x2 x3 q.1 q.2) FUEL (0, σ)) fun σ18 =>
  some (.inl ((x3 + 1), σ18)))
def f_X6_hankelRank (Γ : zSh) (a0 : Nat) (a1 : Int32) (a2 : Int32) (σ : zSt) : Option ((Int32 × zSt) ⊕ (Nat × zSt)) :=
  xbnd (f_X6_checkSlot Γ a1 σ) fun _ σ1 =>
  xbnd (f_X6_checkRange Γ a2 0 31 σ1) fun _ σ2 =>
  gfR Γ σ2 a0 6 7 fun v3 =>
  gfR Γ σ2 a0 6 0 fun v4 =>
  ldA Γ σ2 v4 a1 fun v5 =>
  chk (isO Γ v3 4) <| bnd (f_X4_start Γ v3 v5 σ2) fun _ σ6 =>
  lb0 (loopM (fun q => f_X6_hankelRank_B26 Γ a0 a1 a2 q.1 q.2) FUEL (0, σ6)) fun σ19 =>
  gfR Γ σ19 a0 6 9 fun v20 =>
  chk (isO Γ v20 3) <| bnd (f_X3_rank Γ v20 a2 a2 σ19) fun r22 σ21 =>
  some (.inl (r22, σ21))
def f_X6_collectTotals_B15 (Γ : zSh) (x0 : Nat) (x1 : Int32) (x2 : Int32) (x3 : Int32) (σ : zSt) : Option ((Int32 × zSt) ⊕ (zSt)) :=
  if x2 ≤ x3 then (some (.inr σ)) else (gfR Γ σ x0 6 10 fun v5 =>
  gfR Γ σ x0 6 6 fun v6 =>
  gfR Γ σ x0 6 0 fun v7 =>
  ldA Γ σ v7 x1 fun v8 =>
  chk (isO Γ v6 5) <| bnd (f_X5_value Γ v6 v8 σ) fun r10 σ9 =>
  stI Γ σ9 v5 x3 r10 fun σ11 =>
  gfR Γ σ11 x0 6 6 fun v12 =>
  gfR Γ σ11 x0 6 0 fun v13 =>
  ldA Γ σ11 v13 x1 fun v14 =>
  chk (isO Γ v12 5) <| bnd (f_X5_takeBoth Γ v12 v14 σ11) fun _ σ15 =>
  some (.inl ((x3 + 1), σ15)))
def f_X6_collectTotals (Γ : zSh) (a0 : Nat) (a1 : Int32) (a2 : Int32) (σ : zSt) : Option (Unit × zSt) :=
  gfR Γ σ a0 6 6 fun v1 =>
  gfR Γ σ a0 6 0 fun v2 =>
  ldA Γ σ v2 a1 fun v3 =>
  chk (isO Γ v1 5) <| bnd (f_X5_start Γ v1 v3 σ) fun _ σ4 =>
  lb0 (loopM (fun q => f_X6_collectTotals_B15 Γ a0 a1 a2 q.1 q.2) FUEL (0, σ4)) fun σ16 =>
  some ((), σ16)
def f_X6_fillRecurrences_B10 (Γ : zSh) (x0 : Nat) (x1 : Int32) (x2 : Int32) (x3 : Int32) (σ : zSt) : Option ((Int32 × zSt) ⊕ (zSt)) :=
  if x1 < x3 then (some (.inr σ)) else (gfR Γ σ x0 6 9 fun v1 =>
  gfR Γ σ v1 3 0 fun v2 =>
  ldG Γ σ v2 x2 fun v3 =>
  gfR Γ σ x0 6 10 fun v4 =>
  ldI Γ σ v4 (x2 + x3) fun v5 =>
  stI Γ σ v3 x3 v5 fun σ6 =>
  some (.inl ((x3 + 1), σ6)))
def f_X6_fillRecurrences_B2 (Γ : zSh) (x0 : Nat) (x1 : Int32) (x2 : Int32) (σ : zSt) : Option ((Int32 × zSt) ⊕ (zSt)) :=
  if 31 ≤ x2 then (some (.inr σ)) else (lb0 (loopM (fun q => f_X6_fillRecurrences_B10 Γ x0 x1 x2 q.1 q.2) FUEL (0, σ)) fun σ7 =>
  some (.inl ((x2 + 1), σ7)))
def f_X6_fillRecurrences (Γ : zSh) (a0 : Nat) (a1 : Int32) (σ : zSt) : Option (Unit × zSt) :=
  lb0 (loopM (fun q => f_X6_fillRecurrences_B2 Γ a0 a1 q.1 q.2) FUEL (0, σ)) fun σ8 =>
  some ((), σ8)
def f_X6_recurs_L62 (Γ : zSh) (s0 : Int32) (σ : zSt) : Option ((Int32 × zSt) ⊕ (Nat × zSt)) :=
  chk (isB s0) (some (.inl (s0, σ)))
def f_X6_recurs (Γ : zSh) (a0 : Nat) (a1 : Int32) (a2 : Int32) (σ : zSt) : Option ((Int32 × zSt) ⊕ (Nat × zSt)) :=
  xbnd (f_X6_checkSlot Γ a1 σ) fun _ σ1 =>
  xbnd (f_X6_checkRange Γ a2 1 12 σ1) fun _ σ2 =>
  chk (isO Γ a0 6) <| bnd (f_X6_collectTotals Γ a0 a1 (31 + a2) σ2) fun _ σ3 =>
  chk (isO Γ a0 6) <| bnd (f_X6_fillRecurrences Γ a0 a2 σ3) fun _ σ4 =>
  gfR Γ σ4 a0 6 9 fun v5 =>
  chk (isO Γ v5 3) <| bnd (f_X3_rank Γ v5 31 a2 σ4) fun r7 σ6 =>
  chk (isO Γ a0 6) <| bnd (f_X6_fillRecurrences Γ a0 a2 σ6) fun _ σ8 =>
  gfR Γ σ8 a0 6 9 fun v9 =>
  chk (isO Γ v9 3) <| bnd (f_X3_rank Γ v9 31 (a2 + 1) σ8) fun r11 σ10 =>
  if r11 = r7 then (f_X6_recurs_L62 Γ 1 σ10) else (f_X6_recurs_L62 Γ 0 σ10)
def f_X6_inverse (Γ : zSh) (a0 : Nat) (a1 : Int32) (σ : zSt) : Option ((Int32 × zSt) ⊕ (Nat × zSt)) :=
  xbnd (f_X6_checkRange Γ a1 1 10006 σ) fun _ σ1 =>
  bnd (f_X6_reciprocal Γ a1 σ1) fun r3 σ2 =>
  some (.inl (r3, σ2))
def f_X6_append (Γ : zSh) (a0 : Nat) (a1 : Int32) (σ : zSt) : Option ((Int32 × zSt) ⊕ (Nat × zSt)) :=
  xbnd (f_X6_checkRange Γ a1 0 127 σ) fun _ σ1 =>
  gfR Γ σ1 a0 6 11 fun v2 =>
  gfI Γ σ1 v2 2 1 fun v3 =>
  if v3 < 60 then (gfR Γ σ1 a0 6 11 fun v4 =>
  gfR Γ σ1 v4 2 0 fun v5 =>
  gfR Γ σ1 a0 6 11 fun v6 =>
  gfI Γ σ1 v6 2 1 fun v7 =>
  stI Γ σ1 v5 v7 a1 fun σ8 =>
  gfR Γ σ8 a0 6 11 fun v9 =>
  gfI Γ σ8 v9 2 1 fun v10 =>
  pfI Γ σ8 v9 2 1 (v10 + 1) fun σ11 =>
  gfR Γ σ11 a0 6 11 fun v12 =>
  gfI Γ σ11 v12 2 1 fun v13 =>
  some (.inl (v13, σ11))) else (some (.inr (2, σ1)))
def f_X6_clearText (Γ : zSh) (a0 : Nat) (σ : zSt) : Option (Int32 × zSt) :=
  gfR Γ σ a0 6 11 fun v1 =>
  gfI Γ σ v1 2 1 fun v2 =>
  gfR Γ σ a0 6 11 fun v3 =>
  pfI Γ σ v3 2 1 0 fun σ4 =>
  some (v2, σ4)
def f_X6_parse (Γ : zSh) (a0 : Nat) (a1 : Int32) (σ : zSt) : Option ((Int32 × zSt) ⊕ (Nat × zSt)) :=
  xbnd (f_X6_checkSlot Γ a1 σ) fun _ σ1 =>
  gfR Γ σ1 a0 6 11 fun v2 =>
  chk (isO Γ v2 2) <| bnd (f_X2_syntaxError Γ v2 σ1) fun r4 σ3 =>
  if r4 = (-1) then (gfR Γ σ3 a0 6 11 fun v5 =>
  gfR Γ σ3 a0 6 8 fun v6 =>
  chk (isO Γ v5 2) <| bnd (f_X2_evaluate Γ v5 v6 σ3) fun r8 σ7 =>
  if r8 = 0 then (some (.inl ((-2), σ7))) else (gfR Γ σ7 a0 6 4 fun v9 =>
  gfR Γ σ7 a0 6 11 fun v10 =>
  gfR Γ σ7 v10 2 2 fun v11 =>
  ldA Γ σ7 v11 0 fun v12 =>
  chk (isO Γ v9 0) <| bnd (f_X0_copyFrom Γ v9 v12 σ7) fun _ σ13 =>
  chk (isO Γ a0 6) <| bnd (f_X6_store Γ a0 a1 σ13) fun r15 σ14 =>
  some (.inl (r15, σ14)))) else (some (.inl (((-10) - r4), σ3)))
def f_X6_undo (Γ : zSh) (a0 : Nat) (σ : zSt) : Option ((Int32 × zSt) ⊕ (Nat × zSt)) :=
  gfI Γ σ a0 6 3 fun v1 =>
  if 0 < v1 then (gfI Γ σ a0 6 3 fun v2 =>
  pfI Γ σ a0 6 3 (v2 - 1) fun σ3 =>
  gfR Γ σ3 a0 6 0 fun v4 =>
  gfR Γ σ3 a0 6 2 fun v5 =>
  gfI Γ σ3 a0 6 3 fun v6 =>
  ldI Γ σ3 v5 v6 fun v7 =>
  ldA Γ σ3 v4 v7 fun v8 =>
  gfR Γ σ3 a0 6 1 fun v9 =>
  gfI Γ σ3 a0 6 3 fun v10 =>
  ldA Γ σ3 v9 v10 fun v11 =>
  chk (isO Γ v8 0) <| bnd (f_X0_copyFrom Γ v8 v11 σ3) fun _ σ12 =>
  gfI Γ σ12 a0 6 3 fun v13 =>
  some (.inl (v13, σ12))) else (some (.inr (2, σ)))
def f_X6_digest_B34 (Γ : zSh) (x0 : Nat) (x3 : Int32) (x1 : Int64) (x4 : Int32) (σ : zSt) : Option ((Int64 × Int32 × zSt) ⊕ (Int64 × zSt)) :=
  if 2 < x4 then (some (.inr (x1, σ))) else (chk (isO Γ x0 6) <| bnd (f_X6_spaceSize Γ x0 x3 x4 σ) fun r8 σ7 =>
  some (.inl (((31 * x1) + (r8.toInt64)), (x4 + 1), σ7)))
def f_X6_digest_B15 (Γ : zSh) (x0 : Nat) (x1 : Int64) (x3 : Int32) (σ : zSt) : Option ((Int64 × Int32 × zSt) ⊕ (Int64 × zSt)) :=
  if 4 ≤ x3 then (some (.inr (x1, σ))) else (gfR Γ σ x0 6 0 fun v3 =>
  ldA Γ σ v3 x3 fun v4 =>
  chk (isO Γ v4 0) <| bnd (f_X0_hash Γ v4 x1 σ) fun r6 σ5 =>
  lb1 (loopM (fun q => f_X6_digest_B34 Γ x0 x3 q.1 q.2.1 q.2.2) FUEL (r6, 0, σ5)) fun w10 σ9 =>
  some (.inl (w10, (x3 + 1), σ9)))
def f_X6_digest (Γ : zSh) (a0 : Nat) (σ : zSt) : Option (Int64 × zSt) :=
  gfR Γ σ a0 6 11 fun v1 =>
  gfI Γ σ v1 2 1 fun v2 =>
  lb1 (loopM (fun q => f_X6_digest_B15 Γ a0 q.1 q.2.1 q.2.2) FUEL ((93589 + (v2.toInt64)), 0, σ)) fun w12 σ11 =>
  gfI Γ σ11 a0 6 3 fun v13 =>
  some (((31 * w12) + (v13.toInt64)), σ11)
def f_X7_thrown (Γ : zSh) (a0 : Nat) (σ : zSt) : Option (Int32 × zSt) :=
  gfI Γ σ a0 7 3 fun v1 =>
  some (v1, σ)
def f_X7_in_L18 (Γ : zSh) (s0 : Int32) (σ : zSt) : Option (Int32 × zSt) :=
  chk (isB s0) (some (s0, σ))
def f_X7_in_L17 (Γ : zSh)  (σ : zSt) : Option (Int32 × zSt) :=
  f_X7_in_L18 Γ 0 σ
def f_X7_in (Γ : zSh) (a0 : Int64) (a1 : Int64) (a2 : Int64) (σ : zSt) : Option (Int32 × zSt) :=
  if (lg_cmp a0 a1) < 0 then (f_X7_in_L17 Γ σ) else (if 0 < (lg_cmp a0 a2) then (f_X7_in_L17 Γ σ) else (f_X7_in_L18 Γ 1 σ))
def f_X7_goes_L41 (Γ : zSh) (s0 : Int32) (σ : zSt) : Option (Int32 × zSt) :=
  chk (isB s0) (some (s0, σ))
def f_X7_goes_L26 (Γ : zSh) (x0 : Nat) (s0 : Int32) (s1 : Nat) (σ : zSt) : Option (Int32 × zSt) :=
  pfI Γ σ s1 7 3 s0 fun σ1 =>
  gfI Γ σ1 x0 7 3 fun v2 =>
  if v2 = 0 then (f_X7_goes_L41 Γ 1 σ1) else (f_X7_goes_L41 Γ 0 σ1)
def f_X7_goes (Γ : zSh) (a0 : Nat) (a1 : Int32) (a2 : Int32) (a3 : Int32) (σ : zSt) : Option (Int32 × zSt) :=
  if a1 = 0 then (f_X7_goes_L26 Γ a0 1 a0 σ) else (if a2 = 0 then (f_X7_goes_L26 Γ a0 2 a0 σ) else (if a3 = 0 then (f_X7_goes_L26 Γ a0 3 a0 σ) else (f_X7_goes_L26 Γ a0 0 a0 σ)))
def f_X7_save_B51 (Γ : zSh) (x0 : Nat) (x1 : Int32) (σ : zSt) : Option ((Int32 × zSt) ⊕ (zSt)) :=
  if 1252 ≤ x1 then (some (.inr σ)) else (gfR Γ σ x0 7 1 fun v2 =>
  gfI Γ σ x0 7 2 fun v3 =>
  gfR Γ σ x0 7 0 fun v4 =>
  ldI Γ σ v4 x1 fun v5 =>
  stI Γ σ v2 ((1252 * v3) + x1) v5 fun σ6 =>
  some (.inl ((x1 + 1), σ6)))
def f_X7_save_L49 (Γ : zSh) (x0 : Nat) (σ : zSt) : Option (Unit × zSt) :=
  lb0 (loopM (fun q => f_X7_save_B51 Γ x0 q.1 q.2) FUEL (0, σ)) fun σ7 =>
  gfI Γ σ7 x0 7 2 fun v8 =>
  pfI Γ σ7 x0 7 2 (v8 + 1) fun σ9 =>
  some ((), σ9)
def f_X7_save_B10 (Γ : zSh) (x0 : Nat) (x1 : Int32) (σ : zSt) : Option ((Int32 × zSt) ⊕ (zSt)) :=
  if 3756 ≤ x1 then (some (.inr σ)) else (gfR Γ σ x0 7 1 fun v10 =>
  gfR Γ σ x0 7 1 fun v11 =>
  ldI Γ σ v11 (x1 + 1252) fun v12 =>
  stI Γ σ v10 x1 v12 fun σ13 =>
  some (.inl ((x1 + 1), σ13)))
def f_X7_save (Γ : zSh) (a0 : Nat) (σ : zSt) : Option (Unit × zSt) :=
  gfI Γ σ a0 7 2 fun v1 =>
  if v1 = 4 then (lb0 (loopM (fun q => f_X7_save_B10 Γ a0 q.1 q.2) FUEL (0, σ)) fun σ14 =>
  gfI Γ σ14 a0 7 2 fun v15 =>
  pfI Γ σ14 a0 7 2 (v15 - 1) fun σ16 =>
  f_X7_save_L49 Γ a0 σ16) else (f_X7_save_L49 Γ a0 σ)
def f_X7_isSlot (Γ : zSh) (a0 : Int32) (σ : zSt) : Option (Int32 × zSt) :=
  bnd (f_X7_in Γ (a0.toInt64) 0 3 σ) fun r2 σ1 =>
  chk (isB r2) (some (r2, σ1))
def f_X7_isNumber (Γ : zSh) (a0 : Int32) (σ : zSt) : Option (Int32 × zSt) :=
  bnd (f_X7_in Γ (a0.toInt64) 0 10006 σ) fun r2 σ1 =>
  chk (isB r2) (some (r2, σ1))
def f_X7_power_B7_L31 (Γ : zSh) (x3 : Int32) (x4 : Int32) (s0 : Int32) (σ : zSt) : Option ((Int32 × Int32 × Int32 × zSt) ⊕ (Int32 × zSt)) :=
  rmI (x3 * x3) 10007 fun v2 =>
  dvI x4 2 fun v3 =>
  some (.inl (s0, v2, v3, σ))
def f_X7_power_B7 (Γ : zSh) (x2 : Int32) (x3 : Int32) (x4 : Int32) (σ : zSt) : Option ((Int32 × Int32 × Int32 × zSt) ⊕ (Int32 × zSt)) :=
  if x4 ≤ 0 then (some (.inr (x2, σ))) else (rmI x4 2 fun v1 =>
  if v1 = 1 then (rmI (x2 * x3) 10007 fun v4 =>
  f_X7_power_B7_L31 Γ x3 x4 v4 σ) else (f_X7_power_B7_L31 Γ x3 x4 x2 σ))
def f_X7_power (Γ : zSh) (a0 : Int32) (a1 : Int32) (σ : zSt) : Option (Int32 × zSt) :=
  lb1 (loopM (fun q => f_X7_power_B7 Γ q.1 q.2.1 q.2.2.1 q.2.2.2) FUEL (1, a0, a1, σ)) fun w6 σ5 =>
  some (w6, σ5)
def f_X7_inverted (Γ : zSh) (a0 : Int32) (σ : zSt) : Option (Int32 × zSt) :=
  bnd (f_X7_power Γ a0 10005 σ) fun r2 σ1 =>
  some (r2, σ1)
def f_X7_many (Γ : zSh) (a0 : Nat) (a1 : Int32) (σ : zSt) : Option (Int32 × zSt) :=
  gfR Γ σ a0 7 0 fun v1 =>
  ldI Γ σ v1 (313 * a1) fun v2 =>
  some (v2, σ)
def f_X7_initialAt (Γ : zSh) (a0 : Int32) (a1 : Int32) (σ : zSt) : Option (Int32 × zSt) :=
  some ((((313 * a0) + 1) + a1), σ)
def f_X7_finalAt (Γ : zSh) (a0 : Int32) (a1 : Int32) (σ : zSt) : Option (Int32 × zSt) :=
  some ((((313 * a0) + 13) + a1), σ)
def f_X7_at (Γ : zSh) (a0 : Int32) (a1 : Int32) (a2 : Int32) (a3 : Int32) (σ : zSt) : Option (Int32 × zSt) :=
  some ((((((313 * a0) + 25) + (144 * a1)) + (12 * a2)) + a3), σ)
def f_X7_clears_B2 (Γ : zSh) (x0 : Nat) (x1 : Int32) (x2 : Int32) (x3 : Int32) (σ : zSt) : Option ((Int32 × zSt) ⊕ (zSt)) :=
  if 313 ≤ x3 then (some (.inr σ)) else (gfR Γ σ x0 7 0 fun v1 =>
  stI Γ σ v1 ((313 * x1) + x3) 0 fun σ2 =>
  some (.inl ((x3 + 1), σ2)))
def f_X7_clears (Γ : zSh) (a0 : Nat) (a1 : Int32) (a2 : Int32) (σ : zSt) : Option (Unit × zSt) :=
  lb0 (loopM (fun q => f_X7_clears_B2 Γ a0 a1 a2 q.1 q.2) FUEL (0, σ)) fun σ3 =>
  gfR Γ σ3 a0 7 0 fun v4 =>
  stI Γ σ3 v4 (313 * a1) a2 fun σ5 =>
  some ((), σ5)
def f_X7_copies_B2 (Γ : zSh) (x0 : Nat) (x1 : Int32) (x2 : Int32) (x3 : Int32) (σ : zSt) : Option ((Int32 × zSt) ⊕ (zSt)) :=
  if 313 ≤ x3 then (some (.inr σ)) else (gfR Γ σ x0 7 0 fun v1 =>
  gfR Γ σ x0 7 0 fun v2 =>
  ldI Γ σ v2 ((313 * x1) + x3) fun v3 =>
  stI Γ σ v1 ((313 * x2) + x3) v3 fun σ4 =>
  some (.inl ((x3 + 1), σ4)))
def f_X7_copies (Γ : zSh) (a0 : Nat) (a1 : Int32) (a2 : Int32) (σ : zSt) : Option (Unit × zSt) :=
  lb0 (loopM (fun q => f_X7_copies_B2 Γ a0 a1 a2 q.1 q.2) FUEL (0, σ)) fun σ5 =>
  some ((), σ5)
def f_X7_emptyWeight_B4 (Γ : zSh) (x0 : Nat) (x1 : Int32) (x2 : Int32) (x3 : Int32) (σ : zSt) : Option ((Int32 × Int32 × zSt) ⊕ (Int32 × zSt)) :=
  chk (isO Γ x0 7) <| bnd (f_X7_many Γ x0 x1 σ) fun r2 σ1 =>
  if r2 ≤ x3 then (some (.inr (x2, σ1))) else (gfR Γ σ1 x0 7 0 fun v3 =>
  bnd (f_X7_initialAt Γ x1 x3 σ1) fun r5 σ4 =>
  ldI Γ σ4 v3 r5 fun v6 =>
  gfR Γ σ4 x0 7 0 fun v7 =>
  bnd (f_X7_finalAt Γ x1 x3 σ4) fun r9 σ8 =>
  ldI Γ σ8 v7 r9 fun v10 =>
  rmI (x2 + (v6 * v10)) 10007 fun v11 =>
  some (.inl (v11, (x3 + 1), σ8)))
def f_X7_emptyWeight (Γ : zSh) (a0 : Nat) (a1 : Int32) (σ : zSt) : Option (Int32 × zSt) :=
  lb1 (loopM (fun q => f_X7_emptyWeight_B4 Γ a0 a1 q.1 q.2.1 q.2.2) FUEL (0, 0, σ)) fun w13 σ12 =>
  some (w13, σ12)
def f_X7_begin (Γ : zSh) (a0 : Nat) (a1 : Int32) (a2 : Int32) (σ : zSt) : Option (Int32 × zSt) :=
  bnd (f_X7_isSlot Γ a1 σ) fun r2 σ1 =>
  bnd (f_X7_in Γ (a2.toInt64) 0 12 σ1) fun r4 σ3 =>
  chk (isO Γ a0 7) <| bnd (f_X7_goes Γ a0 r2 r4 1 σ3) fun r6 σ5 =>
  if r6 = 0 then (some (0, σ5)) else (chk (isO Γ a0 7) <| bnd (f_X7_save Γ a0 σ5) fun _ σ7 =>
  chk (isO Γ a0 7) <| bnd (f_X7_many Γ a0 a1 σ7) fun r9 σ8 =>
  chk (isO Γ a0 7) <| bnd (f_X7_clears Γ a0 a1 a2 σ8) fun _ σ10 =>
  some (r9, σ10))
def f_X7_isState_L29 (Γ : zSh) (s0 : Int32) (σ : zSt) : Option (Int32 × zSt) :=
  chk (isB s0) (some (s0, σ))
def f_X7_isState_L28 (Γ : zSh)  (σ : zSt) : Option (Int32 × zSt) :=
  f_X7_isState_L29 Γ 0 σ
def f_X7_isState (Γ : zSh) (a0 : Nat) (a1 : Int32) (a2 : Int32) (σ : zSt) : Option (Int32 × zSt) :=
  bnd (f_X7_isSlot Γ a1 σ) fun r2 σ1 =>
  if r2 = 0 then (f_X7_isState_L28 Γ σ1) else (chk (isO Γ a0 7) <| bnd (f_X7_many Γ a0 a1 σ1) fun r4 σ3 =>
  bnd (f_X7_in Γ (a2.toInt64) 0 ((r4 - 1).toInt64) σ3) fun r6 σ5 =>
  if r6 = 0 then (f_X7_isState_L28 Γ σ5) else (f_X7_isState_L29 Γ 1 σ5))
def f_X7_setEnd_L42 (Γ : zSh) (x0 : Nat) (x4 : Int32) (s0 : Int32) (σ : zSt) : Option (Int32 × zSt) :=
  gfR Γ σ x0 7 0 fun v10 =>
  ldI Γ σ v10 s0 fun v11 =>
  gfR Γ σ x0 7 0 fun v12 =>
  stI Γ σ v12 s0 x4 fun σ13 =>
  some (v11, σ13)
def f_X7_setEnd (Γ : zSh) (a0 : Nat) (a1 : Int32) (a2 : Int32) (a3 : Int32) (a4 : Int32) (σ : zSt) : Option (Int32 × zSt) :=
  chk (isO Γ a0 7) <| bnd (f_X7_isState Γ a0 a1 a2 σ) fun r2 σ1 =>
  bnd (f_X7_isNumber Γ a4 σ1) fun r4 σ3 =>
  chk (isO Γ a0 7) <| bnd (f_X7_goes Γ a0 r2 r4 1 σ3) fun r6 σ5 =>
  if r6 = 0 then (some (0, σ5)) else (chk (isO Γ a0 7) <| bnd (f_X7_save Γ a0 σ5) fun _ σ7 =>
  if a3 = 0 then (bnd (f_X7_initialAt Γ a1 a2 σ7) fun r9 σ8 =>
  f_X7_setEnd_L42 Γ a0 a4 r9 σ8) else (bnd (f_X7_finalAt Γ a1 a2 σ7) fun r15 σ14 =>
  f_X7_setEnd_L42 Γ a0 a4 r15 σ14))
def f_X7_isStep_L34 (Γ : zSh) (s0 : Int32) (σ : zSt) : Option (Int32 × zSt) :=
  chk (isB s0) (some (s0, σ))
def f_X7_isStep_L33 (Γ : zSh)  (σ : zSt) : Option (Int32 × zSt) :=
  f_X7_isStep_L34 Γ 0 σ
def f_X7_isStep (Γ : zSh) (a0 : Nat) (a1 : Int32) (a2 : Int32) (a3 : Int32) (a4 : Int32) (σ : zSt) : Option (Int32 × zSt) :=
  chk (isO Γ a0 7) <| bnd (f_X7_isState Γ a0 a1 a3 σ) fun r2 σ1 =>
  if r2 = 0 then (f_X7_isStep_L33 Γ σ1) else (chk (isO Γ a0 7) <| bnd (f_X7_isState Γ a0 a1 a4 σ1) fun r4 σ3 =>
  if r4 = 0 then (f_X7_isStep_L33 Γ σ3) else (bnd (f_X7_in Γ (a2.toInt64) 0 1 σ3) fun r6 σ5 =>
  if r6 = 0 then (f_X7_isStep_L33 Γ σ5) else (f_X7_isStep_L34 Γ 1 σ5)))
def f_X7_setStep (Γ : zSh) (a0 : Nat) (a1 : Int32) (a2 : Int32) (a3 : Int32) (a4 : Int32) (a5 : Int32) (σ : zSt) : Option (Int32 × zSt) :=
  chk (isO Γ a0 7) <| bnd (f_X7_isStep Γ a0 a1 a2 a3 a4 σ) fun r2 σ1 =>
  bnd (f_X7_isNumber Γ a5 σ1) fun r4 σ3 =>
  chk (isO Γ a0 7) <| bnd (f_X7_goes Γ a0 r2 r4 1 σ3) fun r6 σ5 =>
  if r6 = 0 then (some (0, σ5)) else (chk (isO Γ a0 7) <| bnd (f_X7_save Γ a0 σ5) fun _ σ7 =>
  gfR Γ σ7 a0 7 0 fun v8 =>
  bnd (f_X7_at Γ a1 a2 a3 a4 σ7) fun r10 σ9 =>
  ldI Γ σ9 v8 r10 fun v11 =>
  gfR Γ σ9 a0 7 0 fun v12 =>
  bnd (f_X7_at Γ a1 a2 a3 a4 σ9) fun r14 σ13 =>
  stI Γ σ13 v12 r14 a5 fun σ15 =>
  some (v11, σ15))
def f_X7_draws (Γ : zSh) (a0 : Nat) (σ : zSt) : Option (Int32 × zSt) :=
  gfL Γ σ a0 7 4 fun v1 =>
  rmL ((1103515245 * v1) + 12345) 2147483648 fun v2 =>
  pfL Γ σ a0 7 4 v2 fun σ3 =>
  gfL Γ σ3 a0 7 4 fun v4 =>
  dvL v4 65536 fun v5 =>
  rmL v5 4 fun v6 =>
  some ((v6.toInt32), σ3)
def f_X7_random_B62 (Γ : zSh) (x0 : Nat) (x1 : Int32) (x2 : Int32) (x4 : Int32) (σ : zSt) : Option ((Int32 × zSt) ⊕ (zSt)) :=
  if x2 ≤ x4 then (some (.inr σ)) else (gfR Γ σ x0 7 0 fun v10 =>
  bnd (f_X7_initialAt Γ x1 x4 σ) fun r12 σ11 =>
  chk (isO Γ x0 7) <| bnd (f_X7_draws Γ x0 σ11) fun r14 σ13 =>
  stI Γ σ13 v10 r12 r14 fun σ15 =>
  gfR Γ σ15 x0 7 0 fun v16 =>
  bnd (f_X7_finalAt Γ x1 x4 σ15) fun r18 σ17 =>
  chk (isO Γ x0 7) <| bnd (f_X7_draws Γ x0 σ17) fun r20 σ19 =>
  stI Γ σ19 v16 r18 r20 fun σ21 =>
  some (.inl ((x4 + 1), σ21)))
def f_X7_random_B107 (Γ : zSh) (x0 : Nat) (x1 : Int32) (x2 : Int32) (x4 : Int32) (σ : zSt) : Option ((Int32 × zSt) ⊕ (zSt)) :=
  if ((2 * x2) * x2) ≤ x4 then (some (.inr σ)) else (dvI x4 (x2 * x2) fun v23 =>
  rmI x4 (x2 * x2) fun v24 =>
  gfR Γ σ x0 7 0 fun v25 =>
  dvI v24 x2 fun v26 =>
  rmI v24 x2 fun v27 =>
  bnd (f_X7_at Γ x1 v23 v26 v27 σ) fun r29 σ28 =>
  chk (isO Γ x0 7) <| bnd (f_X7_draws Γ x0 σ28) fun r31 σ30 =>
  stI Γ σ30 v25 r29 r31 fun σ32 =>
  some (.inl ((x4 + 1), σ32)))
def f_X7_random_L34 (Γ : zSh) (x0 : Nat) (x1 : Int32) (x2 : Int32) (x3 : Int32) (s0 : Int32) (s1 : Int32) (s2 : Nat) (σ : zSt) : Option (Int32 × zSt) :=
  chk (isO Γ s2 7) <| bnd (f_X7_goes Γ s2 s1 s0 1 σ) fun r6 σ5 =>
  if r6 = 0 then (some (0, σ5)) else (chk (isO Γ x0 7) <| bnd (f_X7_save Γ x0 σ5) fun _ σ7 =>
  chk (isO Γ x0 7) <| bnd (f_X7_clears Γ x0 x1 x2 σ7) fun _ σ8 =>
  pfL Γ σ8 x0 7 4 (x3.toInt64) fun σ9 =>
  lb0 (loopM (fun q => f_X7_random_B62 Γ x0 x1 x2 q.1 q.2) FUEL (0, σ9)) fun σ22 =>
  lb0 (loopM (fun q => f_X7_random_B107 Γ x0 x1 x2 q.1 q.2) FUEL (0, σ22)) fun σ33 =>
  chk (isO Γ x0 7) <| bnd (f_X7_emptyWeight Γ x0 x1 σ33) fun r35 σ34 =>
  some (r35, σ34))
def f_X7_random_L33 (Γ : zSh) (x0 : Nat) (x1 : Int32) (x2 : Int32) (x3 : Int32) (s0 : Int32) (s1 : Nat) (σ : zSt) : Option (Int32 × zSt) :=
  f_X7_random_L34 Γ x0 x1 x2 x3 0 s0 s1 σ
def f_X7_random (Γ : zSh) (a0 : Nat) (a1 : Int32) (a2 : Int32) (a3 : Int32) (σ : zSt) : Option (Int32 × zSt) :=
  bnd (f_X7_isSlot Γ a1 σ) fun r2 σ1 =>
  bnd (f_X7_in Γ (a2.toInt64) 0 12 σ1) fun r4 σ3 =>
  if r4 = 0 then (f_X7_random_L33 Γ a0 a1 a2 a3 r2 a0 σ3) else (bnd (f_X7_in Γ (a3.toInt64) 0 999999 σ3) fun r37 σ36 =>
  if r37 = 0 then (f_X7_random_L33 Γ a0 a1 a2 a3 r2 a0 σ36) else (f_X7_random_L34 Γ a0 a1 a2 a3 1 r2 a0 σ36))
def f_X7_states_L22 (Γ : zSh) (s0 : Int32) (σ : zSt) : Option (Int32 × zSt) :=
  some (s0, σ)
def f_X7_states (Γ : zSh) (a0 : Nat) (a1 : Int32) (σ : zSt) : Option (Int32 × zSt) :=
  bnd (f_X7_isSlot Γ a1 σ) fun r2 σ1 =>
  chk (isO Γ a0 7) <| bnd (f_X7_goes Γ a0 r2 1 1 σ1) fun r4 σ3 =>
  if r4 = 0 then (f_X7_states_L22 Γ 0 σ3) else (chk (isO Γ a0 7) <| bnd (f_X7_many Γ a0 a1 σ3) fun r6 σ5 =>
  f_X7_states_L22 Γ r6 σ5)
def f_X7_end_L41 (Γ : zSh) (s0 : Int32) (σ : zSt) : Option (Int32 × zSt) :=
  some (s0, σ)
def f_X7_end_L36 (Γ : zSh) (s0 : Int32) (s1 : Nat) (σ : zSt) : Option (Int32 × zSt) :=
  ldI Γ σ s1 s0 fun v8 =>
  f_X7_end_L41 Γ v8 σ
def f_X7_end (Γ : zSh) (a0 : Nat) (a1 : Int32) (a2 : Int32) (a3 : Int32) (σ : zSt) : Option (Int32 × zSt) :=
  chk (isO Γ a0 7) <| bnd (f_X7_isState Γ a0 a1 a2 σ) fun r2 σ1 =>
  chk (isO Γ a0 7) <| bnd (f_X7_goes Γ a0 r2 1 1 σ1) fun r4 σ3 =>
  if r4 = 0 then (f_X7_end_L41 Γ 0 σ3) else (gfR Γ σ3 a0 7 0 fun v5 =>
  if a3 = 0 then (bnd (f_X7_initialAt Γ a1 a2 σ3) fun r7 σ6 =>
  f_X7_end_L36 Γ r7 v5 σ6) else (bnd (f_X7_finalAt Γ a1 a2 σ3) fun r10 σ9 =>
  f_X7_end_L36 Γ r10 v5 σ9))
def f_X7_step_L35 (Γ : zSh) (s0 : Int32) (σ : zSt) : Option (Int32 × zSt) :=
  some (s0, σ)
def f_X7_step (Γ : zSh) (a0 : Nat) (a1 : Int32) (a2 : Int32) (a3 : Int32) (a4 : Int32) (σ : zSt) : Option (Int32 × zSt) :=
  chk (isO Γ a0 7) <| bnd (f_X7_isStep Γ a0 a1 a2 a3 a4 σ) fun r2 σ1 =>
  chk (isO Γ a0 7) <| bnd (f_X7_goes Γ a0 r2 1 1 σ1) fun r4 σ3 =>
  if r4 = 0 then (f_X7_step_L35 Γ 0 σ3) else (gfR Γ σ3 a0 7 0 fun v5 =>
  bnd (f_X7_at Γ a1 a2 a3 a4 σ3) fun r7 σ6 =>
  ldI Γ σ6 v5 r7 fun v8 =>
  f_X7_step_L35 Γ v8 σ6)
def f_X7_laysInitial_B2 (Γ : zSh) (x0 : Nat) (x1 : Int32) (x2 : Int32) (x3 : Int32) (σ : zSt) : Option ((Int32 × zSt) ⊕ (zSt)) :=
  chk (isO Γ x0 7) <| bnd (f_X7_many Γ x0 x1 σ) fun r2 σ1 =>
  if r2 ≤ x3 then (some (.inr σ1)) else (gfR Γ σ1 x0 7 5 fun v3 =>
  gfR Γ σ1 x0 7 0 fun v4 =>
  bnd (f_X7_initialAt Γ x1 x3 σ1) fun r6 σ5 =>
  ldI Γ σ5 v4 r6 fun v7 =>
  stI Γ σ5 v3 (x2 + x3) v7 fun σ8 =>
  some (.inl ((x3 + 1), σ8)))
def f_X7_laysInitial (Γ : zSh) (a0 : Nat) (a1 : Int32) (a2 : Int32) (σ : zSt) : Option (Unit × zSt) :=
  lb0 (loopM (fun q => f_X7_laysInitial_B2 Γ a0 a1 a2 q.1 q.2) FUEL (0, σ)) fun σ9 =>
  some ((), σ9)
def f_X7_passes_B19_L80 (Γ : zSh) (x0 : Nat) (x1 : Int32) (x2 : Int32) (x3 : Int32) (x4 : Int32) (x5 : Int32) (x6 : Int32) (s0 : Int32) (σ : zSt) : Option ((Int32 × Int32 × zSt) ⊕ (Int32 × zSt)) :=
  gfR Γ σ x0 7 5 fun v9 =>
  ldI Γ σ v9 (x2 + x6) fun v10 =>
  rmI (x5 + (v10 * s0)) 10007 fun v11 =>
  some (.inl (v11, (x6 + 1), σ))
def f_X7_passes_B19 (Γ : zSh) (x0 : Nat) (x1 : Int32) (x2 : Int32) (x3 : Int32) (x4 : Int32) (x5 : Int32) (x6 : Int32) (σ : zSt) : Option ((Int32 × Int32 × zSt) ⊕ (Int32 × zSt)) :=
  chk (isO Γ x0 7) <| bnd (f_X7_many Γ x0 x1 σ) fun r4 σ3 =>
  if r4 ≤ x6 then (some (.inr (x5, σ3))) else (if x3 = 2 then (gfR Γ σ3 x0 7 0 fun v12 =>
  bnd (f_X7_at Γ x1 0 x6 x4 σ3) fun r14 σ13 =>
  ldI Γ σ13 v12 r14 fun v15 =>
  gfR Γ σ13 x0 7 0 fun v16 =>
  bnd (f_X7_at Γ x1 1 x6 x4 σ13) fun r18 σ17 =>
  ldI Γ σ17 v16 r18 fun v19 =>
  f_X7_passes_B19_L80 Γ x0 x1 x2 x3 x4 x5 x6 (v15 + v19) σ17) else (gfR Γ σ3 x0 7 0 fun v5 =>
  bnd (f_X7_at Γ x1 x3 x6 x4 σ3) fun r7 σ6 =>
  ldI Γ σ6 v5 r7 fun v8 =>
  f_X7_passes_B19_L80 Γ x0 x1 x2 x3 x4 x5 x6 v8 σ6))
def f_X7_passes_B3 (Γ : zSh) (x0 : Nat) (x1 : Int32) (x2 : Int32) (x3 : Int32) (x4 : Int32) (σ : zSt) : Option ((Int32 × zSt) ⊕ (zSt)) :=
  chk (isO Γ x0 7) <| bnd (f_X7_many Γ x0 x1 σ) fun r2 σ1 =>
  if r2 ≤ x4 then (some (.inr σ1)) else (lb1 (loopM (fun q => f_X7_passes_B19 Γ x0 x1 x2 x3 x4 q.1 q.2.1 q.2.2) FUEL (0, 0, σ1)) fun w21 σ20 =>
  gfR Γ σ20 x0 7 6 fun v22 =>
  stI Γ σ20 v22 x4 w21 fun σ23 =>
  some (.inl ((x4 + 1), σ23)))
def f_X7_passes_B127 (Γ : zSh) (x0 : Nat) (x1 : Int32) (x2 : Int32) (x4 : Int32) (σ : zSt) : Option ((Int32 × zSt) ⊕ (zSt)) :=
  chk (isO Γ x0 7) <| bnd (f_X7_many Γ x0 x1 σ) fun r26 σ25 =>
  if r26 ≤ x4 then (some (.inr σ25)) else (gfR Γ σ25 x0 7 5 fun v27 =>
  gfR Γ σ25 x0 7 6 fun v28 =>
  ldI Γ σ25 v28 x4 fun v29 =>
  stI Γ σ25 v27 (x2 + x4) v29 fun σ30 =>
  some (.inl ((x4 + 1), σ30)))
def f_X7_passes (Γ : zSh) (a0 : Nat) (a1 : Int32) (a2 : Int32) (a3 : Int32) (σ : zSt) : Option (Unit × zSt) :=
  lb0 (loopM (fun q => f_X7_passes_B3 Γ a0 a1 a2 a3 q.1 q.2) FUEL (0, σ)) fun σ24 =>
  lb0 (loopM (fun q => f_X7_passes_B127 Γ a0 a1 a2 q.1 q.2) FUEL (0, σ24)) fun σ31 =>
  some ((), σ31)
def f_X7_ends_B5 (Γ : zSh) (x0 : Nat) (x1 : Int32) (x2 : Int32) (x3 : Int32) (x4 : Int32) (σ : zSt) : Option ((Int32 × Int32 × zSt) ⊕ (Int32 × zSt)) :=
  chk (isO Γ x0 7) <| bnd (f_X7_many Γ x0 x1 σ) fun r2 σ1 =>
  if r2 ≤ x4 then (some (.inr (x3, σ1))) else (gfR Γ σ1 x0 7 5 fun v3 =>
  ldI Γ σ1 v3 (x2 + x4) fun v4 =>
  gfR Γ σ1 x0 7 0 fun v5 =>
  bnd (f_X7_finalAt Γ x1 x4 σ1) fun r7 σ6 =>
  ldI Γ σ6 v5 r7 fun v8 =>
  rmI (x3 + (v4 * v8)) 10007 fun v9 =>
  some (.inl (v9, (x4 + 1), σ6)))
def f_X7_ends (Γ : zSh) (a0 : Nat) (a1 : Int32) (a2 : Int32) (σ : zSt) : Option (Int32 × zSt) :=
  lb1 (loopM (fun q => f_X7_ends_B5 Γ a0 a1 a2 q.1 q.2.1 q.2.2) FUEL (0, 0, σ)) fun w11 σ10 =>
  some (w11, σ10)
def f_X7_passesWord_B2 (Γ : zSh) (x0 : Nat) (x1 : Int32) (x2 : Int32) (x3 : Int32) (σ : zSt) : Option ((Int32 × zSt) ⊕ (Int32 × zSt)) :=
  if (x2 + 1) < (2 * x3) then (some (.inr (x3, σ))) else (some (.inl ((x3 * 2), σ)))
def f_X7_passesWord_B23 (Γ : zSh) (x0 : Nat) (x1 : Int32) (x2 : Int32) (x4 : Int32) (σ : zSt) : Option ((Int32 × zSt) ⊕ (zSt)) :=
  if x4 ≤ 0 then (some (.inr σ)) else (dvI (x2 + 1) x4 fun v4 =>
  rmI v4 2 fun v5 =>
  chk (isO Γ x0 7) <| bnd (f_X7_passes Γ x0 x1 0 v5 σ) fun _ σ6 =>
  dvI x4 2 fun v7 =>
  some (.inl (v7, σ6)))
def f_X7_passesWord (Γ : zSh) (a0 : Nat) (a1 : Int32) (a2 : Int32) (σ : zSt) : Option (Unit × zSt) :=
  lb1 (loopM (fun q => f_X7_passesWord_B2 Γ a0 a1 a2 q.1 q.2) FUEL (1, σ)) fun w2 σ1 =>
  dvI w2 2 fun v3 =>
  lb0 (loopM (fun q => f_X7_passesWord_B23 Γ a0 a1 a2 q.1 q.2) FUEL (v3, σ1)) fun σ8 =>
  some ((), σ8)
def f_X7_weighs (Γ : zSh) (a0 : Nat) (a1 : Int32) (a2 : Int32) (σ : zSt) : Option (Int32 × zSt) :=
  chk (isO Γ a0 7) <| bnd (f_X7_laysInitial Γ a0 a1 0 σ) fun _ σ1 =>
  chk (isO Γ a0 7) <| bnd (f_X7_passesWord Γ a0 a1 a2 σ1) fun _ σ2 =>
  chk (isO Γ a0 7) <| bnd (f_X7_ends Γ a0 a1 0 σ2) fun r4 σ3 =>
  some (r4, σ3)
def f_X7_weight_L31 (Γ : zSh) (s0 : Int32) (σ : zSt) : Option (Int32 × zSt) :=
  some (s0, σ)
def f_X7_weight (Γ : zSh) (a0 : Nat) (a1 : Int32) (a2 : Int32) (σ : zSt) : Option (Int32 × zSt) :=
  bnd (f_X7_isSlot Γ a1 σ) fun r2 σ1 =>
  bnd (f_X7_in Γ (a2.toInt64) 0 1000000 σ1) fun r4 σ3 =>
  chk (isO Γ a0 7) <| bnd (f_X7_goes Γ a0 r2 r4 1 σ3) fun r6 σ5 =>
  if r6 = 0 then (f_X7_weight_L31 Γ 0 σ5) else (chk (isO Γ a0 7) <| bnd (f_X7_weighs Γ a0 a1 a2 σ5) fun r8 σ7 =>
  f_X7_weight_L31 Γ r8 σ7)
def f_X7_powerWeight_B52 (Γ : zSh) (x0 : Nat) (x1 : Int32) (x2 : Int32) (x3 : Int32) (x4 : Int32) (σ : zSt) : Option ((Int32 × zSt) ⊕ (zSt)) :=
  if x3 ≤ x4 then (some (.inr σ)) else (chk (isO Γ x0 7) <| bnd (f_X7_passesWord Γ x0 x1 x2 σ) fun _ σ8 =>
  some (.inl ((x4 + 1), σ8)))
def f_X7_powerWeight_L34 (Γ : zSh) (x0 : Nat) (x1 : Int32) (x2 : Int32) (x3 : Int32) (s0 : Int32) (s1 : Int32) (s2 : Nat) (σ : zSt) : Option (Int32 × zSt) :=
  chk (isO Γ s2 7) <| bnd (f_X7_goes Γ s2 s1 s0 1 σ) fun r6 σ5 =>
  if r6 = 0 then (some (0, σ5)) else (chk (isO Γ x0 7) <| bnd (f_X7_laysInitial Γ x0 x1 0 σ5) fun _ σ7 =>
  lb0 (loopM (fun q => f_X7_powerWeight_B52 Γ x0 x1 x2 x3 q.1 q.2) FUEL (0, σ7)) fun σ9 =>
  chk (isO Γ x0 7) <| bnd (f_X7_ends Γ x0 x1 0 σ9) fun r11 σ10 =>
  some (r11, σ10))
def f_X7_powerWeight_L33 (Γ : zSh) (x0 : Nat) (x1 : Int32) (x2 : Int32) (x3 : Int32) (s0 : Int32) (s1 : Nat) (σ : zSt) : Option (Int32 × zSt) :=
  f_X7_powerWeight_L34 Γ x0 x1 x2 x3 0 s0 s1 σ
def f_X7_powerWeight (Γ : zSh) (a0 : Nat) (a1 : Int32) (a2 : Int32) (a3 : Int32) (σ : zSt) : Option (Int32 × zSt) :=
  bnd (f_X7_isSlot Γ a1 σ) fun r2 σ1 =>
  bnd (f_X7_in Γ (a2.toInt64) 0 1000000 σ1) fun r4 σ3 =>
  if r4 = 0 then (f_X7_powerWeight_L33 Γ a0 a1 a2 a3 r2 a0 σ3) else (bnd (f_X7_in Γ (a3.toInt64) 0 200 σ3) fun r13 σ12 =>
  if r13 = 0 then (f_X7_powerWeight_L33 Γ a0 a1 a2 a3 r2 a0 σ12) else (f_X7_powerWeight_L34 Γ a0 a1 a2 a3 1 r2 a0 σ12))
def f_X7_total_B31 (Γ : zSh) (x0 : Nat) (x1 : Int32) (x2 : Int32) (x3 : Int32) (σ : zSt) : Option ((Int32 × zSt) ⊕ (zSt)) :=
  if x2 ≤ x3 then (some (.inr σ)) else (chk (isO Γ x0 7) <| bnd (f_X7_passes Γ x0 x1 0 2 σ) fun _ σ8 =>
  some (.inl ((x3 + 1), σ8)))
def f_X7_total (Γ : zSh) (a0 : Nat) (a1 : Int32) (a2 : Int32) (σ : zSt) : Option (Int32 × zSt) :=
  bnd (f_X7_isSlot Γ a1 σ) fun r2 σ1 =>
  bnd (f_X7_in Γ (a2.toInt64) 0 2000 σ1) fun r4 σ3 =>
  chk (isO Γ a0 7) <| bnd (f_X7_goes Γ a0 r2 r4 1 σ3) fun r6 σ5 =>
  if r6 = 0 then (some (0, σ5)) else (chk (isO Γ a0 7) <| bnd (f_X7_laysInitial Γ a0 a1 0 σ5) fun _ σ7 =>
  lb0 (loopM (fun q => f_X7_total_B31 Γ a0 a1 a2 q.1 q.2) FUEL (0, σ7)) fun σ9 =>
  chk (isO Γ a0 7) <| bnd (f_X7_ends Γ a0 a1 0 σ9) fun r11 σ10 =>
  some (r11, σ10))
def f_X7_support_B28_L50 (Γ : zSh) (x0 : Nat) (x1 : Int32) (x2 : Int32) (x4 : Int32) (s0 : Int32) (s1 : Int32) (σ : zSt) : Option ((Int32 × Int32 × zSt) ⊕ (Int32 × zSt)) :=
  some (.inl ((s1 + s0), (x4 + 1), σ))
def f_X7_support_B28 (Γ : zSh) (x0 : Nat) (x1 : Int32) (x2 : Int32) (x3 : Int32) (x4 : Int32) (σ : zSt) : Option ((Int32 × Int32 × zSt) ⊕ (Int32 × zSt)) :=
  if x2 ≤ x4 then (some (.inr (x3, σ))) else (chk (isO Γ x0 7) <| bnd (f_X7_weighs Γ x0 x1 x4 σ) fun r8 σ7 =>
  if r8 = 0 then (f_X7_support_B28_L50 Γ x0 x1 x2 x4 0 x3 σ7) else (f_X7_support_B28_L50 Γ x0 x1 x2 x4 1 x3 σ7))
def f_X7_support (Γ : zSh) (a0 : Nat) (a1 : Int32) (a2 : Int32) (σ : zSt) : Option (Int32 × zSt) :=
  bnd (f_X7_isSlot Γ a1 σ) fun r2 σ1 =>
  bnd (f_X7_in Γ (a2.toInt64) 0 4095 σ1) fun r4 σ3 =>
  chk (isO Γ a0 7) <| bnd (f_X7_goes Γ a0 r2 r4 1 σ3) fun r6 σ5 =>
  if r6 = 0 then (some (0, σ5)) else (lb1 (loopM (fun q => f_X7_support_B28 Γ a0 a1 a2 q.1 q.2.1 q.2.2) FUEL (0, 0, σ5)) fun w10 σ9 =>
  some (w10, σ9))
def f_X7_reduces_B2_L28 (Γ : zSh) (x0 : Nat) (x1 : Int32) (x2 : Int32) (s0 : Int32) (s1 : Int32) (s2 : Nat) (σ : zSt) : Option ((Int32 × zSt) ⊕ (zSt)) :=
  stI Γ σ s2 s1 s0 fun σ2 =>
  gfR Γ σ2 x0 7 14 fun v3 =>
  stI Γ σ2 v3 x2 0 fun σ4 =>
  some (.inl ((x2 + 1), σ4))
def f_X7_reduces_B2 (Γ : zSh) (x0 : Nat) (x1 : Int32) (x2 : Int32) (σ : zSt) : Option ((Int32 × zSt) ⊕ (zSt)) :=
  if 24 ≤ x2 then (some (.inr σ)) else (gfR Γ σ x0 7 13 fun v1 =>
  if x1 ≤ x2 then (f_X7_reduces_B2_L28 Γ x0 x1 x2 0 x2 v1 σ) else (gfR Γ σ x0 7 5 fun v5 =>
  ldI Γ σ v5 x2 fun v6 =>
  f_X7_reduces_B2_L28 Γ x0 x1 x2 v6 x2 v1 σ))
def f_X7_reduces_B67 (Γ : zSh) (x0 : Nat) (x1 : Int32) (x2 : Int32) (x3 : Int32) (x4 : Int32) (σ : zSt) : Option ((Int32 × zSt) ⊕ (zSt)) :=
  if 24 ≤ x4 then (some (.inr σ)) else (if x3 ≤ 0 then (some (.inr σ)) else (gfR Γ σ x0 7 13 fun v13 =>
  gfR Γ σ x0 7 13 fun v14 =>
  ldI Γ σ v14 x4 fun v15 =>
  gfR Γ σ x0 7 8 fun v16 =>
  ldI Γ σ v16 ((24 * x2) + x4) fun v17 =>
  rmI (v15 + ((10007 - x3) * v17)) 10007 fun v18 =>
  stI Γ σ v13 x4 v18 fun σ19 =>
  gfR Γ σ19 x0 7 14 fun v20 =>
  gfR Γ σ19 x0 7 14 fun v21 =>
  ldI Γ σ19 v21 x4 fun v22 =>
  gfR Γ σ19 x0 7 9 fun v23 =>
  ldI Γ σ19 v23 ((24 * x2) + x4) fun v24 =>
  rmI (v22 + (x3 * v24)) 10007 fun v25 =>
  stI Γ σ19 v20 x4 v25 fun σ26 =>
  some (.inl ((x4 + 1), σ26))))
def f_X7_reduces_B44 (Γ : zSh) (x0 : Nat) (x1 : Int32) (x2 : Int32) (σ : zSt) : Option ((Int32 × zSt) ⊕ (zSt)) :=
  gfI Γ σ x0 7 12 fun v8 =>
  if v8 ≤ x2 then (some (.inr σ)) else (gfR Γ σ x0 7 13 fun v9 =>
  gfR Γ σ x0 7 10 fun v10 =>
  ldI Γ σ v10 x2 fun v11 =>
  ldI Γ σ v9 v11 fun v12 =>
  lb0 (loopM (fun q => f_X7_reduces_B67 Γ x0 x1 x2 v12 q.1 q.2) FUEL (0, σ)) fun σ27 =>
  some (.inl ((x2 + 1), σ27)))
def f_X7_reduces_B164_L187 (Γ : zSh) (x0 : Nat) (x1 : Int32) (x3 : Int32) (s0 : Int32) (σ : zSt) : Option ((Int32 × Int32 × zSt) ⊕ (Int32 × zSt)) :=
  some (.inl (s0, (x3 + 1), σ))
def f_X7_reduces_B164_L182 (Γ : zSh) (x0 : Nat) (x1 : Int32) (x3 : Int32) (σ : zSt) : Option ((Int32 × Int32 × zSt) ⊕ (Int32 × zSt)) :=
  f_X7_reduces_B164_L187 Γ x0 x1 x3 1 σ
def f_X7_reduces_B164 (Γ : zSh) (x0 : Nat) (x1 : Int32) (x2 : Int32) (x3 : Int32) (σ : zSt) : Option ((Int32 × Int32 × zSt) ⊕ (Int32 × zSt)) :=
  if x1 ≤ x3 then (some (.inr (x2, σ))) else (if x2 = 0 then (gfR Γ σ x0 7 13 fun v29 =>
  ldI Γ σ v29 x3 fun v30 =>
  if v30 = 0 then (f_X7_reduces_B164_L187 Γ x0 x1 x3 0 σ) else (f_X7_reduces_B164_L182 Γ x0 x1 x3 σ)) else (f_X7_reduces_B164_L182 Γ x0 x1 x3 σ))
def f_X7_reduces (Γ : zSh) (a0 : Nat) (a1 : Int32) (σ : zSt) : Option (Int32 × zSt) :=
  lb0 (loopM (fun q => f_X7_reduces_B2 Γ a0 a1 q.1 q.2) FUEL (0, σ)) fun σ7 =>
  lb0 (loopM (fun q => f_X7_reduces_B44 Γ a0 a1 q.1 q.2) FUEL (0, σ7)) fun σ28 =>
  lb1 (loopM (fun q => f_X7_reduces_B164 Γ a0 a1 q.1 q.2.1 q.2.2) FUEL (0, 0, σ28)) fun w32 σ31 =>
  chk (isB w32) (some (w32, σ31))
def f_X7_offers_B17 (Γ : zSh) (x0 : Nat) (x1 : Int32) (x2 : Int32) (x3 : Int32) (x4 : Int32) (σ : zSt) : Option ((Int32 × zSt) ⊕ (Int32 × zSt)) :=
  gfR Γ σ x0 7 13 fun v4 =>
  ldI Γ σ v4 x4 fun v5 =>
  if v5 = 0 then (some (.inl ((x4 + 1), σ))) else (some (.inr (x4, σ)))
def f_X7_offers_B48_L121 (Γ : zSh) (x0 : Nat) (x1 : Int32) (x2 : Int32) (x3 : Int32) (x4 : Int32) (x5 : Int32) (x6 : Int32) (s0 : Int32) (σ : zSt) : Option ((Int32 × zSt) ⊕ (zSt)) :=
  gfR Γ σ x0 7 14 fun v19 =>
  ldI Γ σ v19 x6 fun v20 =>
  rmI ((s0 + 10007) - v20) 10007 fun v21 =>
  gfR Γ σ x0 7 9 fun v22 =>
  rmI (v21 * x5) 10007 fun v23 =>
  stI Γ σ v22 ((24 * x3) + x6) v23 fun σ24 =>
  some (.inl ((x6 + 1), σ24))
def f_X7_offers_B48_L83 (Γ : zSh) (x0 : Nat) (x1 : Int32) (x2 : Int32) (x3 : Int32) (x4 : Int32) (x5 : Int32) (x6 : Int32) (s0 : Int32) (s1 : Int32) (s2 : Nat) (σ : zSt) : Option ((Int32 × zSt) ⊕ (zSt)) :=
  stI Γ σ s2 s1 s0 fun σ13 =>
  gfR Γ σ13 x0 7 8 fun v14 =>
  gfR Γ σ13 x0 7 13 fun v15 =>
  ldI Γ σ13 v15 x6 fun v16 =>
  rmI (v16 * x5) 10007 fun v17 =>
  stI Γ σ13 v14 ((24 * x3) + x6) v17 fun σ18 =>
  if x6 = x3 then (f_X7_offers_B48_L121 Γ x0 x1 x2 x3 x4 x5 x6 1 σ18) else (f_X7_offers_B48_L121 Γ x0 x1 x2 x3 x4 x5 x6 0 σ18)
def f_X7_offers_B48 (Γ : zSh) (x0 : Nat) (x1 : Int32) (x2 : Int32) (x3 : Int32) (x4 : Int32) (x5 : Int32) (x6 : Int32) (σ : zSt) : Option ((Int32 × zSt) ⊕ (zSt)) :=
  if 24 ≤ x6 then (some (.inr σ)) else (gfR Γ σ x0 7 7 fun v12 =>
  if x1 ≤ x6 then (f_X7_offers_B48_L83 Γ x0 x1 x2 x3 x4 x5 x6 0 ((24 * x3) + x6) v12 σ) else (gfR Γ σ x0 7 5 fun v25 =>
  ldI Γ σ v25 x6 fun v26 =>
  f_X7_offers_B48_L83 Γ x0 x1 x2 x3 x4 x5 x6 v26 ((24 * x3) + x6) v12 σ))
def f_X7_offers (Γ : zSh) (a0 : Nat) (a1 : Int32) (a2 : Int32) (σ : zSt) : Option (Unit × zSt) :=
  chk (isO Γ a0 7) <| bnd (f_X7_reduces Γ a0 a1 σ) fun r2 σ1 =>
  if r2 = 0 then (some ((), σ1)) else (gfI Γ σ1 a0 7 12 fun v3 =>
  lb1 (loopM (fun q => f_X7_offers_B17 Γ a0 a1 a2 v3 q.1 q.2) FUEL (0, σ1)) fun w7 σ6 =>
  gfR Γ σ6 a0 7 13 fun v8 =>
  ldI Γ σ6 v8 w7 fun v9 =>
  bnd (f_X7_inverted Γ v9 σ6) fun r11 σ10 =>
  lb0 (loopM (fun q => f_X7_offers_B48 Γ a0 a1 a2 v3 w7 r11 q.1 q.2) FUEL (0, σ10)) fun σ27 =>
  gfR Γ σ27 a0 7 10 fun v28 =>
  stI Γ σ27 v28 v3 w7 fun σ29 =>
  gfR Γ σ29 a0 7 11 fun v30 =>
  stI Γ σ29 v30 v3 a2 fun σ31 =>
  gfI Γ σ31 a0 7 12 fun v32 =>
  pfI Γ σ31 a0 7 12 (v32 + 1) fun σ33 =>
  some ((), σ33))
def f_X7_laysBasis_B2 (Γ : zSh) (x0 : Nat) (x1 : Int32) (x2 : Int32) (x3 : Int32) (σ : zSt) : Option ((Int32 × zSt) ⊕ (zSt)) :=
  if x2 ≤ x3 then (some (.inr σ)) else (gfR Γ σ x0 7 5 fun v1 =>
  gfR Γ σ x0 7 7 fun v2 =>
  ldI Γ σ v2 ((24 * x1) + x3) fun v3 =>
  stI Γ σ v1 x3 v3 fun σ4 =>
  some (.inl ((x3 + 1), σ4)))
def f_X7_laysBasis (Γ : zSh) (a0 : Nat) (a1 : Int32) (a2 : Int32) (σ : zSt) : Option (Unit × zSt) :=
  lb0 (loopM (fun q => f_X7_laysBasis_B2 Γ a0 a1 a2 q.1 q.2) FUEL (0, σ)) fun σ5 =>
  some ((), σ5)
def f_X7_spans_B68_L106 (Γ : zSh) (x0 : Nat) (x1 : Int32) (x2 : Int32) (x3 : Int32) (x4 : Int32) (x5 : Int32) (σ : zSt) : Option ((Int32 × zSt) ⊕ (zSt)) :=
  gfR Γ σ x0 7 11 fun v11 =>
  ldI Γ σ v11 x4 fun v12 =>
  chk (isO Γ x0 7) <| bnd (f_X7_offers Γ x0 x3 (((2 * v12) + 1) + x5) σ) fun _ σ13 =>
  some (.inl ((x5 + 1), σ13))
def f_X7_spans_B68 (Γ : zSh) (x0 : Nat) (x1 : Int32) (x2 : Int32) (x3 : Int32) (x4 : Int32) (x5 : Int32) (σ : zSt) : Option ((Int32 × zSt) ⊕ (zSt)) :=
  if 2 ≤ x5 then (some (.inr σ)) else (chk (isO Γ x0 7) <| bnd (f_X7_laysBasis Γ x0 x4 x3 σ) fun _ σ9 =>
  chk (isO Γ x0 7) <| bnd (f_X7_passes Γ x0 x1 0 x5 σ9) fun _ σ10 =>
  if x2 = (-1) then (f_X7_spans_B68_L106 Γ x0 x1 x2 x3 x4 x5 σ10) else (chk (isO Γ x0 7) <| bnd (f_X7_many Γ x0 x1 σ10) fun r15 σ14 =>
  chk (isO Γ x0 7) <| bnd (f_X7_passes Γ x0 x2 r15 x5 σ14) fun _ σ16 =>
  f_X7_spans_B68_L106 Γ x0 x1 x2 x3 x4 x5 σ16))
def f_X7_spans_B56 (Γ : zSh) (x0 : Nat) (x1 : Int32) (x2 : Int32) (x3 : Int32) (x4 : Int32) (σ : zSt) : Option ((Int32 × zSt) ⊕ (zSt)) :=
  gfI Γ σ x0 7 12 fun v8 =>
  if v8 ≤ x4 then (some (.inr σ)) else (lb0 (loopM (fun q => f_X7_spans_B68 Γ x0 x1 x2 x3 x4 q.1 q.2) FUEL (0, σ)) fun σ17 =>
  some (.inl ((x4 + 1), σ17)))
def f_X7_spans_L47 (Γ : zSh) (x0 : Nat) (x1 : Int32) (x2 : Int32) (x3 : Int32) (σ : zSt) : Option (Unit × zSt) :=
  chk (isO Γ x0 7) <| bnd (f_X7_offers Γ x0 x3 0 σ) fun _ σ7 =>
  lb0 (loopM (fun q => f_X7_spans_B56 Γ x0 x1 x2 x3 q.1 q.2) FUEL (0, σ7)) fun σ18 =>
  some ((), σ18)
def f_X7_spans_L19 (Γ : zSh) (x0 : Nat) (x1 : Int32) (x2 : Int32) (s0 : Int32) (s1 : Int32) (σ : zSt) : Option (Unit × zSt) :=
  pfI Γ σ x0 7 12 0 fun σ5 =>
  chk (isO Γ x0 7) <| bnd (f_X7_laysInitial Γ x0 x1 0 σ5) fun _ σ6 =>
  if x2 = (-1) then (f_X7_spans_L47 Γ x0 x1 x2 (s1 + s0) σ6) else (chk (isO Γ x0 7) <| bnd (f_X7_many Γ x0 x1 σ6) fun r20 σ19 =>
  chk (isO Γ x0 7) <| bnd (f_X7_laysInitial Γ x0 x2 r20 σ19) fun _ σ21 =>
  f_X7_spans_L47 Γ x0 x1 x2 (s1 + s0) σ21)
def f_X7_spans (Γ : zSh) (a0 : Nat) (a1 : Int32) (a2 : Int32) (σ : zSt) : Option (Unit × zSt) :=
  chk (isO Γ a0 7) <| bnd (f_X7_many Γ a0 a1 σ) fun r2 σ1 =>
  if a2 = (-1) then (f_X7_spans_L19 Γ a0 a1 a2 0 r2 σ1) else (chk (isO Γ a0 7) <| bnd (f_X7_many Γ a0 a2 σ1) fun r4 σ3 =>
  f_X7_spans_L19 Γ a0 a1 a2 r4 r2 σ3)
def f_X7_endsBasis_L36 (Γ : zSh) (s0 : Int32) (s1 : Int32) (σ : zSt) : Option (Int32 × zSt) :=
  rmI (s1 + s0) 10007 fun v8 =>
  some (v8, σ)
def f_X7_endsBasis (Γ : zSh) (a0 : Nat) (a1 : Int32) (a2 : Int32) (a3 : Int32) (σ : zSt) : Option (Int32 × zSt) :=
  chk (isO Γ a0 7) <| bnd (f_X7_laysBasis Γ a0 a1 24 σ) fun _ σ1 =>
  chk (isO Γ a0 7) <| bnd (f_X7_ends Γ a0 a2 0 σ1) fun r3 σ2 =>
  if a3 = (-1) then (f_X7_endsBasis_L36 Γ 0 r3 σ2) else (chk (isO Γ a0 7) <| bnd (f_X7_many Γ a0 a2 σ2) fun r5 σ4 =>
  chk (isO Γ a0 7) <| bnd (f_X7_ends Γ a0 a3 r5 σ4) fun r7 σ6 =>
  f_X7_endsBasis_L36 Γ (10007 - r7) r3 σ6)
def f_X7_firstWord_B8 (Γ : zSh) (x0 : Nat) (x1 : Int32) (x2 : Int32) (x3 : Int32) (σ : zSt) : Option ((Int32 × zSt) ⊕ ((zSt) ⊕ (Int32 × zSt))) :=
  gfI Γ σ x0 7 12 fun v2 =>
  if v2 ≤ x3 then (some (.inr (.inl σ))) else (chk (isO Γ x0 7) <| bnd (f_X7_endsBasis Γ x0 x3 x1 x2 σ) fun r4 σ3 =>
  if r4 = 0 then (some (.inl ((x3 + 1), σ3))) else (gfR Γ σ3 x0 7 11 fun v5 =>
  ldI Γ σ3 v5 x3 fun v6 =>
  some (.inr (.inr (v6, σ3)))))
def f_X7_firstWord (Γ : zSh) (a0 : Nat) (a1 : Int32) (a2 : Int32) (σ : zSt) : Option (Int32 × zSt) :=
  chk (isO Γ a0 7) <| bnd (f_X7_spans Γ a0 a1 a2 σ) fun _ σ1 =>
  lbr (loopM (fun q => f_X7_firstWord_B8 Γ a0 a1 a2 q.1 q.2) FUEL (0, σ1)) (fun v σ => some (v, σ)) fun o => lb0 o fun σ7 =>
  some ((-1), σ7)
def f_X7_first_L23 (Γ : zSh) (s0 : Int32) (σ : zSt) : Option (Int32 × zSt) :=
  some (s0, σ)
def f_X7_first (Γ : zSh) (a0 : Nat) (a1 : Int32) (σ : zSt) : Option (Int32 × zSt) :=
  bnd (f_X7_isSlot Γ a1 σ) fun r2 σ1 =>
  chk (isO Γ a0 7) <| bnd (f_X7_goes Γ a0 r2 1 1 σ1) fun r4 σ3 =>
  if r4 = 0 then (f_X7_first_L23 Γ 0 σ3) else (chk (isO Γ a0 7) <| bnd (f_X7_firstWord Γ a0 a1 (-1) σ3) fun r6 σ5 =>
  f_X7_first_L23 Γ r6 σ5)
def f_X7_differing_L38 (Γ : zSh) (s0 : Int32) (σ : zSt) : Option (Int32 × zSt) :=
  some (s0, σ)
def f_X7_differing_L20 (Γ : zSh) (x0 : Nat) (x1 : Int32) (x2 : Int32) (s0 : Int32) (s1 : Nat) (σ : zSt) : Option (Int32 × zSt) :=
  chk (isO Γ s1 7) <| bnd (f_X7_goes Γ s1 s0 1 1 σ) fun r4 σ3 =>
  if r4 = 0 then (f_X7_differing_L38 Γ 0 σ3) else (chk (isO Γ x0 7) <| bnd (f_X7_firstWord Γ x0 x1 x2 σ3) fun r6 σ5 =>
  f_X7_differing_L38 Γ r6 σ5)
def f_X7_differing_L19 (Γ : zSh) (x0 : Nat) (x1 : Int32) (x2 : Int32) (s0 : Nat) (σ : zSt) : Option (Int32 × zSt) :=
  f_X7_differing_L20 Γ x0 x1 x2 0 s0 σ
def f_X7_differing (Γ : zSh) (a0 : Nat) (a1 : Int32) (a2 : Int32) (σ : zSt) : Option (Int32 × zSt) :=
  bnd (f_X7_isSlot Γ a1 σ) fun r2 σ1 =>
  if r2 = 0 then (f_X7_differing_L19 Γ a0 a1 a2 a0 σ1) else (bnd (f_X7_isSlot Γ a2 σ1) fun r8 σ7 =>
  if r8 = 0 then (f_X7_differing_L19 Γ a0 a1 a2 a0 σ7) else (f_X7_differing_L20 Γ a0 a1 a2 1 a0 σ7))
def f_X7_forwards_B102 (Γ : zSh) (x0 : Nat) (x1 : Int32) (x2 : Int32) (x3 : Int32) (x4 : Int32) (x6 : Int32) (σ : zSt) : Option ((Int32 × zSt) ⊕ (zSt)) :=
  gfI Γ σ x0 7 12 fun v23 =>
  if v23 ≤ x6 then (some (.inr σ)) else (gfR Γ σ x0 7 0 fun v24 =>
  bnd (f_X7_at Γ x2 x4 x3 x6 σ) fun r26 σ25 =>
  gfR Γ σ25 x0 7 14 fun v27 =>
  ldI Γ σ25 v27 x6 fun v28 =>
  stI Γ σ25 v24 r26 v28 fun σ29 =>
  some (.inl ((x6 + 1), σ29)))
def f_X7_forwards_B64 (Γ : zSh) (x0 : Nat) (x1 : Int32) (x2 : Int32) (x3 : Int32) (x4 : Int32) (σ : zSt) : Option ((Int32 × zSt) ⊕ (zSt)) :=
  if 2 ≤ x4 then (some (.inr σ)) else (chk (isO Γ x0 7) <| bnd (f_X7_many Γ x0 x1 σ) fun r16 σ15 =>
  chk (isO Γ x0 7) <| bnd (f_X7_laysBasis Γ x0 x3 r16 σ15) fun _ σ17 =>
  chk (isO Γ x0 7) <| bnd (f_X7_passes Γ x0 x1 0 x4 σ17) fun _ σ18 =>
  chk (isO Γ x0 7) <| bnd (f_X7_many Γ x0 x1 σ18) fun r20 σ19 =>
  chk (isO Γ x0 7) <| bnd (f_X7_reduces Γ x0 r20 σ19) fun r22 σ21 =>
  lb0 (loopM (fun q => f_X7_forwards_B102 Γ x0 x1 x2 x3 x4 q.1 q.2) FUEL (0, σ21)) fun σ30 =>
  some (.inl ((x4 + 1), σ30)))
def f_X7_forwards_B17_L43 (Γ : zSh) (x0 : Nat) (x1 : Int32) (x2 : Int32) (x3 : Int32) (s0 : Int32) (s1 : Int32) (s2 : Nat) (σ : zSt) : Option ((Int32 × zSt) ⊕ (zSt)) :=
  stI Γ σ s2 s1 s0 fun σ8 =>
  gfR Γ σ8 x0 7 0 fun v9 =>
  bnd (f_X7_finalAt Γ x2 x3 σ8) fun r11 σ10 =>
  chk (isO Γ x0 7) <| bnd (f_X7_endsBasis Γ x0 x3 x1 (-1) σ10) fun r13 σ12 =>
  stI Γ σ12 v9 r11 r13 fun σ14 =>
  lb0 (loopM (fun q => f_X7_forwards_B64 Γ x0 x1 x2 x3 q.1 q.2) FUEL (0, σ14)) fun σ31 =>
  some (.inl ((x3 + 1), σ31))
def f_X7_forwards_B17 (Γ : zSh) (x0 : Nat) (x1 : Int32) (x2 : Int32) (x3 : Int32) (σ : zSt) : Option ((Int32 × zSt) ⊕ (zSt)) :=
  gfI Γ σ x0 7 12 fun v4 =>
  if v4 ≤ x3 then (some (.inr σ)) else (gfR Γ σ x0 7 0 fun v5 =>
  bnd (f_X7_initialAt Γ x2 x3 σ) fun r7 σ6 =>
  if x3 = 0 then (f_X7_forwards_B17_L43 Γ x0 x1 x2 x3 1 r7 v5 σ6) else (f_X7_forwards_B17_L43 Γ x0 x1 x2 x3 0 r7 v5 σ6))
def f_X7_forwards (Γ : zSh) (a0 : Nat) (a1 : Int32) (a2 : Int32) (σ : zSt) : Option (Unit × zSt) :=
  chk (isO Γ a0 7) <| bnd (f_X7_spans Γ a0 a1 (-1) σ) fun _ σ1 =>
  gfI Γ σ1 a0 7 12 fun v2 =>
  chk (isO Γ a0 7) <| bnd (f_X7_clears Γ a0 a2 v2 σ1) fun _ σ3 =>
  lb0 (loopM (fun q => f_X7_forwards_B17 Γ a0 a1 a2 q.1 q.2) FUEL (0, σ3)) fun σ32 =>
  some ((), σ32)
def f_X7_turns_B64 (Γ : zSh) (x0 : Nat) (x1 : Int32) (x2 : Int32) (x3 : Int32) (x4 : Int32) (σ : zSt) : Option ((Int32 × zSt) ⊕ (zSt)) :=
  chk (isO Γ x0 7) <| bnd (f_X7_many Γ x0 x1 σ) fun r23 σ22 =>
  if r23 ≤ x4 then (some (.inr σ22)) else (gfR Γ σ22 x0 7 0 fun v24 =>
  bnd (f_X7_at Γ x2 0 x3 x4 σ22) fun r26 σ25 =>
  gfR Γ σ25 x0 7 0 fun v27 =>
  bnd (f_X7_at Γ x1 0 x4 x3 σ25) fun r29 σ28 =>
  ldI Γ σ28 v27 r29 fun v30 =>
  stI Γ σ28 v24 r26 v30 fun σ31 =>
  gfR Γ σ31 x0 7 0 fun v32 =>
  bnd (f_X7_at Γ x2 1 x3 x4 σ31) fun r34 σ33 =>
  gfR Γ σ33 x0 7 0 fun v35 =>
  bnd (f_X7_at Γ x1 1 x4 x3 σ33) fun r37 σ36 =>
  ldI Γ σ36 v35 r37 fun v38 =>
  stI Γ σ36 v32 r34 v38 fun σ39 =>
  some (.inl ((x4 + 1), σ39)))
def f_X7_turns_B12 (Γ : zSh) (x0 : Nat) (x1 : Int32) (x2 : Int32) (x3 : Int32) (σ : zSt) : Option ((Int32 × zSt) ⊕ (zSt)) :=
  chk (isO Γ x0 7) <| bnd (f_X7_many Γ x0 x1 σ) fun r5 σ4 =>
  if r5 ≤ x3 then (some (.inr σ4)) else (gfR Γ σ4 x0 7 0 fun v6 =>
  bnd (f_X7_initialAt Γ x2 x3 σ4) fun r8 σ7 =>
  gfR Γ σ7 x0 7 0 fun v9 =>
  bnd (f_X7_finalAt Γ x1 x3 σ7) fun r11 σ10 =>
  ldI Γ σ10 v9 r11 fun v12 =>
  stI Γ σ10 v6 r8 v12 fun σ13 =>
  gfR Γ σ13 x0 7 0 fun v14 =>
  bnd (f_X7_finalAt Γ x2 x3 σ13) fun r16 σ15 =>
  gfR Γ σ15 x0 7 0 fun v17 =>
  bnd (f_X7_initialAt Γ x1 x3 σ15) fun r19 σ18 =>
  ldI Γ σ18 v17 r19 fun v20 =>
  stI Γ σ18 v14 r16 v20 fun σ21 =>
  lb0 (loopM (fun q => f_X7_turns_B64 Γ x0 x1 x2 x3 q.1 q.2) FUEL (0, σ21)) fun σ40 =>
  some (.inl ((x3 + 1), σ40)))
def f_X7_turns (Γ : zSh) (a0 : Nat) (a1 : Int32) (a2 : Int32) (σ : zSt) : Option (Unit × zSt) :=
  chk (isO Γ a0 7) <| bnd (f_X7_many Γ a0 a1 σ) fun r2 σ1 =>
  chk (isO Γ a0 7) <| bnd (f_X7_clears Γ a0 a2 r2 σ1) fun _ σ3 =>
  lb0 (loopM (fun q => f_X7_turns_B12 Γ a0 a1 a2 q.1 q.2) FUEL (0, σ3)) fun σ41 =>
  some ((), σ41)
def f_X7_minimizes (Γ : zSh) (a0 : Nat) (a1 : Int32) (a2 : Int32) (σ : zSt) : Option (Unit × zSt) :=
  chk (isO Γ a0 7) <| bnd (f_X7_forwards Γ a0 a1 7 σ) fun _ σ1 =>
  chk (isO Γ a0 7) <| bnd (f_X7_turns Γ a0 7 6 σ1) fun _ σ2 =>
  chk (isO Γ a0 7) <| bnd (f_X7_forwards Γ a0 6 7 σ2) fun _ σ3 =>
  chk (isO Γ a0 7) <| bnd (f_X7_turns Γ a0 7 a2 σ3) fun _ σ4 =>
  some ((), σ4)
def f_X7_dimensionOf (Γ : zSh) (a0 : Nat) (a1 : Int32) (a2 : Int32) (σ : zSt) : Option (Int32 × zSt) :=
  if a2 = 0 then (chk (isO Γ a0 7) <| bnd (f_X7_spans Γ a0 a1 (-1) σ) fun _ σ7 =>
  gfI Γ σ7 a0 7 12 fun v8 =>
  some (v8, σ7)) else (if a2 = 1 then (chk (isO Γ a0 7) <| bnd (f_X7_turns Γ a0 a1 6 σ) fun _ σ4 =>
  chk (isO Γ a0 7) <| bnd (f_X7_spans Γ a0 6 (-1) σ4) fun _ σ5 =>
  gfI Γ σ5 a0 7 12 fun v6 =>
  some (v6, σ5)) else (chk (isO Γ a0 7) <| bnd (f_X7_minimizes Γ a0 a1 5 σ) fun _ σ1 =>
  chk (isO Γ a0 7) <| bnd (f_X7_many Γ a0 5 σ1) fun r3 σ2 =>
  some (r3, σ2)))
def f_X7_dimension_L31 (Γ : zSh) (s0 : Int32) (σ : zSt) : Option (Int32 × zSt) :=
  some (s0, σ)
def f_X7_dimension (Γ : zSh) (a0 : Nat) (a1 : Int32) (a2 : Int32) (σ : zSt) : Option (Int32 × zSt) :=
  bnd (f_X7_isSlot Γ a1 σ) fun r2 σ1 =>
  bnd (f_X7_in Γ (a2.toInt64) 0 2 σ1) fun r4 σ3 =>
  chk (isO Γ a0 7) <| bnd (f_X7_goes Γ a0 r2 r4 1 σ3) fun r6 σ5 =>
  if r6 = 0 then (f_X7_dimension_L31 Γ 0 σ5) else (chk (isO Γ a0 7) <| bnd (f_X7_dimensionOf Γ a0 a1 a2 σ5) fun r8 σ7 =>
  f_X7_dimension_L31 Γ r8 σ7)
def f_X7_basisWord_L59 (Γ : zSh) (s0 : Int32) (σ : zSt) : Option (Int32 × zSt) :=
  some (s0, σ)
def f_X7_basisWord_L41 (Γ : zSh) (x0 : Nat) (x2 : Int32) (s0 : Int32) (s1 : Nat) (σ : zSt) : Option (Int32 × zSt) :=
  chk (isO Γ s1 7) <| bnd (f_X7_goes Γ s1 s0 1 1 σ) fun r4 σ3 =>
  if r4 = 0 then (f_X7_basisWord_L59 Γ 0 σ3) else (gfR Γ σ3 x0 7 11 fun v5 =>
  ldI Γ σ3 v5 x2 fun v6 =>
  f_X7_basisWord_L59 Γ v6 σ3)
def f_X7_basisWord_L40 (Γ : zSh) (x0 : Nat) (x2 : Int32) (s0 : Nat) (σ : zSt) : Option (Int32 × zSt) :=
  f_X7_basisWord_L41 Γ x0 x2 0 s0 σ
def f_X7_basisWord_L15 (Γ : zSh) (x0 : Nat) (x2 : Int32) (x3 : Int32) (σ : zSt) : Option (Int32 × zSt) :=
  if x3 = 0 then (f_X7_basisWord_L40 Γ x0 x2 x0 σ) else (gfI Γ σ x0 7 12 fun v7 =>
  bnd (f_X7_in Γ (x2.toInt64) 0 ((v7 - 1).toInt64) σ) fun r9 σ8 =>
  if r9 = 0 then (f_X7_basisWord_L40 Γ x0 x2 x0 σ8) else (f_X7_basisWord_L41 Γ x0 x2 1 x0 σ8))
def f_X7_basisWord (Γ : zSh) (a0 : Nat) (a1 : Int32) (a2 : Int32) (σ : zSt) : Option (Int32 × zSt) :=
  bnd (f_X7_isSlot Γ a1 σ) fun r2 σ1 =>
  if r2 = 0 then (f_X7_basisWord_L15 Γ a0 a2 r2 σ1) else (chk (isO Γ a0 7) <| bnd (f_X7_spans Γ a0 a1 (-1) σ1) fun _ σ10 =>
  f_X7_basisWord_L15 Γ a0 a2 r2 σ10)
def f_X7_blocks_B16 (Γ : zSh) (x0 : Nat) (x1 : Int32) (x2 : Int32) (x3 : Int32) (x4 : Int32) (x5 : Int32) (σ : zSt) : Option ((Int32 × zSt) ⊕ (zSt)) :=
  chk (isO Γ x0 7) <| bnd (f_X7_many Γ x0 x1 σ) fun r4 σ3 =>
  if r4 ≤ x5 then (some (.inr σ3)) else (gfR Γ σ3 x0 7 0 fun v5 =>
  bnd (f_X7_at Γ x2 0 (x3 + x4) (x3 + x5) σ3) fun r7 σ6 =>
  gfR Γ σ6 x0 7 0 fun v8 =>
  bnd (f_X7_at Γ x1 0 x4 x5 σ6) fun r10 σ9 =>
  ldI Γ σ9 v8 r10 fun v11 =>
  stI Γ σ9 v5 r7 v11 fun σ12 =>
  gfR Γ σ12 x0 7 0 fun v13 =>
  bnd (f_X7_at Γ x2 1 (x3 + x4) (x3 + x5) σ12) fun r15 σ14 =>
  gfR Γ σ14 x0 7 0 fun v16 =>
  bnd (f_X7_at Γ x1 1 x4 x5 σ14) fun r18 σ17 =>
  ldI Γ σ17 v16 r18 fun v19 =>
  stI Γ σ17 v13 r15 v19 fun σ20 =>
  some (.inl ((x5 + 1), σ20)))
def f_X7_blocks_B3 (Γ : zSh) (x0 : Nat) (x1 : Int32) (x2 : Int32) (x3 : Int32) (x4 : Int32) (σ : zSt) : Option ((Int32 × zSt) ⊕ (zSt)) :=
  chk (isO Γ x0 7) <| bnd (f_X7_many Γ x0 x1 σ) fun r2 σ1 =>
  if r2 ≤ x4 then (some (.inr σ1)) else (lb0 (loopM (fun q => f_X7_blocks_B16 Γ x0 x1 x2 x3 x4 q.1 q.2) FUEL (0, σ1)) fun σ21 =>
  some (.inl ((x4 + 1), σ21)))
def f_X7_blocks (Γ : zSh) (a0 : Nat) (a1 : Int32) (a2 : Int32) (a3 : Int32) (σ : zSt) : Option (Unit × zSt) :=
  lb0 (loopM (fun q => f_X7_blocks_B3 Γ a0 a1 a2 a3 q.1 q.2) FUEL (0, σ)) fun σ22 =>
  some ((), σ22)
def f_X7_sums_B37_L139 (Γ : zSh) (x0 : Nat) (x1 : Int32) (x2 : Int32) (x3 : Int32) (x4 : Int32) (x6 : Int32) (s0 : Int32) (s1 : Nat) (s2 : Int32) (s3 : Nat) (σ : zSt) : Option ((Int32 × zSt) ⊕ (zSt)) :=
  bnd (f_X7_finalAt Γ s0 x6 σ) fun r29 σ28 =>
  ldI Γ σ28 s1 r29 fun v30 =>
  stI Γ σ28 s3 s2 v30 fun σ31 =>
  some (.inl ((x4 + 1), σ31))
def f_X7_sums_B37_L108 (Γ : zSh) (x0 : Nat) (x1 : Int32) (x2 : Int32) (x3 : Int32) (x4 : Int32) (x5 : Int32) (x6 : Int32) (s0 : Int32) (s1 : Nat) (s2 : Int32) (s3 : Nat) (σ : zSt) : Option ((Int32 × zSt) ⊕ (zSt)) :=
  bnd (f_X7_initialAt Γ s0 x6 σ) fun r21 σ20 =>
  ldI Γ σ20 s1 r21 fun v22 =>
  stI Γ σ20 s3 s2 v22 fun σ23 =>
  gfR Γ σ23 x0 7 0 fun v24 =>
  bnd (f_X7_finalAt Γ x3 x4 σ23) fun r26 σ25 =>
  gfR Γ σ25 x0 7 0 fun v27 =>
  if x5 = 0 then (f_X7_sums_B37_L139 Γ x0 x1 x2 x3 x4 x6 x2 v27 r26 v24 σ25) else (f_X7_sums_B37_L139 Γ x0 x1 x2 x3 x4 x6 x1 v27 r26 v24 σ25)
def f_X7_sums_B37_L82 (Γ : zSh) (x0 : Nat) (x1 : Int32) (x2 : Int32) (x3 : Int32) (x4 : Int32) (x5 : Int32) (s0 : Int32) (σ : zSt) : Option ((Int32 × zSt) ⊕ (zSt)) :=
  gfR Γ σ x0 7 0 fun v16 =>
  bnd (f_X7_initialAt Γ x3 x4 σ) fun r18 σ17 =>
  gfR Γ σ17 x0 7 0 fun v19 =>
  if x5 = 0 then (f_X7_sums_B37_L108 Γ x0 x1 x2 x3 x4 x5 s0 x2 v19 r18 v16 σ17) else (f_X7_sums_B37_L108 Γ x0 x1 x2 x3 x4 x5 s0 x1 v19 r18 v16 σ17)
def f_X7_sums_B37_L62 (Γ : zSh) (x0 : Nat) (x1 : Int32) (x2 : Int32) (x3 : Int32) (x4 : Int32) (s0 : Int32) (σ : zSt) : Option ((Int32 × zSt) ⊕ (zSt)) :=
  if s0 = 0 then (chk (isO Γ x0 7) <| bnd (f_X7_many Γ x0 x1 σ) fun r15 σ14 =>
  f_X7_sums_B37_L82 Γ x0 x1 x2 x3 x4 s0 (x4 - r15) σ14) else (f_X7_sums_B37_L82 Γ x0 x1 x2 x3 x4 s0 x4 σ)
def f_X7_sums_B37 (Γ : zSh) (x0 : Nat) (x1 : Int32) (x2 : Int32) (x3 : Int32) (x4 : Int32) (σ : zSt) : Option ((Int32 × zSt) ⊕ (zSt)) :=
  chk (isO Γ x0 7) <| bnd (f_X7_many Γ x0 x3 σ) fun r11 σ10 =>
  if r11 ≤ x4 then (some (.inr σ10)) else (chk (isO Γ x0 7) <| bnd (f_X7_many Γ x0 x1 σ10) fun r13 σ12 =>
  if r13 ≤ x4 then (f_X7_sums_B37_L62 Γ x0 x1 x2 x3 x4 0 σ12) else (f_X7_sums_B37_L62 Γ x0 x1 x2 x3 x4 1 σ12))
def f_X7_sums (Γ : zSh) (a0 : Nat) (a1 : Int32) (a2 : Int32) (a3 : Int32) (σ : zSt) : Option (Unit × zSt) :=
  chk (isO Γ a0 7) <| bnd (f_X7_many Γ a0 a1 σ) fun r2 σ1 =>
  chk (isO Γ a0 7) <| bnd (f_X7_many Γ a0 a2 σ1) fun r4 σ3 =>
  chk (isO Γ a0 7) <| bnd (f_X7_clears Γ a0 a3 (r2 + r4) σ3) fun _ σ5 =>
  chk (isO Γ a0 7) <| bnd (f_X7_blocks Γ a0 a1 a3 0 σ5) fun _ σ6 =>
  chk (isO Γ a0 7) <| bnd (f_X7_many Γ a0 a1 σ6) fun r8 σ7 =>
  chk (isO Γ a0 7) <| bnd (f_X7_blocks Γ a0 a2 a3 r8 σ7) fun _ σ9 =>
  lb0 (loopM (fun q => f_X7_sums_B37 Γ a0 a1 a2 a3 q.1 q.2) FUEL (0, σ9)) fun σ32 =>
  some ((), σ32)
def f_X7_multiplies_B141 (Γ : zSh) (x0 : Nat) (x1 : Int32) (x2 : Int32) (x3 : Int32) (x4 : Int32) (x5 : Int32) (x6 : Int32) (x7 : Int32) (x8 : Int32) (σ : zSt) : Option ((Int32 × zSt) ⊕ (zSt)) :=
  if 2 ≤ x8 then (some (.inr σ)) else (gfR Γ σ x0 7 0 fun v42 =>
  bnd (f_X7_at Γ x3 x8 x4 x7 σ) fun r44 σ43 =>
  gfR Γ σ43 x0 7 0 fun v45 =>
  chk (isO Γ x0 7) <| bnd (f_X7_many Γ x0 x2 σ43) fun r47 σ46 =>
  dvI x7 r47 fun v48 =>
  bnd (f_X7_at Γ x1 x8 x5 v48 σ46) fun r50 σ49 =>
  ldI Γ σ49 v45 r50 fun v51 =>
  gfR Γ σ49 x0 7 0 fun v52 =>
  chk (isO Γ x0 7) <| bnd (f_X7_many Γ x0 x2 σ49) fun r54 σ53 =>
  rmI x7 r54 fun v55 =>
  bnd (f_X7_at Γ x2 x8 x6 v55 σ53) fun r57 σ56 =>
  ldI Γ σ56 v52 r57 fun v58 =>
  rmI (v51 * v58) 10007 fun v59 =>
  stI Γ σ56 v42 r44 v59 fun σ60 =>
  some (.inl ((x8 + 1), σ60)))
def f_X7_multiplies_B128 (Γ : zSh) (x0 : Nat) (x1 : Int32) (x2 : Int32) (x3 : Int32) (x4 : Int32) (x5 : Int32) (x6 : Int32) (x7 : Int32) (σ : zSt) : Option ((Int32 × zSt) ⊕ (zSt)) :=
  chk (isO Γ x0 7) <| bnd (f_X7_many Γ x0 x3 σ) fun r41 σ40 =>
  if r41 ≤ x7 then (some (.inr σ40)) else (lb0 (loopM (fun q => f_X7_multiplies_B141 Γ x0 x1 x2 x3 x4 x5 x6 x7 q.1 q.2) FUEL (0, σ40)) fun σ61 =>
  some (.inl ((x7 + 1), σ61)))
def f_X7_multiplies_B19 (Γ : zSh) (x0 : Nat) (x1 : Int32) (x2 : Int32) (x3 : Int32) (x4 : Int32) (σ : zSt) : Option ((Int32 × zSt) ⊕ (zSt)) :=
  chk (isO Γ x0 7) <| bnd (f_X7_many Γ x0 x3 σ) fun r7 σ6 =>
  if r7 ≤ x4 then (some (.inr σ6)) else (chk (isO Γ x0 7) <| bnd (f_X7_many Γ x0 x2 σ6) fun r9 σ8 =>
  dvI x4 r9 fun v10 =>
  chk (isO Γ x0 7) <| bnd (f_X7_many Γ x0 x2 σ8) fun r12 σ11 =>
  rmI x4 r12 fun v13 =>
  gfR Γ σ11 x0 7 0 fun v14 =>
  bnd (f_X7_initialAt Γ x3 x4 σ11) fun r16 σ15 =>
  gfR Γ σ15 x0 7 0 fun v17 =>
  bnd (f_X7_initialAt Γ x1 v10 σ15) fun r19 σ18 =>
  ldI Γ σ18 v17 r19 fun v20 =>
  gfR Γ σ18 x0 7 0 fun v21 =>
  bnd (f_X7_initialAt Γ x2 v13 σ18) fun r23 σ22 =>
  ldI Γ σ22 v21 r23 fun v24 =>
  rmI (v20 * v24) 10007 fun v25 =>
  stI Γ σ22 v14 r16 v25 fun σ26 =>
  gfR Γ σ26 x0 7 0 fun v27 =>
  bnd (f_X7_finalAt Γ x3 x4 σ26) fun r29 σ28 =>
  gfR Γ σ28 x0 7 0 fun v30 =>
  bnd (f_X7_finalAt Γ x1 v10 σ28) fun r32 σ31 =>
  ldI Γ σ31 v30 r32 fun v33 =>
  gfR Γ σ31 x0 7 0 fun v34 =>
  bnd (f_X7_finalAt Γ x2 v13 σ31) fun r36 σ35 =>
  ldI Γ σ35 v34 r36 fun v37 =>
  rmI (v33 * v37) 10007 fun v38 =>
  stI Γ σ35 v27 r29 v38 fun σ39 =>
  lb0 (loopM (fun q => f_X7_multiplies_B128 Γ x0 x1 x2 x3 x4 v10 v13 q.1 q.2) FUEL (0, σ39)) fun σ62 =>
  some (.inl ((x4 + 1), σ62)))
def f_X7_multiplies (Γ : zSh) (a0 : Nat) (a1 : Int32) (a2 : Int32) (a3 : Int32) (σ : zSt) : Option (Unit × zSt) :=
  chk (isO Γ a0 7) <| bnd (f_X7_many Γ a0 a1 σ) fun r2 σ1 =>
  chk (isO Γ a0 7) <| bnd (f_X7_many Γ a0 a2 σ1) fun r4 σ3 =>
  chk (isO Γ a0 7) <| bnd (f_X7_clears Γ a0 a3 (r2 * r4) σ3) fun _ σ5 =>
  lb0 (loopM (fun q => f_X7_multiplies_B19 Γ a0 a1 a2 a3 q.1 q.2) FUEL (0, σ5)) fun σ63 =>
  some ((), σ63)
def f_X7_out_B6 (Γ : zSh) (x0 : Nat) (x1 : Int32) (x2 : Int32) (x3 : Int32) (x4 : Int32) (x5 : Int32) (σ : zSt) : Option ((Int32 × Int32 × zSt) ⊕ (Int32 × zSt)) :=
  chk (isO Γ x0 7) <| bnd (f_X7_many Γ x0 x1 σ) fun r2 σ1 =>
  if r2 ≤ x5 then (some (.inr (x4, σ1))) else (gfR Γ σ1 x0 7 0 fun v3 =>
  bnd (f_X7_at Γ x1 x2 x3 x5 σ1) fun r5 σ4 =>
  ldI Γ σ4 v3 r5 fun v6 =>
  gfR Γ σ4 x0 7 0 fun v7 =>
  bnd (f_X7_finalAt Γ x1 x5 σ4) fun r9 σ8 =>
  ldI Γ σ8 v7 r9 fun v10 =>
  rmI (x4 + (v6 * v10)) 10007 fun v11 =>
  some (.inl (v11, (x5 + 1), σ8)))
def f_X7_out (Γ : zSh) (a0 : Nat) (a1 : Int32) (a2 : Int32) (a3 : Int32) (σ : zSt) : Option (Int32 × zSt) :=
  lb1 (loopM (fun q => f_X7_out_B6 Γ a0 a1 a2 a3 q.1 q.2.1 q.2.2) FUEL (0, 0, σ)) fun w13 σ12 =>
  some (w13, σ12)
def f_X7_into_B6 (Γ : zSh) (x0 : Nat) (x1 : Int32) (x2 : Int32) (x3 : Int32) (x4 : Int32) (x5 : Int32) (σ : zSt) : Option ((Int32 × Int32 × zSt) ⊕ (Int32 × zSt)) :=
  chk (isO Γ x0 7) <| bnd (f_X7_many Γ x0 x1 σ) fun r2 σ1 =>
  if r2 ≤ x5 then (some (.inr (x4, σ1))) else (gfR Γ σ1 x0 7 0 fun v3 =>
  bnd (f_X7_initialAt Γ x1 x5 σ1) fun r5 σ4 =>
  ldI Γ σ4 v3 r5 fun v6 =>
  gfR Γ σ4 x0 7 0 fun v7 =>
  bnd (f_X7_at Γ x1 x2 x5 x3 σ4) fun r9 σ8 =>
  ldI Γ σ8 v7 r9 fun v10 =>
  rmI (x4 + (v6 * v10)) 10007 fun v11 =>
  some (.inl (v11, (x5 + 1), σ8)))
def f_X7_into (Γ : zSh) (a0 : Nat) (a1 : Int32) (a2 : Int32) (a3 : Int32) (σ : zSt) : Option (Int32 × zSt) :=
  lb1 (loopM (fun q => f_X7_into_B6 Γ a0 a1 a2 a3 q.1 q.2.1 q.2.2) FUEL (0, 0, σ)) fun w13 σ12 =>
  some (w13, σ12)
def f_X7_joins_B44 (Γ : zSh) (x0 : Nat) (x1 : Int32) (x2 : Int32) (x3 : Int32) (x4 : Int32) (x5 : Int32) (σ : zSt) : Option ((Int32 × zSt) ⊕ (zSt)) :=
  if x4 ≤ x5 then (some (.inr σ)) else (gfR Γ σ x0 7 0 fun v12 =>
  bnd (f_X7_initialAt Γ x3 x5 σ) fun r14 σ13 =>
  gfR Γ σ13 x0 7 0 fun v15 =>
  bnd (f_X7_initialAt Γ x1 x5 σ13) fun r17 σ16 =>
  ldI Γ σ16 v15 r17 fun v18 =>
  stI Γ σ16 v12 r14 v18 fun σ19 =>
  gfR Γ σ19 x0 7 0 fun v20 =>
  bnd (f_X7_finalAt Γ x3 x5 σ19) fun r22 σ21 =>
  gfR Γ σ21 x0 7 0 fun v23 =>
  bnd (f_X7_finalAt Γ x1 x5 σ21) fun r25 σ24 =>
  ldI Γ σ24 v23 r25 fun v26 =>
  chk (isO Γ x0 7) <| bnd (f_X7_emptyWeight Γ x0 x2 σ24) fun r28 σ27 =>
  rmI (v26 * r28) 10007 fun v29 =>
  stI Γ σ27 v20 r22 v29 fun σ30 =>
  some (.inl ((x5 + 1), σ30)))
def f_X7_joins_B187 (Γ : zSh) (x0 : Nat) (x1 : Int32) (x2 : Int32) (x3 : Int32) (x4 : Int32) (x5 : Int32) (x6 : Int32) (σ : zSt) : Option ((Int32 × zSt) ⊕ (zSt)) :=
  if x4 ≤ x6 then (some (.inr σ)) else (gfR Γ σ x0 7 0 fun v53 =>
  bnd (f_X7_at Γ x3 0 x6 (x4 + x5) σ) fun r55 σ54 =>
  chk (isO Γ x0 7) <| bnd (f_X7_out Γ x0 x1 0 x6 σ54) fun r57 σ56 =>
  gfR Γ σ56 x0 7 0 fun v58 =>
  bnd (f_X7_initialAt Γ x2 x5 σ56) fun r60 σ59 =>
  ldI Γ σ59 v58 r60 fun v61 =>
  rmI (r57 * v61) 10007 fun v62 =>
  stI Γ σ59 v53 r55 v62 fun σ63 =>
  gfR Γ σ63 x0 7 0 fun v64 =>
  bnd (f_X7_at Γ x3 1 x6 (x4 + x5) σ63) fun r66 σ65 =>
  chk (isO Γ x0 7) <| bnd (f_X7_out Γ x0 x1 1 x6 σ65) fun r68 σ67 =>
  gfR Γ σ67 x0 7 0 fun v69 =>
  bnd (f_X7_initialAt Γ x2 x5 σ67) fun r71 σ70 =>
  ldI Γ σ70 v69 r71 fun v72 =>
  rmI (r68 * v72) 10007 fun v73 =>
  stI Γ σ70 v64 r66 v73 fun σ74 =>
  some (.inl ((x6 + 1), σ74)))
def f_X7_joins_B114 (Γ : zSh) (x0 : Nat) (x1 : Int32) (x2 : Int32) (x3 : Int32) (x4 : Int32) (x5 : Int32) (σ : zSt) : Option ((Int32 × zSt) ⊕ (zSt)) :=
  chk (isO Γ x0 7) <| bnd (f_X7_many Γ x0 x2 σ) fun r33 σ32 =>
  if r33 ≤ x5 then (some (.inr σ32)) else (gfR Γ σ32 x0 7 0 fun v34 =>
  bnd (f_X7_initialAt Γ x3 (x4 + x5) σ32) fun r36 σ35 =>
  gfR Γ σ35 x0 7 0 fun v37 =>
  bnd (f_X7_initialAt Γ x2 x5 σ35) fun r39 σ38 =>
  ldI Γ σ38 v37 r39 fun v40 =>
  chk (isO Γ x0 7) <| bnd (f_X7_emptyWeight Γ x0 x1 σ38) fun r42 σ41 =>
  rmI (v40 * r42) 10007 fun v43 =>
  stI Γ σ41 v34 r36 v43 fun σ44 =>
  gfR Γ σ44 x0 7 0 fun v45 =>
  bnd (f_X7_finalAt Γ x3 (x4 + x5) σ44) fun r47 σ46 =>
  gfR Γ σ46 x0 7 0 fun v48 =>
  bnd (f_X7_finalAt Γ x2 x5 σ46) fun r50 σ49 =>
  ldI Γ σ49 v48 r50 fun v51 =>
  stI Γ σ49 v45 r47 v51 fun σ52 =>
  lb0 (loopM (fun q => f_X7_joins_B187 Γ x0 x1 x2 x3 x4 x5 q.1 q.2) FUEL (0, σ52)) fun σ75 =>
  some (.inl ((x5 + 1), σ75)))
def f_X7_joins (Γ : zSh) (a0 : Nat) (a1 : Int32) (a2 : Int32) (a3 : Int32) (σ : zSt) : Option (Unit × zSt) :=
  chk (isO Γ a0 7) <| bnd (f_X7_many Γ a0 a1 σ) fun r2 σ1 =>
  chk (isO Γ a0 7) <| bnd (f_X7_many Γ a0 a2 σ1) fun r4 σ3 =>
  chk (isO Γ a0 7) <| bnd (f_X7_clears Γ a0 a3 (r2 + r4) σ3) fun _ σ5 =>
  chk (isO Γ a0 7) <| bnd (f_X7_blocks Γ a0 a1 a3 0 σ5) fun _ σ6 =>
  chk (isO Γ a0 7) <| bnd (f_X7_many Γ a0 a1 σ6) fun r8 σ7 =>
  chk (isO Γ a0 7) <| bnd (f_X7_blocks Γ a0 a2 a3 r8 σ7) fun _ σ9 =>
  chk (isO Γ a0 7) <| bnd (f_X7_many Γ a0 a1 σ9) fun r11 σ10 =>
  lb0 (loopM (fun q => f_X7_joins_B44 Γ a0 a1 a2 a3 r11 q.1 q.2) FUEL (0, σ10)) fun σ31 =>
  lb0 (loopM (fun q => f_X7_joins_B114 Γ a0 a1 a2 a3 r11 q.1 q.2) FUEL (0, σ31)) fun σ76 =>
  some ((), σ76)
def f_X7_canStar_L23 (Γ : zSh) (s0 : Int32) (σ : zSt) : Option (Int32 × zSt) :=
  chk (isB s0) (some (s0, σ))
def f_X7_canStar_L22 (Γ : zSh)  (σ : zSt) : Option (Int32 × zSt) :=
  f_X7_canStar_L23 Γ 0 σ
def f_X7_canStar (Γ : zSh) (a0 : Nat) (a1 : Int32) (σ : zSt) : Option (Int32 × zSt) :=
  chk (isO Γ a0 7) <| bnd (f_X7_emptyWeight Γ a0 a1 σ) fun r2 σ1 =>
  if r2 = 0 then (chk (isO Γ a0 7) <| bnd (f_X7_many Γ a0 a1 σ1) fun r4 σ3 =>
  if 12 ≤ r4 then (f_X7_canStar_L22 Γ σ3) else (f_X7_canStar_L23 Γ 1 σ3)) else (f_X7_canStar_L22 Γ σ1)
def f_X7_stars_B54 (Γ : zSh) (x0 : Nat) (x1 : Int32) (x2 : Int32) (x3 : Int32) (x4 : Int32) (x5 : Int32) (σ : zSt) : Option ((Int32 × Int32 × zSt) ⊕ (Int32 × zSt)) :=
  chk (isO Γ x0 7) <| bnd (f_X7_many Γ x0 x1 σ) fun r14 σ13 =>
  if r14 ≤ x5 then (some (.inr (x4, σ13))) else (gfR Γ σ13 x0 7 0 fun v15 =>
  bnd (f_X7_initialAt Γ x1 x5 σ13) fun r17 σ16 =>
  ldI Γ σ16 v15 r17 fun v18 =>
  chk (isO Γ x0 7) <| bnd (f_X7_out Γ x0 x1 x3 x5 σ16) fun r20 σ19 =>
  rmI (x4 + (v18 * r20)) 10007 fun v21 =>
  gfR Γ σ19 x0 7 0 fun v22 =>
  bnd (f_X7_at Γ x2 x3 0 (1 + x5) σ19) fun r24 σ23 =>
  chk (isO Γ x0 7) <| bnd (f_X7_into Γ x0 x1 x3 x5 σ23) fun r26 σ25 =>
  stI Γ σ25 v22 r24 r26 fun σ27 =>
  gfR Γ σ27 x0 7 0 fun v28 =>
  bnd (f_X7_at Γ x2 x3 (1 + x5) 0 σ27) fun r30 σ29 =>
  chk (isO Γ x0 7) <| bnd (f_X7_out Γ x0 x1 x3 x5 σ29) fun r32 σ31 =>
  stI Γ σ31 v28 r30 r32 fun σ33 =>
  some (.inl (v21, (x5 + 1), σ33)))
def f_X7_stars_B43 (Γ : zSh) (x0 : Nat) (x1 : Int32) (x2 : Int32) (x3 : Int32) (σ : zSt) : Option ((Int32 × zSt) ⊕ (zSt)) :=
  if 2 ≤ x3 then (some (.inr σ)) else (lb1 (loopM (fun q => f_X7_stars_B54 Γ x0 x1 x2 x3 q.1 q.2.1 q.2.2) FUEL (0, 0, σ)) fun w35 σ34 =>
  gfR Γ σ34 x0 7 0 fun v36 =>
  bnd (f_X7_at Γ x2 x3 0 0 σ34) fun r38 σ37 =>
  stI Γ σ37 v36 r38 w35 fun σ39 =>
  some (.inl ((x3 + 1), σ39)))
def f_X7_stars (Γ : zSh) (a0 : Nat) (a1 : Int32) (a2 : Int32) (σ : zSt) : Option (Unit × zSt) :=
  chk (isO Γ a0 7) <| bnd (f_X7_many Γ a0 a1 σ) fun r2 σ1 =>
  chk (isO Γ a0 7) <| bnd (f_X7_clears Γ a0 a2 (r2 + 1) σ1) fun _ σ3 =>
  chk (isO Γ a0 7) <| bnd (f_X7_blocks Γ a0 a1 a2 1 σ3) fun _ σ4 =>
  gfR Γ σ4 a0 7 0 fun v5 =>
  bnd (f_X7_initialAt Γ a2 0 σ4) fun r7 σ6 =>
  stI Γ σ6 v5 r7 1 fun σ8 =>
  gfR Γ σ8 a0 7 0 fun v9 =>
  bnd (f_X7_finalAt Γ a2 0 σ8) fun r11 σ10 =>
  stI Γ σ10 v9 r11 1 fun σ12 =>
  lb0 (loopM (fun q => f_X7_stars_B43 Γ a0 a1 a2 q.1 q.2) FUEL (0, σ12)) fun σ40 =>
  some ((), σ40)
def f_X7_manyOf_L30 (Γ : zSh) (s0 : Int32) (σ : zSt) : Option (Int32 × zSt) :=
  some (s0, σ)
def f_X7_manyOf (Γ : zSh) (a0 : Nat) (a1 : Int32) (a2 : Int32) (a3 : Int32) (σ : zSt) : Option (Int32 × zSt) :=
  if a3 = 1 then (chk (isO Γ a0 7) <| bnd (f_X7_many Γ a0 a1 σ) fun r6 σ5 =>
  chk (isO Γ a0 7) <| bnd (f_X7_many Γ a0 a2 σ5) fun r8 σ7 =>
  f_X7_manyOf_L30 Γ (r6 * r8) σ7) else (chk (isO Γ a0 7) <| bnd (f_X7_many Γ a0 a1 σ) fun r2 σ1 =>
  chk (isO Γ a0 7) <| bnd (f_X7_many Γ a0 a2 σ1) fun r4 σ3 =>
  f_X7_manyOf_L30 Γ (r2 + r4) σ3)
def f_X7_combines_L36 (Γ : zSh)  (σ : zSt) : Option (Unit × zSt) :=
  some ((), σ)
def f_X7_combines (Γ : zSh) (a0 : Nat) (a1 : Int32) (a2 : Int32) (a3 : Int32) (σ : zSt) : Option (Unit × zSt) :=
  if a3 = 0 then (chk (isO Γ a0 7) <| bnd (f_X7_sums Γ a0 a1 a2 5 σ) fun _ σ3 =>
  f_X7_combines_L36 Γ σ3) else (if a3 = 1 then (chk (isO Γ a0 7) <| bnd (f_X7_multiplies Γ a0 a1 a2 5 σ) fun _ σ2 =>
  f_X7_combines_L36 Γ σ2) else (chk (isO Γ a0 7) <| bnd (f_X7_joins Γ a0 a1 a2 5 σ) fun _ σ1 =>
  f_X7_combines_L36 Γ σ1))
def f_X7_combine_L77 (Γ : zSh) (x0 : Nat) (x1 : Int32) (x2 : Int32) (x3 : Int32) (x4 : Int32) (s0 : Int32) (s1 : Int32) (s2 : Int32) (s3 : Nat) (σ : zSt) : Option (Int32 × zSt) :=
  chk (isO Γ s3 7) <| bnd (f_X7_goes Γ s3 s2 s1 s0 σ) fun r6 σ5 =>
  if r6 = 0 then (some (0, σ5)) else (chk (isO Γ x0 7) <| bnd (f_X7_save Γ x0 σ5) fun _ σ7 =>
  chk (isO Γ x0 7) <| bnd (f_X7_combines Γ x0 x2 x3 x4 σ7) fun _ σ8 =>
  chk (isO Γ x0 7) <| bnd (f_X7_copies Γ x0 5 x1 σ8) fun _ σ9 =>
  chk (isO Γ x0 7) <| bnd (f_X7_many Γ x0 x1 σ9) fun r11 σ10 =>
  some (r11, σ10))
def f_X7_combine_L76 (Γ : zSh) (x0 : Nat) (x1 : Int32) (x2 : Int32) (x3 : Int32) (x4 : Int32) (s0 : Int32) (s1 : Int32) (s2 : Nat) (σ : zSt) : Option (Int32 × zSt) :=
  f_X7_combine_L77 Γ x0 x1 x2 x3 x4 0 s0 s1 s2 σ
def f_X7_combine_L26 (Γ : zSh) (x0 : Nat) (x1 : Int32) (x2 : Int32) (x3 : Int32) (x4 : Int32) (s0 : Int32) (σ : zSt) : Option (Int32 × zSt) :=
  bnd (f_X7_in Γ (x4.toInt64) 0 2 σ) fun r4 σ3 =>
  if s0 = 0 then (f_X7_combine_L76 Γ x0 x1 x2 x3 x4 r4 s0 x0 σ3) else (bnd (f_X7_in Γ (x4.toInt64) 0 2 σ3) fun r13 σ12 =>
  if r13 = 0 then (f_X7_combine_L76 Γ x0 x1 x2 x3 x4 r4 s0 x0 σ12) else (chk (isO Γ x0 7) <| bnd (f_X7_manyOf Γ x0 x2 x3 x4 σ12) fun r15 σ14 =>
  if 12 < r15 then (f_X7_combine_L76 Γ x0 x1 x2 x3 x4 r4 s0 x0 σ14) else (f_X7_combine_L77 Γ x0 x1 x2 x3 x4 1 r4 s0 x0 σ14)))
def f_X7_combine_L25 (Γ : zSh) (x0 : Nat) (x1 : Int32) (x2 : Int32) (x3 : Int32) (x4 : Int32) (σ : zSt) : Option (Int32 × zSt) :=
  f_X7_combine_L26 Γ x0 x1 x2 x3 x4 0 σ
def f_X7_combine (Γ : zSh) (a0 : Nat) (a1 : Int32) (a2 : Int32) (a3 : Int32) (a4 : Int32) (σ : zSt) : Option (Int32 × zSt) :=
  bnd (f_X7_isSlot Γ a1 σ) fun r2 σ1 =>
  if r2 = 0 then (f_X7_combine_L25 Γ a0 a1 a2 a3 a4 σ1) else (bnd (f_X7_isSlot Γ a2 σ1) fun r17 σ16 =>
  if r17 = 0 then (f_X7_combine_L25 Γ a0 a1 a2 a3 a4 σ16) else (bnd (f_X7_isSlot Γ a3 σ16) fun r19 σ18 =>
  if r19 = 0 then (f_X7_combine_L25 Γ a0 a1 a2 a3 a4 σ18) else (f_X7_combine_L26 Γ a0 a1 a2 a3 a4 1 σ18)))
def f_X7_derives_L131 (Γ : zSh)  (σ : zSt) : Option (Unit × zSt) :=
  some ((), σ)
def f_X7_derives_B97 (Γ : zSh) (x0 : Nat) (x1 : Int32) (x2 : Int32) (x3 : Int32) (σ : zSt) : Option ((Int32 × zSt) ⊕ (zSt)) :=
  chk (isO Γ x0 7) <| bnd (f_X7_many Γ x0 x1 σ) fun r6 σ5 =>
  if r6 ≤ x3 then (some (.inr σ5)) else (gfR Γ σ5 x0 7 0 fun v7 =>
  bnd (f_X7_initialAt Γ 5 x3 σ5) fun r9 σ8 =>
  chk (isO Γ x0 7) <| bnd (f_X7_into Γ x0 x1 (x2 - 3) x3 σ8) fun r11 σ10 =>
  stI Γ σ10 v7 r9 r11 fun σ12 =>
  some (.inl ((x3 + 1), σ12)))
def f_X7_derives_L89 (Γ : zSh) (x0 : Nat) (x1 : Int32) (x2 : Int32) (σ : zSt) : Option (Unit × zSt) :=
  chk (isO Γ x0 7) <| bnd (f_X7_copies Γ x0 x1 5 σ) fun _ σ4 =>
  lb0 (loopM (fun q => f_X7_derives_B97 Γ x0 x1 x2 q.1 q.2) FUEL (0, σ4)) fun σ13 =>
  f_X7_derives_L131 Γ σ13
def f_X7_derives (Γ : zSh) (a0 : Nat) (a1 : Int32) (a2 : Int32) (σ : zSt) : Option (Unit × zSt) :=
  if a2 = 0 then (chk (isO Γ a0 7) <| bnd (f_X7_copies Γ a0 a1 5 σ) fun _ σ1 =>
  f_X7_derives_L131 Γ σ1) else (if a2 = 1 then (chk (isO Γ a0 7) <| bnd (f_X7_turns Γ a0 a1 5 σ) fun _ σ2 =>
  f_X7_derives_L131 Γ σ2) else (if a2 = 2 then (chk (isO Γ a0 7) <| bnd (f_X7_stars Γ a0 a1 5 σ) fun _ σ3 =>
  f_X7_derives_L131 Γ σ3) else (if a2 = 3 then (f_X7_derives_L89 Γ a0 a1 a2 σ) else (if a2 = 4 then (f_X7_derives_L89 Γ a0 a1 a2 σ) else (if a2 = 5 then (chk (isO Γ a0 7) <| bnd (f_X7_forwards Γ a0 a1 5 σ) fun _ σ14 =>
  f_X7_derives_L131 Γ σ14) else (if a2 = 6 then (chk (isO Γ a0 7) <| bnd (f_X7_minimizes Γ a0 a1 5 σ) fun _ σ15 =>
  f_X7_derives_L131 Γ σ15) else (f_X7_derives_L89 Γ a0 a1 a2 σ)))))))
def f_X7_derive_L56 (Γ : zSh) (x0 : Nat) (x1 : Int32) (x2 : Int32) (x3 : Int32) (s0 : Int32) (s1 : Int32) (s2 : Int32) (s3 : Nat) (σ : zSt) : Option (Int32 × zSt) :=
  chk (isO Γ s3 7) <| bnd (f_X7_goes Γ s3 s2 s1 s0 σ) fun r6 σ5 =>
  if r6 = 0 then (some (0, σ5)) else (chk (isO Γ x0 7) <| bnd (f_X7_save Γ x0 σ5) fun _ σ7 =>
  chk (isO Γ x0 7) <| bnd (f_X7_derives Γ x0 x2 x3 σ7) fun _ σ8 =>
  chk (isO Γ x0 7) <| bnd (f_X7_copies Γ x0 5 x1 σ8) fun _ σ9 =>
  chk (isO Γ x0 7) <| bnd (f_X7_many Γ x0 x1 σ9) fun r11 σ10 =>
  some (r11, σ10))
def f_X7_derive_L55 (Γ : zSh) (x0 : Nat) (x1 : Int32) (x2 : Int32) (x3 : Int32) (s0 : Int32) (s1 : Int32) (s2 : Nat) (σ : zSt) : Option (Int32 × zSt) :=
  f_X7_derive_L56 Γ x0 x1 x2 x3 0 s0 s1 s2 σ
def f_X7_derive_L51 (Γ : zSh) (x0 : Nat) (x1 : Int32) (x2 : Int32) (x3 : Int32) (s0 : Int32) (s1 : Int32) (s2 : Nat) (σ : zSt) : Option (Int32 × zSt) :=
  f_X7_derive_L56 Γ x0 x1 x2 x3 1 s0 s1 s2 σ
def f_X7_derive_L19 (Γ : zSh) (x0 : Nat) (x1 : Int32) (x2 : Int32) (x3 : Int32) (s0 : Int32) (σ : zSt) : Option (Int32 × zSt) :=
  bnd (f_X7_in Γ (x3.toInt64) 0 6 σ) fun r4 σ3 =>
  if s0 = 0 then (f_X7_derive_L55 Γ x0 x1 x2 x3 r4 s0 x0 σ3) else (if x3 = 2 then (chk (isO Γ x0 7) <| bnd (f_X7_canStar Γ x0 x2 σ3) fun r13 σ12 =>
  if r13 = 0 then (f_X7_derive_L55 Γ x0 x1 x2 x3 r4 s0 x0 σ12) else (f_X7_derive_L51 Γ x0 x1 x2 x3 r4 s0 x0 σ12)) else (f_X7_derive_L51 Γ x0 x1 x2 x3 r4 s0 x0 σ3))
def f_X7_derive_L18 (Γ : zSh) (x0 : Nat) (x1 : Int32) (x2 : Int32) (x3 : Int32) (σ : zSt) : Option (Int32 × zSt) :=
  f_X7_derive_L19 Γ x0 x1 x2 x3 0 σ
def f_X7_derive (Γ : zSh) (a0 : Nat) (a1 : Int32) (a2 : Int32) (a3 : Int32) (σ : zSt) : Option (Int32 × zSt) :=
  bnd (f_X7_isSlot Γ a1 σ) fun r2 σ1 =>
  if r2 = 0 then (f_X7_derive_L18 Γ a0 a1 a2 a3 σ1) else (bnd (f_X7_isSlot Γ a2 σ1) fun r15 σ14 =>
  if r15 = 0 then (f_X7_derive_L18 Γ a0 a1 a2 a3 σ14) else (f_X7_derive_L19 Γ a0 a1 a2 a3 1 σ14))
def f_X7_scale_B24 (Γ : zSh) (x0 : Nat) (x1 : Int32) (x2 : Int32) (x3 : Int32) (σ : zSt) : Option ((Int32 × zSt) ⊕ (zSt)) :=
  chk (isO Γ x0 7) <| bnd (f_X7_many Γ x0 x1 σ) fun r9 σ8 =>
  if r9 ≤ x3 then (some (.inr σ8)) else (gfR Γ σ8 x0 7 0 fun v10 =>
  bnd (f_X7_initialAt Γ x1 x3 σ8) fun r12 σ11 =>
  gfR Γ σ11 x0 7 0 fun v13 =>
  bnd (f_X7_initialAt Γ x1 x3 σ11) fun r15 σ14 =>
  ldI Γ σ14 v13 r15 fun v16 =>
  rmI (v16 * x2) 10007 fun v17 =>
  stI Γ σ14 v10 r12 v17 fun σ18 =>
  some (.inl ((x3 + 1), σ18)))
def f_X7_scale (Γ : zSh) (a0 : Nat) (a1 : Int32) (a2 : Int32) (σ : zSt) : Option (Int32 × zSt) :=
  bnd (f_X7_isSlot Γ a1 σ) fun r2 σ1 =>
  bnd (f_X7_isNumber Γ a2 σ1) fun r4 σ3 =>
  chk (isO Γ a0 7) <| bnd (f_X7_goes Γ a0 r2 r4 1 σ3) fun r6 σ5 =>
  if r6 = 0 then (some (0, σ5)) else (chk (isO Γ a0 7) <| bnd (f_X7_save Γ a0 σ5) fun _ σ7 =>
  lb0 (loopM (fun q => f_X7_scale_B24 Γ a0 a1 a2 q.1 q.2) FUEL (0, σ7)) fun σ19 =>
  chk (isO Γ a0 7) <| bnd (f_X7_emptyWeight Γ a0 a1 σ19) fun r21 σ20 =>
  some (r21, σ20))
def f_X7_eliminates_B19 (Γ : zSh) (x0 : Nat) (x1 : Int32) (x2 : Int32) (x3 : Int32) (x4 : Int32) (x5 : Int32) (x6 : Int32) (x7 : Int32) (σ : zSt) : Option ((Int32 × zSt) ⊕ (zSt)) :=
  if x5 ≤ x7 then (some (.inr σ)) else (gfR Γ σ x0 7 15 fun v5 =>
  ldI Γ σ v5 ((32 * x1) + x7) fun v6 =>
  rmI (v6 * x6) 10007 fun v7 =>
  gfR Γ σ x0 7 15 fun v8 =>
  gfR Γ σ x0 7 15 fun v9 =>
  ldI Γ σ v9 ((32 * x2) + x7) fun v10 =>
  stI Γ σ v8 ((32 * x1) + x7) v10 fun σ11 =>
  gfR Γ σ11 x0 7 15 fun v12 =>
  stI Γ σ11 v12 ((32 * x2) + x7) v7 fun σ13 =>
  some (.inl ((x7 + 1), σ13)))
def f_X7_eliminates_B120 (Γ : zSh) (x0 : Nat) (x2 : Int32) (x3 : Int32) (x4 : Int32) (x5 : Int32) (x7 : Int32) (x8 : Int32) (x9 : Int32) (σ : zSt) : Option ((Int32 × zSt) ⊕ (zSt)) :=
  if x5 ≤ x9 then (some (.inr σ)) else (if x8 ≤ 0 then (some (.inr σ)) else (gfR Γ σ x0 7 15 fun v17 =>
  gfR Γ σ x0 7 15 fun v18 =>
  ldI Γ σ v18 ((32 * x7) + x9) fun v19 =>
  gfR Γ σ x0 7 15 fun v20 =>
  ldI Γ σ v20 ((32 * x2) + x9) fun v21 =>
  rmI (v19 + ((10007 - x8) * v21)) 10007 fun v22 =>
  stI Γ σ v17 ((32 * x7) + x9) v22 fun σ23 =>
  some (.inl ((x9 + 1), σ23))))
def f_X7_eliminates_B96 (Γ : zSh) (x0 : Nat) (x2 : Int32) (x3 : Int32) (x4 : Int32) (x5 : Int32) (x7 : Int32) (σ : zSt) : Option ((Int32 × zSt) ⊕ (zSt)) :=
  if x4 ≤ x7 then (some (.inr σ)) else (gfR Γ σ x0 7 15 fun v15 =>
  ldI Γ σ v15 ((32 * x7) + x3) fun v16 =>
  lb0 (loopM (fun q => f_X7_eliminates_B120 Γ x0 x2 x3 x4 x5 x7 v16 q.1 q.2) FUEL (0, σ)) fun σ24 =>
  some (.inl ((x7 + 1), σ24)))
def f_X7_eliminates (Γ : zSh) (a0 : Nat) (a1 : Int32) (a2 : Int32) (a3 : Int32) (a4 : Int32) (a5 : Int32) (σ : zSt) : Option (Unit × zSt) :=
  gfR Γ σ a0 7 15 fun v1 =>
  ldI Γ σ v1 ((32 * a1) + a3) fun v2 =>
  bnd (f_X7_inverted Γ v2 σ) fun r4 σ3 =>
  lb0 (loopM (fun q => f_X7_eliminates_B19 Γ a0 a1 a2 a3 a4 a5 r4 q.1 q.2) FUEL (0, σ3)) fun σ14 =>
  lb0 (loopM (fun q => f_X7_eliminates_B96 Γ a0 a2 a3 a4 a5 q.1 q.2) FUEL ((a2 + 1), σ14)) fun σ25 =>
  some ((), σ25)
def f_X7_rank_B19 (Γ : zSh) (x0 : Nat) (x1 : Int32) (x2 : Int32) (x3 : Int32) (x4 : Int32) (x5 : Int32) (σ : zSt) : Option ((Int32 × zSt) ⊕ (Int32 × zSt)) :=
  if x1 ≤ x5 then (some (.inr (x5, σ))) else (gfR Γ σ x0 7 15 fun v1 =>
  ldI Γ σ v1 ((32 * x5) + x4) fun v2 =>
  if v2 = 0 then (some (.inl ((x5 + 1), σ))) else (some (.inr (x5, σ))))
def f_X7_rank_B5_L67 (Γ : zSh) (x0 : Nat) (x1 : Int32) (x2 : Int32) (x3 : Int32) (x4 : Int32) (σ : zSt) : Option ((Int32 × Int32 × zSt) ⊕ (Int32 × zSt)) :=
  some (.inl (x3, (x4 + 1), σ))
def f_X7_rank_B5 (Γ : zSh) (x0 : Nat) (x1 : Int32) (x2 : Int32) (x3 : Int32) (x4 : Int32) (σ : zSt) : Option ((Int32 × Int32 × zSt) ⊕ (Int32 × zSt)) :=
  if x2 ≤ x4 then (some (.inr (x3, σ))) else (if x1 ≤ x3 then (some (.inr (x3, σ))) else (lb1 (loopM (fun q => f_X7_rank_B19 Γ x0 x1 x2 x3 x4 q.1 q.2) FUEL (x3, σ)) fun w4 σ3 =>
  if x1 ≤ w4 then (f_X7_rank_B5_L67 Γ x0 x1 x2 x3 x4 σ3) else (chk (isO Γ x0 7) <| bnd (f_X7_eliminates Γ x0 w4 x3 x4 x1 x2 σ3) fun _ σ5 =>
  f_X7_rank_B5_L67 Γ x0 x1 x2 (x3 + 1) x4 σ5)))
def f_X7_rank (Γ : zSh) (a0 : Nat) (a1 : Int32) (a2 : Int32) (σ : zSt) : Option (Int32 × zSt) :=
  lb1 (loopM (fun q => f_X7_rank_B5 Γ a0 a1 a2 q.1 q.2.1 q.2.2) FUEL (0, 0, σ)) fun w7 σ6 =>
  some (w7, σ6)
def f_X7_hankelRank_B33 (Γ : zSh) (x0 : Nat) (x1 : Int32) (x2 : Int32) (x3 : Int32) (x4 : Int32) (σ : zSt) : Option ((Int32 × zSt) ⊕ (zSt)) :=
  if x2 ≤ x4 then (some (.inr σ)) else (chk (isO Γ x0 7) <| bnd (f_X7_laysInitial Γ x0 x1 0 σ) fun _ σ7 =>
  chk (isO Γ x0 7) <| bnd (f_X7_passesWord Γ x0 x1 x3 σ7) fun _ σ8 =>
  chk (isO Γ x0 7) <| bnd (f_X7_passesWord Γ x0 x1 x4 σ8) fun _ σ9 =>
  gfR Γ σ9 x0 7 15 fun v10 =>
  chk (isO Γ x0 7) <| bnd (f_X7_ends Γ x0 x1 0 σ9) fun r12 σ11 =>
  stI Γ σ11 v10 ((32 * x3) + x4) r12 fun σ13 =>
  some (.inl ((x4 + 1), σ13)))
def f_X7_hankelRank_B25 (Γ : zSh) (x0 : Nat) (x1 : Int32) (x2 : Int32) (x3 : Int32) (σ : zSt) : Option ((Int32 × zSt) ⊕ (zSt)) :=
  if x2 ≤ x3 then (some (.inr σ)) else (lb0 (loopM (fun q => f_X7_hankelRank_B33 Γ x0 x1 x2 x3 q.1 q.2) FUEL (0, σ)) fun σ14 =>
  some (.inl ((x3 + 1), σ14)))
def f_X7_hankelRank (Γ : zSh) (a0 : Nat) (a1 : Int32) (a2 : Int32) (σ : zSt) : Option (Int32 × zSt) :=
  bnd (f_X7_isSlot Γ a1 σ) fun r2 σ1 =>
  bnd (f_X7_in Γ (a2.toInt64) 0 31 σ1) fun r4 σ3 =>
  chk (isO Γ a0 7) <| bnd (f_X7_goes Γ a0 r2 r4 1 σ3) fun r6 σ5 =>
  if r6 = 0 then (some (0, σ5)) else (lb0 (loopM (fun q => f_X7_hankelRank_B25 Γ a0 a1 a2 q.1 q.2) FUEL (0, σ5)) fun σ15 =>
  chk (isO Γ a0 7) <| bnd (f_X7_rank Γ a0 a2 a2 σ15) fun r17 σ16 =>
  some (r17, σ16))
def f_X7_laysTotals_B10 (Γ : zSh) (x0 : Nat) (x1 : Int32) (x2 : Int32) (x3 : Int32) (σ : zSt) : Option ((Int32 × zSt) ⊕ (zSt)) :=
  if x1 < x3 then (some (.inr σ)) else (gfR Γ σ x0 7 15 fun v1 =>
  gfR Γ σ x0 7 16 fun v2 =>
  ldI Γ σ v2 (x2 + x3) fun v3 =>
  stI Γ σ v1 ((32 * x2) + x3) v3 fun σ4 =>
  some (.inl ((x3 + 1), σ4)))
def f_X7_laysTotals_B2 (Γ : zSh) (x0 : Nat) (x1 : Int32) (x2 : Int32) (σ : zSt) : Option ((Int32 × zSt) ⊕ (zSt)) :=
  if 31 ≤ x2 then (some (.inr σ)) else (lb0 (loopM (fun q => f_X7_laysTotals_B10 Γ x0 x1 x2 q.1 q.2) FUEL (0, σ)) fun σ5 =>
  some (.inl ((x2 + 1), σ5)))
def f_X7_laysTotals (Γ : zSh) (a0 : Nat) (a1 : Int32) (σ : zSt) : Option (Unit × zSt) :=
  lb0 (loopM (fun q => f_X7_laysTotals_B2 Γ a0 a1 q.1 q.2) FUEL (0, σ)) fun σ6 =>
  some ((), σ6)
def f_X7_recurs_B31 (Γ : zSh) (x0 : Nat) (x1 : Int32) (x2 : Int32) (x3 : Int32) (σ : zSt) : Option ((Int32 × zSt) ⊕ (zSt)) :=
  if 43 ≤ x3 then (some (.inr σ)) else (gfR Γ σ x0 7 16 fun v8 =>
  chk (isO Γ x0 7) <| bnd (f_X7_ends Γ x0 x1 0 σ) fun r10 σ9 =>
  stI Γ σ9 v8 x3 r10 fun σ11 =>
  chk (isO Γ x0 7) <| bnd (f_X7_passes Γ x0 x1 0 2 σ11) fun _ σ12 =>
  some (.inl ((x3 + 1), σ12)))
def f_X7_recurs_L98 (Γ : zSh) (s0 : Int32) (σ : zSt) : Option (Int32 × zSt) :=
  chk (isB s0) (some (s0, σ))
def f_X7_recurs (Γ : zSh) (a0 : Nat) (a1 : Int32) (a2 : Int32) (σ : zSt) : Option (Int32 × zSt) :=
  bnd (f_X7_isSlot Γ a1 σ) fun r2 σ1 =>
  bnd (f_X7_in Γ (a2.toInt64) 1 12 σ1) fun r4 σ3 =>
  chk (isO Γ a0 7) <| bnd (f_X7_goes Γ a0 r2 r4 1 σ3) fun r6 σ5 =>
  if r6 = 0 then (chk (isB 0) (some (0, σ5))) else (chk (isO Γ a0 7) <| bnd (f_X7_laysInitial Γ a0 a1 0 σ5) fun _ σ7 =>
  lb0 (loopM (fun q => f_X7_recurs_B31 Γ a0 a1 a2 q.1 q.2) FUEL (0, σ7)) fun σ13 =>
  chk (isO Γ a0 7) <| bnd (f_X7_laysTotals Γ a0 a2 σ13) fun _ σ14 =>
  chk (isO Γ a0 7) <| bnd (f_X7_rank Γ a0 31 a2 σ14) fun r16 σ15 =>
  chk (isO Γ a0 7) <| bnd (f_X7_laysTotals Γ a0 a2 σ15) fun _ σ17 =>
  chk (isO Γ a0 7) <| bnd (f_X7_rank Γ a0 31 (a2 + 1) σ17) fun r19 σ18 =>
  if r19 = r16 then (f_X7_recurs_L98 Γ 1 σ18) else (f_X7_recurs_L98 Γ 0 σ18))
def f_X7_inverse_L26 (Γ : zSh) (s0 : Int32) (σ : zSt) : Option (Int32 × zSt) :=
  some (s0, σ)
def f_X7_inverse (Γ : zSh) (a0 : Nat) (a1 : Int32) (σ : zSt) : Option (Int32 × zSt) :=
  bnd (f_X7_in Γ (a1.toInt64) 1 10006 σ) fun r2 σ1 =>
  chk (isO Γ a0 7) <| bnd (f_X7_goes Γ a0 r2 1 1 σ1) fun r4 σ3 =>
  if r4 = 0 then (f_X7_inverse_L26 Γ 0 σ3) else (bnd (f_X7_inverted Γ a1 σ3) fun r6 σ5 =>
  f_X7_inverse_L26 Γ r6 σ5)
def f_X7_append_L24 (Γ : zSh) (x0 : Nat) (x1 : Int32) (s0 : Int32) (s1 : Int32) (s2 : Nat) (σ : zSt) : Option (Int32 × zSt) :=
  chk (isO Γ s2 7) <| bnd (f_X7_goes Γ s2 s1 s0 1 σ) fun r5 σ4 =>
  if r5 = 0 then (some (0, σ4)) else (gfR Γ σ4 x0 7 17 fun v6 =>
  gfI Γ σ4 x0 7 18 fun v7 =>
  stI Γ σ4 v6 v7 x1 fun σ8 =>
  gfI Γ σ8 x0 7 18 fun v9 =>
  pfI Γ σ8 x0 7 18 (v9 + 1) fun σ10 =>
  gfI Γ σ10 x0 7 18 fun v11 =>
  some (v11, σ10))
def f_X7_append (Γ : zSh) (a0 : Nat) (a1 : Int32) (σ : zSt) : Option (Int32 × zSt) :=
  bnd (f_X7_in Γ (a1.toInt64) 0 127 σ) fun r2 σ1 =>
  gfI Γ σ1 a0 7 18 fun v3 =>
  if 60 ≤ v3 then (f_X7_append_L24 Γ a0 a1 0 r2 a0 σ1) else (f_X7_append_L24 Γ a0 a1 1 r2 a0 σ1)
def f_X7_clearText (Γ : zSh) (a0 : Nat) (σ : zSt) : Option (Int32 × zSt) :=
  pfI Γ σ a0 7 3 0 fun σ1 =>
  gfI Γ σ1 a0 7 18 fun v2 =>
  pfI Γ σ1 a0 7 18 0 fun σ3 =>
  some (v2, σ3)
def f_X7_operates_L48 (Γ : zSh)  (σ : zSt) : Option (Unit × zSt) :=
  some ((), σ)
def f_X7_operates_L25 (Γ : zSh) (x0 : Nat) (x1 : Int32) (x2 : Int32) (x3 : Int32) (s0 : Int32) (s1 : Nat) (σ : zSt) : Option (Unit × zSt) :=
  pfZ Γ σ s1 7 22 s0 fun σ2 =>
  gfI Γ σ2 x0 7 22 fun v3 =>
  if v3 = 0 then (chk (isO Γ x0 7) <| bnd (f_X7_combines Γ x0 x1 x2 x3 σ2) fun _ σ4 =>
  chk (isO Γ x0 7) <| bnd (f_X7_minimizes Γ x0 5 x1 σ4) fun _ σ5 =>
  f_X7_operates_L48 Γ σ5) else (f_X7_operates_L48 Γ σ2)
def f_X7_operates_L20 (Γ : zSh) (x0 : Nat) (x1 : Int32) (x2 : Int32) (x3 : Int32) (s0 : Nat) (σ : zSt) : Option (Unit × zSt) :=
  f_X7_operates_L25 Γ x0 x1 x2 x3 1 s0 σ
def f_X7_operates (Γ : zSh) (a0 : Nat) (a1 : Int32) (a2 : Int32) (a3 : Int32) (σ : zSt) : Option (Unit × zSt) :=
  gfI Γ σ a0 7 22 fun v1 =>
  if v1 = 0 then (chk (isO Γ a0 7) <| bnd (f_X7_manyOf Γ a0 a1 a2 a3 σ) fun r7 σ6 =>
  if r7 ≤ 12 then (f_X7_operates_L25 Γ a0 a1 a2 a3 0 a0 σ6) else (f_X7_operates_L20 Γ a0 a1 a2 a3 a0 σ6)) else (f_X7_operates_L20 Γ a0 a1 a2 a3 a0 σ)
def f_X7_endsFactor_L48 (Γ : zSh) (x0 : Nat) (σ : zSt) : Option (Unit × zSt) :=
  pfZ Γ σ x0 7 21 0 fun σ9 =>
  some ((), σ9)
def f_X7_endsFactor (Γ : zSh) (a0 : Nat) (σ : zSt) : Option (Unit × zSt) :=
  gfI Γ σ a0 7 20 fun v1 =>
  gfR Γ σ a0 7 24 fun v2 =>
  gfI Γ σ a0 7 20 fun v3 =>
  ldZ Γ σ v2 v3 fun v4 =>
  if v4 = 0 then (chk (isO Γ a0 7) <| bnd (f_X7_copies Γ a0 4 (9 + (2 * v1)) σ) fun _ σ5 =>
  gfR Γ σ5 a0 7 24 fun v6 =>
  gfI Γ σ5 a0 7 20 fun v7 =>
  stZ Γ σ5 v6 v7 1 fun σ8 =>
  f_X7_endsFactor_L48 Γ a0 σ8) else (chk (isO Γ a0 7) <| bnd (f_X7_operates Γ a0 (9 + (2 * v1)) 4 2 σ) fun _ σ10 =>
  f_X7_endsFactor_L48 Γ a0 σ10)
def f_X7_endsProduct_L68 (Γ : zSh) (x0 : Nat) (σ : zSt) : Option (Unit × zSt) :=
  gfR Γ σ x0 7 24 fun v11 =>
  gfI Γ σ x0 7 20 fun v12 =>
  stZ Γ σ v11 v12 0 fun σ13 =>
  some ((), σ13)
def f_X7_endsProduct (Γ : zSh) (a0 : Nat) (σ : zSt) : Option (Unit × zSt) :=
  chk (isO Γ a0 7) <| bnd (f_X7_endsFactor Γ a0 σ) fun _ σ1 =>
  gfI Γ σ1 a0 7 20 fun v2 =>
  gfR Γ σ1 a0 7 23 fun v3 =>
  gfI Γ σ1 a0 7 20 fun v4 =>
  ldZ Γ σ1 v3 v4 fun v5 =>
  if v5 = 0 then (gfI Γ σ1 a0 7 20 fun v6 =>
  chk (isO Γ a0 7) <| bnd (f_X7_copies Γ a0 (9 + (2 * v6)) (8 + (2 * v2)) σ1) fun _ σ7 =>
  gfR Γ σ7 a0 7 23 fun v8 =>
  gfI Γ σ7 a0 7 20 fun v9 =>
  stZ Γ σ7 v8 v9 1 fun σ10 =>
  f_X7_endsProduct_L68 Γ a0 σ10) else (gfI Γ σ1 a0 7 20 fun v14 =>
  chk (isO Γ a0 7) <| bnd (f_X7_operates Γ a0 (8 + (2 * v2)) (9 + (2 * v14)) 0 σ1) fun _ σ15 =>
  f_X7_endsProduct_L68 Γ a0 σ15)
def f_X7_begins (Γ : zSh) (a0 : Nat) (σ : zSt) : Option (Unit × zSt) :=
  gfR Γ σ a0 7 23 fun v1 =>
  gfI Γ σ a0 7 20 fun v2 =>
  stZ Γ σ v1 v2 0 fun σ3 =>
  gfR Γ σ3 a0 7 24 fun v4 =>
  gfI Γ σ3 a0 7 20 fun v5 =>
  stZ Γ σ3 v4 v5 0 fun σ6 =>
  pfZ Γ σ6 a0 7 21 0 fun σ7 =>
  some ((), σ7)
def f_X7_isFigure_L38 (Γ : zSh) (s0 : Int32) (σ : zSt) : Option (Int32 × zSt) :=
  chk (isB s0) (some (s0, σ))
def f_X7_isFigure_L37 (Γ : zSh)  (σ : zSt) : Option (Int32 × zSt) :=
  f_X7_isFigure_L38 Γ 0 σ
def f_X7_isFigure (Γ : zSh) (a0 : Nat) (σ : zSt) : Option (Int32 × zSt) :=
  gfI Γ σ a0 7 19 fun v1 =>
  gfI Γ σ a0 7 18 fun v2 =>
  if v2 ≤ v1 then (f_X7_isFigure_L37 Γ σ) else (gfR Γ σ a0 7 17 fun v3 =>
  gfI Γ σ a0 7 19 fun v4 =>
  ldI Γ σ v3 v4 fun v5 =>
  bnd (f_X7_in Γ (v5.toInt64) 48 57 σ) fun r7 σ6 =>
  if r7 = 0 then (f_X7_isFigure_L37 Γ σ6) else (f_X7_isFigure_L38 Γ 1 σ6))
def f_X7_readsNumber_B7 (Γ : zSh) (x0 : Nat) (x1 : Int32) (x2 : Int32) (σ : zSt) : Option ((Int32 × zSt) ⊕ (Int32 × zSt)) :=
  chk (isO Γ x0 7) <| bnd (f_X7_isFigure Γ x0 σ) fun r3 σ2 =>
  if r3 = 0 then (some (.inr (x2, σ2))) else (gfI Γ σ2 x0 7 19 fun v4 =>
  if (x1 + 4) ≤ v4 then (some (.inr (x2, σ2))) else (gfR Γ σ2 x0 7 17 fun v5 =>
  gfI Γ σ2 x0 7 19 fun v6 =>
  ldI Γ σ2 v5 v6 fun v7 =>
  gfI Γ σ2 x0 7 19 fun v8 =>
  pfI Γ σ2 x0 7 19 (v8 + 1) fun σ9 =>
  some (.inl ((((10 * x2) + v7) - 48), σ9))))
def f_X7_readsNumber_L95 (Γ : zSh) (s0 : Int32) (σ : zSt) : Option (Int32 × zSt) :=
  chk (isB s0) (some (s0, σ))
def f_X7_readsNumber (Γ : zSh) (a0 : Nat) (σ : zSt) : Option (Int32 × zSt) :=
  gfI Γ σ a0 7 19 fun v1 =>
  lb1 (loopM (fun q => f_X7_readsNumber_B7 Γ a0 v1 q.1 q.2) FUEL (0, σ)) fun w11 σ10 =>
  chk (isO Γ a0 7) <| bnd (f_X7_clears Γ a0 4 1 σ10) fun _ σ12 =>
  gfR Γ σ12 a0 7 0 fun v13 =>
  bnd (f_X7_initialAt Γ 4 0 σ12) fun r15 σ14 =>
  stI Γ σ14 v13 r15 1 fun σ16 =>
  gfR Γ σ16 a0 7 0 fun v17 =>
  bnd (f_X7_finalAt Γ 4 0 σ16) fun r19 σ18 =>
  stI Γ σ18 v17 r19 w11 fun σ20 =>
  chk (isO Γ a0 7) <| bnd (f_X7_isFigure Γ a0 σ20) fun r22 σ21 =>
  if r22 = 0 then (f_X7_readsNumber_L95 Γ 1 σ21) else (f_X7_readsNumber_L95 Γ 0 σ21)
def f_X7_readsLetter (Γ : zSh) (a0 : Nat) (a1 : Int32) (σ : zSt) : Option (Unit × zSt) :=
  chk (isO Γ a0 7) <| bnd (f_X7_clears Γ a0 4 2 σ) fun _ σ1 =>
  gfR Γ σ1 a0 7 0 fun v2 =>
  bnd (f_X7_initialAt Γ 4 0 σ1) fun r4 σ3 =>
  stI Γ σ3 v2 r4 1 fun σ5 =>
  gfR Γ σ5 a0 7 0 fun v6 =>
  bnd (f_X7_finalAt Γ 4 1 σ5) fun r8 σ7 =>
  stI Γ σ7 v6 r8 1 fun σ9 =>
  gfR Γ σ9 a0 7 0 fun v10 =>
  bnd (f_X7_at Γ 4 a1 0 1 σ9) fun r12 σ11 =>
  stI Γ σ11 v10 r12 1 fun σ13 =>
  gfI Γ σ13 a0 7 19 fun v14 =>
  pfI Γ σ13 a0 7 19 (v14 + 1) fun σ15 =>
  some ((), σ15)
def f_X7_readsFactor_L90 (Γ : zSh) (x0 : Nat) (x2 : Int32) (σ : zSt) : Option (Int32 × zSt) :=
  pfZ Γ σ x0 7 21 1 fun σ3 =>
  chk (isB x2) (some (x2, σ3))
def f_X7_readsFactor_L74 (Γ : zSh) (x0 : Nat) (x1 : Int32) (x2 : Int32) (σ : zSt) : Option (Int32 × zSt) :=
  chk (isO Γ x0 7) <| bnd (f_X7_readsLetter Γ x0 (x1 - 97) σ) fun _ σ2 =>
  f_X7_readsFactor_L90 Γ x0 x2 σ2
def f_X7_readsFactor_L28 (Γ : zSh) (x0 : Nat) (x1 : Int32) (σ : zSt) : Option (Int32 × zSt) :=
  if x1 = 40 then (gfI Γ σ x0 7 20 fun v6 =>
  pfI Γ σ x0 7 20 (v6 + 1) fun σ7 =>
  gfI Γ σ7 x0 7 19 fun v8 =>
  pfI Γ σ7 x0 7 19 (v8 + 1) fun σ9 =>
  chk (isO Γ x0 7) <| bnd (f_X7_begins Γ x0 σ9) fun _ σ10 =>
  chk (isB 1) (some (1, σ10))) else (if x1 = 97 then (f_X7_readsFactor_L74 Γ x0 x1 1 σ) else (if x1 = 98 then (f_X7_readsFactor_L74 Γ x0 x1 1 σ) else (chk (isO Γ x0 7) <| bnd (f_X7_readsNumber Γ x0 σ) fun r5 σ4 =>
  f_X7_readsFactor_L90 Γ x0 r5 σ4)))
def f_X7_readsFactor_L17 (Γ : zSh) (x0 : Nat) (x1 : Int32) (σ : zSt) : Option (Int32 × zSt) :=
  gfI Γ σ x0 7 21 fun v1 =>
  if v1 = 0 then (f_X7_readsFactor_L28 Γ x0 x1 σ) else (chk (isO Γ x0 7) <| bnd (f_X7_endsFactor Γ x0 σ) fun _ σ11 =>
  f_X7_readsFactor_L28 Γ x0 x1 σ11)
def f_X7_readsFactor (Γ : zSh) (a0 : Nat) (a1 : Int32) (σ : zSt) : Option (Int32 × zSt) :=
  if a1 = 40 then (gfI Γ σ a0 7 20 fun v12 =>
  if v12 = 8 then (chk (isB 0) (some (0, σ))) else (f_X7_readsFactor_L17 Γ a0 a1 σ)) else (f_X7_readsFactor_L17 Γ a0 a1 σ)
def f_X7_starsFactor_L43 (Γ : zSh)  (σ : zSt) : Option (Unit × zSt) :=
  some ((), σ)
def f_X7_starsFactor_L21 (Γ : zSh) (x0 : Nat) (s0 : Int32) (s1 : Nat) (σ : zSt) : Option (Unit × zSt) :=
  pfZ Γ σ s1 7 22 s0 fun σ2 =>
  gfI Γ σ2 x0 7 22 fun v3 =>
  if v3 = 0 then (chk (isO Γ x0 7) <| bnd (f_X7_stars Γ x0 4 5 σ2) fun _ σ4 =>
  chk (isO Γ x0 7) <| bnd (f_X7_minimizes Γ x0 5 4 σ4) fun _ σ5 =>
  f_X7_starsFactor_L43 Γ σ5) else (f_X7_starsFactor_L43 Γ σ2)
def f_X7_starsFactor_L16 (Γ : zSh) (x0 : Nat) (s0 : Nat) (σ : zSt) : Option (Unit × zSt) :=
  f_X7_starsFactor_L21 Γ x0 1 s0 σ
def f_X7_starsFactor (Γ : zSh) (a0 : Nat) (σ : zSt) : Option (Unit × zSt) :=
  gfI Γ σ a0 7 22 fun v1 =>
  if v1 = 0 then (chk (isO Γ a0 7) <| bnd (f_X7_canStar Γ a0 4 σ) fun r7 σ6 =>
  if r7 = 0 then (f_X7_starsFactor_L16 Γ a0 a0 σ6) else (f_X7_starsFactor_L21 Γ a0 0 a0 σ6)) else (f_X7_starsFactor_L16 Γ a0 a0 σ)
def f_X7_readsNext_L42 (Γ : zSh) (x0 : Nat) (x1 : Int32) (σ : zSt) : Option (Int32 × zSt) :=
  chk (isO Γ x0 7) <| bnd (f_X7_readsFactor Γ x0 x1 σ) fun r5 σ4 =>
  chk (isB r5) (some (r5, σ4))
def f_X7_readsNext_L86 (Γ : zSh)  (σ : zSt) : Option (Int32 × zSt) :=
  chk (isB 0) (some (0, σ))
def f_X7_readsNext_L140 (Γ : zSh) (x0 : Nat) (σ : zSt) : Option (Int32 × zSt) :=
  gfI Γ σ x0 7 19 fun v10 =>
  pfI Γ σ x0 7 19 (v10 + 1) fun σ11 =>
  chk (isB 1) (some (1, σ11))
def f_X7_readsNext_L88 (Γ : zSh) (x0 : Nat) (x1 : Int32) (σ : zSt) : Option (Int32 × zSt) :=
  if x1 = 42 then (chk (isO Γ x0 7) <| bnd (f_X7_starsFactor Γ x0 σ) fun _ σ17 =>
  f_X7_readsNext_L140 Γ x0 σ17) else (chk (isO Γ x0 7) <| bnd (f_X7_endsProduct Γ x0 σ) fun _ σ9 =>
  if x1 = 41 then (gfI Γ σ9 x0 7 20 fun v12 =>
  chk (isO Γ x0 7) <| bnd (f_X7_copies Γ x0 (8 + (2 * v12)) 4 σ9) fun _ σ13 =>
  gfI Γ σ13 x0 7 20 fun v14 =>
  pfI Γ σ13 x0 7 20 (v14 - 1) fun σ15 =>
  pfZ Γ σ15 x0 7 21 1 fun σ16 =>
  f_X7_readsNext_L140 Γ x0 σ16) else (f_X7_readsNext_L140 Γ x0 σ9))
def f_X7_readsNext_L73 (Γ : zSh) (x0 : Nat) (x1 : Int32) (σ : zSt) : Option (Int32 × zSt) :=
  if x1 = 41 then (gfI Γ σ x0 7 20 fun v18 =>
  if v18 = 0 then (f_X7_readsNext_L86 Γ σ) else (f_X7_readsNext_L88 Γ x0 x1 σ)) else (f_X7_readsNext_L88 Γ x0 x1 σ)
def f_X7_readsNext (Γ : zSh) (a0 : Nat) (σ : zSt) : Option (Int32 × zSt) :=
  gfR Γ σ a0 7 17 fun v1 =>
  gfI Γ σ a0 7 19 fun v2 =>
  ldI Γ σ v1 v2 fun v3 =>
  if v3 = 97 then (f_X7_readsNext_L42 Γ a0 v3 σ) else (if v3 = 98 then (f_X7_readsNext_L42 Γ a0 v3 σ) else (if v3 = 40 then (f_X7_readsNext_L42 Γ a0 v3 σ) else (bnd (f_X7_in Γ (v3.toInt64) 48 57 σ) fun r7 σ6 =>
  if r7 = 0 then (gfI Γ σ6 a0 7 21 fun v8 =>
  if v8 = 0 then (f_X7_readsNext_L86 Γ σ6) else (if v3 = 42 then (f_X7_readsNext_L73 Γ a0 v3 σ6) else (if v3 = 43 then (f_X7_readsNext_L73 Γ a0 v3 σ6) else (if v3 = 41 then (f_X7_readsNext_L73 Γ a0 v3 σ6) else (f_X7_readsNext_L86 Γ σ6))))) else (f_X7_readsNext_L42 Γ a0 v3 σ6))))
def f_X7_parse_B34 (Γ : zSh) (x0 : Nat) (x1 : Int32) (σ : zSt) : Option ((zSt) ⊕ ((zSt) ⊕ (Int32 × zSt))) :=
  gfI Γ σ x0 7 19 fun v9 =>
  gfI Γ σ x0 7 18 fun v10 =>
  if v10 ≤ v9 then (some (.inr (.inl σ))) else (chk (isO Γ x0 7) <| bnd (f_X7_readsNext Γ x0 σ) fun r12 σ11 =>
  if r12 = 0 then (gfI Γ σ11 x0 7 19 fun v13 =>
  some (.inr (.inr (((-10) - v13), σ11)))) else (some (.inl σ11)))
def f_X7_parse_L74 (Γ : zSh) (x0 : Nat) (σ : zSt) : Option (Int32 × zSt) :=
  gfI Γ σ x0 7 18 fun v16 =>
  some (((-10) - v16), σ)
def f_X7_parse (Γ : zSh) (a0 : Nat) (a1 : Int32) (σ : zSt) : Option (Int32 × zSt) :=
  bnd (f_X7_isSlot Γ a1 σ) fun r2 σ1 =>
  chk (isO Γ a0 7) <| bnd (f_X7_goes Γ a0 r2 1 1 σ1) fun r4 σ3 =>
  if r4 = 0 then (some (0, σ3)) else (pfI Γ σ3 a0 7 19 0 fun σ5 =>
  pfI Γ σ5 a0 7 20 0 fun σ6 =>
  pfZ Γ σ6 a0 7 22 0 fun σ7 =>
  chk (isO Γ a0 7) <| bnd (f_X7_begins Γ a0 σ7) fun _ σ8 =>
  lbr (loopM (fun q => f_X7_parse_B34 Γ a0 a1 q) FUEL σ8) (fun v σ => some (v, σ)) fun o => lb0 o fun σ14 =>
  gfI Γ σ14 a0 7 21 fun v15 =>
  if v15 = 0 then (f_X7_parse_L74 Γ a0 σ14) else (gfI Γ σ14 a0 7 20 fun v17 =>
  if v17 ≤ 0 then (chk (isO Γ a0 7) <| bnd (f_X7_endsProduct Γ a0 σ14) fun _ σ18 =>
  gfI Γ σ18 a0 7 22 fun v19 =>
  if v19 = 0 then (chk (isO Γ a0 7) <| bnd (f_X7_save Γ a0 σ18) fun _ σ20 =>
  chk (isO Γ a0 7) <| bnd (f_X7_copies Γ a0 8 a1 σ20) fun _ σ21 =>
  chk (isO Γ a0 7) <| bnd (f_X7_many Γ a0 a1 σ21) fun r23 σ22 =>
  some (r23, σ22)) else (some ((-2), σ18))) else (f_X7_parse_L74 Γ a0 σ14)))
def f_X7_undo_B35 (Γ : zSh) (x0 : Nat) (x1 : Int32) (σ : zSt) : Option ((Int32 × zSt) ⊕ (zSt)) :=
  if 1252 ≤ x1 then (some (.inr σ)) else (gfR Γ σ x0 7 0 fun v6 =>
  gfR Γ σ x0 7 1 fun v7 =>
  gfI Γ σ x0 7 2 fun v8 =>
  ldI Γ σ v7 ((1252 * v8) + x1) fun v9 =>
  stI Γ σ v6 x1 v9 fun σ10 =>
  some (.inl ((x1 + 1), σ10)))
def f_X7_undo_L13 (Γ : zSh) (x0 : Nat) (s0 : Int32) (s1 : Nat) (σ : zSt) : Option (Int32 × zSt) :=
  chk (isO Γ s1 7) <| bnd (f_X7_goes Γ s1 s0 1 1 σ) fun r3 σ2 =>
  if r3 = 0 then (some (0, σ2)) else (gfI Γ σ2 x0 7 2 fun v4 =>
  pfI Γ σ2 x0 7 2 (v4 - 1) fun σ5 =>
  lb0 (loopM (fun q => f_X7_undo_B35 Γ x0 q.1 q.2) FUEL (0, σ5)) fun σ11 =>
  gfI Γ σ11 x0 7 2 fun v12 =>
  some (v12, σ11))
def f_X7_undo (Γ : zSh) (a0 : Nat) (σ : zSt) : Option (Int32 × zSt) :=
  gfI Γ σ a0 7 2 fun v1 =>
  if v1 ≤ 0 then (f_X7_undo_L13 Γ a0 0 a0 σ) else (f_X7_undo_L13 Γ a0 1 a0 σ)
def f_X7_sumsSlot_B21 (Γ : zSh) (x0 : Nat) (x3 : Int32) (x4 : Int32) (x5 : Int64) (x7 : Int32) (σ : zSt) : Option ((Int64 × Int32 × zSt) ⊕ (Int64 × zSt)) :=
  if x4 ≤ x7 then (some (.inr (x5, σ))) else (gfR Γ σ x0 7 0 fun v3 =>
  bnd (f_X7_initialAt Γ x3 x7 σ) fun r5 σ4 =>
  ldI Γ σ4 v3 r5 fun v6 =>
  gfR Γ σ4 x0 7 0 fun v7 =>
  bnd (f_X7_finalAt Γ x3 x7 σ4) fun r9 σ8 =>
  ldI Γ σ8 v7 r9 fun v10 =>
  some (.inl (((31 * ((31 * x5) + (v6.toInt64))) + (v10.toInt64)), (x7 + 1), σ8)))
def f_X7_sumsSlot_B75 (Γ : zSh) (x0 : Nat) (x3 : Int32) (x4 : Int32) (x5 : Int64) (x7 : Int32) (σ : zSt) : Option ((Int64 × Int32 × zSt) ⊕ (Int64 × zSt)) :=
  if ((2 * x4) * x4) ≤ x7 then (some (.inr (x5, σ))) else (gfR Γ σ x0 7 0 fun v13 =>
  dvI x7 (x4 * x4) fun v14 =>
  rmI x7 (x4 * x4) fun v15 =>
  dvI v15 x4 fun v16 =>
  rmI x7 x4 fun v17 =>
  bnd (f_X7_at Γ x3 v14 v16 v17 σ) fun r19 σ18 =>
  ldI Γ σ18 v13 r19 fun v20 =>
  some (.inl (((31 * x5) + (v20.toInt64)), (x7 + 1), σ18)))
def f_X7_sumsSlot_B139 (Γ : zSh) (x0 : Nat) (x3 : Int32) (x5 : Int64) (x7 : Int32) (σ : zSt) : Option ((Int64 × Int32 × zSt) ⊕ (Int64 × zSt)) :=
  if 3 ≤ x7 then (some (.inr (x5, σ))) else (chk (isO Γ x0 7) <| bnd (f_X7_dimensionOf Γ x0 x3 x7 σ) fun r24 σ23 =>
  some (.inl (((31 * x5) + (r24.toInt64)), (x7 + 1), σ23)))
def f_X7_sumsSlot (Γ : zSh) (a0 : Nat) (a1 : Int64) (a2 : Int32) (σ : zSt) : Option (Int64 × zSt) :=
  chk (isO Γ a0 7) <| bnd (f_X7_many Γ a0 a2 σ) fun r2 σ1 =>
  lb1 (loopM (fun q => f_X7_sumsSlot_B21 Γ a0 a2 r2 q.1 q.2.1 q.2.2) FUEL (((31 * a1) + (r2.toInt64)), 0, σ1)) fun w12 σ11 =>
  lb1 (loopM (fun q => f_X7_sumsSlot_B75 Γ a0 a2 r2 q.1 q.2.1 q.2.2) FUEL (w12, 0, σ11)) fun w22 σ21 =>
  lb1 (loopM (fun q => f_X7_sumsSlot_B139 Γ a0 a2 q.1 q.2.1 q.2.2) FUEL (w22, 0, σ21)) fun w26 σ25 =>
  some (w26, σ25)
def f_X7_digest_B17 (Γ : zSh) (x0 : Nat) (x1 : Int64) (x3 : Int32) (σ : zSt) : Option ((Int64 × Int32 × zSt) ⊕ (Int64 × zSt)) :=
  if 4 ≤ x3 then (some (.inr (x1, σ))) else (chk (isO Γ x0 7) <| bnd (f_X7_sumsSlot Γ x0 x1 x3 σ) fun r4 σ3 =>
  some (.inl (r4, (x3 + 1), σ3)))
def f_X7_digest (Γ : zSh) (a0 : Nat) (σ : zSt) : Option (Int64 × zSt) :=
  pfI Γ σ a0 7 3 0 fun σ1 =>
  gfI Γ σ1 a0 7 18 fun v2 =>
  lb1 (loopM (fun q => f_X7_digest_B17 Γ a0 q.1 q.2.1 q.2.2) FUEL ((93589 + (v2.toInt64)), 0, σ1)) fun w6 σ5 =>
  gfI Γ σ5 a0 7 2 fun v7 =>
  some (((31 * w6) + (v7.toInt64)), σ5)
