theorem lkJ_L_73 : Cond.constantLong RL 73 10007 ∈ tbG := tg_i 681 (by decide +kernel) (by decide +kernel)
theorem lkK_L_7 : Cond.constant RL 7 739982445 ∈ tbG := tg_i 449 (by decide +kernel) (by decide +kernel)
theorem lkK_L_8 : Cond.constant RL 8 2147483647 ∈ tbG := tg_i 453 (by decide +kernel) (by decide +kernel)
theorem lkK_L_19 : Cond.constant RL 19 1000000 ∈ tbG := tg_i 457 (by decide +kernel) (by decide +kernel)
theorem lkM_L_9 : Cond.methodLink RL 9 yL_cell ∈ tbG := tg_i 446 (by decide +kernel) (by decide +kernel)
theorem lkM_L_15 : Cond.methodLink RL 15 yL_up ∈ tbG := tg_i 450 (by decide +kernel) (by decide +kernel)
theorem lkM_L_20 : Cond.methodLink RL 20 yX6_random ∈ tbG := tg_i 458 (by decide +kernel) (by decide +kernel)
theorem lkM_L_26 : Cond.methodLink RL 26 yX6_combine ∈ tbG := tg_i 486 (by decide +kernel) (by decide +kernel)
theorem lkM_L_30 : Cond.methodLink RL 30 yX6_dimension ∈ tbG := tg_i 525 (by decide +kernel) (by decide +kernel)
theorem lkM_L_33 : Cond.methodLink RL 33 yX6_total ∈ tbG := tg_i 529 (by decide +kernel) (by decide +kernel)
theorem lkM_L_36 : Cond.methodLink RL 36 yX6_weight ∈ tbG := tg_i 553 (by decide +kernel) (by decide +kernel)
theorem lkM_L_39 : Cond.methodLink RL 39 yX6_first ∈ tbG := tg_i 563 (by decide +kernel) (by decide +kernel)
theorem lkM_L_43 : Cond.methodLink RL 43 yX6_hankelRank ∈ tbG := tg_i 572 (by decide +kernel) (by decide +kernel)
theorem lkM_L_46 : Cond.methodLink RL 46 yX6_undo ∈ tbG := tg_i 354 (by decide +kernel) (by decide +kernel)
theorem lkM_L_50 : Cond.methodLink RL 50 yX6_states ∈ tbG := tg_i 617 (by decide +kernel) (by decide +kernel)
theorem lkM_L_53 : Cond.methodLink RL 53 yX6_differing ∈ tbG := tg_i 621 (by decide +kernel) (by decide +kernel)
theorem lkM_L_56 : Cond.methodLink RL 56 yX6_derive ∈ tbG := tg_i 629 (by decide +kernel) (by decide +kernel)
theorem lkM_L_59 : Cond.methodLink RL 59 yX6_recurs ∈ tbG := tg_i 653 (by decide +kernel) (by decide +kernel)
theorem lkM_L_63 : Cond.methodLink RL 63 yL_goUp ∈ tbG := tg_i 665 (by decide +kernel) (by decide +kernel)
theorem lkM_L_67 : Cond.methodLink RL 67 yX6_basisWord ∈ tbG := tg_i 668 (by decide +kernel) (by decide +kernel)
theorem lkM_L_70 : Cond.methodLink RL 70 yX6_scale ∈ tbG := tg_i 676 (by decide +kernel) (by decide +kernel)
theorem lkM_L_75 : Cond.methodLink RL 75 yX6_inverse ∈ tbG := tg_i 682 (by decide +kernel) (by decide +kernel)
theorem lkM_L_78 : Cond.methodLink RL 78 yX6_powerWeight ∈ tbG := tg_i 687 (by decide +kernel) (by decide +kernel)
theorem lkM_L_82 : Cond.methodLink RL 82 yL_draws ∈ tbG := tg_i 454 (by decide +kernel) (by decide +kernel)
theorem lkM_L_86 : Cond.methodLink RL 86 yL_isSpread ∈ tbG := tg_i 483 (by decide +kernel) (by decide +kernel)
theorem lkM_L_90 : Cond.methodLink RL 90 yL_isTurned ∈ tbG := tg_i 614 (by decide +kernel) (by decide +kernel)
theorem lkM_L_94 : Cond.methodLink RL 94 yL_isReduced ∈ tbG := tg_i 650 (by decide +kernel) (by decide +kernel)
theorem lkM_L_97 : Cond.methodLink RL 97 yL_isScaled ∈ tbG := tg_i 673 (by decide +kernel) (by decide +kernel)
theorem lkM_L_101 : Cond.methodLink RL 101 yX6_digest ∈ tbG := tg_i 374 (by decide +kernel) (by decide +kernel)
theorem lkM_L_105 : Cond.methodLink RL 105 yX6_begin ∈ tbG := tg_i 235 (by decide +kernel) (by decide +kernel)
theorem wd_L_cell : zWs yL_cell cL_cell 2 (Option.some FieldType.int) 2 := ⟨⟨tg_i 447 (by decide +kernel) (by decide +kernel), tg_i 18 (by decide +kernel) (by decide +kernel), tg_i 448 (by decide +kernel) (by decide +kernel)⟩, by decide +kernel⟩
def rm_L_cell : Room := { frames := 1, cells := 0, slots := 0, locals := 100 }
theorem wd_L_up : zWs yL_up cL_up 2 (Option.some FieldType.int) 2 := ⟨⟨tg_i 451 (by decide +kernel) (by decide +kernel), tg_i 18 (by decide +kernel) (by decide +kernel), tg_i 452 (by decide +kernel) (by decide +kernel)⟩, by decide +kernel⟩
def rm_L_up : Room := { frames := 1, cells := 0, slots := 0, locals := 100 }
theorem wd_L_draws : zWs yL_draws cL_draws 4 (Option.some FieldType.boolean) 2 := ⟨⟨tg_i 455 (by decide +kernel) (by decide +kernel), tg_i 18 (by decide +kernel) (by decide +kernel), tg_i 456 (by decide +kernel) (by decide +kernel)⟩, by decide +kernel⟩
def rm_L_draws : Room := { frames := 8, cells := 12, slots := 72, locals := 170 }
theorem wd_L_isSpread : zWs yL_isSpread cL_isSpread 6 (Option.some FieldType.boolean) 3 := ⟨⟨tg_i 484 (by decide +kernel) (by decide +kernel), tg_i 18 (by decide +kernel) (by decide +kernel), tg_i 485 (by decide +kernel) (by decide +kernel)⟩, by decide +kernel⟩
def rm_L_isSpread : Room := { frames := 8, cells := 144, slots := 864, locals := 261 }
theorem wd_L_isTurned : zWs yL_isTurned cL_isTurned 3 (Option.some FieldType.boolean) 1 := ⟨⟨tg_i 615 (by decide +kernel) (by decide +kernel), tg_i 18 (by decide +kernel) (by decide +kernel), tg_i 616 (by decide +kernel) (by decide +kernel)⟩, by decide +kernel⟩
def rm_L_isTurned : Room := { frames := 8, cells := 120, slots := 720, locals := 245 }
theorem wd_L_goUp : zWs yL_goUp cL_goUp 5 (Option.some FieldType.boolean) 2 := ⟨⟨tg_i 666 (by decide +kernel) (by decide +kernel), tg_i 18 (by decide +kernel) (by decide +kernel), tg_i 667 (by decide +kernel) (by decide +kernel)⟩, by decide +kernel⟩
def rm_L_goUp : Room := { frames := 8, cells := 58, slots := 348, locals := 261 }
theorem wd_L_isReduced : zWs yL_isReduced cL_isReduced 5 (Option.some FieldType.boolean) 2 := ⟨⟨tg_i 651 (by decide +kernel) (by decide +kernel), tg_i 18 (by decide +kernel) (by decide +kernel), tg_i 652 (by decide +kernel) (by decide +kernel)⟩, by decide +kernel⟩
def rm_L_isReduced : Room := { frames := 9, cells := 118, slots := 708, locals := 285 }
theorem wd_L_isScaled : zWs yL_isScaled cL_isScaled 6 (Option.some FieldType.boolean) 3 := ⟨⟨tg_i 674 (by decide +kernel) (by decide +kernel), tg_i 18 (by decide +kernel) (by decide +kernel), tg_i 675 (by decide +kernel) (by decide +kernel)⟩, by decide +kernel⟩
def rm_L_isScaled : Room := { frames := 8, cells := 36, slots := 216, locals := 261 }
def f_L_cell_L20 (xs : Nat → Int32) (L b9 : Nat) (Γ : zSh) (s0 : Int32) (σ : zSt) : Option (Int32 × zSt) :=
  some (s0, σ)
def f_L_cell (xs : Nat → Int32) (L b9 : Nat) (Γ : zSh) (a0 : Nat) (a1 : Int32) (σ : zSt) : Option (Int32 × zSt) :=
  scL b9 L a0 fun v1 =>
  if v1 ≤ a1 then (f_L_cell_L20 xs L b9 Γ (739982445 * (a1 + 461)) σ) else (scI xs b9 L a0 a1 fun v2 =>
  f_L_cell_L20 xs L b9 Γ v2 σ)
def f_L_up (Γ : zSh) (a0 : Int32) (a1 : Int32) (σ : zSt) : Option (Int32 × zSt) :=
  rmI (a0 &&& 2147483647) a1 fun v1 =>
  some (v1, σ)
def f_L_draws_B4_L51 (xs : Nat → Int32) (L b9 : Nat) (Γ : zSh) (x0 : Nat) (x1 : Nat) (x3 : Int32) (s0 : Int32) (σ : zSt) : Option ((Int32 × Int32 × zSt) ⊕ (Int32 × zSt)) :=
  some (.inl (s0, (x3 + 1), σ))
def f_L_draws_B4_L50 (xs : Nat → Int32) (L b9 : Nat) (Γ : zSh) (x0 : Nat) (x1 : Nat) (x3 : Int32) (σ : zSt) : Option ((Int32 × Int32 × zSt) ⊕ (Int32 × zSt)) :=
  f_L_draws_B4_L51 xs L b9 Γ x0 x1 x3 0 σ
def f_L_draws_B4 (xs : Nat → Int32) (L b9 : Nat) (Γ : zSh) (x0 : Nat) (x1 : Nat) (x2 : Int32) (x3 : Int32) (σ : zSt) : Option ((Int32 × Int32 × zSt) ⊕ (Int32 × zSt)) :=
  if 3 ≤ x3 then (some (.inr (x2, σ))) else (if x2 = 0 then (f_L_draws_B4_L50 xs L b9 Γ x0 x1 x3 σ) else (bnd (f_L_cell xs L b9 Γ x1 (2 * x3) σ) fun r2 σ1 =>
  bnd (f_L_up Γ r2 3 σ1) fun r4 σ3 =>
  bnd (f_L_cell xs L b9 Γ x1 ((2 * x3) + 1) σ3) fun r6 σ5 =>
  bnd (f_L_up Γ r6 1000000 σ5) fun r8 σ7 =>
  chk (isO Γ x0 6) <| xonly (f_X6_random Γ x0 x3 r4 r8 σ7) fun r10 σ9 =>
  if r10 < 0 then (f_L_draws_B4_L50 xs L b9 Γ x0 x1 x3 σ9) else (f_L_draws_B4_L51 xs L b9 Γ x0 x1 x3 1 σ9)))
def f_L_draws (xs : Nat → Int32) (L b9 : Nat) (Γ : zSh) (a0 : Nat) (a1 : Nat) (σ : zSt) : Option (Int32 × zSt) :=
  lb1 (loopM (fun q => f_L_draws_B4 xs L b9 Γ a0 a1 q.1 q.2.1 q.2.2) 4 (1, 0, σ)) fun w12 σ11 =>
  chk (isB w12) (some (w12, σ11))
def f_L_isSpread_B101_L161 (Γ : zSh) (x0 : Nat) (x1 : Nat) (x5 : Int32) (s0 : Int32) (σ : zSt) : Option ((Int32 × Int32 × zSt) ⊕ (Int32 × zSt)) :=
  some (.inl (s0, (x5 + 1), σ))
def f_L_isSpread_B101_L160 (Γ : zSh) (x0 : Nat) (x1 : Nat) (x5 : Int32) (σ : zSt) : Option ((Int32 × Int32 × zSt) ⊕ (Int32 × zSt)) :=
  f_L_isSpread_B101_L161 Γ x0 x1 x5 0 σ
def f_L_isSpread_B101 (Γ : zSh) (x0 : Nat) (x1 : Nat) (x3 : Int32) (x5 : Int32) (σ : zSt) : Option ((Int32 × Int32 × zSt) ⊕ (Int32 × zSt)) :=
  if 12 ≤ x5 then (some (.inr (x3, σ))) else (if x3 = 0 then (some (.inr (x3, σ))) else (chk (isO Γ x0 6) <| xonly (f_X6_total Γ x0 3 x5 σ) fun r4 σ3 =>
  chk (isO Γ x1 6) <| xonly (f_X6_total Γ x1 3 x5 σ3) fun r6 σ5 =>
  if r4 = r6 then (chk (isO Γ x0 6) <| xonly (f_X6_weight Γ x0 3 ((7 * x5) + 3) σ5) fun r8 σ7 =>
  chk (isO Γ x1 6) <| xonly (f_X6_weight Γ x1 3 ((7 * x5) + 3) σ7) fun r10 σ9 =>
  if r8 = r10 then (f_L_isSpread_B101_L161 Γ x0 x1 x5 1 σ9) else (f_L_isSpread_B101_L160 Γ x0 x1 x5 σ9)) else (f_L_isSpread_B101_L160 Γ x0 x1 x5 σ5)))
def f_L_isSpread_L242 (Γ : zSh) (s0 : Int32) (σ : zSt) : Option (Int32 × zSt) :=
  chk (isB s0) (some (s0, σ))
def f_L_isSpread_L241 (Γ : zSh)  (σ : zSt) : Option (Int32 × zSt) :=
  f_L_isSpread_L242 Γ 0 σ
def f_L_isSpread_L97 (Γ : zSh) (x0 : Nat) (x1 : Nat) (s0 : Int32) (σ : zSt) : Option (Int32 × zSt) :=
  lb1 (loopM (fun q => f_L_isSpread_B101 Γ x0 x1 q.1 q.2.1 q.2.2) 13 (s0, 0, σ)) fun w12 σ11 =>
  if w12 = 0 then (f_L_isSpread_L241 Γ σ11) else (chk (isO Γ x0 6) <| xonly (f_X6_first Γ x0 3 σ11) fun r14 σ13 =>
  chk (isO Γ x1 6) <| xonly (f_X6_first Γ x1 3 σ13) fun r16 σ15 =>
  if r14 = r16 then (chk (isO Γ x0 6) <| xonly (f_X6_hankelRank Γ x0 3 7 σ15) fun r18 σ17 =>
  chk (isO Γ x1 6) <| xonly (f_X6_hankelRank Γ x1 3 7 σ17) fun r20 σ19 =>
  if r18 = r20 then (chk (isO Γ x0 6) <| xonly (f_X6_undo Γ x0 σ19) fun r22 σ21 =>
  if r22 < 0 then (f_L_isSpread_L241 Γ σ21) else (chk (isO Γ x0 6) <| xonly (f_X6_undo Γ x0 σ21) fun r24 σ23 =>
  if r24 < 0 then (f_L_isSpread_L241 Γ σ23) else (chk (isO Γ x1 6) <| xonly (f_X6_undo Γ x1 σ23) fun r26 σ25 =>
  if r26 < 0 then (f_L_isSpread_L241 Γ σ25) else (chk (isO Γ x1 6) <| xonly (f_X6_undo Γ x1 σ25) fun r28 σ27 =>
  if r28 < 0 then (f_L_isSpread_L241 Γ σ27) else (chk (isO Γ x1 6) <| xonly (f_X6_undo Γ x1 σ27) fun r30 σ29 =>
  if r30 < 0 then (f_L_isSpread_L241 Γ σ29) else (f_L_isSpread_L242 Γ 1 σ29)))))) else (f_L_isSpread_L241 Γ σ19)) else (f_L_isSpread_L241 Γ σ15))
def f_L_isSpread_L96 (Γ : zSh) (x0 : Nat) (x1 : Nat) (σ : zSt) : Option (Int32 × zSt) :=
  f_L_isSpread_L97 Γ x0 x1 0 σ
def f_L_isSpread_L42 (Γ : zSh) (x0 : Nat) (x1 : Nat) (x2 : Int32) (x3 : Int32) (s0 : Int32) (σ : zSt) : Option (Int32 × zSt) :=
  if x3 = 0 then (f_L_isSpread_L96 Γ x0 x1 σ) else (chk (isO Γ x1 6) <| xonly (f_X6_combine Γ x1 3 0 2 x2 σ) fun r32 σ31 =>
  if r32 < 0 then (f_L_isSpread_L96 Γ x0 x1 σ31) else (chk (isO Γ x1 6) <| xonly (f_X6_combine Γ x1 2 0 1 x2 σ31) fun r34 σ33 =>
  if r34 < 0 then (f_L_isSpread_L96 Γ x0 x1 σ33) else (chk (isO Γ x1 6) <| xonly (f_X6_combine Γ x1 3 2 3 0 σ33) fun r36 σ35 =>
  if r36 < 0 then (f_L_isSpread_L96 Γ x0 x1 σ35) else (chk (isO Γ x1 6) <| xonly (f_X6_dimension Γ x1 3 2 σ35) fun r38 σ37 =>
  if r38 = s0 then (f_L_isSpread_L97 Γ x0 x1 1 σ37) else (f_L_isSpread_L96 Γ x0 x1 σ37)))))
def f_L_isSpread_L27 (Γ : zSh) (x0 : Nat) (x1 : Nat) (x2 : Int32) (s0 : Int32) (σ : zSt) : Option (Int32 × zSt) :=
  if s0 = 0 then (f_L_isSpread_L42 Γ x0 x1 x2 s0 0 σ) else (chk (isO Γ x0 6) <| xonly (f_X6_dimension Γ x0 3 2 σ) fun r40 σ39 =>
  f_L_isSpread_L42 Γ x0 x1 x2 s0 r40 σ39)
def f_L_isSpread_L26 (Γ : zSh) (x0 : Nat) (x1 : Nat) (x2 : Int32) (σ : zSt) : Option (Int32 × zSt) :=
  f_L_isSpread_L27 Γ x0 x1 x2 0 σ
def f_L_isSpread (Γ : zSh) (a0 : Nat) (a1 : Nat) (a2 : Int32) (σ : zSt) : Option (Int32 × zSt) :=
  chk (isO Γ a0 6) <| xonly (f_X6_combine Γ a0 3 1 2 0 σ) fun r2 σ1 =>
  if r2 < 0 then (f_L_isSpread_L26 Γ a0 a1 a2 σ1) else (chk (isO Γ a0 6) <| xonly (f_X6_combine Γ a0 3 0 3 a2 σ1) fun r42 σ41 =>
  if r42 < 0 then (f_L_isSpread_L26 Γ a0 a1 a2 σ41) else (f_L_isSpread_L27 Γ a0 a1 a2 1 σ41))
def f_L_isTurned_B4_L146 (Γ : zSh) (x0 : Nat) (x2 : Int32) (s0 : Int32) (σ : zSt) : Option ((Int32 × Int32 × zSt) ⊕ (Int32 × zSt)) :=
  some (.inl (s0, (x2 + 1), σ))
def f_L_isTurned_B4_L145 (Γ : zSh) (x0 : Nat) (x2 : Int32) (σ : zSt) : Option ((Int32 × Int32 × zSt) ⊕ (Int32 × zSt)) :=
  f_L_isTurned_B4_L146 Γ x0 x2 0 σ
def f_L_isTurned_B4_L116 (Γ : zSh) (x0 : Nat) (x2 : Int32) (s0 : Int32) (σ : zSt) : Option ((Int32 × Int32 × zSt) ⊕ (Int32 × zSt)) :=
  if s0 = 0 then (f_L_isTurned_B4_L145 Γ x0 x2 σ) else (chk (isO Γ x0 6) <| xonly (f_X6_derive Γ x0 0 0 1 σ) fun r4 σ3 =>
  if r4 < 0 then (f_L_isTurned_B4_L145 Γ x0 x2 σ3) else (chk (isO Γ x0 6) <| xonly (f_X6_derive Γ x0 1 1 1 σ3) fun r6 σ5 =>
  if r6 < 0 then (f_L_isTurned_B4_L145 Γ x0 x2 σ5) else (f_L_isTurned_B4_L146 Γ x0 x2 1 σ5)))
def f_L_isTurned_B4_L115 (Γ : zSh) (x0 : Nat) (x2 : Int32) (σ : zSt) : Option ((Int32 × Int32 × zSt) ⊕ (Int32 × zSt)) :=
  f_L_isTurned_B4_L116 Γ x0 x2 0 σ
def f_L_isTurned_B4_L55 (Γ : zSh) (x0 : Nat) (x2 : Int32) (s0 : Int32) (σ : zSt) : Option ((Int32 × Int32 × zSt) ⊕ (Int32 × zSt)) :=
  if s0 = 0 then (f_L_isTurned_B4_L115 Γ x0 x2 σ) else (chk (isO Γ x0 6) <| xonly (f_X6_derive Γ x0 2 2 1 σ) fun r8 σ7 =>
  if r8 < 0 then (f_L_isTurned_B4_L115 Γ x0 x2 σ7) else (chk (isO Γ x0 6) <| xonly (f_X6_derive Γ x0 0 0 1 σ7) fun r10 σ9 =>
  if r10 < 0 then (f_L_isTurned_B4_L115 Γ x0 x2 σ9) else (chk (isO Γ x0 6) <| xonly (f_X6_derive Γ x0 1 1 1 σ9) fun r12 σ11 =>
  if r12 < 0 then (f_L_isTurned_B4_L115 Γ x0 x2 σ11) else (chk (isO Γ x0 6) <| xonly (f_X6_combine Γ x0 3 0 1 x2 σ11) fun r14 σ13 =>
  if r14 < 0 then (f_L_isTurned_B4_L115 Γ x0 x2 σ13) else (chk (isO Γ x0 6) <| xonly (f_X6_differing Γ x0 2 3 σ13) fun r16 σ15 =>
  if r16 = (-1) then (f_L_isTurned_B4_L116 Γ x0 x2 1 σ15) else (f_L_isTurned_B4_L115 Γ x0 x2 σ15))))))
def f_L_isTurned_B4_L54 (Γ : zSh) (x0 : Nat) (x2 : Int32) (σ : zSt) : Option ((Int32 × Int32 × zSt) ⊕ (Int32 × zSt)) :=
  f_L_isTurned_B4_L55 Γ x0 x2 0 σ
def f_L_isTurned_B4 (Γ : zSh) (x0 : Nat) (x1 : Int32) (x2 : Int32) (σ : zSt) : Option ((Int32 × Int32 × zSt) ⊕ (Int32 × zSt)) :=
  if 2 ≤ x2 then (some (.inr (x1, σ))) else (if x1 = 0 then (some (.inr (x1, σ))) else (chk (isO Γ x0 6) <| xonly (f_X6_combine Γ x0 2 0 1 x2 σ) fun r2 σ1 =>
  if r2 < 0 then (f_L_isTurned_B4_L54 Γ x0 x2 σ1) else (chk (isO Γ x0 6) <| xonly (f_X6_combine Γ x0 3 1 0 x2 σ1) fun r18 σ17 =>
  chk (isO Γ x0 6) <| xonly (f_X6_states Γ x0 2 σ17) fun r20 σ19 =>
  if r18 = r20 then (chk (isO Γ x0 6) <| xonly (f_X6_differing Γ x0 2 3 σ19) fun r22 σ21 =>
  if r22 = (-1) then (f_L_isTurned_B4_L55 Γ x0 x2 1 σ21) else (f_L_isTurned_B4_L54 Γ x0 x2 σ21)) else (f_L_isTurned_B4_L54 Γ x0 x2 σ19))))
def f_L_isTurned (Γ : zSh) (a0 : Nat) (σ : zSt) : Option (Int32 × zSt) :=
  lb1 (loopM (fun q => f_L_isTurned_B4 Γ a0 q.1 q.2.1 q.2.2) 3 (1, 0, σ)) fun w24 σ23 =>
  chk (isB w24) (some (w24, σ23))
def f_L_goUp_B12_L46 (Γ : zSh) (x0 : Nat) (x1 : Int32) (x3 : Int32) (x4 : Int32) (s0 : Int32) (σ : zSt) : Option ((Int32 × Int32 × zSt) ⊕ (Int32 × zSt)) :=
  some (.inl (s0, (x4 + 1), σ))
def f_L_goUp_B12_L45 (Γ : zSh) (x0 : Nat) (x1 : Int32) (x3 : Int32) (x4 : Int32) (σ : zSt) : Option ((Int32 × Int32 × zSt) ⊕ (Int32 × zSt)) :=
  f_L_goUp_B12_L46 Γ x0 x1 x3 x4 0 σ
def f_L_goUp_B12 (Γ : zSh) (x0 : Nat) (x1 : Int32) (x3 : Int32) (x2 : Int32) (x4 : Int32) (σ : zSt) : Option ((Int32 × Int32 × zSt) ⊕ (Int32 × zSt)) :=
  if x3 ≤ x4 then (some (.inr (x2, σ))) else (if x2 = 0 then (f_L_goUp_B12_L45 Γ x0 x1 x3 x4 σ) else (chk (isO Γ x0 6) <| xonly (f_X6_basisWord Γ x0 x1 x4 σ) fun r4 σ3 =>
  chk (isO Γ x0 6) <| xonly (f_X6_basisWord Γ x0 x1 (x4 - 1) σ3) fun r6 σ5 =>
  if r4 ≤ r6 then (f_L_goUp_B12_L45 Γ x0 x1 x3 x4 σ5) else (f_L_goUp_B12_L46 Γ x0 x1 x3 x4 1 σ5)))
def f_L_goUp (Γ : zSh) (a0 : Nat) (a1 : Int32) (σ : zSt) : Option (Int32 × zSt) :=
  chk (isO Γ a0 6) <| xonly (f_X6_dimension Γ a0 a1 0 σ) fun r2 σ1 =>
  lb1 (loopM (fun q => f_L_goUp_B12 Γ a0 a1 r2 q.1 q.2.1 q.2.2) 14 (1, 1, σ1)) fun w8 σ7 =>
  chk (isB w8) (some (w8, σ7))
def f_L_isReduced_B4_L74 (Γ : zSh) (x0 : Nat) (x1 : Int32) (x3 : Int32) (s0 : Int32) (σ : zSt) : Option ((Int32 × Int32 × zSt) ⊕ (Int32 × zSt)) :=
  some (.inl (s0, (x3 + 1), σ))
def f_L_isReduced_B4_L73 (Γ : zSh) (x0 : Nat) (x1 : Int32) (x3 : Int32) (σ : zSt) : Option ((Int32 × Int32 × zSt) ⊕ (Int32 × zSt)) :=
  f_L_isReduced_B4_L74 Γ x0 x1 x3 0 σ
def f_L_isReduced_B4 (Γ : zSh) (x0 : Nat) (x1 : Int32) (x2 : Int32) (x3 : Int32) (σ : zSt) : Option ((Int32 × Int32 × zSt) ⊕ (Int32 × zSt)) :=
  if 7 ≤ x3 then (some (.inr (x2, σ))) else (if x2 = 0 then (some (.inr (x2, σ))) else (chk (isO Γ x0 6) <| xonly (f_X6_derive Γ x0 3 x1 x3 σ) fun r2 σ1 =>
  chk (isO Γ x0 6) <| xonly (f_X6_differing Γ x0 x1 3 σ1) fun r4 σ3 =>
  if r4 = (-1) then (chk (isO Γ x0 6) <| xonly (f_X6_states Γ x0 x1 σ3) fun r6 σ5 =>
  if r6 < r2 then (f_L_isReduced_B4_L73 Γ x0 x1 x3 σ5) else (chk (isO Γ x0 6) <| xonly (f_X6_dimension Γ x0 3 2 σ5) fun r8 σ7 =>
  chk (isO Γ x0 6) <| xonly (f_X6_dimension Γ x0 x1 2 σ7) fun r10 σ9 =>
  if r8 = r10 then (chk (isO Γ x0 6) <| xonly (f_X6_dimension Γ x0 3 0 σ9) fun r12 σ11 =>
  if r12 = r2 then (f_L_isReduced_B4_L74 Γ x0 x1 x3 1 σ11) else (f_L_isReduced_B4_L73 Γ x0 x1 x3 σ11)) else (f_L_isReduced_B4_L73 Γ x0 x1 x3 σ9))) else (f_L_isReduced_B4_L73 Γ x0 x1 x3 σ3)))
def f_L_isReduced_L202 (Γ : zSh) (s0 : Int32) (σ : zSt) : Option (Int32 × zSt) :=
  chk (isB s0) (some (s0, σ))
def f_L_isReduced_L201 (Γ : zSh)  (σ : zSt) : Option (Int32 × zSt) :=
  f_L_isReduced_L202 Γ 0 σ
def f_L_isReduced_L189 (Γ : zSh) (x0 : Nat) (x1 : Int32) (σ : zSt) : Option (Int32 × zSt) :=
  bnd (f_L_goUp Γ x0 x1 σ) fun r18 σ17 =>
  if r18 = 0 then (f_L_isReduced_L201 Γ σ17) else (f_L_isReduced_L202 Γ 1 σ17)
def f_L_isReduced_L148 (Γ : zSh) (x0 : Nat) (x1 : Int32) (s0 : Int32) (σ : zSt) : Option (Int32 × zSt) :=
  chk (isO Γ x0 6) <| xonly (f_X6_states Γ x0 x1 σ) fun r16 σ15 =>
  if s0 = 0 then (f_L_isReduced_L201 Γ σ15) else (if r16 = 0 then (f_L_isReduced_L189 Γ x0 x1 σ15) else (chk (isO Γ x0 6) <| xonly (f_X6_recurs Γ x0 x1 r16 σ15) fun r20 σ19 =>
  if r20 = 0 then (f_L_isReduced_L201 Γ σ19) else (if 11 < r16 then (f_L_isReduced_L189 Γ x0 x1 σ19) else (chk (isO Γ x0 6) <| xonly (f_X6_recurs Γ x0 x1 (r16 + 1) σ19) fun r22 σ21 =>
  if r22 = 0 then (f_L_isReduced_L201 Γ σ21) else (f_L_isReduced_L189 Γ x0 x1 σ21)))))
def f_L_isReduced_L147 (Γ : zSh) (x0 : Nat) (x1 : Int32) (σ : zSt) : Option (Int32 × zSt) :=
  f_L_isReduced_L148 Γ x0 x1 0 σ
def f_L_isReduced (Γ : zSh) (a0 : Nat) (a1 : Int32) (σ : zSt) : Option (Int32 × zSt) :=
  lb1 (loopM (fun q => f_L_isReduced_B4 Γ a0 a1 q.1 q.2.1 q.2.2) 3 (1, 5, σ)) fun w14 σ13 =>
  if w14 = 0 then (f_L_isReduced_L147 Γ a0 a1 σ13) else (chk (isO Γ a0 6) <| xonly (f_X6_dimension Γ a0 3 2 σ13) fun r24 σ23 =>
  chk (isO Γ a0 6) <| xonly (f_X6_states Γ a0 3 σ23) fun r26 σ25 =>
  if r24 = r26 then (chk (isO Γ a0 6) <| xonly (f_X6_derive Γ a0 2 a1 1 σ25) fun r28 σ27 =>
  if r28 < 0 then (f_L_isReduced_L147 Γ a0 a1 σ27) else (chk (isO Γ a0 6) <| xonly (f_X6_dimension Γ a0 2 2 σ27) fun r30 σ29 =>
  chk (isO Γ a0 6) <| xonly (f_X6_states Γ a0 3 σ29) fun r32 σ31 =>
  if r30 = r32 then (chk (isO Γ a0 6) <| xonly (f_X6_derive Γ a0 2 2 1 σ31) fun r34 σ33 =>
  if r34 < 0 then (f_L_isReduced_L147 Γ a0 a1 σ33) else (chk (isO Γ a0 6) <| xonly (f_X6_differing Γ a0 a1 2 σ33) fun r36 σ35 =>
  if r36 = (-1) then (f_L_isReduced_L148 Γ a0 a1 1 σ35) else (f_L_isReduced_L147 Γ a0 a1 σ35))) else (f_L_isReduced_L147 Γ a0 a1 σ31))) else (f_L_isReduced_L147 Γ a0 a1 σ25))
def f_L_isScaled_L204 (Γ : zSh) (s0 : Int32) (σ : zSt) : Option (Int32 × zSt) :=
  chk (isB s0) (some (s0, σ))
def f_L_isScaled_L203 (Γ : zSh)  (σ : zSt) : Option (Int32 × zSt) :=
  f_L_isScaled_L204 Γ 0 σ
def f_L_isScaled_L181 (Γ : zSh) (x0 : Nat) (x2 : Int32) (x3 : Int32) (s0 : Int32) (σ : zSt) : Option (Int32 × zSt) :=
  if s0 = 0 then (f_L_isScaled_L203 Γ σ) else (chk (isO Γ x0 6) <| xonly (f_X6_powerWeight Γ x0 0 x2 1 σ) fun r8 σ7 =>
  if r8 = x3 then (f_L_isScaled_L204 Γ 1 σ7) else (f_L_isScaled_L203 Γ σ7))
def f_L_isScaled_L180 (Γ : zSh) (x0 : Nat) (x2 : Int32) (x3 : Int32) (σ : zSt) : Option (Int32 × zSt) :=
  f_L_isScaled_L181 Γ x0 x2 x3 0 σ
def f_L_isScaled_L119 (Γ : zSh) (x0 : Nat) (x2 : Int32) (x3 : Int32) (s0 : Int32) (σ : zSt) : Option (Int32 × zSt) :=
  if s0 = 0 then (f_L_isScaled_L180 Γ x0 x2 x3 σ) else (chk (isO Γ x0 6) <| xonly (f_X6_derive Γ x0 2 0 0 σ) fun r10 σ9 =>
  if r10 < 0 then (f_L_isScaled_L180 Γ x0 x2 x3 σ9) else (chk (isO Γ x0 6) <| xonly (f_X6_scale Γ x0 2 10006 σ9) fun r12 σ11 =>
  if r12 < 0 then (f_L_isScaled_L180 Γ x0 x2 x3 σ11) else (chk (isO Γ x0 6) <| xonly (f_X6_combine Γ x0 3 0 2 0 σ11) fun r14 σ13 =>
  if r14 < 0 then (f_L_isScaled_L180 Γ x0 x2 x3 σ13) else (chk (isO Γ x0 6) <| xonly (f_X6_first Γ x0 3 σ13) fun r16 σ15 =>
  if r16 = (-1) then (chk (isO Γ x0 6) <| xonly (f_X6_dimension Γ x0 3 2 σ15) fun r18 σ17 =>
  if r18 = 0 then (f_L_isScaled_L181 Γ x0 x2 x3 1 σ17) else (f_L_isScaled_L180 Γ x0 x2 x3 σ17)) else (f_L_isScaled_L180 Γ x0 x2 x3 σ15)))))
def f_L_isScaled_L118 (Γ : zSh) (x0 : Nat) (x2 : Int32) (x3 : Int32) (σ : zSt) : Option (Int32 × zSt) :=
  f_L_isScaled_L119 Γ x0 x2 x3 0 σ
def f_L_isScaled_L114 (Γ : zSh) (x0 : Nat) (x2 : Int32) (x3 : Int32) (σ : zSt) : Option (Int32 × zSt) :=
  f_L_isScaled_L119 Γ x0 x2 x3 1 σ
def f_L_isScaled_L80 (Γ : zSh) (x0 : Nat) (x1 : Int32) (x2 : Int32) (x3 : Int32) (s0 : Int32) (σ : zSt) : Option (Int32 × zSt) :=
  if s0 = 0 then (f_L_isScaled_L118 Γ x0 x2 x3 σ) else (if x1 = 0 then (f_L_isScaled_L114 Γ x0 x2 x3 σ) else (chk (isO Γ x0 6) <| xonly (f_X6_inverse Γ x0 x1 σ) fun r20 σ19 =>
  chk (isO Γ x0 6) <| xonly (f_X6_scale Γ x0 2 r20 σ19) fun r22 σ21 =>
  if r22 < 0 then (f_L_isScaled_L118 Γ x0 x2 x3 σ21) else (chk (isO Γ x0 6) <| xonly (f_X6_differing Γ x0 2 0 σ21) fun r24 σ23 =>
  if r24 = (-1) then (f_L_isScaled_L114 Γ x0 x2 x3 σ23) else (f_L_isScaled_L118 Γ x0 x2 x3 σ23))))
def f_L_isScaled_L79 (Γ : zSh) (x0 : Nat) (x1 : Int32) (x2 : Int32) (x3 : Int32) (σ : zSt) : Option (Int32 × zSt) :=
  f_L_isScaled_L80 Γ x0 x1 x2 x3 0 σ
def f_L_isScaled (Γ : zSh) (a0 : Nat) (a1 : Int32) (a2 : Int32) (σ : zSt) : Option (Int32 × zSt) :=
  chk (isO Γ a0 6) <| xonly (f_X6_weight Γ a0 0 a2 σ) fun r2 σ1 =>
  chk (isO Γ a0 6) <| xonly (f_X6_total Γ a0 0 9 σ1) fun r4 σ3 =>
  chk (isO Γ a0 6) <| xonly (f_X6_derive Γ a0 2 0 0 σ3) fun r6 σ5 =>
  if r6 < 0 then (f_L_isScaled_L79 Γ a0 a1 a2 r2 σ5) else (chk (isO Γ a0 6) <| xonly (f_X6_scale Γ a0 2 a1 σ5) fun r26 σ25 =>
  if r26 < 0 then (f_L_isScaled_L79 Γ a0 a1 a2 r2 σ25) else (chk (isO Γ a0 6) <| xonly (f_X6_weight Γ a0 2 a2 σ25) fun r28 σ27 =>
  rmL ((r2.toInt64) * (a1.toInt64)) 10007 fun v29 =>
  if r28 = (v29.toInt32) then (chk (isO Γ a0 6) <| xonly (f_X6_total Γ a0 2 9 σ27) fun r31 σ30 =>
  rmL ((r4.toInt64) * (a1.toInt64)) 10007 fun v32 =>
  if r31 = (v32.toInt32) then (f_L_isScaled_L80 Γ a0 a1 a2 r2 1 σ30) else (f_L_isScaled_L79 Γ a0 a1 a2 r2 σ30)) else (f_L_isScaled_L79 Γ a0 a1 a2 r2 σ27)))
def f_L_law_L183 (xs : Nat → Int32) (L b9 : Nat) (Γ : zSh) (s0 : Int32) (σ : zSt) : Option (Int32 × zSt) :=
  chk (isB s0) (some (s0, σ))
def f_L_law_L182 (xs : Nat → Int32) (L b9 : Nat) (Γ : zSh)  (σ : zSt) : Option (Int32 × zSt) :=
  f_L_law_L183 xs L b9 Γ 0 σ
def f_L_law_L119 (xs : Nat → Int32) (L b9 : Nat) (Γ : zSh) (x0 : Nat) (x1 : Nat) (s0 : Int32) (σ : zSt) : Option (Int32 × zSt) :=
  chk (isO Γ x1 6) <| bnd (f_X6_digest Γ x1 σ) fun r4 σ3 =>
  if s0 = 0 then (f_L_law_L182 xs L b9 Γ σ3) else (bnd (f_L_cell xs L b9 Γ x0 8 σ3) fun r6 σ5 =>
  bnd (f_L_up Γ r6 4 σ5) fun r8 σ7 =>
  bnd (f_L_cell xs L b9 Γ x0 9 σ7) fun r10 σ9 =>
  bnd (f_L_up Γ r10 13 σ9) fun r12 σ11 =>
  chk (isO Γ x1 6) <| xonly (f_X6_begin Γ x1 r8 r12 σ11) fun r14 σ13 =>
  if r14 < 0 then (f_L_law_L182 xs L b9 Γ σ13) else (chk (isO Γ x1 6) <| xonly (f_X6_undo Γ x1 σ13) fun r16 σ15 =>
  if r16 = 3 then (chk (isO Γ x1 6) <| bnd (f_X6_digest Γ x1 σ15) fun r18 σ17 =>
  if (lg_cmp r18 (r4 - 1)) = 0 then (f_L_law_L183 xs L b9 Γ 1 σ17) else (f_L_law_L182 xs L b9 Γ σ17)) else (f_L_law_L182 xs L b9 Γ σ15)))
def f_L_law_L118 (xs : Nat → Int32) (L b9 : Nat) (Γ : zSh) (x0 : Nat) (x1 : Nat) (σ : zSt) : Option (Int32 × zSt) :=
  f_L_law_L119 xs L b9 Γ x0 x1 0 σ
def f_L_law_L55 (xs : Nat → Int32) (L b9 : Nat) (Γ : zSh) (x0 : Nat) (x1 : Nat) (s0 : Int32) (σ : zSt) : Option (Int32 × zSt) :=
  if s0 = 0 then (f_L_law_L118 xs L b9 Γ x0 x1 σ) else (bnd (f_L_isTurned Γ x1 σ) fun r20 σ19 =>
  if r20 = 0 then (f_L_law_L118 xs L b9 Γ x0 x1 σ19) else (bnd (f_L_isReduced Γ x1 0 σ19) fun r22 σ21 =>
  if r22 = 0 then (f_L_law_L118 xs L b9 Γ x0 x1 σ21) else (bnd (f_L_isReduced Γ x1 1 σ21) fun r24 σ23 =>
  if r24 = 0 then (f_L_law_L118 xs L b9 Γ x0 x1 σ23) else (bnd (f_L_cell xs L b9 Γ x0 6 σ23) fun r26 σ25 =>
  bnd (f_L_up Γ r26 10007 σ25) fun r28 σ27 =>
  bnd (f_L_cell xs L b9 Γ x0 7 σ27) fun r30 σ29 =>
  bnd (f_L_up Γ r30 5000 σ29) fun r32 σ31 =>
  bnd (f_L_isScaled Γ x1 r28 r32 σ31) fun r34 σ33 =>
  if r34 = 0 then (f_L_law_L118 xs L b9 Γ x0 x1 σ33) else (f_L_law_L119 xs L b9 Γ x0 x1 1 σ33)))))
def f_L_law_L54 (xs : Nat → Int32) (L b9 : Nat) (Γ : zSh) (x0 : Nat) (x1 : Nat) (σ : zSt) : Option (Int32 × zSt) :=
  f_L_law_L55 xs L b9 Γ x0 x1 0 σ
def f_L_law_R16 (xs : Nat → Int32) (L b9 : Nat) (Γ : zSh) (x0 : Nat) (x1 : Nat) (x2 : Nat) (σ : zSt) : Option (Int32 × zSt) :=
  bnd (f_L_draws xs L b9 Γ x1 x0 σ) fun r2 σ1 =>
  if r2 = 0 then (f_L_law_L54 xs L b9 Γ x0 x1 σ1) else (bnd (f_L_draws xs L b9 Γ x2 x0 σ1) fun r36 σ35 =>
  if r36 = 0 then (f_L_law_L54 xs L b9 Γ x0 x1 σ35) else (bnd (f_L_isSpread Γ x1 x2 1 σ35) fun r38 σ37 =>
  if r38 = 0 then (f_L_law_L54 xs L b9 Γ x0 x1 σ37) else (bnd (f_L_isSpread Γ x1 x2 2 σ37) fun r40 σ39 =>
  if r40 = 0 then (f_L_law_L54 xs L b9 Γ x0 x1 σ39) else (f_L_law_L55 xs L b9 Γ x0 x1 1 σ39))))
