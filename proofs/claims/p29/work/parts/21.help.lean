section
variable {p : Program} {l : Launch} {e : Env} {s : State} {m : MethodId} {args : Array Value} {below : List Frame} {meth : Method} {c : Code} {Q : State → Prop} {D : va_G} {cA : Nat → ClassId} {B0 : Nat} {Z : Nat → Prop}
set_option maxHeartbeats 4000000 in
set_option maxRecDepth 100000 in
theorem t_L_cell_L20 (hC : zC p l s m args meth c cL_cell 2 RL D cA B0) (hr : meth.sig.returnType = (Option.some FieldType.int)) {b9 L : Nat} {xs : Nat → Int32} (hX9 : va_X b9 L xs s s.heap ∧ b9 < s.heap.size ∧ ¬ FR B0 b9) {Γ : zSh} {s0 : Int32} {σ : zSt} {out : (Int32 × zSt)} (hf : f_L_cell_L20 xs L b9 Γ s0 σ = some out) {H : Heap} {locs : List Loc} {ls : Array Slot} (hw : zO D cA B0 Γ σ (ZB B0) s.heap H locs) (hl : lv_has ls 2 []) :
    W p l e rm_L_cell s m args below meth c H locs 0 0 (MQ below (zQ1 D cA B0 (some (.int out.1)) Γ out.2 (ZB B0)) args s 0 0 (FR B0)) (F0 m 20 ls [.int s0]) := by
  have hx := hC.1
  have hb := hC.2.1
  unfold f_L_cell_L20 at hf
  refine W.widen (k := 0) (n := 0) (Nat.le_of_ble_eq_true rfl) (Nat.le_of_ble_eq_true rfl) ?_
  first | (obtain ⟨rfl, rfl⟩ := sp_inv hf) | (obtain rfl := Option.some.inj hf)
  exact W.iret hx hb hr (z_ret hw rfl) hw.2.2.2.2.2 dL_cell_20 hC.2.2.2.2.2.1
set_option maxHeartbeats 4000000 in
set_option maxRecDepth 100000 in
theorem m_L_cell (h9 : l.stackTraces = false) {b9 L : Nat} {xs : Nat → Int32} {Γ : zSh} {a0 : Nat} {a1 : Int32} {σ : zSt} {r : Int32} {σ2 : zSt} (hf : f_L_cell xs L b9 Γ a0 a1 σ = some (r, σ2)) : Met l yL_cell (wq yL_cell cL_cell 2 (Option.some FieldType.int)) rm_L_cell (zQ0S b9 L xs D cA B0 [.ref a0, .int a1] Γ σ (ZB B0)) (zQ1 D cA B0 (some (.int r)) Γ σ2 (ZB B0)) 0 0 (FR B0) := by
  refine z_ofWS h9 (by decide) (Nat.le_of_ble_eq_true rfl) ?_
  intro p e s m args below meth c ls hC hr _ hX9 hw hl
  have hx := hC.1
  have hb := hC.2.1
  have hl : lv_has ls 2 [(0, .ref a0), (1, .int a1)] := hl
  unfold f_L_cell at hf
  refine lv_iload_n hx hb dL_cell_0 rfl (lv_at hl 1 rfl) ?_
  refine lv_aload_n hx hb dL_cell_1 rfl (lv_at hl 0 rfl) ?_
  obtain ⟨v1, hg, hf⟩ := scL_inv hf
  refine r_slen hC hw hX9 hg dL_cell_2 ?_
  refine lv_icmp_ge (tgt := 12) hx hb dL_cell_3 (by decide) (fun hc => ?_) (fun hc => ?_)
  · rw [if_pos hc] at hf
    refine lv_ldc (v := 739982445) hx hb hC.2.2.2.1 (hC.2.2.2.2.1 _ lkK_L_7) dL_cell_12 ?_
    refine lv_iload_n hx hb dL_cell_14 rfl (lv_at hl 1 rfl) ?_
    refine lv_sipush (v := 461) hx hb dL_cell_15 (by decide) ?_
    refine lv_iadd hx hb dL_cell_18 ?_
    refine lv_imul hx hb dL_cell_19 ?_
    exact t_L_cell_L20 hC hr hX9 hf hw (lv_sub hl [] rfl)
  · rw [if_neg hc] at hf
    refine lv_aload_n hx hb dL_cell_6 rfl (lv_at hl 0 rfl) ?_
    refine lv_iload_n hx hb dL_cell_7 rfl (lv_at hl 1 rfl) ?_
    obtain ⟨v2, hg, hf⟩ := scI_inv hf
    refine r_sld hC hw hX9 hg dL_cell_8 ?_
    refine lv_goto (tgt := 20) hx hb dL_cell_9 (by decide) ?_
    exact t_L_cell_L20 hC hr hX9 hf hw (lv_sub hl [] rfl)
set_option maxHeartbeats 4000000 in
set_option maxRecDepth 100000 in
theorem m_L_up (h9 : l.stackTraces = false) {Γ : zSh} {a0 : Int32} {a1 : Int32} {σ : zSt} {r : Int32} {σ2 : zSt} (hf : f_L_up Γ a0 a1 σ = some (r, σ2)) : Met l yL_up (wq yL_up cL_up 2 (Option.some FieldType.int)) rm_L_up (zQ0 D cA B0 [.int a0, .int a1] Γ σ (ZB B0)) (zQ1 D cA B0 (some (.int r)) Γ σ2 (ZB B0)) 0 0 (FR B0) := by
  refine z_ofW h9 (by decide) (Nat.le_of_ble_eq_true rfl) ?_
  intro p e s m args below meth c ls hC hr _ hw hl
  have hx := hC.1
  have hb := hC.2.1
  have hl : lv_has ls 2 [(0, .int a0), (1, .int a1)] := hl
  unfold f_L_up at hf
  refine lv_iload_n hx hb dL_up_0 rfl (lv_at hl 0 rfl) ?_
  refine lv_ldc (v := 2147483647) hx hb hC.2.2.2.1 (hC.2.2.2.2.1 _ lkK_L_8) dL_up_1 ?_
  refine lv_iand hx hb dL_up_3 ?_
  refine lv_iload_n hx hb dL_up_4 rfl (lv_at hl 1 rfl) ?_
  obtain ⟨v1, hg, hf⟩ := rmI_inv hf
  refine r_rmI hC hg dL_up_5 ?_
  refine W.widen (k := 0) (n := 0) (Nat.le_of_ble_eq_true rfl) (Nat.le_of_ble_eq_true rfl) ?_
  first | (obtain ⟨rfl, rfl⟩ := sp_inv hf) | (obtain rfl := Option.some.inj hf)
  exact W.iret hx hb hr (z_ret hw rfl) hw.2.2.2.2.2 dL_up_6 hC.2.2.2.2.2.1
set_option maxHeartbeats 4000000 in
set_option maxRecDepth 100000 in
theorem t_L_draws_B4_L51 (hC : zC p l s m args meth c cL_draws 4 RL D cA B0) {C0 S0 : Nat} (h0 : C0 + 3 ≤ 12 ∧ S0 + 18 ≤ 72) {b9 L : Nat} {xs : Nat → Int32} (hX9 : va_X b9 L xs s s.heap ∧ b9 < s.heap.size ∧ ¬ FR B0 b9) {Γ : zSh} {x0 : Nat} {x1 : Nat} {x3 : Int32} {s0 : Int32}  {σ : zSt} {out : ((Int32 × Int32 × zSt) ⊕ (Int32 × zSt))} (hf : f_L_draws_B4_L51 xs L b9 Γ x0 x1 x3 s0 σ = some out) {H : Heap} {locs : List Loc} {ls : Array Slot} (hw : zO D cA B0 Γ σ (ZB B0) s.heap H locs) (hl : lv_has ls 4 [(0, .ref x0), (1, .ref x1), (3, .int x3)])
    (kI : ∀ (z2 : Int32) (z3 : Int32) (σ2 : zSt), out = .inl (z2, z3, σ2) → ∀ (H : Heap) (locs : List Loc) (ls : Array Slot), zO D cA B0 Γ σ2 (ZB B0) s.heap H locs → lv_has ls 4 [(0, .ref x0), (1, .ref x1), (2, .int z2), (3, .int z3)] → W p l e rm_L_draws s m args below meth c H locs (C0 + 3) (S0 + 18) Q (F0 m 4 ls []))
    (kE : ∀ (z2 : Int32) (σ2 : zSt), out = .inr (z2, σ2) → ∀ (H : Heap) (locs : List Loc) (ls : Array Slot), zO D cA B0 Γ σ2 (ZB B0) s.heap H locs → lv_has ls 4 [(2, .int z2)] → W p l e rm_L_draws s m args below meth c H locs (C0 + 3) (S0 + 18) Q (F0 m 58 ls [])) :
    W p l e rm_L_draws s m args below meth c H locs (C0 + 3) (S0 + 18) Q (F0 m 51 ls [.int s0]) := by
  have hx := hC.1
  have hb := hC.2.1
  unfold f_L_draws_B4_L51 at hf
  refine lv_istore_n (lv' := [(2, .int s0), (0, .ref x0), (1, .ref x1), (3, .int x3)]) hx hb dL_draws_51 rfl hl (Nat.le_of_ble_eq_true rfl) rfl (fun ls hl => ?_)
  refine lv_iinc (v := (x3 + 1)) (lv' := [(3, .int (x3 + 1)), (2, .int s0), (0, .ref x0), (1, .ref x1)]) hx hb dL_draws_52 hl (k := 3) rfl rfl (Nat.le_of_ble_eq_true rfl) rfl (fun ls hl => ?_)
  refine lv_goto (tgt := 4) hx hb dL_draws_55 (by decide) ?_
  refine W.widen (k := C0 + 3) (n := S0 + 18) (by omega) (by omega) ?_
  exact kI s0 (x3 + 1) σ (Option.some.inj hf).symm _ _ _ hw (lv_sub hl [2, 3, 1, 0] rfl)
set_option maxHeartbeats 4000000 in
set_option maxRecDepth 100000 in
theorem t_L_draws_B4_L50 (hC : zC p l s m args meth c cL_draws 4 RL D cA B0) {C0 S0 : Nat} (h0 : C0 + 3 ≤ 12 ∧ S0 + 18 ≤ 72) {b9 L : Nat} {xs : Nat → Int32} (hX9 : va_X b9 L xs s s.heap ∧ b9 < s.heap.size ∧ ¬ FR B0 b9) {Γ : zSh} {x0 : Nat} {x1 : Nat} {x3 : Int32}  {σ : zSt} {out : ((Int32 × Int32 × zSt) ⊕ (Int32 × zSt))} (hf : f_L_draws_B4_L50 xs L b9 Γ x0 x1 x3 σ = some out) {H : Heap} {locs : List Loc} {ls : Array Slot} (hw : zO D cA B0 Γ σ (ZB B0) s.heap H locs) (hl : lv_has ls 4 [(0, .ref x0), (1, .ref x1), (3, .int x3)])
    (kI : ∀ (z2 : Int32) (z3 : Int32) (σ2 : zSt), out = .inl (z2, z3, σ2) → ∀ (H : Heap) (locs : List Loc) (ls : Array Slot), zO D cA B0 Γ σ2 (ZB B0) s.heap H locs → lv_has ls 4 [(0, .ref x0), (1, .ref x1), (2, .int z2), (3, .int z3)] → W p l e rm_L_draws s m args below meth c H locs (C0 + 3) (S0 + 18) Q (F0 m 4 ls []))
    (kE : ∀ (z2 : Int32) (σ2 : zSt), out = .inr (z2, σ2) → ∀ (H : Heap) (locs : List Loc) (ls : Array Slot), zO D cA B0 Γ σ2 (ZB B0) s.heap H locs → lv_has ls 4 [(2, .int z2)] → W p l e rm_L_draws s m args below meth c H locs (C0 + 3) (S0 + 18) Q (F0 m 58 ls [])) :
    W p l e rm_L_draws s m args below meth c H locs (C0 + 3) (S0 + 18) Q (F0 m 50 ls []) := by
  have hx := hC.1
  have hb := hC.2.1
  unfold f_L_draws_B4_L50 at hf
  refine lv_iconst (v := 0) hx hb dL_draws_50 (by decide) ?_
  exact t_L_draws_B4_L51 hC h0 hX9 hf hw (lv_sub hl [0, 1, 2] rfl) kI kE
set_option maxHeartbeats 8000000 in
set_option maxRecDepth 100000 in
theorem t_L_draws_B4 (hC : zC p l s m args meth c cL_draws 4 RL D cA B0) {C0 S0 : Nat} (h0 : C0 + 3 ≤ 12 ∧ S0 + 18 ≤ 72) {b9 L : Nat} {xs : Nat → Int32} (hX9 : va_X b9 L xs s s.heap ∧ b9 < s.heap.size ∧ ¬ FR B0 b9) {Γ : zSh} {x0 : Nat} {x1 : Nat} {x2 : Int32} {x3 : Int32} {σ : zSt} {out : ((Int32 × Int32 × zSt) ⊕ (Int32 × zSt))} (hf : f_L_draws_B4 xs L b9 Γ x0 x1 x2 x3 σ = some out) {H : Heap} {locs : List Loc} {ls : Array Slot} (hw : zO D cA B0 Γ σ (ZB B0) s.heap H locs) (hl : lv_has ls 4 [(0, .ref x0), (1, .ref x1), (2, .int x2), (3, .int x3)])
    (kI : ∀ (z2 : Int32) (z3 : Int32) (σ2 : zSt), out = .inl (z2, z3, σ2) → ∀ (H : Heap) (locs : List Loc) (ls : Array Slot), zO D cA B0 Γ σ2 (ZB B0) s.heap H locs → lv_has ls 4 [(0, .ref x0), (1, .ref x1), (2, .int z2), (3, .int z3)] → W p l e rm_L_draws s m args below meth c H locs (C0 + 3) (S0 + 18) Q (F0 m 4 ls []))
    (kE : ∀ (z2 : Int32) (σ2 : zSt), out = .inr (z2, σ2) → ∀ (H : Heap) (locs : List Loc) (ls : Array Slot), zO D cA B0 Γ σ2 (ZB B0) s.heap H locs → lv_has ls 4 [(2, .int z2)] → W p l e rm_L_draws s m args below meth c H locs (C0 + 3) (S0 + 18) Q (F0 m 58 ls [])) :
    W p l e rm_L_draws s m args below meth c H locs (C0 + 0) (S0 + 0) Q (F0 m 4 ls []) := by
  have hx := hC.1
  have hb := hC.2.1
  unfold f_L_draws_B4 at hf
  refine lv_iload_n hx hb dL_draws_4 rfl (lv_at hl 3 rfl) ?_
  refine lv_iconst (v := 3) hx hb dL_draws_5 (by decide) ?_
  refine lv_icmp_ge (tgt := 58) hx hb dL_draws_6 (by decide) (fun hc => ?_) (fun hc => ?_)
  · rw [if_pos hc] at hf
    refine W.widen (k := C0 + 3) (n := S0 + 18) (by omega) (by omega) ?_
    exact kE x2 σ (Option.some.inj hf).symm _ _ _ hw (lv_sub hl [2] rfl)
  · rw [if_neg hc] at hf
    refine lv_iload_n hx hb dL_draws_9 rfl (lv_at hl 2 rfl) ?_
    refine lv_if_eq (tgt := 50) hx hb dL_draws_10 (by decide) (fun hc => ?_) (fun hc => ?_)
    · rw [if_pos hc] at hf
      refine W.widen (k := C0 + 3) (n := S0 + 18) (by omega) (by omega) ?_
      exact t_L_draws_B4_L50 hC h0 hX9 hf hw (lv_sub hl [0, 1, 3] rfl) kI kE
    · rw [if_neg hc] at hf
      refine lv_aload_n hx hb dL_draws_13 rfl (lv_at hl 0 rfl) ?_
      refine lv_iload_n hx hb dL_draws_14 rfl (lv_at hl 3 rfl) ?_
      refine lv_aload_n hx hb dL_draws_15 rfl (lv_at hl 1 rfl) ?_
      refine lv_iconst (v := 2) hx hb dL_draws_16 (by decide) ?_
      refine lv_iload_n hx hb dL_draws_17 rfl (lv_at hl 3 rfl) ?_
      refine lv_imul hx hb dL_draws_18 ?_
      obtain ⟨r2, σ1, hk, hf⟩ := bnd_inv hf
      refine z_callSS (As := [.ref x1, .int (2 * x3)]) (rest := [.int x3, .ref x0]) (m_L_cell hC.2.2.2.2.2.2.2.2 hk) hC hw hX9 wd_L_cell lkM_L_9 rfl ⟨rfl, rfl⟩ ⟨(Nat.le_of_ble_eq_true rfl), (Nat.le_of_ble_eq_true rfl)⟩ hl.1 rfl (Nat.le_of_ble_eq_true rfl) dL_draws_19 ⟨(by show _ ≤ (12 : Nat); omega), (by show _ ≤ (72 : Nat); omega)⟩ (fun H locs hw => ?_)
      refine lv_iconst (v := 3) hx hb dL_draws_22 (by decide) ?_
      obtain ⟨r4, σ3, hk, hf⟩ := bnd_inv hf
      refine z_callS (As := [.int r2, .int 3]) (rest := [.int x3, .ref x0]) (m_L_up hC.2.2.2.2.2.2.2.2 hk) hC hw wd_L_up lkM_L_15 rfl ⟨rfl, rfl⟩ ⟨(Nat.le_of_ble_eq_true rfl), (Nat.le_of_ble_eq_true rfl)⟩ hl.1 rfl (Nat.le_of_ble_eq_true rfl) dL_draws_23 ⟨(by show _ ≤ (12 : Nat); omega), (by show _ ≤ (72 : Nat); omega)⟩ (fun H locs hw => ?_)
      refine lv_aload_n hx hb dL_draws_26 rfl (lv_at hl 1 rfl) ?_
      refine lv_iconst (v := 2) hx hb dL_draws_27 (by decide) ?_
      refine lv_iload_n hx hb dL_draws_28 rfl (lv_at hl 3 rfl) ?_
      refine lv_imul hx hb dL_draws_29 ?_
      refine lv_iconst (v := 1) hx hb dL_draws_30 (by decide) ?_
      refine lv_iadd hx hb dL_draws_31 ?_
      obtain ⟨r6, σ5, hk, hf⟩ := bnd_inv hf
      refine z_callSS (As := [.ref x1, .int ((2 * x3) + 1)]) (rest := [.int r4, .int x3, .ref x0]) (m_L_cell hC.2.2.2.2.2.2.2.2 hk) hC hw hX9 wd_L_cell lkM_L_9 rfl ⟨rfl, rfl⟩ ⟨(Nat.le_of_ble_eq_true rfl), (Nat.le_of_ble_eq_true rfl)⟩ hl.1 rfl (Nat.le_of_ble_eq_true rfl) dL_draws_32 ⟨(by show _ ≤ (12 : Nat); omega), (by show _ ≤ (72 : Nat); omega)⟩ (fun H locs hw => ?_)
      refine lv_ldc (v := 1000000) hx hb hC.2.2.2.1 (hC.2.2.2.2.1 _ lkK_L_19) dL_draws_35 ?_
      obtain ⟨r8, σ7, hk, hf⟩ := bnd_inv hf
      refine z_callS (As := [.int r6, .int 1000000]) (rest := [.int r4, .int x3, .ref x0]) (m_L_up hC.2.2.2.2.2.2.2.2 hk) hC hw wd_L_up lkM_L_15 rfl ⟨rfl, rfl⟩ ⟨(Nat.le_of_ble_eq_true rfl), (Nat.le_of_ble_eq_true rfl)⟩ hl.1 rfl (Nat.le_of_ble_eq_true rfl) dL_draws_37 ⟨(by show _ ≤ (12 : Nat); omega), (by show _ ≤ (72 : Nat); omega)⟩ (fun H locs hw => ?_)
      obtain ⟨ho, hf⟩ := chk_inv hf
      obtain ⟨r10, σ9, hk, hf⟩ := xonly_inv hf
      refine z_ocallV (As := [.int x3, .int r4, .int r8]) (rest := []) (m_X6_random hC.2.2.2.2.2.2.2.2 hk) hC hw wd_X6_random lkM_L_20 (isO_sh ho) rfl rfl ⟨rfl, rfl⟩ ⟨(Nat.le_of_ble_eq_true rfl), (Nat.le_of_ble_eq_true rfl)⟩ hl.1 rfl (Nat.le_of_ble_eq_true rfl) dL_draws_40 ⟨(by show _ ≤ (12 : Nat); omega), (by show _ ≤ (72 : Nat); omega)⟩ (fun H locs hw => ?_)
      refine lv_if_lt (tgt := 50) hx hb dL_draws_43 (by decide) (fun hc => ?_) (fun hc => ?_)
      · rw [if_pos hc] at hf
        exact t_L_draws_B4_L50 hC h0 hX9 hf hw (lv_sub hl [0, 1, 3] rfl) kI kE
      · rw [if_neg hc] at hf
        refine lv_iconst (v := 1) hx hb dL_draws_46 (by decide) ?_
        refine lv_goto (tgt := 51) hx hb dL_draws_47 (by decide) ?_
        exact t_L_draws_B4_L51 hC h0 hX9 hf hw (lv_sub hl [0, 1, 3] rfl) kI kE
set_option maxHeartbeats 4000000 in
theorem l_L_draws_B4 (hC : zC p l s m args meth c cL_draws 4 RL D cA B0) {b9 L : Nat} {xs : Nat → Int32} (hX9 : va_X b9 L xs s s.heap ∧ b9 < s.heap.size ∧ ¬ FR B0 b9) {Γ : zSh} {x0 : Nat} {x1 : Nat} {w2 : Int32} {σ2 : zSt} (kE : ∀ (H : Heap) (locs : List Loc) (ls : Array Slot), zO D cA B0 Γ σ2 (ZB B0) s.heap H locs → lv_has ls 4 [(2, .int w2)] → W p l e rm_L_draws s m args below meth c H locs 12 72 Q (F0 m 58 ls [])) :
    ∀ (n k : Nat), n + k = 4 → ∀ (x2 : Int32) (x3 : Int32) (σ : zSt), loopM (fun q => f_L_draws_B4 xs L b9 Γ x0 x1 q.1 q.2.1 q.2.2) n (x2, x3, σ) = some (w2, σ2) → ∀ (H : Heap) (locs : List Loc) (ls : Array Slot), zO D cA B0 Γ σ (ZB B0) s.heap H locs → lv_has ls 4 [(0, .ref x0), (1, .ref x1), (2, .int x2), (3, .int x3)] → W p l e rm_L_draws s m args below meth c H locs (0 + 3 * k) (0 + 18 * k) Q (F0 m 4 ls []) := by
  intro n
  induction n with
  | zero => intro k _ x2 x3 σ h; exact absurd h (by simp [loopM])
  | succ n ih =>
    intro k hnk x2 x3 σ h H locs ls hw hl
    obtain ⟨r, h1, h2, h3⟩ := loopM_inv h
    have hk : k + 1 ≤ 4 := by omega
    refine t_L_draws_B4 (C0 := 0 + 3 * k) (S0 := 0 + 18 * k) hC ⟨by omega, by omega⟩ hX9 h1 hw hl (fun z2 z3 s2 e H locs ls hw hl => ?_) (fun z2 s2 e H locs ls hw hl => ?_)
    · exact W.widen (k := 0 + 3 * (k + 1)) (n := 0 + 18 * (k + 1)) (by omega) (by omega) (ih (k + 1) (by omega) z2 z3 s2 (h2 _ e) H locs ls hw hl)
    · cases h3 _ e
      exact W.widen (k := 12) (n := 72) (by omega) (by omega) (kE H locs ls hw hl)
set_option maxHeartbeats 4000000 in
set_option maxRecDepth 100000 in
theorem m_L_draws (h9 : l.stackTraces = false) {b9 L : Nat} {xs : Nat → Int32} {Γ : zSh} {a0 : Nat} {a1 : Nat} {σ : zSt} {r : Int32} {σ2 : zSt} (hf : f_L_draws xs L b9 Γ a0 a1 σ = some (r, σ2)) : Met l yL_draws (wq yL_draws cL_draws 4 (Option.some FieldType.boolean)) rm_L_draws (zQ0S b9 L xs D cA B0 [.ref a0, .ref a1] Γ σ (ZB B0)) (zQ1 D cA B0 (some (.int r)) Γ σ2 (ZB B0)) 12 72 (FR B0) := by
  refine z_ofWS h9 (by decide) (Nat.le_of_ble_eq_true rfl) ?_
  intro p e s m args below meth c ls hC hr _ hX9 hw hl
  have hx := hC.1
  have hb := hC.2.1
  have hl : lv_has ls 4 [(0, .ref a0), (1, .ref a1)] := hl
  unfold f_L_draws at hf
  refine lv_iconst (v := 1) hx hb dL_draws_0 (by decide) ?_
  refine lv_istore_n (lv' := [(2, .int 1), (0, .ref a0), (1, .ref a1)]) hx hb dL_draws_1 rfl hl (Nat.le_of_ble_eq_true rfl) rfl (fun ls hl => ?_)
  refine lv_iconst (v := 0) hx hb dL_draws_2 (by decide) ?_
  refine lv_istore_n (lv' := [(3, .int 0), (2, .int 1), (0, .ref a0), (1, .ref a1)]) hx hb dL_draws_3 rfl hl (Nat.le_of_ble_eq_true rfl) rfl (fun ls hl => ?_)
  obtain ⟨w12, σ11, hk, hf⟩ := lb1_inv hf
  refine l_L_draws_B4 hC hX9 (fun H locs ls hw hl => ?_) 4 0 rfl 1 0 σ hk _ _ _ hw (lv_sub hl [2, 3, 1, 0] rfl)
  refine lv_iload_n hx hb dL_draws_58 rfl (lv_at hl 0 rfl) ?_
  obtain ⟨hz, hf⟩ := chk_inv hf
  refine W.widen (k := 12) (n := 72) (Nat.le_of_ble_eq_true rfl) (Nat.le_of_ble_eq_true rfl) ?_
  first | (obtain ⟨rfl, rfl⟩ := sp_inv hf) | (obtain rfl := Option.some.inj hf)
  exact W.zret hx hb hr (isB_n hz).1 (z_ret hw rfl) hw.2.2.2.2.2 dL_draws_59 hC.2.2.2.2.2.1
set_option maxHeartbeats 4000000 in
set_option maxRecDepth 100000 in
theorem t_L_isSpread_B101_L161 (hC : zC p l s m args meth c cL_isSpread 6 RL D cA B0) {C0 S0 : Nat} (h0 : C0 + 8 ≤ 144 ∧ S0 + 48 ≤ 864) {Γ : zSh} {x0 : Nat} {x1 : Nat} {x5 : Int32} {s0 : Int32}  {σ : zSt} {out : ((Int32 × Int32 × zSt) ⊕ (Int32 × zSt))} (hf : f_L_isSpread_B101_L161 Γ x0 x1 x5 s0 σ = some out) {H : Heap} {locs : List Loc} {ls : Array Slot} (hw : zO D cA B0 Γ σ (ZB B0) s.heap H locs) (hl : lv_has ls 6 [(0, .ref x0), (1, .ref x1), (5, .int x5)])
    (kI : ∀ (z3 : Int32) (z5 : Int32) (σ2 : zSt), out = .inl (z3, z5, σ2) → ∀ (H : Heap) (locs : List Loc) (ls : Array Slot), zO D cA B0 Γ σ2 (ZB B0) s.heap H locs → lv_has ls 6 [(0, .ref x0), (1, .ref x1), (3, .int z3), (5, .int z5)] → W p l e rm_L_isSpread s m args below meth c H locs (C0 + 8) (S0 + 48) Q (F0 m 101 ls []))
    (kE : ∀ (z3 : Int32) (σ2 : zSt), out = .inr (z3, σ2) → ∀ (H : Heap) (locs : List Loc) (ls : Array Slot), zO D cA B0 Γ σ2 (ZB B0) s.heap H locs → lv_has ls 6 [(0, .ref x0), (1, .ref x1), (3, .int z3)] → W p l e rm_L_isSpread s m args below meth c H locs (C0 + 8) (S0 + 48) Q (F0 m 168 ls [])) :
    W p l e rm_L_isSpread s m args below meth c H locs (C0 + 8) (S0 + 48) Q (F0 m 161 ls [.int s0]) := by
  have hx := hC.1
  have hb := hC.2.1
  unfold f_L_isSpread_B101_L161 at hf
  refine lv_istore_n (lv' := [(3, .int s0), (0, .ref x0), (1, .ref x1), (5, .int x5)]) hx hb dL_isSpread_161 rfl hl (Nat.le_of_ble_eq_true rfl) rfl (fun ls hl => ?_)
  refine lv_iinc (v := (x5 + 1)) (lv' := [(5, .int (x5 + 1)), (3, .int s0), (0, .ref x0), (1, .ref x1)]) hx hb dL_isSpread_162 hl (k := 3) rfl rfl (Nat.le_of_ble_eq_true rfl) rfl (fun ls hl => ?_)
  refine lv_goto (tgt := 101) hx hb dL_isSpread_165 (by decide) ?_
  refine W.widen (k := C0 + 8) (n := S0 + 48) (by omega) (by omega) ?_
  exact kI s0 (x5 + 1) σ (Option.some.inj hf).symm _ _ _ hw (lv_sub hl [2, 3, 1, 0] rfl)
set_option maxHeartbeats 4000000 in
set_option maxRecDepth 100000 in
theorem t_L_isSpread_B101_L160 (hC : zC p l s m args meth c cL_isSpread 6 RL D cA B0) {C0 S0 : Nat} (h0 : C0 + 8 ≤ 144 ∧ S0 + 48 ≤ 864) {Γ : zSh} {x0 : Nat} {x1 : Nat} {x5 : Int32}  {σ : zSt} {out : ((Int32 × Int32 × zSt) ⊕ (Int32 × zSt))} (hf : f_L_isSpread_B101_L160 Γ x0 x1 x5 σ = some out) {H : Heap} {locs : List Loc} {ls : Array Slot} (hw : zO D cA B0 Γ σ (ZB B0) s.heap H locs) (hl : lv_has ls 6 [(0, .ref x0), (1, .ref x1), (5, .int x5)])
    (kI : ∀ (z3 : Int32) (z5 : Int32) (σ2 : zSt), out = .inl (z3, z5, σ2) → ∀ (H : Heap) (locs : List Loc) (ls : Array Slot), zO D cA B0 Γ σ2 (ZB B0) s.heap H locs → lv_has ls 6 [(0, .ref x0), (1, .ref x1), (3, .int z3), (5, .int z5)] → W p l e rm_L_isSpread s m args below meth c H locs (C0 + 8) (S0 + 48) Q (F0 m 101 ls []))
    (kE : ∀ (z3 : Int32) (σ2 : zSt), out = .inr (z3, σ2) → ∀ (H : Heap) (locs : List Loc) (ls : Array Slot), zO D cA B0 Γ σ2 (ZB B0) s.heap H locs → lv_has ls 6 [(0, .ref x0), (1, .ref x1), (3, .int z3)] → W p l e rm_L_isSpread s m args below meth c H locs (C0 + 8) (S0 + 48) Q (F0 m 168 ls [])) :
    W p l e rm_L_isSpread s m args below meth c H locs (C0 + 8) (S0 + 48) Q (F0 m 160 ls []) := by
  have hx := hC.1
  have hb := hC.2.1
  unfold f_L_isSpread_B101_L160 at hf
  refine lv_iconst (v := 0) hx hb dL_isSpread_160 (by decide) ?_
  exact t_L_isSpread_B101_L161 hC h0 hf hw (lv_sub hl [0, 1, 2] rfl) kI kE
set_option maxHeartbeats 8000000 in
set_option maxRecDepth 100000 in
theorem t_L_isSpread_B101 (hC : zC p l s m args meth c cL_isSpread 6 RL D cA B0) {C0 S0 : Nat} (h0 : C0 + 8 ≤ 144 ∧ S0 + 48 ≤ 864) {Γ : zSh} {x0 : Nat} {x1 : Nat} {x3 : Int32} {x5 : Int32} {σ : zSt} {out : ((Int32 × Int32 × zSt) ⊕ (Int32 × zSt))} (hf : f_L_isSpread_B101 Γ x0 x1 x3 x5 σ = some out) {H : Heap} {locs : List Loc} {ls : Array Slot} (hw : zO D cA B0 Γ σ (ZB B0) s.heap H locs) (hl : lv_has ls 6 [(0, .ref x0), (1, .ref x1), (3, .int x3), (5, .int x5)])
    (kI : ∀ (z3 : Int32) (z5 : Int32) (σ2 : zSt), out = .inl (z3, z5, σ2) → ∀ (H : Heap) (locs : List Loc) (ls : Array Slot), zO D cA B0 Γ σ2 (ZB B0) s.heap H locs → lv_has ls 6 [(0, .ref x0), (1, .ref x1), (3, .int z3), (5, .int z5)] → W p l e rm_L_isSpread s m args below meth c H locs (C0 + 8) (S0 + 48) Q (F0 m 101 ls []))
    (kE : ∀ (z3 : Int32) (σ2 : zSt), out = .inr (z3, σ2) → ∀ (H : Heap) (locs : List Loc) (ls : Array Slot), zO D cA B0 Γ σ2 (ZB B0) s.heap H locs → lv_has ls 6 [(0, .ref x0), (1, .ref x1), (3, .int z3)] → W p l e rm_L_isSpread s m args below meth c H locs (C0 + 8) (S0 + 48) Q (F0 m 168 ls [])) :
    W p l e rm_L_isSpread s m args below meth c H locs (C0 + 0) (S0 + 0) Q (F0 m 101 ls []) := by
  have hx := hC.1
  have hb := hC.2.1
  unfold f_L_isSpread_B101 at hf
  refine lv_iload hx hb dL_isSpread_101 (lv_at hl 3 rfl) ?_
  refine lv_bipush (v := 12) hx hb dL_isSpread_103 (by decide) ?_
  refine lv_icmp_ge (tgt := 168) hx hb dL_isSpread_105 (by decide) (fun hc => ?_) (fun hc => ?_)
  · rw [if_pos hc] at hf
    refine W.widen (k := C0 + 8) (n := S0 + 48) (by omega) (by omega) ?_
    exact kE x3 σ (Option.some.inj hf).symm _ _ _ hw (lv_sub hl [0, 1, 2] rfl)
  · rw [if_neg hc] at hf
    refine lv_iload_n hx hb dL_isSpread_108 rfl (lv_at hl 2 rfl) ?_
    refine lv_if_eq (tgt := 168) hx hb dL_isSpread_109 (by decide) (fun hc => ?_) (fun hc => ?_)
    · rw [if_pos hc] at hf
      refine W.widen (k := C0 + 8) (n := S0 + 48) (by omega) (by omega) ?_
      exact kE x3 σ (Option.some.inj hf).symm _ _ _ hw (lv_sub hl [0, 1, 2] rfl)
    · rw [if_neg hc] at hf
      refine lv_aload_n hx hb dL_isSpread_112 rfl (lv_at hl 0 rfl) ?_
      refine lv_iconst (v := 3) hx hb dL_isSpread_113 (by decide) ?_
      refine lv_iload hx hb dL_isSpread_114 (lv_at hl 3 rfl) ?_
      obtain ⟨ho, hf⟩ := chk_inv hf
      obtain ⟨r4, σ3, hk, hf⟩ := xonly_inv hf
      refine z_ocallV (As := [.int 3, .int x5]) (rest := []) (m_X6_total hC.2.2.2.2.2.2.2.2 hk) hC hw wd_X6_total lkM_L_33 (isO_sh ho) rfl rfl ⟨rfl, rfl⟩ ⟨(Nat.le_of_ble_eq_true rfl), (Nat.le_of_ble_eq_true rfl)⟩ hl.1 rfl (Nat.le_of_ble_eq_true rfl) dL_isSpread_116 ⟨(by show _ ≤ (144 : Nat); omega), (by show _ ≤ (864 : Nat); omega)⟩ (fun H locs hw => ?_)
      refine lv_aload_n hx hb dL_isSpread_119 rfl (lv_at hl 1 rfl) ?_
      refine lv_iconst (v := 3) hx hb dL_isSpread_120 (by decide) ?_
      refine lv_iload hx hb dL_isSpread_121 (lv_at hl 3 rfl) ?_
      obtain ⟨ho, hf⟩ := chk_inv hf
      obtain ⟨r6, σ5, hk, hf⟩ := xonly_inv hf
      refine z_ocallV (As := [.int 3, .int x5]) (rest := [.int r4]) (m_X6_total hC.2.2.2.2.2.2.2.2 hk) hC hw wd_X6_total lkM_L_33 (isO_sh ho) rfl rfl ⟨rfl, rfl⟩ ⟨(Nat.le_of_ble_eq_true rfl), (Nat.le_of_ble_eq_true rfl)⟩ hl.1 rfl (Nat.le_of_ble_eq_true rfl) dL_isSpread_123 ⟨(by show _ ≤ (144 : Nat); omega), (by show _ ≤ (864 : Nat); omega)⟩ (fun H locs hw => ?_)
      refine lv_icmp_ne (tgt := 160) hx hb dL_isSpread_126 (by decide) (fun hc => ?_) (fun hc => ?_)
      · rw [if_neg hc] at hf
        refine W.widen (k := C0 + 8) (n := S0 + 48) (by omega) (by omega) ?_
        exact t_L_isSpread_B101_L160 hC h0 hf hw (lv_sub hl [0, 1, 3] rfl) kI kE
      · rw [if_pos hc] at hf
        refine lv_aload_n hx hb dL_isSpread_129 rfl (lv_at hl 0 rfl) ?_
        refine lv_iconst (v := 3) hx hb dL_isSpread_130 (by decide) ?_
        refine lv_bipush (v := 7) hx hb dL_isSpread_131 (by decide) ?_
        refine lv_iload hx hb dL_isSpread_133 (lv_at hl 3 rfl) ?_
        refine lv_imul hx hb dL_isSpread_135 ?_
        refine lv_iconst (v := 3) hx hb dL_isSpread_136 (by decide) ?_
        refine lv_iadd hx hb dL_isSpread_137 ?_
        obtain ⟨ho, hf⟩ := chk_inv hf
        obtain ⟨r8, σ7, hk, hf⟩ := xonly_inv hf
        refine z_ocallV (As := [.int 3, .int ((7 * x5) + 3)]) (rest := []) (m_X6_weight hC.2.2.2.2.2.2.2.2 hk) hC hw wd_X6_weight lkM_L_36 (isO_sh ho) rfl rfl ⟨rfl, rfl⟩ ⟨(Nat.le_of_ble_eq_true rfl), (Nat.le_of_ble_eq_true rfl)⟩ hl.1 rfl (Nat.le_of_ble_eq_true rfl) dL_isSpread_138 ⟨(by show _ ≤ (144 : Nat); omega), (by show _ ≤ (864 : Nat); omega)⟩ (fun H locs hw => ?_)
        refine lv_aload_n hx hb dL_isSpread_141 rfl (lv_at hl 1 rfl) ?_
        refine lv_iconst (v := 3) hx hb dL_isSpread_142 (by decide) ?_
        refine lv_bipush (v := 7) hx hb dL_isSpread_143 (by decide) ?_
        refine lv_iload hx hb dL_isSpread_145 (lv_at hl 3 rfl) ?_
        refine lv_imul hx hb dL_isSpread_147 ?_
        refine lv_iconst (v := 3) hx hb dL_isSpread_148 (by decide) ?_
        refine lv_iadd hx hb dL_isSpread_149 ?_
        obtain ⟨ho, hf⟩ := chk_inv hf
        obtain ⟨r10, σ9, hk, hf⟩ := xonly_inv hf
        refine z_ocallV (As := [.int 3, .int ((7 * x5) + 3)]) (rest := [.int r8]) (m_X6_weight hC.2.2.2.2.2.2.2.2 hk) hC hw wd_X6_weight lkM_L_36 (isO_sh ho) rfl rfl ⟨rfl, rfl⟩ ⟨(Nat.le_of_ble_eq_true rfl), (Nat.le_of_ble_eq_true rfl)⟩ hl.1 rfl (Nat.le_of_ble_eq_true rfl) dL_isSpread_150 ⟨(by show _ ≤ (144 : Nat); omega), (by show _ ≤ (864 : Nat); omega)⟩ (fun H locs hw => ?_)
        refine lv_icmp_ne (tgt := 160) hx hb dL_isSpread_153 (by decide) (fun hc => ?_) (fun hc => ?_)
        · rw [if_neg hc] at hf
          exact t_L_isSpread_B101_L160 hC h0 hf hw (lv_sub hl [0, 1, 3] rfl) kI kE
        · rw [if_pos hc] at hf
          refine lv_iconst (v := 1) hx hb dL_isSpread_156 (by decide) ?_
          refine lv_goto (tgt := 161) hx hb dL_isSpread_157 (by decide) ?_
          exact t_L_isSpread_B101_L161 hC h0 hf hw (lv_sub hl [0, 1, 3] rfl) kI kE
set_option maxHeartbeats 4000000 in
theorem l_L_isSpread_B101 (hC : zC p l s m args meth c cL_isSpread 6 RL D cA B0) {Γ : zSh} {x0 : Nat} {x1 : Nat} {w3 : Int32} {σ2 : zSt} (kE : ∀ (H : Heap) (locs : List Loc) (ls : Array Slot), zO D cA B0 Γ σ2 (ZB B0) s.heap H locs → lv_has ls 6 [(0, .ref x0), (1, .ref x1), (3, .int w3)] → W p l e rm_L_isSpread s m args below meth c H locs 133 798 Q (F0 m 168 ls [])) :
    ∀ (n k : Nat), n + k = 13 → ∀ (x3 : Int32) (x5 : Int32) (σ : zSt), loopM (fun q => f_L_isSpread_B101 Γ x0 x1 q.1 q.2.1 q.2.2) n (x3, x5, σ) = some (w3, σ2) → ∀ (H : Heap) (locs : List Loc) (ls : Array Slot), zO D cA B0 Γ σ (ZB B0) s.heap H locs → lv_has ls 6 [(0, .ref x0), (1, .ref x1), (3, .int x3), (5, .int x5)] → W p l e rm_L_isSpread s m args below meth c H locs (29 + 8 * k) (174 + 48 * k) Q (F0 m 101 ls []) := by
  intro n
  induction n with
  | zero => intro k _ x3 x5 σ h; exact absurd h (by simp [loopM])
  | succ n ih =>
    intro k hnk x3 x5 σ h H locs ls hw hl
    obtain ⟨r, h1, h2, h3⟩ := loopM_inv h
    have hk : k + 1 ≤ 13 := by omega
    refine t_L_isSpread_B101 (C0 := 29 + 8 * k) (S0 := 174 + 48 * k) hC ⟨by omega, by omega⟩ h1 hw hl (fun z3 z5 s2 e H locs ls hw hl => ?_) (fun z3 s2 e H locs ls hw hl => ?_)
    · exact W.widen (k := 29 + 8 * (k + 1)) (n := 174 + 48 * (k + 1)) (by omega) (by omega) (ih (k + 1) (by omega) z3 z5 s2 (h2 _ e) H locs ls hw hl)
    · cases h3 _ e
      exact W.widen (k := 133) (n := 798) (by omega) (by omega) (kE H locs ls hw hl)
set_option maxHeartbeats 4000000 in
set_option maxRecDepth 100000 in
theorem t_L_isSpread_L242 (hC : zC p l s m args meth c cL_isSpread 6 RL D cA B0) (hr : meth.sig.returnType = (Option.some FieldType.boolean)) {Γ : zSh} {s0 : Int32} {σ : zSt} {out : (Int32 × zSt)} (hf : f_L_isSpread_L242 Γ s0 σ = some out) {H : Heap} {locs : List Loc} {ls : Array Slot} (hw : zO D cA B0 Γ σ (ZB B0) s.heap H locs) (hl : lv_has ls 6 []) :
    W p l e rm_L_isSpread s m args below meth c H locs 144 864 (MQ below (zQ1 D cA B0 (some (.int out.1)) Γ out.2 (ZB B0)) args s 144 864 (FR B0)) (F0 m 242 ls [.int s0]) := by
  have hx := hC.1
  have hb := hC.2.1
  unfold f_L_isSpread_L242 at hf
  obtain ⟨hz, hf⟩ := chk_inv hf
  refine W.widen (k := 144) (n := 864) (Nat.le_of_ble_eq_true rfl) (Nat.le_of_ble_eq_true rfl) ?_
  first | (obtain ⟨rfl, rfl⟩ := sp_inv hf) | (obtain rfl := Option.some.inj hf)
  exact W.zret hx hb hr (isB_n hz).1 (z_ret hw rfl) hw.2.2.2.2.2 dL_isSpread_242 hC.2.2.2.2.2.1
set_option maxHeartbeats 4000000 in
set_option maxRecDepth 100000 in
theorem t_L_isSpread_L241 (hC : zC p l s m args meth c cL_isSpread 6 RL D cA B0) (hr : meth.sig.returnType = (Option.some FieldType.boolean)) {Γ : zSh}  {σ : zSt} {out : (Int32 × zSt)} (hf : f_L_isSpread_L241 Γ  σ = some out) {H : Heap} {locs : List Loc} {ls : Array Slot} (hw : zO D cA B0 Γ σ (ZB B0) s.heap H locs) (hl : lv_has ls 6 []) :
    W p l e rm_L_isSpread s m args below meth c H locs 144 864 (MQ below (zQ1 D cA B0 (some (.int out.1)) Γ out.2 (ZB B0)) args s 144 864 (FR B0)) (F0 m 241 ls []) := by
  have hx := hC.1
  have hb := hC.2.1
  unfold f_L_isSpread_L241 at hf
  refine lv_iconst (v := 0) hx hb dL_isSpread_241 (by decide) ?_
  exact t_L_isSpread_L242 hC hr hf hw (lv_sub hl [] rfl)
set_option maxHeartbeats 4000000 in
set_option maxRecDepth 100000 in
theorem t_L_isSpread_L97 (hC : zC p l s m args meth c cL_isSpread 6 RL D cA B0) (hr : meth.sig.returnType = (Option.some FieldType.boolean)) {Γ : zSh} {x0 : Nat} {x1 : Nat} {s0 : Int32} {σ : zSt} {out : (Int32 × zSt)} (hf : f_L_isSpread_L97 Γ x0 x1 s0 σ = some out) {H : Heap} {locs : List Loc} {ls : Array Slot} (hw : zO D cA B0 Γ σ (ZB B0) s.heap H locs) (hl : lv_has ls 6 [(0, .ref x0), (1, .ref x1)]) :
    W p l e rm_L_isSpread s m args below meth c H locs 29 174 (MQ below (zQ1 D cA B0 (some (.int out.1)) Γ out.2 (ZB B0)) args s 144 864 (FR B0)) (F0 m 97 ls [.int s0]) := by
  have hx := hC.1
  have hb := hC.2.1
  unfold f_L_isSpread_L97 at hf
  refine lv_istore_n (lv' := [(3, .int s0), (0, .ref x0), (1, .ref x1)]) hx hb dL_isSpread_97 rfl hl (Nat.le_of_ble_eq_true rfl) rfl (fun ls hl => ?_)
  refine lv_iconst (v := 0) hx hb dL_isSpread_98 (by decide) ?_
  refine lv_istore (lv' := [(5, .int 0), (3, .int s0), (0, .ref x0), (1, .ref x1)]) hx hb dL_isSpread_99 hl (Nat.le_of_ble_eq_true rfl) rfl (fun ls hl => ?_)
  obtain ⟨w12, σ11, hk, hf⟩ := lb1_inv hf
  refine l_L_isSpread_B101 hC (fun H locs ls hw hl => ?_) 13 0 rfl s0 0 σ hk _ _ _ hw (lv_sub hl [2, 3, 1, 0] rfl)
  refine lv_iload_n hx hb dL_isSpread_168 rfl (lv_at hl 2 rfl) ?_
  refine lv_if_eq (tgt := 241) hx hb dL_isSpread_169 (by decide) (fun hc => ?_) (fun hc => ?_)
  · rw [if_pos hc] at hf
    refine W.widen (k := 144) (n := 864) (Nat.le_of_ble_eq_true rfl) (Nat.le_of_ble_eq_true rfl) ?_
    exact t_L_isSpread_L241 hC hr hf hw (lv_sub hl [] rfl)
  · rw [if_neg hc] at hf
    refine lv_aload_n hx hb dL_isSpread_172 rfl (lv_at hl 0 rfl) ?_
    refine lv_iconst (v := 3) hx hb dL_isSpread_173 (by decide) ?_
    obtain ⟨ho, hf⟩ := chk_inv hf
    obtain ⟨r14, σ13, hk, hf⟩ := xonly_inv hf
    refine z_ocallV (As := [.int 3]) (rest := []) (m_X6_first hC.2.2.2.2.2.2.2.2 hk) hC hw wd_X6_first lkM_L_39 (isO_sh ho) rfl rfl ⟨rfl, rfl⟩ ⟨(Nat.le_of_ble_eq_true rfl), (Nat.le_of_ble_eq_true rfl)⟩ hl.1 rfl (Nat.le_of_ble_eq_true rfl) dL_isSpread_174 ⟨(Nat.le_of_ble_eq_true rfl), (Nat.le_of_ble_eq_true rfl)⟩ (fun H locs hw => ?_)
    refine lv_aload_n hx hb dL_isSpread_177 rfl (lv_at hl 1 rfl) ?_
    refine lv_iconst (v := 3) hx hb dL_isSpread_178 (by decide) ?_
    obtain ⟨ho, hf⟩ := chk_inv hf
    obtain ⟨r16, σ15, hk, hf⟩ := xonly_inv hf
    refine z_ocallV (As := [.int 3]) (rest := [.int r14]) (m_X6_first hC.2.2.2.2.2.2.2.2 hk) hC hw wd_X6_first lkM_L_39 (isO_sh ho) rfl rfl ⟨rfl, rfl⟩ ⟨(Nat.le_of_ble_eq_true rfl), (Nat.le_of_ble_eq_true rfl)⟩ hl.1 rfl (Nat.le_of_ble_eq_true rfl) dL_isSpread_179 ⟨(Nat.le_of_ble_eq_true rfl), (Nat.le_of_ble_eq_true rfl)⟩ (fun H locs hw => ?_)
    refine lv_icmp_ne (tgt := 241) hx hb dL_isSpread_182 (by decide) (fun hc => ?_) (fun hc => ?_)
    · rw [if_neg hc] at hf
      refine W.widen (k := 144) (n := 864) (Nat.le_of_ble_eq_true rfl) (Nat.le_of_ble_eq_true rfl) ?_
      exact t_L_isSpread_L241 hC hr hf hw (lv_sub hl [] rfl)
    · rw [if_pos hc] at hf
      refine lv_aload_n hx hb dL_isSpread_185 rfl (lv_at hl 0 rfl) ?_
      refine lv_iconst (v := 3) hx hb dL_isSpread_186 (by decide) ?_
      refine lv_bipush (v := 7) hx hb dL_isSpread_187 (by decide) ?_
      obtain ⟨ho, hf⟩ := chk_inv hf
      obtain ⟨r18, σ17, hk, hf⟩ := xonly_inv hf
      refine z_ocallV (As := [.int 3, .int 7]) (rest := []) (m_X6_hankelRank hC.2.2.2.2.2.2.2.2 hk) hC hw wd_X6_hankelRank lkM_L_43 (isO_sh ho) rfl rfl ⟨rfl, rfl⟩ ⟨(Nat.le_of_ble_eq_true rfl), (Nat.le_of_ble_eq_true rfl)⟩ hl.1 rfl (Nat.le_of_ble_eq_true rfl) dL_isSpread_189 ⟨(Nat.le_of_ble_eq_true rfl), (Nat.le_of_ble_eq_true rfl)⟩ (fun H locs hw => ?_)
      refine lv_aload_n hx hb dL_isSpread_192 rfl (lv_at hl 1 rfl) ?_
      refine lv_iconst (v := 3) hx hb dL_isSpread_193 (by decide) ?_
      refine lv_bipush (v := 7) hx hb dL_isSpread_194 (by decide) ?_
      obtain ⟨ho, hf⟩ := chk_inv hf
      obtain ⟨r20, σ19, hk, hf⟩ := xonly_inv hf
      refine z_ocallV (As := [.int 3, .int 7]) (rest := [.int r18]) (m_X6_hankelRank hC.2.2.2.2.2.2.2.2 hk) hC hw wd_X6_hankelRank lkM_L_43 (isO_sh ho) rfl rfl ⟨rfl, rfl⟩ ⟨(Nat.le_of_ble_eq_true rfl), (Nat.le_of_ble_eq_true rfl)⟩ hl.1 rfl (Nat.le_of_ble_eq_true rfl) dL_isSpread_196 ⟨(Nat.le_of_ble_eq_true rfl), (Nat.le_of_ble_eq_true rfl)⟩ (fun H locs hw => ?_)
      refine lv_icmp_ne (tgt := 241) hx hb dL_isSpread_199 (by decide) (fun hc => ?_) (fun hc => ?_)
      · rw [if_neg hc] at hf
        refine W.widen (k := 144) (n := 864) (Nat.le_of_ble_eq_true rfl) (Nat.le_of_ble_eq_true rfl) ?_
        exact t_L_isSpread_L241 hC hr hf hw (lv_sub hl [] rfl)
      · rw [if_pos hc] at hf
        refine lv_aload_n hx hb dL_isSpread_202 rfl (lv_at hl 0 rfl) ?_
        obtain ⟨ho, hf⟩ := chk_inv hf
        obtain ⟨r22, σ21, hk, hf⟩ := xonly_inv hf
        refine z_ocallV (As := []) (rest := []) (m_X6_undo hC.2.2.2.2.2.2.2.2 hk) hC hw wd_X6_undo lkM_L_46 (isO_sh ho) rfl rfl ⟨rfl, rfl⟩ ⟨(Nat.le_of_ble_eq_true rfl), (Nat.le_of_ble_eq_true rfl)⟩ hl.1 rfl (Nat.le_of_ble_eq_true rfl) dL_isSpread_203 ⟨(Nat.le_of_ble_eq_true rfl), (Nat.le_of_ble_eq_true rfl)⟩ (fun H locs hw => ?_)
        refine lv_if_lt (tgt := 241) hx hb dL_isSpread_206 (by decide) (fun hc => ?_) (fun hc => ?_)
        · rw [if_pos hc] at hf
          refine W.widen (k := 144) (n := 864) (Nat.le_of_ble_eq_true rfl) (Nat.le_of_ble_eq_true rfl) ?_
          exact t_L_isSpread_L241 hC hr hf hw (lv_sub hl [] rfl)
        · rw [if_neg hc] at hf
          refine lv_aload_n hx hb dL_isSpread_209 rfl (lv_at hl 0 rfl) ?_
          obtain ⟨ho, hf⟩ := chk_inv hf
          obtain ⟨r24, σ23, hk, hf⟩ := xonly_inv hf
          refine z_ocallV (As := []) (rest := []) (m_X6_undo hC.2.2.2.2.2.2.2.2 hk) hC hw wd_X6_undo lkM_L_46 (isO_sh ho) rfl rfl ⟨rfl, rfl⟩ ⟨(Nat.le_of_ble_eq_true rfl), (Nat.le_of_ble_eq_true rfl)⟩ hl.1 rfl (Nat.le_of_ble_eq_true rfl) dL_isSpread_210 ⟨(Nat.le_of_ble_eq_true rfl), (Nat.le_of_ble_eq_true rfl)⟩ (fun H locs hw => ?_)
          refine lv_if_lt (tgt := 241) hx hb dL_isSpread_213 (by decide) (fun hc => ?_) (fun hc => ?_)
          · rw [if_pos hc] at hf
            refine W.widen (k := 144) (n := 864) (Nat.le_of_ble_eq_true rfl) (Nat.le_of_ble_eq_true rfl) ?_
            exact t_L_isSpread_L241 hC hr hf hw (lv_sub hl [] rfl)
          · rw [if_neg hc] at hf
            refine lv_aload_n hx hb dL_isSpread_216 rfl (lv_at hl 1 rfl) ?_
            obtain ⟨ho, hf⟩ := chk_inv hf
            obtain ⟨r26, σ25, hk, hf⟩ := xonly_inv hf
            refine z_ocallV (As := []) (rest := []) (m_X6_undo hC.2.2.2.2.2.2.2.2 hk) hC hw wd_X6_undo lkM_L_46 (isO_sh ho) rfl rfl ⟨rfl, rfl⟩ ⟨(Nat.le_of_ble_eq_true rfl), (Nat.le_of_ble_eq_true rfl)⟩ hl.1 rfl (Nat.le_of_ble_eq_true rfl) dL_isSpread_217 ⟨(Nat.le_of_ble_eq_true rfl), (Nat.le_of_ble_eq_true rfl)⟩ (fun H locs hw => ?_)
            refine lv_if_lt (tgt := 241) hx hb dL_isSpread_220 (by decide) (fun hc => ?_) (fun hc => ?_)
            · rw [if_pos hc] at hf
              refine W.widen (k := 144) (n := 864) (Nat.le_of_ble_eq_true rfl) (Nat.le_of_ble_eq_true rfl) ?_
              exact t_L_isSpread_L241 hC hr hf hw (lv_sub hl [] rfl)
            · rw [if_neg hc] at hf
              refine lv_aload_n hx hb dL_isSpread_223 rfl (lv_at hl 1 rfl) ?_
              obtain ⟨ho, hf⟩ := chk_inv hf
              obtain ⟨r28, σ27, hk, hf⟩ := xonly_inv hf
              refine z_ocallV (As := []) (rest := []) (m_X6_undo hC.2.2.2.2.2.2.2.2 hk) hC hw wd_X6_undo lkM_L_46 (isO_sh ho) rfl rfl ⟨rfl, rfl⟩ ⟨(Nat.le_of_ble_eq_true rfl), (Nat.le_of_ble_eq_true rfl)⟩ hl.1 rfl (Nat.le_of_ble_eq_true rfl) dL_isSpread_224 ⟨(Nat.le_of_ble_eq_true rfl), (Nat.le_of_ble_eq_true rfl)⟩ (fun H locs hw => ?_)
              refine lv_if_lt (tgt := 241) hx hb dL_isSpread_227 (by decide) (fun hc => ?_) (fun hc => ?_)
              · rw [if_pos hc] at hf
                refine W.widen (k := 144) (n := 864) (Nat.le_of_ble_eq_true rfl) (Nat.le_of_ble_eq_true rfl) ?_
                exact t_L_isSpread_L241 hC hr hf hw (lv_sub hl [] rfl)
              · rw [if_neg hc] at hf
                refine lv_aload_n hx hb dL_isSpread_230 rfl (lv_at hl 1 rfl) ?_
                obtain ⟨ho, hf⟩ := chk_inv hf
                obtain ⟨r30, σ29, hk, hf⟩ := xonly_inv hf
                refine z_ocallV (As := []) (rest := []) (m_X6_undo hC.2.2.2.2.2.2.2.2 hk) hC hw wd_X6_undo lkM_L_46 (isO_sh ho) rfl rfl ⟨rfl, rfl⟩ ⟨(Nat.le_of_ble_eq_true rfl), (Nat.le_of_ble_eq_true rfl)⟩ hl.1 rfl (Nat.le_of_ble_eq_true rfl) dL_isSpread_231 ⟨(Nat.le_of_ble_eq_true rfl), (Nat.le_of_ble_eq_true rfl)⟩ (fun H locs hw => ?_)
                refine lv_if_lt (tgt := 241) hx hb dL_isSpread_234 (by decide) (fun hc => ?_) (fun hc => ?_)
                · rw [if_pos hc] at hf
                  exact t_L_isSpread_L241 hC hr hf hw (lv_sub hl [] rfl)
                · rw [if_neg hc] at hf
                  refine lv_iconst (v := 1) hx hb dL_isSpread_237 (by decide) ?_
                  refine lv_goto (tgt := 242) hx hb dL_isSpread_238 (by decide) ?_
                  exact t_L_isSpread_L242 hC hr hf hw (lv_sub hl [] rfl)
set_option maxHeartbeats 4000000 in
set_option maxRecDepth 100000 in
theorem t_L_isSpread_L96 (hC : zC p l s m args meth c cL_isSpread 6 RL D cA B0) (hr : meth.sig.returnType = (Option.some FieldType.boolean)) {Γ : zSh} {x0 : Nat} {x1 : Nat} {σ : zSt} {out : (Int32 × zSt)} (hf : f_L_isSpread_L96 Γ x0 x1 σ = some out) {H : Heap} {locs : List Loc} {ls : Array Slot} (hw : zO D cA B0 Γ σ (ZB B0) s.heap H locs) (hl : lv_has ls 6 [(0, .ref x0), (1, .ref x1)]) :
    W p l e rm_L_isSpread s m args below meth c H locs 29 174 (MQ below (zQ1 D cA B0 (some (.int out.1)) Γ out.2 (ZB B0)) args s 144 864 (FR B0)) (F0 m 96 ls []) := by
  have hx := hC.1
  have hb := hC.2.1
  unfold f_L_isSpread_L96 at hf
  refine lv_iconst (v := 0) hx hb dL_isSpread_96 (by decide) ?_
  exact t_L_isSpread_L97 hC hr hf hw (lv_sub hl [0, 1] rfl)
set_option maxHeartbeats 4000000 in
set_option maxRecDepth 100000 in
theorem t_L_isSpread_L42 (hC : zC p l s m args meth c cL_isSpread 6 RL D cA B0) (hr : meth.sig.returnType = (Option.some FieldType.boolean)) {Γ : zSh} {x0 : Nat} {x1 : Nat} {x2 : Int32} {x3 : Int32} {s0 : Int32} {σ : zSt} {out : (Int32 × zSt)} (hf : f_L_isSpread_L42 Γ x0 x1 x2 x3 s0 σ = some out) {H : Heap} {locs : List Loc} {ls : Array Slot} (hw : zO D cA B0 Γ σ (ZB B0) s.heap H locs) (hl : lv_has ls 6 [(0, .ref x0), (1, .ref x1), (2, .int x2), (3, .int x3)]) :
    W p l e rm_L_isSpread s m args below meth c H locs 12 72 (MQ below (zQ1 D cA B0 (some (.int out.1)) Γ out.2 (ZB B0)) args s 144 864 (FR B0)) (F0 m 42 ls [.int s0]) := by
  have hx := hC.1
  have hb := hC.2.1
  unfold f_L_isSpread_L42 at hf
  refine lv_istore (lv' := [(4, .int s0), (0, .ref x0), (1, .ref x1), (2, .int x2), (3, .int x3)]) hx hb dL_isSpread_42 hl (Nat.le_of_ble_eq_true rfl) rfl (fun ls hl => ?_)
  refine lv_iload_n hx hb dL_isSpread_44 rfl (lv_at hl 4 rfl) ?_
  refine lv_if_eq (tgt := 96) hx hb dL_isSpread_45 (by decide) (fun hc => ?_) (fun hc => ?_)
  · rw [if_pos hc] at hf
    refine W.widen (k := 29) (n := 174) (Nat.le_of_ble_eq_true rfl) (Nat.le_of_ble_eq_true rfl) ?_
    exact t_L_isSpread_L96 hC hr hf hw (lv_sub hl [1, 2] rfl)
  · rw [if_neg hc] at hf
    refine lv_aload_n hx hb dL_isSpread_48 rfl (lv_at hl 2 rfl) ?_
    refine lv_iconst (v := 3) hx hb dL_isSpread_49 (by decide) ?_
    refine lv_iconst (v := 0) hx hb dL_isSpread_50 (by decide) ?_
    refine lv_iconst (v := 2) hx hb dL_isSpread_51 (by decide) ?_
    refine lv_iload_n hx hb dL_isSpread_52 rfl (lv_at hl 3 rfl) ?_
    obtain ⟨ho, hf⟩ := chk_inv hf
    obtain ⟨r32, σ31, hk, hf⟩ := xonly_inv hf
    refine z_ocallV (As := [.int 3, .int 0, .int 2, .int x2]) (rest := []) (m_X6_combine hC.2.2.2.2.2.2.2.2 hk) hC hw wd_X6_combine lkM_L_26 (isO_sh ho) rfl rfl ⟨rfl, rfl⟩ ⟨(Nat.le_of_ble_eq_true rfl), (Nat.le_of_ble_eq_true rfl)⟩ hl.1 rfl (Nat.le_of_ble_eq_true rfl) dL_isSpread_53 ⟨(Nat.le_of_ble_eq_true rfl), (Nat.le_of_ble_eq_true rfl)⟩ (fun H locs hw => ?_)
    refine lv_if_lt (tgt := 96) hx hb dL_isSpread_56 (by decide) (fun hc => ?_) (fun hc => ?_)
    · rw [if_pos hc] at hf
      refine W.widen (k := 29) (n := 174) (Nat.le_of_ble_eq_true rfl) (Nat.le_of_ble_eq_true rfl) ?_
      exact t_L_isSpread_L96 hC hr hf hw (lv_sub hl [1, 2] rfl)
    · rw [if_neg hc] at hf
      refine lv_aload_n hx hb dL_isSpread_59 rfl (lv_at hl 2 rfl) ?_
      refine lv_iconst (v := 2) hx hb dL_isSpread_60 (by decide) ?_
      refine lv_iconst (v := 0) hx hb dL_isSpread_61 (by decide) ?_
      refine lv_iconst (v := 1) hx hb dL_isSpread_62 (by decide) ?_
      refine lv_iload_n hx hb dL_isSpread_63 rfl (lv_at hl 3 rfl) ?_
      obtain ⟨ho, hf⟩ := chk_inv hf
      obtain ⟨r34, σ33, hk, hf⟩ := xonly_inv hf
      refine z_ocallV (As := [.int 2, .int 0, .int 1, .int x2]) (rest := []) (m_X6_combine hC.2.2.2.2.2.2.2.2 hk) hC hw wd_X6_combine lkM_L_26 (isO_sh ho) rfl rfl ⟨rfl, rfl⟩ ⟨(Nat.le_of_ble_eq_true rfl), (Nat.le_of_ble_eq_true rfl)⟩ hl.1 rfl (Nat.le_of_ble_eq_true rfl) dL_isSpread_64 ⟨(Nat.le_of_ble_eq_true rfl), (Nat.le_of_ble_eq_true rfl)⟩ (fun H locs hw => ?_)
      refine lv_if_lt (tgt := 96) hx hb dL_isSpread_67 (by decide) (fun hc => ?_) (fun hc => ?_)
      · rw [if_pos hc] at hf
        refine W.widen (k := 29) (n := 174) (Nat.le_of_ble_eq_true rfl) (Nat.le_of_ble_eq_true rfl) ?_
        exact t_L_isSpread_L96 hC hr hf hw (lv_sub hl [1, 2] rfl)
      · rw [if_neg hc] at hf
        refine lv_aload_n hx hb dL_isSpread_70 rfl (lv_at hl 2 rfl) ?_
        refine lv_iconst (v := 3) hx hb dL_isSpread_71 (by decide) ?_
        refine lv_iconst (v := 2) hx hb dL_isSpread_72 (by decide) ?_
        refine lv_iconst (v := 3) hx hb dL_isSpread_73 (by decide) ?_
        refine lv_iconst (v := 0) hx hb dL_isSpread_74 (by decide) ?_
        obtain ⟨ho, hf⟩ := chk_inv hf
        obtain ⟨r36, σ35, hk, hf⟩ := xonly_inv hf
        refine z_ocallV (As := [.int 3, .int 2, .int 3, .int 0]) (rest := []) (m_X6_combine hC.2.2.2.2.2.2.2.2 hk) hC hw wd_X6_combine lkM_L_26 (isO_sh ho) rfl rfl ⟨rfl, rfl⟩ ⟨(Nat.le_of_ble_eq_true rfl), (Nat.le_of_ble_eq_true rfl)⟩ hl.1 rfl (Nat.le_of_ble_eq_true rfl) dL_isSpread_75 ⟨(Nat.le_of_ble_eq_true rfl), (Nat.le_of_ble_eq_true rfl)⟩ (fun H locs hw => ?_)
        refine lv_if_lt (tgt := 96) hx hb dL_isSpread_78 (by decide) (fun hc => ?_) (fun hc => ?_)
        · rw [if_pos hc] at hf
          refine W.widen (k := 29) (n := 174) (Nat.le_of_ble_eq_true rfl) (Nat.le_of_ble_eq_true rfl) ?_
          exact t_L_isSpread_L96 hC hr hf hw (lv_sub hl [1, 2] rfl)
        · rw [if_neg hc] at hf
          refine lv_aload_n hx hb dL_isSpread_81 rfl (lv_at hl 2 rfl) ?_
          refine lv_iconst (v := 3) hx hb dL_isSpread_82 (by decide) ?_
          refine lv_iconst (v := 2) hx hb dL_isSpread_83 (by decide) ?_
          obtain ⟨ho, hf⟩ := chk_inv hf
          obtain ⟨r38, σ37, hk, hf⟩ := xonly_inv hf
          refine z_ocallV (As := [.int 3, .int 2]) (rest := []) (m_X6_dimension hC.2.2.2.2.2.2.2.2 hk) hC hw wd_X6_dimension lkM_L_30 (isO_sh ho) rfl rfl ⟨rfl, rfl⟩ ⟨(Nat.le_of_ble_eq_true rfl), (Nat.le_of_ble_eq_true rfl)⟩ hl.1 rfl (Nat.le_of_ble_eq_true rfl) dL_isSpread_84 ⟨(Nat.le_of_ble_eq_true rfl), (Nat.le_of_ble_eq_true rfl)⟩ (fun H locs hw => ?_)
          refine lv_iload hx hb dL_isSpread_87 (lv_at hl 0 rfl) ?_
          refine lv_icmp_ne (tgt := 96) hx hb dL_isSpread_89 (by decide) (fun hc => ?_) (fun hc => ?_)
          · rw [if_neg hc] at hf
            exact t_L_isSpread_L96 hC hr hf hw (lv_sub hl [1, 2] rfl)
          · rw [if_pos hc] at hf
            refine lv_iconst (v := 1) hx hb dL_isSpread_92 (by decide) ?_
            refine lv_goto (tgt := 97) hx hb dL_isSpread_93 (by decide) ?_
            exact t_L_isSpread_L97 hC hr hf hw (lv_sub hl [1, 2] rfl)
set_option maxHeartbeats 4000000 in
set_option maxRecDepth 100000 in
theorem t_L_isSpread_L27 (hC : zC p l s m args meth c cL_isSpread 6 RL D cA B0) (hr : meth.sig.returnType = (Option.some FieldType.boolean)) {Γ : zSh} {x0 : Nat} {x1 : Nat} {x2 : Int32} {s0 : Int32} {σ : zSt} {out : (Int32 × zSt)} (hf : f_L_isSpread_L27 Γ x0 x1 x2 s0 σ = some out) {H : Heap} {locs : List Loc} {ls : Array Slot} (hw : zO D cA B0 Γ σ (ZB B0) s.heap H locs) (hl : lv_has ls 6 [(0, .ref x0), (1, .ref x1), (2, .int x2)]) :
    W p l e rm_L_isSpread s m args below meth c H locs 10 60 (MQ below (zQ1 D cA B0 (some (.int out.1)) Γ out.2 (ZB B0)) args s 144 864 (FR B0)) (F0 m 27 ls [.int s0]) := by
  have hx := hC.1
  have hb := hC.2.1
  unfold f_L_isSpread_L27 at hf
  refine lv_istore_n (lv' := [(3, .int s0), (0, .ref x0), (1, .ref x1), (2, .int x2)]) hx hb dL_isSpread_27 rfl hl (Nat.le_of_ble_eq_true rfl) rfl (fun ls hl => ?_)
  refine lv_iload_n hx hb dL_isSpread_28 rfl (lv_at hl 0 rfl) ?_
  refine lv_if_eq (tgt := 41) hx hb dL_isSpread_29 (by decide) (fun hc => ?_) (fun hc => ?_)
  · rw [if_pos hc] at hf
    refine lv_iconst (v := 0) hx hb dL_isSpread_41 (by decide) ?_
    refine W.widen (k := 12) (n := 72) (Nat.le_of_ble_eq_true rfl) (Nat.le_of_ble_eq_true rfl) ?_
    exact t_L_isSpread_L42 hC hr hf hw (lv_sub hl [1, 2, 3, 0] rfl)
  · rw [if_neg hc] at hf
    refine lv_aload_n hx hb dL_isSpread_32 rfl (lv_at hl 1 rfl) ?_
    refine lv_iconst (v := 3) hx hb dL_isSpread_33 (by decide) ?_
    refine lv_iconst (v := 2) hx hb dL_isSpread_34 (by decide) ?_
    obtain ⟨ho, hf⟩ := chk_inv hf
    obtain ⟨r40, σ39, hk, hf⟩ := xonly_inv hf
    refine z_ocallV (As := [.int 3, .int 2]) (rest := []) (m_X6_dimension hC.2.2.2.2.2.2.2.2 hk) hC hw wd_X6_dimension lkM_L_30 (isO_sh ho) rfl rfl ⟨rfl, rfl⟩ ⟨(Nat.le_of_ble_eq_true rfl), (Nat.le_of_ble_eq_true rfl)⟩ hl.1 rfl (Nat.le_of_ble_eq_true rfl) dL_isSpread_35 ⟨(Nat.le_of_ble_eq_true rfl), (Nat.le_of_ble_eq_true rfl)⟩ (fun H locs hw => ?_)
    refine lv_goto (tgt := 42) hx hb dL_isSpread_38 (by decide) ?_
    exact t_L_isSpread_L42 hC hr hf hw (lv_sub hl [1, 2, 3, 0] rfl)
set_option maxHeartbeats 4000000 in
set_option maxRecDepth 100000 in
theorem t_L_isSpread_L26 (hC : zC p l s m args meth c cL_isSpread 6 RL D cA B0) (hr : meth.sig.returnType = (Option.some FieldType.boolean)) {Γ : zSh} {x0 : Nat} {x1 : Nat} {x2 : Int32} {σ : zSt} {out : (Int32 × zSt)} (hf : f_L_isSpread_L26 Γ x0 x1 x2 σ = some out) {H : Heap} {locs : List Loc} {ls : Array Slot} (hw : zO D cA B0 Γ σ (ZB B0) s.heap H locs) (hl : lv_has ls 6 [(0, .ref x0), (1, .ref x1), (2, .int x2)]) :
    W p l e rm_L_isSpread s m args below meth c H locs 10 60 (MQ below (zQ1 D cA B0 (some (.int out.1)) Γ out.2 (ZB B0)) args s 144 864 (FR B0)) (F0 m 26 ls []) := by
  have hx := hC.1
  have hb := hC.2.1
  unfold f_L_isSpread_L26 at hf
  refine lv_iconst (v := 0) hx hb dL_isSpread_26 (by decide) ?_
  exact t_L_isSpread_L27 hC hr hf hw (lv_sub hl [0, 1, 2] rfl)
set_option maxHeartbeats 4000000 in
set_option maxRecDepth 100000 in
theorem m_L_isSpread (h9 : l.stackTraces = false) {Γ : zSh} {a0 : Nat} {a1 : Nat} {a2 : Int32} {σ : zSt} {r : Int32} {σ2 : zSt} (hf : f_L_isSpread Γ a0 a1 a2 σ = some (r, σ2)) : Met l yL_isSpread (wq yL_isSpread cL_isSpread 6 (Option.some FieldType.boolean)) rm_L_isSpread (zQ0 D cA B0 [.ref a0, .ref a1, .int a2] Γ σ (ZB B0)) (zQ1 D cA B0 (some (.int r)) Γ σ2 (ZB B0)) 144 864 (FR B0) := by
  refine z_ofW h9 (by decide) (Nat.le_of_ble_eq_true rfl) ?_
  intro p e s m args below meth c ls hC hr _ hw hl
  have hx := hC.1
  have hb := hC.2.1
  have hl : lv_has ls 6 [(0, .ref a0), (1, .ref a1), (2, .int a2)] := hl
  unfold f_L_isSpread at hf
  refine lv_aload_n hx hb dL_isSpread_0 rfl (lv_at hl 0 rfl) ?_
  refine lv_iconst (v := 3) hx hb dL_isSpread_1 (by decide) ?_
  refine lv_iconst (v := 1) hx hb dL_isSpread_2 (by decide) ?_
  refine lv_iconst (v := 2) hx hb dL_isSpread_3 (by decide) ?_
  refine lv_iconst (v := 0) hx hb dL_isSpread_4 (by decide) ?_
  obtain ⟨ho, hf⟩ := chk_inv hf
  obtain ⟨r2, σ1, hk, hf⟩ := xonly_inv hf
  refine z_ocallV (As := [.int 3, .int 1, .int 2, .int 0]) (rest := []) (m_X6_combine hC.2.2.2.2.2.2.2.2 hk) hC hw wd_X6_combine lkM_L_26 (isO_sh ho) rfl rfl ⟨rfl, rfl⟩ ⟨(Nat.le_of_ble_eq_true rfl), (Nat.le_of_ble_eq_true rfl)⟩ hl.1 rfl (Nat.le_of_ble_eq_true rfl) dL_isSpread_5 ⟨(Nat.le_of_ble_eq_true rfl), (Nat.le_of_ble_eq_true rfl)⟩ (fun H locs hw => ?_)
  refine lv_if_lt (tgt := 26) hx hb dL_isSpread_8 (by decide) (fun hc => ?_) (fun hc => ?_)
  · rw [if_pos hc] at hf
    refine W.widen (k := 10) (n := 60) (Nat.le_of_ble_eq_true rfl) (Nat.le_of_ble_eq_true rfl) ?_
    exact t_L_isSpread_L26 hC hr hf hw (lv_sub hl [0, 1, 2] rfl)
  · rw [if_neg hc] at hf
    refine lv_aload_n hx hb dL_isSpread_11 rfl (lv_at hl 0 rfl) ?_
    refine lv_iconst (v := 3) hx hb dL_isSpread_12 (by decide) ?_
    refine lv_iconst (v := 0) hx hb dL_isSpread_13 (by decide) ?_
    refine lv_iconst (v := 3) hx hb dL_isSpread_14 (by decide) ?_
    refine lv_iload_n hx hb dL_isSpread_15 rfl (lv_at hl 2 rfl) ?_
    obtain ⟨ho, hf⟩ := chk_inv hf
    obtain ⟨r42, σ41, hk, hf⟩ := xonly_inv hf
    refine z_ocallV (As := [.int 3, .int 0, .int 3, .int a2]) (rest := []) (m_X6_combine hC.2.2.2.2.2.2.2.2 hk) hC hw wd_X6_combine lkM_L_26 (isO_sh ho) rfl rfl ⟨rfl, rfl⟩ ⟨(Nat.le_of_ble_eq_true rfl), (Nat.le_of_ble_eq_true rfl)⟩ hl.1 rfl (Nat.le_of_ble_eq_true rfl) dL_isSpread_16 ⟨(Nat.le_of_ble_eq_true rfl), (Nat.le_of_ble_eq_true rfl)⟩ (fun H locs hw => ?_)
    refine lv_if_lt (tgt := 26) hx hb dL_isSpread_19 (by decide) (fun hc => ?_) (fun hc => ?_)
    · rw [if_pos hc] at hf
      exact t_L_isSpread_L26 hC hr hf hw (lv_sub hl [0, 1, 2] rfl)
    · rw [if_neg hc] at hf
      refine lv_iconst (v := 1) hx hb dL_isSpread_22 (by decide) ?_
      refine lv_goto (tgt := 27) hx hb dL_isSpread_23 (by decide) ?_
      exact t_L_isSpread_L27 hC hr hf hw (lv_sub hl [0, 1, 2] rfl)
set_option maxHeartbeats 4000000 in
set_option maxRecDepth 100000 in
theorem t_L_isTurned_B4_L146 (hC : zC p l s m args meth c cL_isTurned 3 RL D cA B0) {C0 S0 : Nat} (h0 : C0 + 40 ≤ 120 ∧ S0 + 240 ≤ 720) {Γ : zSh} {x0 : Nat} {x2 : Int32} {s0 : Int32}  {σ : zSt} {out : ((Int32 × Int32 × zSt) ⊕ (Int32 × zSt))} (hf : f_L_isTurned_B4_L146 Γ x0 x2 s0 σ = some out) {H : Heap} {locs : List Loc} {ls : Array Slot} (hw : zO D cA B0 Γ σ (ZB B0) s.heap H locs) (hl : lv_has ls 3 [(0, .ref x0), (2, .int x2)])
    (kI : ∀ (z1 : Int32) (z2 : Int32) (σ2 : zSt), out = .inl (z1, z2, σ2) → ∀ (H : Heap) (locs : List Loc) (ls : Array Slot), zO D cA B0 Γ σ2 (ZB B0) s.heap H locs → lv_has ls 3 [(0, .ref x0), (1, .int z1), (2, .int z2)] → W p l e rm_L_isTurned s m args below meth c H locs (C0 + 40) (S0 + 240) Q (F0 m 4 ls []))
    (kE : ∀ (z1 : Int32) (σ2 : zSt), out = .inr (z1, σ2) → ∀ (H : Heap) (locs : List Loc) (ls : Array Slot), zO D cA B0 Γ σ2 (ZB B0) s.heap H locs → lv_has ls 3 [(1, .int z1)] → W p l e rm_L_isTurned s m args below meth c H locs (C0 + 40) (S0 + 240) Q (F0 m 153 ls [])) :
    W p l e rm_L_isTurned s m args below meth c H locs (C0 + 40) (S0 + 240) Q (F0 m 146 ls [.int s0]) := by
  have hx := hC.1
  have hb := hC.2.1
  unfold f_L_isTurned_B4_L146 at hf
  refine lv_istore_n (lv' := [(1, .int s0), (0, .ref x0), (2, .int x2)]) hx hb dL_isTurned_146 rfl hl (Nat.le_of_ble_eq_true rfl) rfl (fun ls hl => ?_)
  refine lv_iinc (v := (x2 + 1)) (lv' := [(2, .int (x2 + 1)), (1, .int s0), (0, .ref x0)]) hx hb dL_isTurned_147 hl (k := 2) rfl rfl (Nat.le_of_ble_eq_true rfl) rfl (fun ls hl => ?_)
  refine lv_goto (tgt := 4) hx hb dL_isTurned_150 (by decide) ?_
  refine W.widen (k := C0 + 40) (n := S0 + 240) (by omega) (by omega) ?_
  exact kI s0 (x2 + 1) σ (Option.some.inj hf).symm _ _ _ hw (lv_sub hl [2, 1, 0] rfl)
set_option maxHeartbeats 4000000 in
set_option maxRecDepth 100000 in
theorem t_L_isTurned_B4_L145 (hC : zC p l s m args meth c cL_isTurned 3 RL D cA B0) {C0 S0 : Nat} (h0 : C0 + 40 ≤ 120 ∧ S0 + 240 ≤ 720) {Γ : zSh} {x0 : Nat} {x2 : Int32}  {σ : zSt} {out : ((Int32 × Int32 × zSt) ⊕ (Int32 × zSt))} (hf : f_L_isTurned_B4_L145 Γ x0 x2 σ = some out) {H : Heap} {locs : List Loc} {ls : Array Slot} (hw : zO D cA B0 Γ σ (ZB B0) s.heap H locs) (hl : lv_has ls 3 [(0, .ref x0), (2, .int x2)])
    (kI : ∀ (z1 : Int32) (z2 : Int32) (σ2 : zSt), out = .inl (z1, z2, σ2) → ∀ (H : Heap) (locs : List Loc) (ls : Array Slot), zO D cA B0 Γ σ2 (ZB B0) s.heap H locs → lv_has ls 3 [(0, .ref x0), (1, .int z1), (2, .int z2)] → W p l e rm_L_isTurned s m args below meth c H locs (C0 + 40) (S0 + 240) Q (F0 m 4 ls []))
    (kE : ∀ (z1 : Int32) (σ2 : zSt), out = .inr (z1, σ2) → ∀ (H : Heap) (locs : List Loc) (ls : Array Slot), zO D cA B0 Γ σ2 (ZB B0) s.heap H locs → lv_has ls 3 [(1, .int z1)] → W p l e rm_L_isTurned s m args below meth c H locs (C0 + 40) (S0 + 240) Q (F0 m 153 ls [])) :
    W p l e rm_L_isTurned s m args below meth c H locs (C0 + 40) (S0 + 240) Q (F0 m 145 ls []) := by
  have hx := hC.1
  have hb := hC.2.1
  unfold f_L_isTurned_B4_L145 at hf
  refine lv_iconst (v := 0) hx hb dL_isTurned_145 (by decide) ?_
  exact t_L_isTurned_B4_L146 hC h0 hf hw (lv_sub hl [0, 1] rfl) kI kE
set_option maxHeartbeats 4000000 in
set_option maxRecDepth 100000 in
theorem t_L_isTurned_B4_L116 (hC : zC p l s m args meth c cL_isTurned 3 RL D cA B0) {C0 S0 : Nat} (h0 : C0 + 40 ≤ 120 ∧ S0 + 240 ≤ 720) {Γ : zSh} {x0 : Nat} {x2 : Int32} {s0 : Int32}  {σ : zSt} {out : ((Int32 × Int32 × zSt) ⊕ (Int32 × zSt))} (hf : f_L_isTurned_B4_L116 Γ x0 x2 s0 σ = some out) {H : Heap} {locs : List Loc} {ls : Array Slot} (hw : zO D cA B0 Γ σ (ZB B0) s.heap H locs) (hl : lv_has ls 3 [(0, .ref x0), (2, .int x2)])
    (kI : ∀ (z1 : Int32) (z2 : Int32) (σ2 : zSt), out = .inl (z1, z2, σ2) → ∀ (H : Heap) (locs : List Loc) (ls : Array Slot), zO D cA B0 Γ σ2 (ZB B0) s.heap H locs → lv_has ls 3 [(0, .ref x0), (1, .int z1), (2, .int z2)] → W p l e rm_L_isTurned s m args below meth c H locs (C0 + 40) (S0 + 240) Q (F0 m 4 ls []))
    (kE : ∀ (z1 : Int32) (σ2 : zSt), out = .inr (z1, σ2) → ∀ (H : Heap) (locs : List Loc) (ls : Array Slot), zO D cA B0 Γ σ2 (ZB B0) s.heap H locs → lv_has ls 3 [(1, .int z1)] → W p l e rm_L_isTurned s m args below meth c H locs (C0 + 40) (S0 + 240) Q (F0 m 153 ls [])) :
    W p l e rm_L_isTurned s m args below meth c H locs (C0 + 32) (S0 + 192) Q (F0 m 116 ls [.int s0]) := by
  have hx := hC.1
  have hb := hC.2.1
  unfold f_L_isTurned_B4_L116 at hf
  refine lv_istore_n (lv' := [(1, .int s0), (0, .ref x0), (2, .int x2)]) hx hb dL_isTurned_116 rfl hl (Nat.le_of_ble_eq_true rfl) rfl (fun ls hl => ?_)
  refine lv_iload_n hx hb dL_isTurned_117 rfl (lv_at hl 0 rfl) ?_
  refine lv_if_eq (tgt := 145) hx hb dL_isTurned_118 (by decide) (fun hc => ?_) (fun hc => ?_)
  · rw [if_pos hc] at hf
    refine W.widen (k := C0 + 40) (n := S0 + 240) (by omega) (by omega) ?_
    exact t_L_isTurned_B4_L145 hC h0 hf hw (lv_sub hl [1, 2] rfl) kI kE
  · rw [if_neg hc] at hf
    refine lv_aload_n hx hb dL_isTurned_121 rfl (lv_at hl 1 rfl) ?_
    refine lv_iconst (v := 0) hx hb dL_isTurned_122 (by decide) ?_
    refine lv_iconst (v := 0) hx hb dL_isTurned_123 (by decide) ?_
    refine lv_iconst (v := 1) hx hb dL_isTurned_124 (by decide) ?_
    obtain ⟨ho, hf⟩ := chk_inv hf
    obtain ⟨r4, σ3, hk, hf⟩ := xonly_inv hf
    refine z_ocallV (As := [.int 0, .int 0, .int 1]) (rest := []) (m_X6_derive hC.2.2.2.2.2.2.2.2 hk) hC hw wd_X6_derive lkM_L_56 (isO_sh ho) rfl rfl ⟨rfl, rfl⟩ ⟨(Nat.le_of_ble_eq_true rfl), (Nat.le_of_ble_eq_true rfl)⟩ hl.1 rfl (Nat.le_of_ble_eq_true rfl) dL_isTurned_125 ⟨(by show _ ≤ (120 : Nat); omega), (by show _ ≤ (720 : Nat); omega)⟩ (fun H locs hw => ?_)
    refine lv_if_lt (tgt := 145) hx hb dL_isTurned_128 (by decide) (fun hc => ?_) (fun hc => ?_)
    · rw [if_pos hc] at hf
      refine W.widen (k := C0 + 40) (n := S0 + 240) (by omega) (by omega) ?_
      exact t_L_isTurned_B4_L145 hC h0 hf hw (lv_sub hl [1, 2] rfl) kI kE
    · rw [if_neg hc] at hf
      refine lv_aload_n hx hb dL_isTurned_131 rfl (lv_at hl 1 rfl) ?_
      refine lv_iconst (v := 1) hx hb dL_isTurned_132 (by decide) ?_
      refine lv_iconst (v := 1) hx hb dL_isTurned_133 (by decide) ?_
      refine lv_iconst (v := 1) hx hb dL_isTurned_134 (by decide) ?_
      obtain ⟨ho, hf⟩ := chk_inv hf
      obtain ⟨r6, σ5, hk, hf⟩ := xonly_inv hf
      refine z_ocallV (As := [.int 1, .int 1, .int 1]) (rest := []) (m_X6_derive hC.2.2.2.2.2.2.2.2 hk) hC hw wd_X6_derive lkM_L_56 (isO_sh ho) rfl rfl ⟨rfl, rfl⟩ ⟨(Nat.le_of_ble_eq_true rfl), (Nat.le_of_ble_eq_true rfl)⟩ hl.1 rfl (Nat.le_of_ble_eq_true rfl) dL_isTurned_135 ⟨(by show _ ≤ (120 : Nat); omega), (by show _ ≤ (720 : Nat); omega)⟩ (fun H locs hw => ?_)
      refine lv_if_lt (tgt := 145) hx hb dL_isTurned_138 (by decide) (fun hc => ?_) (fun hc => ?_)
      · rw [if_pos hc] at hf
        exact t_L_isTurned_B4_L145 hC h0 hf hw (lv_sub hl [1, 2] rfl) kI kE
      · rw [if_neg hc] at hf
        refine lv_iconst (v := 1) hx hb dL_isTurned_141 (by decide) ?_
        refine lv_goto (tgt := 146) hx hb dL_isTurned_142 (by decide) ?_
        exact t_L_isTurned_B4_L146 hC h0 hf hw (lv_sub hl [1, 2] rfl) kI kE
set_option maxHeartbeats 4000000 in
set_option maxRecDepth 100000 in
theorem t_L_isTurned_B4_L115 (hC : zC p l s m args meth c cL_isTurned 3 RL D cA B0) {C0 S0 : Nat} (h0 : C0 + 40 ≤ 120 ∧ S0 + 240 ≤ 720) {Γ : zSh} {x0 : Nat} {x2 : Int32}  {σ : zSt} {out : ((Int32 × Int32 × zSt) ⊕ (Int32 × zSt))} (hf : f_L_isTurned_B4_L115 Γ x0 x2 σ = some out) {H : Heap} {locs : List Loc} {ls : Array Slot} (hw : zO D cA B0 Γ σ (ZB B0) s.heap H locs) (hl : lv_has ls 3 [(0, .ref x0), (2, .int x2)])
    (kI : ∀ (z1 : Int32) (z2 : Int32) (σ2 : zSt), out = .inl (z1, z2, σ2) → ∀ (H : Heap) (locs : List Loc) (ls : Array Slot), zO D cA B0 Γ σ2 (ZB B0) s.heap H locs → lv_has ls 3 [(0, .ref x0), (1, .int z1), (2, .int z2)] → W p l e rm_L_isTurned s m args below meth c H locs (C0 + 40) (S0 + 240) Q (F0 m 4 ls []))
    (kE : ∀ (z1 : Int32) (σ2 : zSt), out = .inr (z1, σ2) → ∀ (H : Heap) (locs : List Loc) (ls : Array Slot), zO D cA B0 Γ σ2 (ZB B0) s.heap H locs → lv_has ls 3 [(1, .int z1)] → W p l e rm_L_isTurned s m args below meth c H locs (C0 + 40) (S0 + 240) Q (F0 m 153 ls [])) :
    W p l e rm_L_isTurned s m args below meth c H locs (C0 + 32) (S0 + 192) Q (F0 m 115 ls []) := by
  have hx := hC.1
  have hb := hC.2.1
  unfold f_L_isTurned_B4_L115 at hf
  refine lv_iconst (v := 0) hx hb dL_isTurned_115 (by decide) ?_
  exact t_L_isTurned_B4_L116 hC h0 hf hw (lv_sub hl [0, 1] rfl) kI kE
set_option maxHeartbeats 4000000 in
set_option maxRecDepth 100000 in
theorem t_L_isTurned_B4_L55 (hC : zC p l s m args meth c cL_isTurned 3 RL D cA B0) {C0 S0 : Nat} (h0 : C0 + 40 ≤ 120 ∧ S0 + 240 ≤ 720) {Γ : zSh} {x0 : Nat} {x2 : Int32} {s0 : Int32}  {σ : zSt} {out : ((Int32 × Int32 × zSt) ⊕ (Int32 × zSt))} (hf : f_L_isTurned_B4_L55 Γ x0 x2 s0 σ = some out) {H : Heap} {locs : List Loc} {ls : Array Slot} (hw : zO D cA B0 Γ σ (ZB B0) s.heap H locs) (hl : lv_has ls 3 [(0, .ref x0), (2, .int x2)])
    (kI : ∀ (z1 : Int32) (z2 : Int32) (σ2 : zSt), out = .inl (z1, z2, σ2) → ∀ (H : Heap) (locs : List Loc) (ls : Array Slot), zO D cA B0 Γ σ2 (ZB B0) s.heap H locs → lv_has ls 3 [(0, .ref x0), (1, .int z1), (2, .int z2)] → W p l e rm_L_isTurned s m args below meth c H locs (C0 + 40) (S0 + 240) Q (F0 m 4 ls []))
    (kE : ∀ (z1 : Int32) (σ2 : zSt), out = .inr (z1, σ2) → ∀ (H : Heap) (locs : List Loc) (ls : Array Slot), zO D cA B0 Γ σ2 (ZB B0) s.heap H locs → lv_has ls 3 [(1, .int z1)] → W p l e rm_L_isTurned s m args below meth c H locs (C0 + 40) (S0 + 240) Q (F0 m 153 ls [])) :
    W p l e rm_L_isTurned s m args below meth c H locs (C0 + 13) (S0 + 78) Q (F0 m 55 ls [.int s0]) := by
  have hx := hC.1
  have hb := hC.2.1
  unfold f_L_isTurned_B4_L55 at hf
  refine lv_istore_n (lv' := [(1, .int s0), (0, .ref x0), (2, .int x2)]) hx hb dL_isTurned_55 rfl hl (Nat.le_of_ble_eq_true rfl) rfl (fun ls hl => ?_)
  refine lv_iload_n hx hb dL_isTurned_56 rfl (lv_at hl 0 rfl) ?_
  refine lv_if_eq (tgt := 115) hx hb dL_isTurned_57 (by decide) (fun hc => ?_) (fun hc => ?_)
  · rw [if_pos hc] at hf
    refine W.widen (k := C0 + 32) (n := S0 + 192) (by omega) (by omega) ?_
    exact t_L_isTurned_B4_L115 hC h0 hf hw (lv_sub hl [1, 2] rfl) kI kE
  · rw [if_neg hc] at hf
    refine lv_aload_n hx hb dL_isTurned_60 rfl (lv_at hl 1 rfl) ?_
    refine lv_iconst (v := 2) hx hb dL_isTurned_61 (by decide) ?_
    refine lv_iconst (v := 2) hx hb dL_isTurned_62 (by decide) ?_
    refine lv_iconst (v := 1) hx hb dL_isTurned_63 (by decide) ?_
    obtain ⟨ho, hf⟩ := chk_inv hf
    obtain ⟨r8, σ7, hk, hf⟩ := xonly_inv hf
    refine z_ocallV (As := [.int 2, .int 2, .int 1]) (rest := []) (m_X6_derive hC.2.2.2.2.2.2.2.2 hk) hC hw wd_X6_derive lkM_L_56 (isO_sh ho) rfl rfl ⟨rfl, rfl⟩ ⟨(Nat.le_of_ble_eq_true rfl), (Nat.le_of_ble_eq_true rfl)⟩ hl.1 rfl (Nat.le_of_ble_eq_true rfl) dL_isTurned_64 ⟨(by show _ ≤ (120 : Nat); omega), (by show _ ≤ (720 : Nat); omega)⟩ (fun H locs hw => ?_)
    refine lv_if_lt (tgt := 115) hx hb dL_isTurned_67 (by decide) (fun hc => ?_) (fun hc => ?_)
    · rw [if_pos hc] at hf
      refine W.widen (k := C0 + 32) (n := S0 + 192) (by omega) (by omega) ?_
      exact t_L_isTurned_B4_L115 hC h0 hf hw (lv_sub hl [1, 2] rfl) kI kE
    · rw [if_neg hc] at hf
      refine lv_aload_n hx hb dL_isTurned_70 rfl (lv_at hl 1 rfl) ?_
      refine lv_iconst (v := 0) hx hb dL_isTurned_71 (by decide) ?_
      refine lv_iconst (v := 0) hx hb dL_isTurned_72 (by decide) ?_
      refine lv_iconst (v := 1) hx hb dL_isTurned_73 (by decide) ?_
      obtain ⟨ho, hf⟩ := chk_inv hf
      obtain ⟨r10, σ9, hk, hf⟩ := xonly_inv hf
      refine z_ocallV (As := [.int 0, .int 0, .int 1]) (rest := []) (m_X6_derive hC.2.2.2.2.2.2.2.2 hk) hC hw wd_X6_derive lkM_L_56 (isO_sh ho) rfl rfl ⟨rfl, rfl⟩ ⟨(Nat.le_of_ble_eq_true rfl), (Nat.le_of_ble_eq_true rfl)⟩ hl.1 rfl (Nat.le_of_ble_eq_true rfl) dL_isTurned_74 ⟨(by show _ ≤ (120 : Nat); omega), (by show _ ≤ (720 : Nat); omega)⟩ (fun H locs hw => ?_)
      refine lv_if_lt (tgt := 115) hx hb dL_isTurned_77 (by decide) (fun hc => ?_) (fun hc => ?_)
      · rw [if_pos hc] at hf
        refine W.widen (k := C0 + 32) (n := S0 + 192) (by omega) (by omega) ?_
        exact t_L_isTurned_B4_L115 hC h0 hf hw (lv_sub hl [1, 2] rfl) kI kE
      · rw [if_neg hc] at hf
        refine lv_aload_n hx hb dL_isTurned_80 rfl (lv_at hl 1 rfl) ?_
        refine lv_iconst (v := 1) hx hb dL_isTurned_81 (by decide) ?_
        refine lv_iconst (v := 1) hx hb dL_isTurned_82 (by decide) ?_
        refine lv_iconst (v := 1) hx hb dL_isTurned_83 (by decide) ?_
        obtain ⟨ho, hf⟩ := chk_inv hf
        obtain ⟨r12, σ11, hk, hf⟩ := xonly_inv hf
        refine z_ocallV (As := [.int 1, .int 1, .int 1]) (rest := []) (m_X6_derive hC.2.2.2.2.2.2.2.2 hk) hC hw wd_X6_derive lkM_L_56 (isO_sh ho) rfl rfl ⟨rfl, rfl⟩ ⟨(Nat.le_of_ble_eq_true rfl), (Nat.le_of_ble_eq_true rfl)⟩ hl.1 rfl (Nat.le_of_ble_eq_true rfl) dL_isTurned_84 ⟨(by show _ ≤ (120 : Nat); omega), (by show _ ≤ (720 : Nat); omega)⟩ (fun H locs hw => ?_)
        refine lv_if_lt (tgt := 115) hx hb dL_isTurned_87 (by decide) (fun hc => ?_) (fun hc => ?_)
        · rw [if_pos hc] at hf
          refine W.widen (k := C0 + 32) (n := S0 + 192) (by omega) (by omega) ?_
          exact t_L_isTurned_B4_L115 hC h0 hf hw (lv_sub hl [1, 2] rfl) kI kE
        · rw [if_neg hc] at hf
          refine lv_aload_n hx hb dL_isTurned_90 rfl (lv_at hl 1 rfl) ?_
          refine lv_iconst (v := 3) hx hb dL_isTurned_91 (by decide) ?_
          refine lv_iconst (v := 0) hx hb dL_isTurned_92 (by decide) ?_
          refine lv_iconst (v := 1) hx hb dL_isTurned_93 (by decide) ?_
          refine lv_iload_n hx hb dL_isTurned_94 rfl (lv_at hl 2 rfl) ?_
          obtain ⟨ho, hf⟩ := chk_inv hf
          obtain ⟨r14, σ13, hk, hf⟩ := xonly_inv hf
          refine z_ocallV (As := [.int 3, .int 0, .int 1, .int x2]) (rest := []) (m_X6_combine hC.2.2.2.2.2.2.2.2 hk) hC hw wd_X6_combine lkM_L_26 (isO_sh ho) rfl rfl ⟨rfl, rfl⟩ ⟨(Nat.le_of_ble_eq_true rfl), (Nat.le_of_ble_eq_true rfl)⟩ hl.1 rfl (Nat.le_of_ble_eq_true rfl) dL_isTurned_95 ⟨(by show _ ≤ (120 : Nat); omega), (by show _ ≤ (720 : Nat); omega)⟩ (fun H locs hw => ?_)
          refine lv_if_lt (tgt := 115) hx hb dL_isTurned_98 (by decide) (fun hc => ?_) (fun hc => ?_)
          · rw [if_pos hc] at hf
            refine W.widen (k := C0 + 32) (n := S0 + 192) (by omega) (by omega) ?_
            exact t_L_isTurned_B4_L115 hC h0 hf hw (lv_sub hl [1, 2] rfl) kI kE
          · rw [if_neg hc] at hf
            refine lv_aload_n hx hb dL_isTurned_101 rfl (lv_at hl 1 rfl) ?_
            refine lv_iconst (v := 2) hx hb dL_isTurned_102 (by decide) ?_
            refine lv_iconst (v := 3) hx hb dL_isTurned_103 (by decide) ?_
            obtain ⟨ho, hf⟩ := chk_inv hf
            obtain ⟨r16, σ15, hk, hf⟩ := xonly_inv hf
            refine z_ocallV (As := [.int 2, .int 3]) (rest := []) (m_X6_differing hC.2.2.2.2.2.2.2.2 hk) hC hw wd_X6_differing lkM_L_53 (isO_sh ho) rfl rfl ⟨rfl, rfl⟩ ⟨(Nat.le_of_ble_eq_true rfl), (Nat.le_of_ble_eq_true rfl)⟩ hl.1 rfl (Nat.le_of_ble_eq_true rfl) dL_isTurned_104 ⟨(by show _ ≤ (120 : Nat); omega), (by show _ ≤ (720 : Nat); omega)⟩ (fun H locs hw => ?_)
            refine lv_iconst (v := (-1)) hx hb dL_isTurned_107 (by decide) ?_
            refine lv_icmp_ne (tgt := 115) hx hb dL_isTurned_108 (by decide) (fun hc => ?_) (fun hc => ?_)
            · rw [if_neg hc] at hf
              exact t_L_isTurned_B4_L115 hC h0 hf hw (lv_sub hl [1, 2] rfl) kI kE
            · rw [if_pos hc] at hf
              refine lv_iconst (v := 1) hx hb dL_isTurned_111 (by decide) ?_
              refine lv_goto (tgt := 116) hx hb dL_isTurned_112 (by decide) ?_
              exact t_L_isTurned_B4_L116 hC h0 hf hw (lv_sub hl [1, 2] rfl) kI kE
set_option maxHeartbeats 4000000 in
set_option maxRecDepth 100000 in
theorem t_L_isTurned_B4_L54 (hC : zC p l s m args meth c cL_isTurned 3 RL D cA B0) {C0 S0 : Nat} (h0 : C0 + 40 ≤ 120 ∧ S0 + 240 ≤ 720) {Γ : zSh} {x0 : Nat} {x2 : Int32}  {σ : zSt} {out : ((Int32 × Int32 × zSt) ⊕ (Int32 × zSt))} (hf : f_L_isTurned_B4_L54 Γ x0 x2 σ = some out) {H : Heap} {locs : List Loc} {ls : Array Slot} (hw : zO D cA B0 Γ σ (ZB B0) s.heap H locs) (hl : lv_has ls 3 [(0, .ref x0), (2, .int x2)])
    (kI : ∀ (z1 : Int32) (z2 : Int32) (σ2 : zSt), out = .inl (z1, z2, σ2) → ∀ (H : Heap) (locs : List Loc) (ls : Array Slot), zO D cA B0 Γ σ2 (ZB B0) s.heap H locs → lv_has ls 3 [(0, .ref x0), (1, .int z1), (2, .int z2)] → W p l e rm_L_isTurned s m args below meth c H locs (C0 + 40) (S0 + 240) Q (F0 m 4 ls []))
    (kE : ∀ (z1 : Int32) (σ2 : zSt), out = .inr (z1, σ2) → ∀ (H : Heap) (locs : List Loc) (ls : Array Slot), zO D cA B0 Γ σ2 (ZB B0) s.heap H locs → lv_has ls 3 [(1, .int z1)] → W p l e rm_L_isTurned s m args below meth c H locs (C0 + 40) (S0 + 240) Q (F0 m 153 ls [])) :
    W p l e rm_L_isTurned s m args below meth c H locs (C0 + 13) (S0 + 78) Q (F0 m 54 ls []) := by
  have hx := hC.1
  have hb := hC.2.1
  unfold f_L_isTurned_B4_L54 at hf
  refine lv_iconst (v := 0) hx hb dL_isTurned_54 (by decide) ?_
  exact t_L_isTurned_B4_L55 hC h0 hf hw (lv_sub hl [0, 1] rfl) kI kE
set_option maxHeartbeats 8000000 in
set_option maxRecDepth 100000 in
theorem t_L_isTurned_B4 (hC : zC p l s m args meth c cL_isTurned 3 RL D cA B0) {C0 S0 : Nat} (h0 : C0 + 40 ≤ 120 ∧ S0 + 240 ≤ 720) {Γ : zSh} {x0 : Nat} {x1 : Int32} {x2 : Int32} {σ : zSt} {out : ((Int32 × Int32 × zSt) ⊕ (Int32 × zSt))} (hf : f_L_isTurned_B4 Γ x0 x1 x2 σ = some out) {H : Heap} {locs : List Loc} {ls : Array Slot} (hw : zO D cA B0 Γ σ (ZB B0) s.heap H locs) (hl : lv_has ls 3 [(0, .ref x0), (1, .int x1), (2, .int x2)])
    (kI : ∀ (z1 : Int32) (z2 : Int32) (σ2 : zSt), out = .inl (z1, z2, σ2) → ∀ (H : Heap) (locs : List Loc) (ls : Array Slot), zO D cA B0 Γ σ2 (ZB B0) s.heap H locs → lv_has ls 3 [(0, .ref x0), (1, .int z1), (2, .int z2)] → W p l e rm_L_isTurned s m args below meth c H locs (C0 + 40) (S0 + 240) Q (F0 m 4 ls []))
    (kE : ∀ (z1 : Int32) (σ2 : zSt), out = .inr (z1, σ2) → ∀ (H : Heap) (locs : List Loc) (ls : Array Slot), zO D cA B0 Γ σ2 (ZB B0) s.heap H locs → lv_has ls 3 [(1, .int z1)] → W p l e rm_L_isTurned s m args below meth c H locs (C0 + 40) (S0 + 240) Q (F0 m 153 ls [])) :
    W p l e rm_L_isTurned s m args below meth c H locs (C0 + 0) (S0 + 0) Q (F0 m 4 ls []) := by
  have hx := hC.1
  have hb := hC.2.1
  unfold f_L_isTurned_B4 at hf
  refine lv_iload_n hx hb dL_isTurned_4 rfl (lv_at hl 2 rfl) ?_
  refine lv_iconst (v := 2) hx hb dL_isTurned_5 (by decide) ?_
  refine lv_icmp_ge (tgt := 153) hx hb dL_isTurned_6 (by decide) (fun hc => ?_) (fun hc => ?_)
  · rw [if_pos hc] at hf
    refine W.widen (k := C0 + 40) (n := S0 + 240) (by omega) (by omega) ?_
    exact kE x1 σ (Option.some.inj hf).symm _ _ _ hw (lv_sub hl [1] rfl)
  · rw [if_neg hc] at hf
    refine lv_iload_n hx hb dL_isTurned_9 rfl (lv_at hl 1 rfl) ?_
    refine lv_if_eq (tgt := 153) hx hb dL_isTurned_10 (by decide) (fun hc => ?_) (fun hc => ?_)
    · rw [if_pos hc] at hf
      refine W.widen (k := C0 + 40) (n := S0 + 240) (by omega) (by omega) ?_
      exact kE x1 σ (Option.some.inj hf).symm _ _ _ hw (lv_sub hl [1] rfl)
    · rw [if_neg hc] at hf
      refine lv_aload_n hx hb dL_isTurned_13 rfl (lv_at hl 0 rfl) ?_
      refine lv_iconst (v := 2) hx hb dL_isTurned_14 (by decide) ?_
      refine lv_iconst (v := 0) hx hb dL_isTurned_15 (by decide) ?_
      refine lv_iconst (v := 1) hx hb dL_isTurned_16 (by decide) ?_
      refine lv_iload_n hx hb dL_isTurned_17 rfl (lv_at hl 2 rfl) ?_
      obtain ⟨ho, hf⟩ := chk_inv hf
      obtain ⟨r2, σ1, hk, hf⟩ := xonly_inv hf
      refine z_ocallV (As := [.int 2, .int 0, .int 1, .int x2]) (rest := []) (m_X6_combine hC.2.2.2.2.2.2.2.2 hk) hC hw wd_X6_combine lkM_L_26 (isO_sh ho) rfl rfl ⟨rfl, rfl⟩ ⟨(Nat.le_of_ble_eq_true rfl), (Nat.le_of_ble_eq_true rfl)⟩ hl.1 rfl (Nat.le_of_ble_eq_true rfl) dL_isTurned_18 ⟨(by show _ ≤ (120 : Nat); omega), (by show _ ≤ (720 : Nat); omega)⟩ (fun H locs hw => ?_)
      refine lv_if_lt (tgt := 54) hx hb dL_isTurned_21 (by decide) (fun hc => ?_) (fun hc => ?_)
      · rw [if_pos hc] at hf
        refine W.widen (k := C0 + 13) (n := S0 + 78) (by omega) (by omega) ?_
        exact t_L_isTurned_B4_L54 hC h0 hf hw (lv_sub hl [0, 2] rfl) kI kE
      · rw [if_neg hc] at hf
        refine lv_aload_n hx hb dL_isTurned_24 rfl (lv_at hl 0 rfl) ?_
        refine lv_iconst (v := 3) hx hb dL_isTurned_25 (by decide) ?_
        refine lv_iconst (v := 1) hx hb dL_isTurned_26 (by decide) ?_
        refine lv_iconst (v := 0) hx hb dL_isTurned_27 (by decide) ?_
        refine lv_iload_n hx hb dL_isTurned_28 rfl (lv_at hl 2 rfl) ?_
        obtain ⟨ho, hf⟩ := chk_inv hf
        obtain ⟨r18, σ17, hk, hf⟩ := xonly_inv hf
        refine z_ocallV (As := [.int 3, .int 1, .int 0, .int x2]) (rest := []) (m_X6_combine hC.2.2.2.2.2.2.2.2 hk) hC hw wd_X6_combine lkM_L_26 (isO_sh ho) rfl rfl ⟨rfl, rfl⟩ ⟨(Nat.le_of_ble_eq_true rfl), (Nat.le_of_ble_eq_true rfl)⟩ hl.1 rfl (Nat.le_of_ble_eq_true rfl) dL_isTurned_29 ⟨(by show _ ≤ (120 : Nat); omega), (by show _ ≤ (720 : Nat); omega)⟩ (fun H locs hw => ?_)
        refine lv_aload_n hx hb dL_isTurned_32 rfl (lv_at hl 0 rfl) ?_
        refine lv_iconst (v := 2) hx hb dL_isTurned_33 (by decide) ?_
        obtain ⟨ho, hf⟩ := chk_inv hf
        obtain ⟨r20, σ19, hk, hf⟩ := xonly_inv hf
        refine z_ocallV (As := [.int 2]) (rest := [.int r18]) (m_X6_states hC.2.2.2.2.2.2.2.2 hk) hC hw wd_X6_states lkM_L_50 (isO_sh ho) rfl rfl ⟨rfl, rfl⟩ ⟨(Nat.le_of_ble_eq_true rfl), (Nat.le_of_ble_eq_true rfl)⟩ hl.1 rfl (Nat.le_of_ble_eq_true rfl) dL_isTurned_34 ⟨(by show _ ≤ (120 : Nat); omega), (by show _ ≤ (720 : Nat); omega)⟩ (fun H locs hw => ?_)
        refine lv_icmp_ne (tgt := 54) hx hb dL_isTurned_37 (by decide) (fun hc => ?_) (fun hc => ?_)
        · rw [if_neg hc] at hf
          refine W.widen (k := C0 + 13) (n := S0 + 78) (by omega) (by omega) ?_
          exact t_L_isTurned_B4_L54 hC h0 hf hw (lv_sub hl [0, 2] rfl) kI kE
        · rw [if_pos hc] at hf
          refine lv_aload_n hx hb dL_isTurned_40 rfl (lv_at hl 0 rfl) ?_
          refine lv_iconst (v := 2) hx hb dL_isTurned_41 (by decide) ?_
          refine lv_iconst (v := 3) hx hb dL_isTurned_42 (by decide) ?_
          obtain ⟨ho, hf⟩ := chk_inv hf
          obtain ⟨r22, σ21, hk, hf⟩ := xonly_inv hf
          refine z_ocallV (As := [.int 2, .int 3]) (rest := []) (m_X6_differing hC.2.2.2.2.2.2.2.2 hk) hC hw wd_X6_differing lkM_L_53 (isO_sh ho) rfl rfl ⟨rfl, rfl⟩ ⟨(Nat.le_of_ble_eq_true rfl), (Nat.le_of_ble_eq_true rfl)⟩ hl.1 rfl (Nat.le_of_ble_eq_true rfl) dL_isTurned_43 ⟨(by show _ ≤ (120 : Nat); omega), (by show _ ≤ (720 : Nat); omega)⟩ (fun H locs hw => ?_)
          refine lv_iconst (v := (-1)) hx hb dL_isTurned_46 (by decide) ?_
          refine lv_icmp_ne (tgt := 54) hx hb dL_isTurned_47 (by decide) (fun hc => ?_) (fun hc => ?_)
          · rw [if_neg hc] at hf
            exact t_L_isTurned_B4_L54 hC h0 hf hw (lv_sub hl [0, 2] rfl) kI kE
          · rw [if_pos hc] at hf
            refine lv_iconst (v := 1) hx hb dL_isTurned_50 (by decide) ?_
            refine lv_goto (tgt := 55) hx hb dL_isTurned_51 (by decide) ?_
            exact t_L_isTurned_B4_L55 hC h0 hf hw (lv_sub hl [0, 2] rfl) kI kE
set_option maxHeartbeats 4000000 in
theorem l_L_isTurned_B4 (hC : zC p l s m args meth c cL_isTurned 3 RL D cA B0) {Γ : zSh} {x0 : Nat} {w1 : Int32} {σ2 : zSt} (kE : ∀ (H : Heap) (locs : List Loc) (ls : Array Slot), zO D cA B0 Γ σ2 (ZB B0) s.heap H locs → lv_has ls 3 [(1, .int w1)] → W p l e rm_L_isTurned s m args below meth c H locs 120 720 Q (F0 m 153 ls [])) :
    ∀ (n k : Nat), n + k = 3 → ∀ (x1 : Int32) (x2 : Int32) (σ : zSt), loopM (fun q => f_L_isTurned_B4 Γ x0 q.1 q.2.1 q.2.2) n (x1, x2, σ) = some (w1, σ2) → ∀ (H : Heap) (locs : List Loc) (ls : Array Slot), zO D cA B0 Γ σ (ZB B0) s.heap H locs → lv_has ls 3 [(0, .ref x0), (1, .int x1), (2, .int x2)] → W p l e rm_L_isTurned s m args below meth c H locs (0 + 40 * k) (0 + 240 * k) Q (F0 m 4 ls []) := by
  intro n
  induction n with
  | zero => intro k _ x1 x2 σ h; exact absurd h (by simp [loopM])
  | succ n ih =>
    intro k hnk x1 x2 σ h H locs ls hw hl
    obtain ⟨r, h1, h2, h3⟩ := loopM_inv h
    have hk : k + 1 ≤ 3 := by omega
    refine t_L_isTurned_B4 (C0 := 0 + 40 * k) (S0 := 0 + 240 * k) hC ⟨by omega, by omega⟩ h1 hw hl (fun z1 z2 s2 e H locs ls hw hl => ?_) (fun z1 s2 e H locs ls hw hl => ?_)
    · exact W.widen (k := 0 + 40 * (k + 1)) (n := 0 + 240 * (k + 1)) (by omega) (by omega) (ih (k + 1) (by omega) z1 z2 s2 (h2 _ e) H locs ls hw hl)
    · cases h3 _ e
      exact W.widen (k := 120) (n := 720) (by omega) (by omega) (kE H locs ls hw hl)
set_option maxHeartbeats 4000000 in
set_option maxRecDepth 100000 in
theorem m_L_isTurned (h9 : l.stackTraces = false) {Γ : zSh} {a0 : Nat} {σ : zSt} {r : Int32} {σ2 : zSt} (hf : f_L_isTurned Γ a0 σ = some (r, σ2)) : Met l yL_isTurned (wq yL_isTurned cL_isTurned 3 (Option.some FieldType.boolean)) rm_L_isTurned (zQ0 D cA B0 [.ref a0] Γ σ (ZB B0)) (zQ1 D cA B0 (some (.int r)) Γ σ2 (ZB B0)) 120 720 (FR B0) := by
  refine z_ofW h9 (by decide) (Nat.le_of_ble_eq_true rfl) ?_
  intro p e s m args below meth c ls hC hr _ hw hl
  have hx := hC.1
  have hb := hC.2.1
  have hl : lv_has ls 3 [(0, .ref a0)] := hl
  unfold f_L_isTurned at hf
  refine lv_iconst (v := 1) hx hb dL_isTurned_0 (by decide) ?_
  refine lv_istore_n (lv' := [(1, .int 1), (0, .ref a0)]) hx hb dL_isTurned_1 rfl hl (Nat.le_of_ble_eq_true rfl) rfl (fun ls hl => ?_)
  refine lv_iconst (v := 0) hx hb dL_isTurned_2 (by decide) ?_
  refine lv_istore_n (lv' := [(2, .int 0), (1, .int 1), (0, .ref a0)]) hx hb dL_isTurned_3 rfl hl (Nat.le_of_ble_eq_true rfl) rfl (fun ls hl => ?_)
  obtain ⟨w24, σ23, hk, hf⟩ := lb1_inv hf
  refine l_L_isTurned_B4 hC (fun H locs ls hw hl => ?_) 3 0 rfl 1 0 σ hk _ _ _ hw (lv_sub hl [2, 1, 0] rfl)
  refine lv_iload_n hx hb dL_isTurned_153 rfl (lv_at hl 0 rfl) ?_
  obtain ⟨hz, hf⟩ := chk_inv hf
  refine W.widen (k := 120) (n := 720) (Nat.le_of_ble_eq_true rfl) (Nat.le_of_ble_eq_true rfl) ?_
  first | (obtain ⟨rfl, rfl⟩ := sp_inv hf) | (obtain rfl := Option.some.inj hf)
  exact W.zret hx hb hr (isB_n hz).1 (z_ret hw rfl) hw.2.2.2.2.2 dL_isTurned_154 hC.2.2.2.2.2.1
set_option maxHeartbeats 4000000 in
set_option maxRecDepth 100000 in
theorem t_L_goUp_B12_L46 (hC : zC p l s m args meth c cL_goUp 5 RL D cA B0) {C0 S0 : Nat} (h0 : C0 + 4 ≤ 58 ∧ S0 + 24 ≤ 348) {Γ : zSh} {x0 : Nat} {x1 : Int32} {x3 : Int32} {x4 : Int32} {s0 : Int32}  {σ : zSt} {out : ((Int32 × Int32 × zSt) ⊕ (Int32 × zSt))} (hf : f_L_goUp_B12_L46 Γ x0 x1 x3 x4 s0 σ = some out) {H : Heap} {locs : List Loc} {ls : Array Slot} (hw : zO D cA B0 Γ σ (ZB B0) s.heap H locs) (hl : lv_has ls 5 [(0, .ref x0), (1, .int x1), (3, .int x3), (4, .int x4)])
    (kI : ∀ (z2 : Int32) (z4 : Int32) (σ2 : zSt), out = .inl (z2, z4, σ2) → ∀ (H : Heap) (locs : List Loc) (ls : Array Slot), zO D cA B0 Γ σ2 (ZB B0) s.heap H locs → lv_has ls 5 [(0, .ref x0), (1, .int x1), (2, .int z2), (3, .int x3), (4, .int z4)] → W p l e rm_L_goUp s m args below meth c H locs (C0 + 4) (S0 + 24) Q (F0 m 12 ls []))
    (kE : ∀ (z2 : Int32) (σ2 : zSt), out = .inr (z2, σ2) → ∀ (H : Heap) (locs : List Loc) (ls : Array Slot), zO D cA B0 Γ σ2 (ZB B0) s.heap H locs → lv_has ls 5 [(2, .int z2)] → W p l e rm_L_goUp s m args below meth c H locs (C0 + 4) (S0 + 24) Q (F0 m 53 ls [])) :
    W p l e rm_L_goUp s m args below meth c H locs (C0 + 4) (S0 + 24) Q (F0 m 46 ls [.int s0]) := by
  have hx := hC.1
  have hb := hC.2.1
  unfold f_L_goUp_B12_L46 at hf
  refine lv_istore_n (lv' := [(2, .int s0), (0, .ref x0), (1, .int x1), (3, .int x3), (4, .int x4)]) hx hb dL_goUp_46 rfl hl (Nat.le_of_ble_eq_true rfl) rfl (fun ls hl => ?_)
  refine lv_iinc (v := (x4 + 1)) (lv' := [(4, .int (x4 + 1)), (2, .int s0), (0, .ref x0), (1, .int x1), (3, .int x3)]) hx hb dL_goUp_47 hl (k := 4) rfl rfl (Nat.le_of_ble_eq_true rfl) rfl (fun ls hl => ?_)
  refine lv_goto (tgt := 12) hx hb dL_goUp_50 (by decide) ?_
  refine W.widen (k := C0 + 4) (n := S0 + 24) (by omega) (by omega) ?_
  exact kI s0 (x4 + 1) σ (Option.some.inj hf).symm _ _ _ hw (lv_sub hl [2, 3, 1, 4, 0] rfl)
set_option maxHeartbeats 4000000 in
set_option maxRecDepth 100000 in
theorem t_L_goUp_B12_L45 (hC : zC p l s m args meth c cL_goUp 5 RL D cA B0) {C0 S0 : Nat} (h0 : C0 + 4 ≤ 58 ∧ S0 + 24 ≤ 348) {Γ : zSh} {x0 : Nat} {x1 : Int32} {x3 : Int32} {x4 : Int32}  {σ : zSt} {out : ((Int32 × Int32 × zSt) ⊕ (Int32 × zSt))} (hf : f_L_goUp_B12_L45 Γ x0 x1 x3 x4 σ = some out) {H : Heap} {locs : List Loc} {ls : Array Slot} (hw : zO D cA B0 Γ σ (ZB B0) s.heap H locs) (hl : lv_has ls 5 [(0, .ref x0), (1, .int x1), (3, .int x3), (4, .int x4)])
    (kI : ∀ (z2 : Int32) (z4 : Int32) (σ2 : zSt), out = .inl (z2, z4, σ2) → ∀ (H : Heap) (locs : List Loc) (ls : Array Slot), zO D cA B0 Γ σ2 (ZB B0) s.heap H locs → lv_has ls 5 [(0, .ref x0), (1, .int x1), (2, .int z2), (3, .int x3), (4, .int z4)] → W p l e rm_L_goUp s m args below meth c H locs (C0 + 4) (S0 + 24) Q (F0 m 12 ls []))
    (kE : ∀ (z2 : Int32) (σ2 : zSt), out = .inr (z2, σ2) → ∀ (H : Heap) (locs : List Loc) (ls : Array Slot), zO D cA B0 Γ σ2 (ZB B0) s.heap H locs → lv_has ls 5 [(2, .int z2)] → W p l e rm_L_goUp s m args below meth c H locs (C0 + 4) (S0 + 24) Q (F0 m 53 ls [])) :
    W p l e rm_L_goUp s m args below meth c H locs (C0 + 4) (S0 + 24) Q (F0 m 45 ls []) := by
  have hx := hC.1
  have hb := hC.2.1
  unfold f_L_goUp_B12_L45 at hf
  refine lv_iconst (v := 0) hx hb dL_goUp_45 (by decide) ?_
  exact t_L_goUp_B12_L46 hC h0 hf hw (lv_sub hl [0, 1, 2, 3] rfl) kI kE
set_option maxHeartbeats 8000000 in
set_option maxRecDepth 100000 in
theorem t_L_goUp_B12 (hC : zC p l s m args meth c cL_goUp 5 RL D cA B0) {C0 S0 : Nat} (h0 : C0 + 4 ≤ 58 ∧ S0 + 24 ≤ 348) {Γ : zSh} {x0 : Nat} {x1 : Int32} {x3 : Int32} {x2 : Int32} {x4 : Int32} {σ : zSt} {out : ((Int32 × Int32 × zSt) ⊕ (Int32 × zSt))} (hf : f_L_goUp_B12 Γ x0 x1 x3 x2 x4 σ = some out) {H : Heap} {locs : List Loc} {ls : Array Slot} (hw : zO D cA B0 Γ σ (ZB B0) s.heap H locs) (hl : lv_has ls 5 [(0, .ref x0), (1, .int x1), (2, .int x2), (3, .int x3), (4, .int x4)])
    (kI : ∀ (z2 : Int32) (z4 : Int32) (σ2 : zSt), out = .inl (z2, z4, σ2) → ∀ (H : Heap) (locs : List Loc) (ls : Array Slot), zO D cA B0 Γ σ2 (ZB B0) s.heap H locs → lv_has ls 5 [(0, .ref x0), (1, .int x1), (2, .int z2), (3, .int x3), (4, .int z4)] → W p l e rm_L_goUp s m args below meth c H locs (C0 + 4) (S0 + 24) Q (F0 m 12 ls []))
    (kE : ∀ (z2 : Int32) (σ2 : zSt), out = .inr (z2, σ2) → ∀ (H : Heap) (locs : List Loc) (ls : Array Slot), zO D cA B0 Γ σ2 (ZB B0) s.heap H locs → lv_has ls 5 [(2, .int z2)] → W p l e rm_L_goUp s m args below meth c H locs (C0 + 4) (S0 + 24) Q (F0 m 53 ls [])) :
    W p l e rm_L_goUp s m args below meth c H locs (C0 + 0) (S0 + 0) Q (F0 m 12 ls []) := by
  have hx := hC.1
  have hb := hC.2.1
  unfold f_L_goUp_B12 at hf
  refine lv_iload hx hb dL_goUp_12 (lv_at hl 4 rfl) ?_
  refine lv_iload_n hx hb dL_goUp_14 rfl (lv_at hl 3 rfl) ?_
  refine lv_icmp_ge (tgt := 53) hx hb dL_goUp_15 (by decide) (fun hc => ?_) (fun hc => ?_)
  · rw [if_pos hc] at hf
    refine W.widen (k := C0 + 4) (n := S0 + 24) (by omega) (by omega) ?_
    exact kE x2 σ (Option.some.inj hf).symm _ _ _ hw (lv_sub hl [2] rfl)
  · rw [if_neg hc] at hf
    refine lv_iload_n hx hb dL_goUp_18 rfl (lv_at hl 2 rfl) ?_
    refine lv_if_eq (tgt := 45) hx hb dL_goUp_19 (by decide) (fun hc => ?_) (fun hc => ?_)
    · rw [if_pos hc] at hf
      refine W.widen (k := C0 + 4) (n := S0 + 24) (by omega) (by omega) ?_
      exact t_L_goUp_B12_L45 hC h0 hf hw (lv_sub hl [0, 1, 3, 4] rfl) kI kE
    · rw [if_neg hc] at hf
      refine lv_aload_n hx hb dL_goUp_22 rfl (lv_at hl 0 rfl) ?_
      refine lv_iload_n hx hb dL_goUp_23 rfl (lv_at hl 1 rfl) ?_
      refine lv_iload hx hb dL_goUp_24 (lv_at hl 4 rfl) ?_
      obtain ⟨ho, hf⟩ := chk_inv hf
      obtain ⟨r4, σ3, hk, hf⟩ := xonly_inv hf
      refine z_ocallV (As := [.int x1, .int x4]) (rest := []) (m_X6_basisWord hC.2.2.2.2.2.2.2.2 hk) hC hw wd_X6_basisWord lkM_L_67 (isO_sh ho) rfl rfl ⟨rfl, rfl⟩ ⟨(Nat.le_of_ble_eq_true rfl), (Nat.le_of_ble_eq_true rfl)⟩ hl.1 rfl (Nat.le_of_ble_eq_true rfl) dL_goUp_26 ⟨(by show _ ≤ (58 : Nat); omega), (by show _ ≤ (348 : Nat); omega)⟩ (fun H locs hw => ?_)
      refine lv_aload_n hx hb dL_goUp_29 rfl (lv_at hl 0 rfl) ?_
      refine lv_iload_n hx hb dL_goUp_30 rfl (lv_at hl 1 rfl) ?_
      refine lv_iload hx hb dL_goUp_31 (lv_at hl 4 rfl) ?_
      refine lv_iconst (v := 1) hx hb dL_goUp_33 (by decide) ?_
      refine lv_isub hx hb dL_goUp_34 ?_
      obtain ⟨ho, hf⟩ := chk_inv hf
      obtain ⟨r6, σ5, hk, hf⟩ := xonly_inv hf
      refine z_ocallV (As := [.int x1, .int (x4 - 1)]) (rest := [.int r4]) (m_X6_basisWord hC.2.2.2.2.2.2.2.2 hk) hC hw wd_X6_basisWord lkM_L_67 (isO_sh ho) rfl rfl ⟨rfl, rfl⟩ ⟨(Nat.le_of_ble_eq_true rfl), (Nat.le_of_ble_eq_true rfl)⟩ hl.1 rfl (Nat.le_of_ble_eq_true rfl) dL_goUp_35 ⟨(by show _ ≤ (58 : Nat); omega), (by show _ ≤ (348 : Nat); omega)⟩ (fun H locs hw => ?_)
      refine lv_icmp_le (tgt := 45) hx hb dL_goUp_38 (by decide) (fun hc => ?_) (fun hc => ?_)
      · rw [if_pos hc] at hf
        exact t_L_goUp_B12_L45 hC h0 hf hw (lv_sub hl [0, 1, 3, 4] rfl) kI kE
      · rw [if_neg hc] at hf
        refine lv_iconst (v := 1) hx hb dL_goUp_41 (by decide) ?_
        refine lv_goto (tgt := 46) hx hb dL_goUp_42 (by decide) ?_
        exact t_L_goUp_B12_L46 hC h0 hf hw (lv_sub hl [0, 1, 3, 4] rfl) kI kE
set_option maxHeartbeats 4000000 in
theorem l_L_goUp_B12 (hC : zC p l s m args meth c cL_goUp 5 RL D cA B0) {Γ : zSh} {x0 : Nat} {x1 : Int32} {x3 : Int32} {w2 : Int32} {σ2 : zSt} (kE : ∀ (H : Heap) (locs : List Loc) (ls : Array Slot), zO D cA B0 Γ σ2 (ZB B0) s.heap H locs → lv_has ls 5 [(2, .int w2)] → W p l e rm_L_goUp s m args below meth c H locs 58 348 Q (F0 m 53 ls [])) :
    ∀ (n k : Nat), n + k = 14 → ∀ (x2 : Int32) (x4 : Int32) (σ : zSt), loopM (fun q => f_L_goUp_B12 Γ x0 x1 x3 q.1 q.2.1 q.2.2) n (x2, x4, σ) = some (w2, σ2) → ∀ (H : Heap) (locs : List Loc) (ls : Array Slot), zO D cA B0 Γ σ (ZB B0) s.heap H locs → lv_has ls 5 [(0, .ref x0), (1, .int x1), (2, .int x2), (3, .int x3), (4, .int x4)] → W p l e rm_L_goUp s m args below meth c H locs (2 + 4 * k) (12 + 24 * k) Q (F0 m 12 ls []) := by
  intro n
  induction n with
  | zero => intro k _ x2 x4 σ h; exact absurd h (by simp [loopM])
  | succ n ih =>
    intro k hnk x2 x4 σ h H locs ls hw hl
    obtain ⟨r, h1, h2, h3⟩ := loopM_inv h
    have hk : k + 1 ≤ 14 := by omega
    refine t_L_goUp_B12 (C0 := 2 + 4 * k) (S0 := 12 + 24 * k) hC ⟨by omega, by omega⟩ h1 hw hl (fun z2 z4 s2 e H locs ls hw hl => ?_) (fun z2 s2 e H locs ls hw hl => ?_)
    · exact W.widen (k := 2 + 4 * (k + 1)) (n := 12 + 24 * (k + 1)) (by omega) (by omega) (ih (k + 1) (by omega) z2 z4 s2 (h2 _ e) H locs ls hw hl)
    · cases h3 _ e
      exact W.widen (k := 58) (n := 348) (by omega) (by omega) (kE H locs ls hw hl)
set_option maxHeartbeats 4000000 in
set_option maxRecDepth 100000 in
theorem m_L_goUp (h9 : l.stackTraces = false) {Γ : zSh} {a0 : Nat} {a1 : Int32} {σ : zSt} {r : Int32} {σ2 : zSt} (hf : f_L_goUp Γ a0 a1 σ = some (r, σ2)) : Met l yL_goUp (wq yL_goUp cL_goUp 5 (Option.some FieldType.boolean)) rm_L_goUp (zQ0 D cA B0 [.ref a0, .int a1] Γ σ (ZB B0)) (zQ1 D cA B0 (some (.int r)) Γ σ2 (ZB B0)) 58 348 (FR B0) := by
  refine z_ofW h9 (by decide) (Nat.le_of_ble_eq_true rfl) ?_
  intro p e s m args below meth c ls hC hr _ hw hl
  have hx := hC.1
  have hb := hC.2.1
  have hl : lv_has ls 5 [(0, .ref a0), (1, .int a1)] := hl
  unfold f_L_goUp at hf
  refine lv_iconst (v := 1) hx hb dL_goUp_0 (by decide) ?_
  refine lv_istore_n (lv' := [(2, .int 1), (0, .ref a0), (1, .int a1)]) hx hb dL_goUp_1 rfl hl (Nat.le_of_ble_eq_true rfl) rfl (fun ls hl => ?_)
  refine lv_aload_n hx hb dL_goUp_2 rfl (lv_at hl 1 rfl) ?_
  refine lv_iload_n hx hb dL_goUp_3 rfl (lv_at hl 2 rfl) ?_
  refine lv_iconst (v := 0) hx hb dL_goUp_4 (by decide) ?_
  obtain ⟨ho, hf⟩ := chk_inv hf
  obtain ⟨r2, σ1, hk, hf⟩ := xonly_inv hf
  refine z_ocallV (As := [.int a1, .int 0]) (rest := []) (m_X6_dimension hC.2.2.2.2.2.2.2.2 hk) hC hw wd_X6_dimension lkM_L_30 (isO_sh ho) rfl rfl ⟨rfl, rfl⟩ ⟨(Nat.le_of_ble_eq_true rfl), (Nat.le_of_ble_eq_true rfl)⟩ hl.1 rfl (Nat.le_of_ble_eq_true rfl) dL_goUp_5 ⟨(Nat.le_of_ble_eq_true rfl), (Nat.le_of_ble_eq_true rfl)⟩ (fun H locs hw => ?_)
  refine lv_istore_n (lv' := [(3, .int r2), (2, .int 1), (0, .ref a0), (1, .int a1)]) hx hb dL_goUp_8 rfl hl (Nat.le_of_ble_eq_true rfl) rfl (fun ls hl => ?_)
  refine lv_iconst (v := 1) hx hb dL_goUp_9 (by decide) ?_
  refine lv_istore (lv' := [(4, .int 1), (3, .int r2), (2, .int 1), (0, .ref a0), (1, .int a1)]) hx hb dL_goUp_10 hl (Nat.le_of_ble_eq_true rfl) rfl (fun ls hl => ?_)
  obtain ⟨w8, σ7, hk, hf⟩ := lb1_inv hf
  refine l_L_goUp_B12 hC (fun H locs ls hw hl => ?_) 14 0 rfl 1 1 σ1 hk _ _ _ hw (lv_sub hl [3, 4, 2, 1, 0] rfl)
  refine lv_iload_n hx hb dL_goUp_53 rfl (lv_at hl 0 rfl) ?_
  obtain ⟨hz, hf⟩ := chk_inv hf
  refine W.widen (k := 58) (n := 348) (Nat.le_of_ble_eq_true rfl) (Nat.le_of_ble_eq_true rfl) ?_
  first | (obtain ⟨rfl, rfl⟩ := sp_inv hf) | (obtain rfl := Option.some.inj hf)
  exact W.zret hx hb hr (isB_n hz).1 (z_ret hw rfl) hw.2.2.2.2.2 dL_goUp_54 hC.2.2.2.2.2.1
set_option maxHeartbeats 4000000 in
set_option maxRecDepth 100000 in
theorem t_L_isReduced_B4_L74 (hC : zC p l s m args meth c cL_isReduced 5 RL D cA B0) {C0 S0 : Nat} (h0 : C0 + 13 ≤ 118 ∧ S0 + 78 ≤ 708) {Γ : zSh} {x0 : Nat} {x1 : Int32} {x3 : Int32} {s0 : Int32}  {σ : zSt} {out : ((Int32 × Int32 × zSt) ⊕ (Int32 × zSt))} (hf : f_L_isReduced_B4_L74 Γ x0 x1 x3 s0 σ = some out) {H : Heap} {locs : List Loc} {ls : Array Slot} (hw : zO D cA B0 Γ σ (ZB B0) s.heap H locs) (hl : lv_has ls 5 [(0, .ref x0), (1, .int x1), (3, .int x3)])
    (kI : ∀ (z2 : Int32) (z3 : Int32) (σ2 : zSt), out = .inl (z2, z3, σ2) → ∀ (H : Heap) (locs : List Loc) (ls : Array Slot), zO D cA B0 Γ σ2 (ZB B0) s.heap H locs → lv_has ls 5 [(0, .ref x0), (1, .int x1), (2, .int z2), (3, .int z3)] → W p l e rm_L_isReduced s m args below meth c H locs (C0 + 13) (S0 + 78) Q (F0 m 4 ls []))
    (kE : ∀ (z2 : Int32) (σ2 : zSt), out = .inr (z2, σ2) → ∀ (H : Heap) (locs : List Loc) (ls : Array Slot), zO D cA B0 Γ σ2 (ZB B0) s.heap H locs → lv_has ls 5 [(0, .ref x0), (1, .int x1), (2, .int z2)] → W p l e rm_L_isReduced s m args below meth c H locs (C0 + 13) (S0 + 78) Q (F0 m 81 ls [])) :
    W p l e rm_L_isReduced s m args below meth c H locs (C0 + 13) (S0 + 78) Q (F0 m 74 ls [.int s0]) := by
  have hx := hC.1
  have hb := hC.2.1
  unfold f_L_isReduced_B4_L74 at hf
  refine lv_istore_n (lv' := [(2, .int s0), (0, .ref x0), (1, .int x1), (3, .int x3)]) hx hb dL_isReduced_74 rfl hl (Nat.le_of_ble_eq_true rfl) rfl (fun ls hl => ?_)
  refine lv_iinc (v := (x3 + 1)) (lv' := [(3, .int (x3 + 1)), (2, .int s0), (0, .ref x0), (1, .int x1)]) hx hb dL_isReduced_75 hl (k := 3) rfl rfl (Nat.le_of_ble_eq_true rfl) rfl (fun ls hl => ?_)
  refine lv_goto (tgt := 4) hx hb dL_isReduced_78 (by decide) ?_
  refine W.widen (k := C0 + 13) (n := S0 + 78) (by omega) (by omega) ?_
  exact kI s0 (x3 + 1) σ (Option.some.inj hf).symm _ _ _ hw (lv_sub hl [2, 3, 1, 0] rfl)
set_option maxHeartbeats 4000000 in
set_option maxRecDepth 100000 in
theorem t_L_isReduced_B4_L73 (hC : zC p l s m args meth c cL_isReduced 5 RL D cA B0) {C0 S0 : Nat} (h0 : C0 + 13 ≤ 118 ∧ S0 + 78 ≤ 708) {Γ : zSh} {x0 : Nat} {x1 : Int32} {x3 : Int32}  {σ : zSt} {out : ((Int32 × Int32 × zSt) ⊕ (Int32 × zSt))} (hf : f_L_isReduced_B4_L73 Γ x0 x1 x3 σ = some out) {H : Heap} {locs : List Loc} {ls : Array Slot} (hw : zO D cA B0 Γ σ (ZB B0) s.heap H locs) (hl : lv_has ls 5 [(0, .ref x0), (1, .int x1), (3, .int x3)])
    (kI : ∀ (z2 : Int32) (z3 : Int32) (σ2 : zSt), out = .inl (z2, z3, σ2) → ∀ (H : Heap) (locs : List Loc) (ls : Array Slot), zO D cA B0 Γ σ2 (ZB B0) s.heap H locs → lv_has ls 5 [(0, .ref x0), (1, .int x1), (2, .int z2), (3, .int z3)] → W p l e rm_L_isReduced s m args below meth c H locs (C0 + 13) (S0 + 78) Q (F0 m 4 ls []))
    (kE : ∀ (z2 : Int32) (σ2 : zSt), out = .inr (z2, σ2) → ∀ (H : Heap) (locs : List Loc) (ls : Array Slot), zO D cA B0 Γ σ2 (ZB B0) s.heap H locs → lv_has ls 5 [(0, .ref x0), (1, .int x1), (2, .int z2)] → W p l e rm_L_isReduced s m args below meth c H locs (C0 + 13) (S0 + 78) Q (F0 m 81 ls [])) :
    W p l e rm_L_isReduced s m args below meth c H locs (C0 + 13) (S0 + 78) Q (F0 m 73 ls []) := by
  have hx := hC.1
  have hb := hC.2.1
  unfold f_L_isReduced_B4_L73 at hf
  refine lv_iconst (v := 0) hx hb dL_isReduced_73 (by decide) ?_
  exact t_L_isReduced_B4_L74 hC h0 hf hw (lv_sub hl [0, 1, 2] rfl) kI kE
set_option maxHeartbeats 8000000 in
set_option maxRecDepth 100000 in
theorem t_L_isReduced_B4 (hC : zC p l s m args meth c cL_isReduced 5 RL D cA B0) {C0 S0 : Nat} (h0 : C0 + 13 ≤ 118 ∧ S0 + 78 ≤ 708) {Γ : zSh} {x0 : Nat} {x1 : Int32} {x2 : Int32} {x3 : Int32} {σ : zSt} {out : ((Int32 × Int32 × zSt) ⊕ (Int32 × zSt))} (hf : f_L_isReduced_B4 Γ x0 x1 x2 x3 σ = some out) {H : Heap} {locs : List Loc} {ls : Array Slot} (hw : zO D cA B0 Γ σ (ZB B0) s.heap H locs) (hl : lv_has ls 5 [(0, .ref x0), (1, .int x1), (2, .int x2), (3, .int x3)])
    (kI : ∀ (z2 : Int32) (z3 : Int32) (σ2 : zSt), out = .inl (z2, z3, σ2) → ∀ (H : Heap) (locs : List Loc) (ls : Array Slot), zO D cA B0 Γ σ2 (ZB B0) s.heap H locs → lv_has ls 5 [(0, .ref x0), (1, .int x1), (2, .int z2), (3, .int z3)] → W p l e rm_L_isReduced s m args below meth c H locs (C0 + 13) (S0 + 78) Q (F0 m 4 ls []))
    (kE : ∀ (z2 : Int32) (σ2 : zSt), out = .inr (z2, σ2) → ∀ (H : Heap) (locs : List Loc) (ls : Array Slot), zO D cA B0 Γ σ2 (ZB B0) s.heap H locs → lv_has ls 5 [(0, .ref x0), (1, .int x1), (2, .int z2)] → W p l e rm_L_isReduced s m args below meth c H locs (C0 + 13) (S0 + 78) Q (F0 m 81 ls [])) :
    W p l e rm_L_isReduced s m args below meth c H locs (C0 + 0) (S0 + 0) Q (F0 m 4 ls []) := by
  have hx := hC.1
  have hb := hC.2.1
  unfold f_L_isReduced_B4 at hf
  refine lv_iload_n hx hb dL_isReduced_4 rfl (lv_at hl 3 rfl) ?_
  refine lv_bipush (v := 7) hx hb dL_isReduced_5 (by decide) ?_
  refine lv_icmp_ge (tgt := 81) hx hb dL_isReduced_7 (by decide) (fun hc => ?_) (fun hc => ?_)
  · rw [if_pos hc] at hf
    refine W.widen (k := C0 + 13) (n := S0 + 78) (by omega) (by omega) ?_
    exact kE x2 σ (Option.some.inj hf).symm _ _ _ hw (lv_sub hl [0, 1, 2] rfl)
  · rw [if_neg hc] at hf
    refine lv_iload_n hx hb dL_isReduced_10 rfl (lv_at hl 2 rfl) ?_
    refine lv_if_eq (tgt := 81) hx hb dL_isReduced_11 (by decide) (fun hc => ?_) (fun hc => ?_)
    · rw [if_pos hc] at hf
      refine W.widen (k := C0 + 13) (n := S0 + 78) (by omega) (by omega) ?_
      exact kE x2 σ (Option.some.inj hf).symm _ _ _ hw (lv_sub hl [0, 1, 2] rfl)
    · rw [if_neg hc] at hf
      refine lv_aload_n hx hb dL_isReduced_14 rfl (lv_at hl 0 rfl) ?_
      refine lv_iconst (v := 3) hx hb dL_isReduced_15 (by decide) ?_
      refine lv_iload_n hx hb dL_isReduced_16 rfl (lv_at hl 1 rfl) ?_
      refine lv_iload_n hx hb dL_isReduced_17 rfl (lv_at hl 3 rfl) ?_
      obtain ⟨ho, hf⟩ := chk_inv hf
      obtain ⟨r2, σ1, hk, hf⟩ := xonly_inv hf
      refine z_ocallV (As := [.int 3, .int x1, .int x3]) (rest := []) (m_X6_derive hC.2.2.2.2.2.2.2.2 hk) hC hw wd_X6_derive lkM_L_56 (isO_sh ho) rfl rfl ⟨rfl, rfl⟩ ⟨(Nat.le_of_ble_eq_true rfl), (Nat.le_of_ble_eq_true rfl)⟩ hl.1 rfl (Nat.le_of_ble_eq_true rfl) dL_isReduced_18 ⟨(by show _ ≤ (118 : Nat); omega), (by show _ ≤ (708 : Nat); omega)⟩ (fun H locs hw => ?_)
      refine lv_istore (lv' := [(4, .int r2), (0, .ref x0), (1, .int x1), (2, .int x2), (3, .int x3)]) hx hb dL_isReduced_21 hl (Nat.le_of_ble_eq_true rfl) rfl (fun ls hl => ?_)
      refine lv_aload_n hx hb dL_isReduced_23 rfl (lv_at hl 1 rfl) ?_
      refine lv_iload_n hx hb dL_isReduced_24 rfl (lv_at hl 2 rfl) ?_
      refine lv_iconst (v := 3) hx hb dL_isReduced_25 (by decide) ?_
      obtain ⟨ho, hf⟩ := chk_inv hf
      obtain ⟨r4, σ3, hk, hf⟩ := xonly_inv hf
      refine z_ocallV (As := [.int x1, .int 3]) (rest := []) (m_X6_differing hC.2.2.2.2.2.2.2.2 hk) hC hw wd_X6_differing lkM_L_53 (isO_sh ho) rfl rfl ⟨rfl, rfl⟩ ⟨(Nat.le_of_ble_eq_true rfl), (Nat.le_of_ble_eq_true rfl)⟩ hl.1 rfl (Nat.le_of_ble_eq_true rfl) dL_isReduced_26 ⟨(by show _ ≤ (118 : Nat); omega), (by show _ ≤ (708 : Nat); omega)⟩ (fun H locs hw => ?_)
      refine lv_iconst (v := (-1)) hx hb dL_isReduced_29 (by decide) ?_
      refine lv_icmp_ne (tgt := 73) hx hb dL_isReduced_30 (by decide) (fun hc => ?_) (fun hc => ?_)
      · rw [if_neg hc] at hf
        refine W.widen (k := C0 + 13) (n := S0 + 78) (by omega) (by omega) ?_
        exact t_L_isReduced_B4_L73 hC h0 hf hw (lv_sub hl [1, 2, 4] rfl) kI kE
      · rw [if_pos hc] at hf
        refine lv_iload hx hb dL_isReduced_33 (lv_at hl 0 rfl) ?_
        refine lv_aload_n hx hb dL_isReduced_35 rfl (lv_at hl 1 rfl) ?_
        refine lv_iload_n hx hb dL_isReduced_36 rfl (lv_at hl 2 rfl) ?_
        obtain ⟨ho, hf⟩ := chk_inv hf
        obtain ⟨r6, σ5, hk, hf⟩ := xonly_inv hf
        refine z_ocallV (As := [.int x1]) (rest := [.int r2]) (m_X6_states hC.2.2.2.2.2.2.2.2 hk) hC hw wd_X6_states lkM_L_50 (isO_sh ho) rfl rfl ⟨rfl, rfl⟩ ⟨(Nat.le_of_ble_eq_true rfl), (Nat.le_of_ble_eq_true rfl)⟩ hl.1 rfl (Nat.le_of_ble_eq_true rfl) dL_isReduced_37 ⟨(by show _ ≤ (118 : Nat); omega), (by show _ ≤ (708 : Nat); omega)⟩ (fun H locs hw => ?_)
        refine lv_icmp_gt (tgt := 73) hx hb dL_isReduced_40 (by decide) (fun hc => ?_) (fun hc => ?_)
        · rw [if_pos hc] at hf
          refine W.widen (k := C0 + 13) (n := S0 + 78) (by omega) (by omega) ?_
          exact t_L_isReduced_B4_L73 hC h0 hf hw (lv_sub hl [1, 2, 4] rfl) kI kE
        · rw [if_neg hc] at hf
          refine lv_aload_n hx hb dL_isReduced_43 rfl (lv_at hl 1 rfl) ?_
          refine lv_iconst (v := 3) hx hb dL_isReduced_44 (by decide) ?_
          refine lv_iconst (v := 2) hx hb dL_isReduced_45 (by decide) ?_
          obtain ⟨ho, hf⟩ := chk_inv hf
          obtain ⟨r8, σ7, hk, hf⟩ := xonly_inv hf
          refine z_ocallV (As := [.int 3, .int 2]) (rest := []) (m_X6_dimension hC.2.2.2.2.2.2.2.2 hk) hC hw wd_X6_dimension lkM_L_30 (isO_sh ho) rfl rfl ⟨rfl, rfl⟩ ⟨(Nat.le_of_ble_eq_true rfl), (Nat.le_of_ble_eq_true rfl)⟩ hl.1 rfl (Nat.le_of_ble_eq_true rfl) dL_isReduced_46 ⟨(by show _ ≤ (118 : Nat); omega), (by show _ ≤ (708 : Nat); omega)⟩ (fun H locs hw => ?_)
          refine lv_aload_n hx hb dL_isReduced_49 rfl (lv_at hl 1 rfl) ?_
          refine lv_iload_n hx hb dL_isReduced_50 rfl (lv_at hl 2 rfl) ?_
          refine lv_iconst (v := 2) hx hb dL_isReduced_51 (by decide) ?_
          obtain ⟨ho, hf⟩ := chk_inv hf
          obtain ⟨r10, σ9, hk, hf⟩ := xonly_inv hf
          refine z_ocallV (As := [.int x1, .int 2]) (rest := [.int r8]) (m_X6_dimension hC.2.2.2.2.2.2.2.2 hk) hC hw wd_X6_dimension lkM_L_30 (isO_sh ho) rfl rfl ⟨rfl, rfl⟩ ⟨(Nat.le_of_ble_eq_true rfl), (Nat.le_of_ble_eq_true rfl)⟩ hl.1 rfl (Nat.le_of_ble_eq_true rfl) dL_isReduced_52 ⟨(by show _ ≤ (118 : Nat); omega), (by show _ ≤ (708 : Nat); omega)⟩ (fun H locs hw => ?_)
          refine lv_icmp_ne (tgt := 73) hx hb dL_isReduced_55 (by decide) (fun hc => ?_) (fun hc => ?_)
          · rw [if_neg hc] at hf
            refine W.widen (k := C0 + 13) (n := S0 + 78) (by omega) (by omega) ?_
            exact t_L_isReduced_B4_L73 hC h0 hf hw (lv_sub hl [1, 2, 4] rfl) kI kE
          · rw [if_pos hc] at hf
            refine lv_aload_n hx hb dL_isReduced_58 rfl (lv_at hl 1 rfl) ?_
            refine lv_iconst (v := 3) hx hb dL_isReduced_59 (by decide) ?_
            refine lv_iconst (v := 0) hx hb dL_isReduced_60 (by decide) ?_
            obtain ⟨ho, hf⟩ := chk_inv hf
            obtain ⟨r12, σ11, hk, hf⟩ := xonly_inv hf
            refine z_ocallV (As := [.int 3, .int 0]) (rest := []) (m_X6_dimension hC.2.2.2.2.2.2.2.2 hk) hC hw wd_X6_dimension lkM_L_30 (isO_sh ho) rfl rfl ⟨rfl, rfl⟩ ⟨(Nat.le_of_ble_eq_true rfl), (Nat.le_of_ble_eq_true rfl)⟩ hl.1 rfl (Nat.le_of_ble_eq_true rfl) dL_isReduced_61 ⟨(by show _ ≤ (118 : Nat); omega), (by show _ ≤ (708 : Nat); omega)⟩ (fun H locs hw => ?_)
            refine lv_iload hx hb dL_isReduced_64 (lv_at hl 0 rfl) ?_
            refine lv_icmp_ne (tgt := 73) hx hb dL_isReduced_66 (by decide) (fun hc => ?_) (fun hc => ?_)
            · rw [if_neg hc] at hf
              exact t_L_isReduced_B4_L73 hC h0 hf hw (lv_sub hl [1, 2, 4] rfl) kI kE
            · rw [if_pos hc] at hf
              refine lv_iconst (v := 1) hx hb dL_isReduced_69 (by decide) ?_
              refine lv_goto (tgt := 74) hx hb dL_isReduced_70 (by decide) ?_
              exact t_L_isReduced_B4_L74 hC h0 hf hw (lv_sub hl [1, 2, 4] rfl) kI kE
set_option maxHeartbeats 4000000 in
theorem l_L_isReduced_B4 (hC : zC p l s m args meth c cL_isReduced 5 RL D cA B0) {Γ : zSh} {x0 : Nat} {x1 : Int32} {w2 : Int32} {σ2 : zSt} (kE : ∀ (H : Heap) (locs : List Loc) (ls : Array Slot), zO D cA B0 Γ σ2 (ZB B0) s.heap H locs → lv_has ls 5 [(0, .ref x0), (1, .int x1), (2, .int w2)] → W p l e rm_L_isReduced s m args below meth c H locs 39 234 Q (F0 m 81 ls [])) :
    ∀ (n k : Nat), n + k = 3 → ∀ (x2 : Int32) (x3 : Int32) (σ : zSt), loopM (fun q => f_L_isReduced_B4 Γ x0 x1 q.1 q.2.1 q.2.2) n (x2, x3, σ) = some (w2, σ2) → ∀ (H : Heap) (locs : List Loc) (ls : Array Slot), zO D cA B0 Γ σ (ZB B0) s.heap H locs → lv_has ls 5 [(0, .ref x0), (1, .int x1), (2, .int x2), (3, .int x3)] → W p l e rm_L_isReduced s m args below meth c H locs (0 + 13 * k) (0 + 78 * k) Q (F0 m 4 ls []) := by
  intro n
  induction n with
  | zero => intro k _ x2 x3 σ h; exact absurd h (by simp [loopM])
  | succ n ih =>
    intro k hnk x2 x3 σ h H locs ls hw hl
    obtain ⟨r, h1, h2, h3⟩ := loopM_inv h
    have hk : k + 1 ≤ 3 := by omega
    refine t_L_isReduced_B4 (C0 := 0 + 13 * k) (S0 := 0 + 78 * k) hC ⟨by omega, by omega⟩ h1 hw hl (fun z2 z3 s2 e H locs ls hw hl => ?_) (fun z2 s2 e H locs ls hw hl => ?_)
    · exact W.widen (k := 0 + 13 * (k + 1)) (n := 0 + 78 * (k + 1)) (by omega) (by omega) (ih (k + 1) (by omega) z2 z3 s2 (h2 _ e) H locs ls hw hl)
    · cases h3 _ e
      exact W.widen (k := 39) (n := 234) (by omega) (by omega) (kE H locs ls hw hl)
set_option maxHeartbeats 4000000 in
set_option maxRecDepth 100000 in
theorem t_L_isReduced_L202 (hC : zC p l s m args meth c cL_isReduced 5 RL D cA B0) (hr : meth.sig.returnType = (Option.some FieldType.boolean)) {Γ : zSh} {s0 : Int32} {σ : zSt} {out : (Int32 × zSt)} (hf : f_L_isReduced_L202 Γ s0 σ = some out) {H : Heap} {locs : List Loc} {ls : Array Slot} (hw : zO D cA B0 Γ σ (ZB B0) s.heap H locs) (hl : lv_has ls 5 []) :
    W p l e rm_L_isReduced s m args below meth c H locs 118 708 (MQ below (zQ1 D cA B0 (some (.int out.1)) Γ out.2 (ZB B0)) args s 118 708 (FR B0)) (F0 m 202 ls [.int s0]) := by
  have hx := hC.1
  have hb := hC.2.1
  unfold f_L_isReduced_L202 at hf
  obtain ⟨hz, hf⟩ := chk_inv hf
  refine W.widen (k := 118) (n := 708) (Nat.le_of_ble_eq_true rfl) (Nat.le_of_ble_eq_true rfl) ?_
  first | (obtain ⟨rfl, rfl⟩ := sp_inv hf) | (obtain rfl := Option.some.inj hf)
  exact W.zret hx hb hr (isB_n hz).1 (z_ret hw rfl) hw.2.2.2.2.2 dL_isReduced_202 hC.2.2.2.2.2.1
set_option maxHeartbeats 4000000 in
set_option maxRecDepth 100000 in
theorem t_L_isReduced_L201 (hC : zC p l s m args meth c cL_isReduced 5 RL D cA B0) (hr : meth.sig.returnType = (Option.some FieldType.boolean)) {Γ : zSh}  {σ : zSt} {out : (Int32 × zSt)} (hf : f_L_isReduced_L201 Γ  σ = some out) {H : Heap} {locs : List Loc} {ls : Array Slot} (hw : zO D cA B0 Γ σ (ZB B0) s.heap H locs) (hl : lv_has ls 5 []) :
    W p l e rm_L_isReduced s m args below meth c H locs 118 708 (MQ below (zQ1 D cA B0 (some (.int out.1)) Γ out.2 (ZB B0)) args s 118 708 (FR B0)) (F0 m 201 ls []) := by
  have hx := hC.1
  have hb := hC.2.1
  unfold f_L_isReduced_L201 at hf
  refine lv_iconst (v := 0) hx hb dL_isReduced_201 (by decide) ?_
  exact t_L_isReduced_L202 hC hr hf hw (lv_sub hl [] rfl)
set_option maxHeartbeats 4000000 in
set_option maxRecDepth 100000 in
theorem t_L_isReduced_L189 (hC : zC p l s m args meth c cL_isReduced 5 RL D cA B0) (hr : meth.sig.returnType = (Option.some FieldType.boolean)) {Γ : zSh} {x0 : Nat} {x1 : Int32} {σ : zSt} {out : (Int32 × zSt)} (hf : f_L_isReduced_L189 Γ x0 x1 σ = some out) {H : Heap} {locs : List Loc} {ls : Array Slot} (hw : zO D cA B0 Γ σ (ZB B0) s.heap H locs) (hl : lv_has ls 5 [(0, .ref x0), (1, .int x1)]) :
    W p l e rm_L_isReduced s m args below meth c H locs 60 360 (MQ below (zQ1 D cA B0 (some (.int out.1)) Γ out.2 (ZB B0)) args s 118 708 (FR B0)) (F0 m 189 ls []) := by
  have hx := hC.1
  have hb := hC.2.1
  unfold f_L_isReduced_L189 at hf
  refine lv_aload_n hx hb dL_isReduced_189 rfl (lv_at hl 0 rfl) ?_
  refine lv_iload_n hx hb dL_isReduced_190 rfl (lv_at hl 1 rfl) ?_
  obtain ⟨r18, σ17, hk, hf⟩ := bnd_inv hf
  refine z_callS (As := [.ref x0, .int x1]) (rest := []) (m_L_goUp hC.2.2.2.2.2.2.2.2 hk) hC hw wd_L_goUp lkM_L_63 rfl ⟨rfl, rfl⟩ ⟨(Nat.le_of_ble_eq_true rfl), (Nat.le_of_ble_eq_true rfl)⟩ hl.1 rfl (Nat.le_of_ble_eq_true rfl) dL_isReduced_191 ⟨(Nat.le_of_ble_eq_true rfl), (Nat.le_of_ble_eq_true rfl)⟩ (fun H locs hw => ?_)
  refine lv_if_eq (tgt := 201) hx hb dL_isReduced_194 (by decide) (fun hc => ?_) (fun hc => ?_)
  · rw [if_pos hc] at hf
    exact t_L_isReduced_L201 hC hr hf hw (lv_sub hl [] rfl)
  · rw [if_neg hc] at hf
    refine lv_iconst (v := 1) hx hb dL_isReduced_197 (by decide) ?_
    refine lv_goto (tgt := 202) hx hb dL_isReduced_198 (by decide) ?_
    exact t_L_isReduced_L202 hC hr hf hw (lv_sub hl [] rfl)
set_option maxHeartbeats 4000000 in
set_option maxRecDepth 100000 in
theorem t_L_isReduced_L148 (hC : zC p l s m args meth c cL_isReduced 5 RL D cA B0) (hr : meth.sig.returnType = (Option.some FieldType.boolean)) {Γ : zSh} {x0 : Nat} {x1 : Int32} {s0 : Int32} {σ : zSt} {out : (Int32 × zSt)} (hf : f_L_isReduced_L148 Γ x0 x1 s0 σ = some out) {H : Heap} {locs : List Loc} {ls : Array Slot} (hw : zO D cA B0 Γ σ (ZB B0) s.heap H locs) (hl : lv_has ls 5 [(0, .ref x0), (1, .int x1)]) :
    W p l e rm_L_isReduced s m args below meth c H locs 55 330 (MQ below (zQ1 D cA B0 (some (.int out.1)) Γ out.2 (ZB B0)) args s 118 708 (FR B0)) (F0 m 148 ls [.int s0]) := by
  have hx := hC.1
  have hb := hC.2.1
  unfold f_L_isReduced_L148 at hf
  refine lv_istore_n (lv' := [(2, .int s0), (0, .ref x0), (1, .int x1)]) hx hb dL_isReduced_148 rfl hl (Nat.le_of_ble_eq_true rfl) rfl (fun ls hl => ?_)
  refine lv_aload_n hx hb dL_isReduced_149 rfl (lv_at hl 1 rfl) ?_
  refine lv_iload_n hx hb dL_isReduced_150 rfl (lv_at hl 2 rfl) ?_
  obtain ⟨ho, hf⟩ := chk_inv hf
  obtain ⟨r16, σ15, hk, hf⟩ := xonly_inv hf
  refine z_ocallV (As := [.int x1]) (rest := []) (m_X6_states hC.2.2.2.2.2.2.2.2 hk) hC hw wd_X6_states lkM_L_50 (isO_sh ho) rfl rfl ⟨rfl, rfl⟩ ⟨(Nat.le_of_ble_eq_true rfl), (Nat.le_of_ble_eq_true rfl)⟩ hl.1 rfl (Nat.le_of_ble_eq_true rfl) dL_isReduced_151 ⟨(Nat.le_of_ble_eq_true rfl), (Nat.le_of_ble_eq_true rfl)⟩ (fun H locs hw => ?_)
  refine lv_istore_n (lv' := [(3, .int r16), (2, .int s0), (0, .ref x0), (1, .int x1)]) hx hb dL_isReduced_154 rfl hl (Nat.le_of_ble_eq_true rfl) rfl (fun ls hl => ?_)
  refine lv_iload_n hx hb dL_isReduced_155 rfl (lv_at hl 1 rfl) ?_
  refine lv_if_eq (tgt := 201) hx hb dL_isReduced_156 (by decide) (fun hc => ?_) (fun hc => ?_)
  · rw [if_pos hc] at hf
    refine W.widen (k := 118) (n := 708) (Nat.le_of_ble_eq_true rfl) (Nat.le_of_ble_eq_true rfl) ?_
    exact t_L_isReduced_L201 hC hr hf hw (lv_sub hl [] rfl)
  · rw [if_neg hc] at hf
    refine lv_iload_n hx hb dL_isReduced_159 rfl (lv_at hl 0 rfl) ?_
    refine lv_if_eq (tgt := 189) hx hb dL_isReduced_160 (by decide) (fun hc => ?_) (fun hc => ?_)
    · rw [if_pos hc] at hf
      refine W.widen (k := 60) (n := 360) (Nat.le_of_ble_eq_true rfl) (Nat.le_of_ble_eq_true rfl) ?_
      exact t_L_isReduced_L189 hC hr hf hw (lv_sub hl [2, 3] rfl)
    · rw [if_neg hc] at hf
      refine lv_aload_n hx hb dL_isReduced_163 rfl (lv_at hl 2 rfl) ?_
      refine lv_iload_n hx hb dL_isReduced_164 rfl (lv_at hl 3 rfl) ?_
      refine lv_iload_n hx hb dL_isReduced_165 rfl (lv_at hl 0 rfl) ?_
      obtain ⟨ho, hf⟩ := chk_inv hf
      obtain ⟨r20, σ19, hk, hf⟩ := xonly_inv hf
      refine z_ocallV (As := [.int x1, .int r16]) (rest := []) (m_X6_recurs hC.2.2.2.2.2.2.2.2 hk) hC hw wd_X6_recurs lkM_L_59 (isO_sh ho) rfl rfl ⟨rfl, rfl⟩ ⟨(Nat.le_of_ble_eq_true rfl), (Nat.le_of_ble_eq_true rfl)⟩ hl.1 rfl (Nat.le_of_ble_eq_true rfl) dL_isReduced_166 ⟨(Nat.le_of_ble_eq_true rfl), (Nat.le_of_ble_eq_true rfl)⟩ (fun H locs hw => ?_)
      refine lv_if_eq (tgt := 201) hx hb dL_isReduced_169 (by decide) (fun hc => ?_) (fun hc => ?_)
      · rw [if_pos hc] at hf
        refine W.widen (k := 118) (n := 708) (Nat.le_of_ble_eq_true rfl) (Nat.le_of_ble_eq_true rfl) ?_
        exact t_L_isReduced_L201 hC hr hf hw (lv_sub hl [] rfl)
      · rw [if_neg hc] at hf
        refine lv_iload_n hx hb dL_isReduced_172 rfl (lv_at hl 0 rfl) ?_
        refine lv_bipush (v := 11) hx hb dL_isReduced_173 (by decide) ?_
        refine lv_icmp_gt (tgt := 189) hx hb dL_isReduced_175 (by decide) (fun hc => ?_) (fun hc => ?_)
        · rw [if_pos hc] at hf
          refine W.widen (k := 60) (n := 360) (Nat.le_of_ble_eq_true rfl) (Nat.le_of_ble_eq_true rfl) ?_
          exact t_L_isReduced_L189 hC hr hf hw (lv_sub hl [2, 3] rfl)
        · rw [if_neg hc] at hf
          refine lv_aload_n hx hb dL_isReduced_178 rfl (lv_at hl 2 rfl) ?_
          refine lv_iload_n hx hb dL_isReduced_179 rfl (lv_at hl 3 rfl) ?_
          refine lv_iload_n hx hb dL_isReduced_180 rfl (lv_at hl 0 rfl) ?_
          refine lv_iconst (v := 1) hx hb dL_isReduced_181 (by decide) ?_
          refine lv_iadd hx hb dL_isReduced_182 ?_
          obtain ⟨ho, hf⟩ := chk_inv hf
          obtain ⟨r22, σ21, hk, hf⟩ := xonly_inv hf
          refine z_ocallV (As := [.int x1, .int (r16 + 1)]) (rest := []) (m_X6_recurs hC.2.2.2.2.2.2.2.2 hk) hC hw wd_X6_recurs lkM_L_59 (isO_sh ho) rfl rfl ⟨rfl, rfl⟩ ⟨(Nat.le_of_ble_eq_true rfl), (Nat.le_of_ble_eq_true rfl)⟩ hl.1 rfl (Nat.le_of_ble_eq_true rfl) dL_isReduced_183 ⟨(Nat.le_of_ble_eq_true rfl), (Nat.le_of_ble_eq_true rfl)⟩ (fun H locs hw => ?_)
          refine lv_if_eq (tgt := 201) hx hb dL_isReduced_186 (by decide) (fun hc => ?_) (fun hc => ?_)
          · rw [if_pos hc] at hf
            refine W.widen (k := 118) (n := 708) (Nat.le_of_ble_eq_true rfl) (Nat.le_of_ble_eq_true rfl) ?_
            exact t_L_isReduced_L201 hC hr hf hw (lv_sub hl [] rfl)
          · rw [if_neg hc] at hf
            exact t_L_isReduced_L189 hC hr hf hw (lv_sub hl [2, 3] rfl)
set_option maxHeartbeats 4000000 in
set_option maxRecDepth 100000 in
theorem t_L_isReduced_L147 (hC : zC p l s m args meth c cL_isReduced 5 RL D cA B0) (hr : meth.sig.returnType = (Option.some FieldType.boolean)) {Γ : zSh} {x0 : Nat} {x1 : Int32} {σ : zSt} {out : (Int32 × zSt)} (hf : f_L_isReduced_L147 Γ x0 x1 σ = some out) {H : Heap} {locs : List Loc} {ls : Array Slot} (hw : zO D cA B0 Γ σ (ZB B0) s.heap H locs) (hl : lv_has ls 5 [(0, .ref x0), (1, .int x1)]) :
    W p l e rm_L_isReduced s m args below meth c H locs 55 330 (MQ below (zQ1 D cA B0 (some (.int out.1)) Γ out.2 (ZB B0)) args s 118 708 (FR B0)) (F0 m 147 ls []) := by
  have hx := hC.1
  have hb := hC.2.1
  unfold f_L_isReduced_L147 at hf
  refine lv_iconst (v := 0) hx hb dL_isReduced_147 (by decide) ?_
  exact t_L_isReduced_L148 hC hr hf hw (lv_sub hl [0, 1] rfl)
set_option maxHeartbeats 4000000 in
set_option maxRecDepth 100000 in
theorem m_L_isReduced (h9 : l.stackTraces = false) {Γ : zSh} {a0 : Nat} {a1 : Int32} {σ : zSt} {r : Int32} {σ2 : zSt} (hf : f_L_isReduced Γ a0 a1 σ = some (r, σ2)) : Met l yL_isReduced (wq yL_isReduced cL_isReduced 5 (Option.some FieldType.boolean)) rm_L_isReduced (zQ0 D cA B0 [.ref a0, .int a1] Γ σ (ZB B0)) (zQ1 D cA B0 (some (.int r)) Γ σ2 (ZB B0)) 118 708 (FR B0) := by
  refine z_ofW h9 (by decide) (Nat.le_of_ble_eq_true rfl) ?_
  intro p e s m args below meth c ls hC hr _ hw hl
  have hx := hC.1
  have hb := hC.2.1
  have hl : lv_has ls 5 [(0, .ref a0), (1, .int a1)] := hl
  unfold f_L_isReduced at hf
  refine lv_iconst (v := 1) hx hb dL_isReduced_0 (by decide) ?_
  refine lv_istore_n (lv' := [(2, .int 1), (0, .ref a0), (1, .int a1)]) hx hb dL_isReduced_1 rfl hl (Nat.le_of_ble_eq_true rfl) rfl (fun ls hl => ?_)
  refine lv_iconst (v := 5) hx hb dL_isReduced_2 (by decide) ?_
  refine lv_istore_n (lv' := [(3, .int 5), (2, .int 1), (0, .ref a0), (1, .int a1)]) hx hb dL_isReduced_3 rfl hl (Nat.le_of_ble_eq_true rfl) rfl (fun ls hl => ?_)
  obtain ⟨w14, σ13, hk, hf⟩ := lb1_inv hf
  refine l_L_isReduced_B4 hC (fun H locs ls hw hl => ?_) 3 0 rfl 1 5 σ hk _ _ _ hw (lv_sub hl [2, 3, 1, 0] rfl)
  refine lv_iload_n hx hb dL_isReduced_81 rfl (lv_at hl 2 rfl) ?_
  refine lv_if_eq (tgt := 147) hx hb dL_isReduced_82 (by decide) (fun hc => ?_) (fun hc => ?_)
  · rw [if_pos hc] at hf
    refine W.widen (k := 55) (n := 330) (Nat.le_of_ble_eq_true rfl) (Nat.le_of_ble_eq_true rfl) ?_
    exact t_L_isReduced_L147 hC hr hf hw (lv_sub hl [0, 1] rfl)
  · rw [if_neg hc] at hf
    refine lv_aload_n hx hb dL_isReduced_85 rfl (lv_at hl 0 rfl) ?_
    refine lv_iconst (v := 3) hx hb dL_isReduced_86 (by decide) ?_
    refine lv_iconst (v := 2) hx hb dL_isReduced_87 (by decide) ?_
    obtain ⟨ho, hf⟩ := chk_inv hf
    obtain ⟨r24, σ23, hk, hf⟩ := xonly_inv hf
    refine z_ocallV (As := [.int 3, .int 2]) (rest := []) (m_X6_dimension hC.2.2.2.2.2.2.2.2 hk) hC hw wd_X6_dimension lkM_L_30 (isO_sh ho) rfl rfl ⟨rfl, rfl⟩ ⟨(Nat.le_of_ble_eq_true rfl), (Nat.le_of_ble_eq_true rfl)⟩ hl.1 rfl (Nat.le_of_ble_eq_true rfl) dL_isReduced_88 ⟨(Nat.le_of_ble_eq_true rfl), (Nat.le_of_ble_eq_true rfl)⟩ (fun H locs hw => ?_)
    refine lv_aload_n hx hb dL_isReduced_91 rfl (lv_at hl 0 rfl) ?_
    refine lv_iconst (v := 3) hx hb dL_isReduced_92 (by decide) ?_
    obtain ⟨ho, hf⟩ := chk_inv hf
    obtain ⟨r26, σ25, hk, hf⟩ := xonly_inv hf
    refine z_ocallV (As := [.int 3]) (rest := [.int r24]) (m_X6_states hC.2.2.2.2.2.2.2.2 hk) hC hw wd_X6_states lkM_L_50 (isO_sh ho) rfl rfl ⟨rfl, rfl⟩ ⟨(Nat.le_of_ble_eq_true rfl), (Nat.le_of_ble_eq_true rfl)⟩ hl.1 rfl (Nat.le_of_ble_eq_true rfl) dL_isReduced_93 ⟨(Nat.le_of_ble_eq_true rfl), (Nat.le_of_ble_eq_true rfl)⟩ (fun H locs hw => ?_)
    refine lv_icmp_ne (tgt := 147) hx hb dL_isReduced_96 (by decide) (fun hc => ?_) (fun hc => ?_)
    · rw [if_neg hc] at hf
      refine W.widen (k := 55) (n := 330) (Nat.le_of_ble_eq_true rfl) (Nat.le_of_ble_eq_true rfl) ?_
      exact t_L_isReduced_L147 hC hr hf hw (lv_sub hl [0, 1] rfl)
    · rw [if_pos hc] at hf
      refine lv_aload_n hx hb dL_isReduced_99 rfl (lv_at hl 0 rfl) ?_
      refine lv_iconst (v := 2) hx hb dL_isReduced_100 (by decide) ?_
      refine lv_iload_n hx hb dL_isReduced_101 rfl (lv_at hl 1 rfl) ?_
      refine lv_iconst (v := 1) hx hb dL_isReduced_102 (by decide) ?_
      obtain ⟨ho, hf⟩ := chk_inv hf
      obtain ⟨r28, σ27, hk, hf⟩ := xonly_inv hf
      refine z_ocallV (As := [.int 2, .int a1, .int 1]) (rest := []) (m_X6_derive hC.2.2.2.2.2.2.2.2 hk) hC hw wd_X6_derive lkM_L_56 (isO_sh ho) rfl rfl ⟨rfl, rfl⟩ ⟨(Nat.le_of_ble_eq_true rfl), (Nat.le_of_ble_eq_true rfl)⟩ hl.1 rfl (Nat.le_of_ble_eq_true rfl) dL_isReduced_103 ⟨(Nat.le_of_ble_eq_true rfl), (Nat.le_of_ble_eq_true rfl)⟩ (fun H locs hw => ?_)
      refine lv_if_lt (tgt := 147) hx hb dL_isReduced_106 (by decide) (fun hc => ?_) (fun hc => ?_)
      · rw [if_pos hc] at hf
        refine W.widen (k := 55) (n := 330) (Nat.le_of_ble_eq_true rfl) (Nat.le_of_ble_eq_true rfl) ?_
        exact t_L_isReduced_L147 hC hr hf hw (lv_sub hl [0, 1] rfl)
      · rw [if_neg hc] at hf
        refine lv_aload_n hx hb dL_isReduced_109 rfl (lv_at hl 0 rfl) ?_
        refine lv_iconst (v := 2) hx hb dL_isReduced_110 (by decide) ?_
        refine lv_iconst (v := 2) hx hb dL_isReduced_111 (by decide) ?_
        obtain ⟨ho, hf⟩ := chk_inv hf
        obtain ⟨r30, σ29, hk, hf⟩ := xonly_inv hf
        refine z_ocallV (As := [.int 2, .int 2]) (rest := []) (m_X6_dimension hC.2.2.2.2.2.2.2.2 hk) hC hw wd_X6_dimension lkM_L_30 (isO_sh ho) rfl rfl ⟨rfl, rfl⟩ ⟨(Nat.le_of_ble_eq_true rfl), (Nat.le_of_ble_eq_true rfl)⟩ hl.1 rfl (Nat.le_of_ble_eq_true rfl) dL_isReduced_112 ⟨(Nat.le_of_ble_eq_true rfl), (Nat.le_of_ble_eq_true rfl)⟩ (fun H locs hw => ?_)
        refine lv_aload_n hx hb dL_isReduced_115 rfl (lv_at hl 0 rfl) ?_
        refine lv_iconst (v := 3) hx hb dL_isReduced_116 (by decide) ?_
        obtain ⟨ho, hf⟩ := chk_inv hf
        obtain ⟨r32, σ31, hk, hf⟩ := xonly_inv hf
        refine z_ocallV (As := [.int 3]) (rest := [.int r30]) (m_X6_states hC.2.2.2.2.2.2.2.2 hk) hC hw wd_X6_states lkM_L_50 (isO_sh ho) rfl rfl ⟨rfl, rfl⟩ ⟨(Nat.le_of_ble_eq_true rfl), (Nat.le_of_ble_eq_true rfl)⟩ hl.1 rfl (Nat.le_of_ble_eq_true rfl) dL_isReduced_117 ⟨(Nat.le_of_ble_eq_true rfl), (Nat.le_of_ble_eq_true rfl)⟩ (fun H locs hw => ?_)
        refine lv_icmp_ne (tgt := 147) hx hb dL_isReduced_120 (by decide) (fun hc => ?_) (fun hc => ?_)
        · rw [if_neg hc] at hf
          refine W.widen (k := 55) (n := 330) (Nat.le_of_ble_eq_true rfl) (Nat.le_of_ble_eq_true rfl) ?_
          exact t_L_isReduced_L147 hC hr hf hw (lv_sub hl [0, 1] rfl)
        · rw [if_pos hc] at hf
          refine lv_aload_n hx hb dL_isReduced_123 rfl (lv_at hl 0 rfl) ?_
          refine lv_iconst (v := 2) hx hb dL_isReduced_124 (by decide) ?_
          refine lv_iconst (v := 2) hx hb dL_isReduced_125 (by decide) ?_
          refine lv_iconst (v := 1) hx hb dL_isReduced_126 (by decide) ?_
          obtain ⟨ho, hf⟩ := chk_inv hf
          obtain ⟨r34, σ33, hk, hf⟩ := xonly_inv hf
          refine z_ocallV (As := [.int 2, .int 2, .int 1]) (rest := []) (m_X6_derive hC.2.2.2.2.2.2.2.2 hk) hC hw wd_X6_derive lkM_L_56 (isO_sh ho) rfl rfl ⟨rfl, rfl⟩ ⟨(Nat.le_of_ble_eq_true rfl), (Nat.le_of_ble_eq_true rfl)⟩ hl.1 rfl (Nat.le_of_ble_eq_true rfl) dL_isReduced_127 ⟨(Nat.le_of_ble_eq_true rfl), (Nat.le_of_ble_eq_true rfl)⟩ (fun H locs hw => ?_)
          refine lv_if_lt (tgt := 147) hx hb dL_isReduced_130 (by decide) (fun hc => ?_) (fun hc => ?_)
          · rw [if_pos hc] at hf
            refine W.widen (k := 55) (n := 330) (Nat.le_of_ble_eq_true rfl) (Nat.le_of_ble_eq_true rfl) ?_
            exact t_L_isReduced_L147 hC hr hf hw (lv_sub hl [0, 1] rfl)
          · rw [if_neg hc] at hf
            refine lv_aload_n hx hb dL_isReduced_133 rfl (lv_at hl 0 rfl) ?_
            refine lv_iload_n hx hb dL_isReduced_134 rfl (lv_at hl 1 rfl) ?_
            refine lv_iconst (v := 2) hx hb dL_isReduced_135 (by decide) ?_
            obtain ⟨ho, hf⟩ := chk_inv hf
            obtain ⟨r36, σ35, hk, hf⟩ := xonly_inv hf
            refine z_ocallV (As := [.int a1, .int 2]) (rest := []) (m_X6_differing hC.2.2.2.2.2.2.2.2 hk) hC hw wd_X6_differing lkM_L_53 (isO_sh ho) rfl rfl ⟨rfl, rfl⟩ ⟨(Nat.le_of_ble_eq_true rfl), (Nat.le_of_ble_eq_true rfl)⟩ hl.1 rfl (Nat.le_of_ble_eq_true rfl) dL_isReduced_136 ⟨(Nat.le_of_ble_eq_true rfl), (Nat.le_of_ble_eq_true rfl)⟩ (fun H locs hw => ?_)
            refine lv_iconst (v := (-1)) hx hb dL_isReduced_139 (by decide) ?_
            refine lv_icmp_ne (tgt := 147) hx hb dL_isReduced_140 (by decide) (fun hc => ?_) (fun hc => ?_)
            · rw [if_neg hc] at hf
              exact t_L_isReduced_L147 hC hr hf hw (lv_sub hl [0, 1] rfl)
            · rw [if_pos hc] at hf
              refine lv_iconst (v := 1) hx hb dL_isReduced_143 (by decide) ?_
              refine lv_goto (tgt := 148) hx hb dL_isReduced_144 (by decide) ?_
              exact t_L_isReduced_L148 hC hr hf hw (lv_sub hl [0, 1] rfl)
set_option maxHeartbeats 4000000 in
set_option maxRecDepth 100000 in
theorem t_L_isScaled_L204 (hC : zC p l s m args meth c cL_isScaled 6 RL D cA B0) (hr : meth.sig.returnType = (Option.some FieldType.boolean)) {Γ : zSh} {s0 : Int32} {σ : zSt} {out : (Int32 × zSt)} (hf : f_L_isScaled_L204 Γ s0 σ = some out) {H : Heap} {locs : List Loc} {ls : Array Slot} (hw : zO D cA B0 Γ σ (ZB B0) s.heap H locs) (hl : lv_has ls 6 []) :
    W p l e rm_L_isScaled s m args below meth c H locs 36 216 (MQ below (zQ1 D cA B0 (some (.int out.1)) Γ out.2 (ZB B0)) args s 36 216 (FR B0)) (F0 m 204 ls [.int s0]) := by
  have hx := hC.1
  have hb := hC.2.1
  unfold f_L_isScaled_L204 at hf
  obtain ⟨hz, hf⟩ := chk_inv hf
  refine W.widen (k := 36) (n := 216) (Nat.le_of_ble_eq_true rfl) (Nat.le_of_ble_eq_true rfl) ?_
  first | (obtain ⟨rfl, rfl⟩ := sp_inv hf) | (obtain rfl := Option.some.inj hf)
  exact W.zret hx hb hr (isB_n hz).1 (z_ret hw rfl) hw.2.2.2.2.2 dL_isScaled_204 hC.2.2.2.2.2.1
set_option maxHeartbeats 4000000 in
set_option maxRecDepth 100000 in
theorem t_L_isScaled_L203 (hC : zC p l s m args meth c cL_isScaled 6 RL D cA B0) (hr : meth.sig.returnType = (Option.some FieldType.boolean)) {Γ : zSh}  {σ : zSt} {out : (Int32 × zSt)} (hf : f_L_isScaled_L203 Γ  σ = some out) {H : Heap} {locs : List Loc} {ls : Array Slot} (hw : zO D cA B0 Γ σ (ZB B0) s.heap H locs) (hl : lv_has ls 6 []) :
    W p l e rm_L_isScaled s m args below meth c H locs 36 216 (MQ below (zQ1 D cA B0 (some (.int out.1)) Γ out.2 (ZB B0)) args s 36 216 (FR B0)) (F0 m 203 ls []) := by
  have hx := hC.1
  have hb := hC.2.1
  unfold f_L_isScaled_L203 at hf
  refine lv_iconst (v := 0) hx hb dL_isScaled_203 (by decide) ?_
  exact t_L_isScaled_L204 hC hr hf hw (lv_sub hl [] rfl)
set_option maxHeartbeats 4000000 in
set_option maxRecDepth 100000 in
theorem t_L_isScaled_L181 (hC : zC p l s m args meth c cL_isScaled 6 RL D cA B0) (hr : meth.sig.returnType = (Option.some FieldType.boolean)) {Γ : zSh} {x0 : Nat} {x2 : Int32} {x3 : Int32} {s0 : Int32} {σ : zSt} {out : (Int32 × zSt)} (hf : f_L_isScaled_L181 Γ x0 x2 x3 s0 σ = some out) {H : Heap} {locs : List Loc} {ls : Array Slot} (hw : zO D cA B0 Γ σ (ZB B0) s.heap H locs) (hl : lv_has ls 6 [(0, .ref x0), (2, .int x2), (3, .int x3)]) :
    W p l e rm_L_isScaled s m args below meth c H locs 33 198 (MQ below (zQ1 D cA B0 (some (.int out.1)) Γ out.2 (ZB B0)) args s 36 216 (FR B0)) (F0 m 181 ls [.int s0]) := by
  have hx := hC.1
  have hb := hC.2.1
  unfold f_L_isScaled_L181 at hf
  refine lv_istore (lv' := [(5, .int s0), (0, .ref x0), (2, .int x2), (3, .int x3)]) hx hb dL_isScaled_181 hl (Nat.le_of_ble_eq_true rfl) rfl (fun ls hl => ?_)
  refine lv_iload hx hb dL_isScaled_183 (lv_at hl 0 rfl) ?_
  refine lv_if_eq (tgt := 203) hx hb dL_isScaled_185 (by decide) (fun hc => ?_) (fun hc => ?_)
  · rw [if_pos hc] at hf
    refine W.widen (k := 36) (n := 216) (Nat.le_of_ble_eq_true rfl) (Nat.le_of_ble_eq_true rfl) ?_
    exact t_L_isScaled_L203 hC hr hf hw (lv_sub hl [] rfl)
  · rw [if_neg hc] at hf
    refine lv_aload_n hx hb dL_isScaled_188 rfl (lv_at hl 1 rfl) ?_
    refine lv_iconst (v := 0) hx hb dL_isScaled_189 (by decide) ?_
    refine lv_iload_n hx hb dL_isScaled_190 rfl (lv_at hl 2 rfl) ?_
    refine lv_iconst (v := 1) hx hb dL_isScaled_191 (by decide) ?_
    obtain ⟨ho, hf⟩ := chk_inv hf
    obtain ⟨r8, σ7, hk, hf⟩ := xonly_inv hf
    refine z_ocallV (As := [.int 0, .int x2, .int 1]) (rest := []) (m_X6_powerWeight hC.2.2.2.2.2.2.2.2 hk) hC hw wd_X6_powerWeight lkM_L_78 (isO_sh ho) rfl rfl ⟨rfl, rfl⟩ ⟨(Nat.le_of_ble_eq_true rfl), (Nat.le_of_ble_eq_true rfl)⟩ hl.1 rfl (Nat.le_of_ble_eq_true rfl) dL_isScaled_192 ⟨(Nat.le_of_ble_eq_true rfl), (Nat.le_of_ble_eq_true rfl)⟩ (fun H locs hw => ?_)
    refine lv_iload_n hx hb dL_isScaled_195 rfl (lv_at hl 3 rfl) ?_
    refine lv_icmp_ne (tgt := 203) hx hb dL_isScaled_196 (by decide) (fun hc => ?_) (fun hc => ?_)
    · rw [if_neg hc] at hf
      exact t_L_isScaled_L203 hC hr hf hw (lv_sub hl [] rfl)
    · rw [if_pos hc] at hf
      refine lv_iconst (v := 1) hx hb dL_isScaled_199 (by decide) ?_
      refine lv_goto (tgt := 204) hx hb dL_isScaled_200 (by decide) ?_
      exact t_L_isScaled_L204 hC hr hf hw (lv_sub hl [] rfl)
set_option maxHeartbeats 4000000 in
set_option maxRecDepth 100000 in
theorem t_L_isScaled_L180 (hC : zC p l s m args meth c cL_isScaled 6 RL D cA B0) (hr : meth.sig.returnType = (Option.some FieldType.boolean)) {Γ : zSh} {x0 : Nat} {x2 : Int32} {x3 : Int32} {σ : zSt} {out : (Int32 × zSt)} (hf : f_L_isScaled_L180 Γ x0 x2 x3 σ = some out) {H : Heap} {locs : List Loc} {ls : Array Slot} (hw : zO D cA B0 Γ σ (ZB B0) s.heap H locs) (hl : lv_has ls 6 [(0, .ref x0), (2, .int x2), (3, .int x3)]) :
    W p l e rm_L_isScaled s m args below meth c H locs 33 198 (MQ below (zQ1 D cA B0 (some (.int out.1)) Γ out.2 (ZB B0)) args s 36 216 (FR B0)) (F0 m 180 ls []) := by
  have hx := hC.1
  have hb := hC.2.1
  unfold f_L_isScaled_L180 at hf
  refine lv_iconst (v := 0) hx hb dL_isScaled_180 (by decide) ?_
  exact t_L_isScaled_L181 hC hr hf hw (lv_sub hl [0, 1, 2] rfl)
set_option maxHeartbeats 4000000 in
set_option maxRecDepth 100000 in
theorem t_L_isScaled_L119 (hC : zC p l s m args meth c cL_isScaled 6 RL D cA B0) (hr : meth.sig.returnType = (Option.some FieldType.boolean)) {Γ : zSh} {x0 : Nat} {x2 : Int32} {x3 : Int32} {s0 : Int32} {σ : zSt} {out : (Int32 × zSt)} (hf : f_L_isScaled_L119 Γ x0 x2 x3 s0 σ = some out) {H : Heap} {locs : List Loc} {ls : Array Slot} (hw : zO D cA B0 Γ σ (ZB B0) s.heap H locs) (hl : lv_has ls 6 [(0, .ref x0), (2, .int x2), (3, .int x3)]) :
    W p l e rm_L_isScaled s m args below meth c H locs 19 114 (MQ below (zQ1 D cA B0 (some (.int out.1)) Γ out.2 (ZB B0)) args s 36 216 (FR B0)) (F0 m 119 ls [.int s0]) := by
  have hx := hC.1
  have hb := hC.2.1
  unfold f_L_isScaled_L119 at hf
  refine lv_istore (lv' := [(5, .int s0), (0, .ref x0), (2, .int x2), (3, .int x3)]) hx hb dL_isScaled_119 hl (Nat.le_of_ble_eq_true rfl) rfl (fun ls hl => ?_)
  refine lv_iload hx hb dL_isScaled_121 (lv_at hl 0 rfl) ?_
  refine lv_if_eq (tgt := 180) hx hb dL_isScaled_123 (by decide) (fun hc => ?_) (fun hc => ?_)
  · rw [if_pos hc] at hf
    refine W.widen (k := 33) (n := 198) (Nat.le_of_ble_eq_true rfl) (Nat.le_of_ble_eq_true rfl) ?_
    exact t_L_isScaled_L180 hC hr hf hw (lv_sub hl [1, 2, 3] rfl)
  · rw [if_neg hc] at hf
    refine lv_aload_n hx hb dL_isScaled_126 rfl (lv_at hl 1 rfl) ?_
    refine lv_iconst (v := 2) hx hb dL_isScaled_127 (by decide) ?_
    refine lv_iconst (v := 0) hx hb dL_isScaled_128 (by decide) ?_
    refine lv_iconst (v := 0) hx hb dL_isScaled_129 (by decide) ?_
    obtain ⟨ho, hf⟩ := chk_inv hf
    obtain ⟨r10, σ9, hk, hf⟩ := xonly_inv hf
    refine z_ocallV (As := [.int 2, .int 0, .int 0]) (rest := []) (m_X6_derive hC.2.2.2.2.2.2.2.2 hk) hC hw wd_X6_derive lkM_L_56 (isO_sh ho) rfl rfl ⟨rfl, rfl⟩ ⟨(Nat.le_of_ble_eq_true rfl), (Nat.le_of_ble_eq_true rfl)⟩ hl.1 rfl (Nat.le_of_ble_eq_true rfl) dL_isScaled_130 ⟨(Nat.le_of_ble_eq_true rfl), (Nat.le_of_ble_eq_true rfl)⟩ (fun H locs hw => ?_)
    refine lv_if_lt (tgt := 180) hx hb dL_isScaled_133 (by decide) (fun hc => ?_) (fun hc => ?_)
    · rw [if_pos hc] at hf
      refine W.widen (k := 33) (n := 198) (Nat.le_of_ble_eq_true rfl) (Nat.le_of_ble_eq_true rfl) ?_
      exact t_L_isScaled_L180 hC hr hf hw (lv_sub hl [1, 2, 3] rfl)
    · rw [if_neg hc] at hf
      refine lv_aload_n hx hb dL_isScaled_136 rfl (lv_at hl 1 rfl) ?_
      refine lv_iconst (v := 2) hx hb dL_isScaled_137 (by decide) ?_
      refine lv_sipush (v := 10006) hx hb dL_isScaled_138 (by decide) ?_
      obtain ⟨ho, hf⟩ := chk_inv hf
      obtain ⟨r12, σ11, hk, hf⟩ := xonly_inv hf
      refine z_ocallV (As := [.int 2, .int 10006]) (rest := []) (m_X6_scale hC.2.2.2.2.2.2.2.2 hk) hC hw wd_X6_scale lkM_L_70 (isO_sh ho) rfl rfl ⟨rfl, rfl⟩ ⟨(Nat.le_of_ble_eq_true rfl), (Nat.le_of_ble_eq_true rfl)⟩ hl.1 rfl (Nat.le_of_ble_eq_true rfl) dL_isScaled_141 ⟨(Nat.le_of_ble_eq_true rfl), (Nat.le_of_ble_eq_true rfl)⟩ (fun H locs hw => ?_)
      refine lv_if_lt (tgt := 180) hx hb dL_isScaled_144 (by decide) (fun hc => ?_) (fun hc => ?_)
      · rw [if_pos hc] at hf
        refine W.widen (k := 33) (n := 198) (Nat.le_of_ble_eq_true rfl) (Nat.le_of_ble_eq_true rfl) ?_
        exact t_L_isScaled_L180 hC hr hf hw (lv_sub hl [1, 2, 3] rfl)
      · rw [if_neg hc] at hf
        refine lv_aload_n hx hb dL_isScaled_147 rfl (lv_at hl 1 rfl) ?_
        refine lv_iconst (v := 3) hx hb dL_isScaled_148 (by decide) ?_
        refine lv_iconst (v := 0) hx hb dL_isScaled_149 (by decide) ?_
        refine lv_iconst (v := 2) hx hb dL_isScaled_150 (by decide) ?_
        refine lv_iconst (v := 0) hx hb dL_isScaled_151 (by decide) ?_
        obtain ⟨ho, hf⟩ := chk_inv hf
        obtain ⟨r14, σ13, hk, hf⟩ := xonly_inv hf
        refine z_ocallV (As := [.int 3, .int 0, .int 2, .int 0]) (rest := []) (m_X6_combine hC.2.2.2.2.2.2.2.2 hk) hC hw wd_X6_combine lkM_L_26 (isO_sh ho) rfl rfl ⟨rfl, rfl⟩ ⟨(Nat.le_of_ble_eq_true rfl), (Nat.le_of_ble_eq_true rfl)⟩ hl.1 rfl (Nat.le_of_ble_eq_true rfl) dL_isScaled_152 ⟨(Nat.le_of_ble_eq_true rfl), (Nat.le_of_ble_eq_true rfl)⟩ (fun H locs hw => ?_)
        refine lv_if_lt (tgt := 180) hx hb dL_isScaled_155 (by decide) (fun hc => ?_) (fun hc => ?_)
        · rw [if_pos hc] at hf
          refine W.widen (k := 33) (n := 198) (Nat.le_of_ble_eq_true rfl) (Nat.le_of_ble_eq_true rfl) ?_
          exact t_L_isScaled_L180 hC hr hf hw (lv_sub hl [1, 2, 3] rfl)
        · rw [if_neg hc] at hf
          refine lv_aload_n hx hb dL_isScaled_158 rfl (lv_at hl 1 rfl) ?_
          refine lv_iconst (v := 3) hx hb dL_isScaled_159 (by decide) ?_
          obtain ⟨ho, hf⟩ := chk_inv hf
          obtain ⟨r16, σ15, hk, hf⟩ := xonly_inv hf
          refine z_ocallV (As := [.int 3]) (rest := []) (m_X6_first hC.2.2.2.2.2.2.2.2 hk) hC hw wd_X6_first lkM_L_39 (isO_sh ho) rfl rfl ⟨rfl, rfl⟩ ⟨(Nat.le_of_ble_eq_true rfl), (Nat.le_of_ble_eq_true rfl)⟩ hl.1 rfl (Nat.le_of_ble_eq_true rfl) dL_isScaled_160 ⟨(Nat.le_of_ble_eq_true rfl), (Nat.le_of_ble_eq_true rfl)⟩ (fun H locs hw => ?_)
          refine lv_iconst (v := (-1)) hx hb dL_isScaled_163 (by decide) ?_
          refine lv_icmp_ne (tgt := 180) hx hb dL_isScaled_164 (by decide) (fun hc => ?_) (fun hc => ?_)
          · rw [if_neg hc] at hf
            refine W.widen (k := 33) (n := 198) (Nat.le_of_ble_eq_true rfl) (Nat.le_of_ble_eq_true rfl) ?_
            exact t_L_isScaled_L180 hC hr hf hw (lv_sub hl [1, 2, 3] rfl)
          · rw [if_pos hc] at hf
            refine lv_aload_n hx hb dL_isScaled_167 rfl (lv_at hl 1 rfl) ?_
            refine lv_iconst (v := 3) hx hb dL_isScaled_168 (by decide) ?_
            refine lv_iconst (v := 2) hx hb dL_isScaled_169 (by decide) ?_
            obtain ⟨ho, hf⟩ := chk_inv hf
            obtain ⟨r18, σ17, hk, hf⟩ := xonly_inv hf
            refine z_ocallV (As := [.int 3, .int 2]) (rest := []) (m_X6_dimension hC.2.2.2.2.2.2.2.2 hk) hC hw wd_X6_dimension lkM_L_30 (isO_sh ho) rfl rfl ⟨rfl, rfl⟩ ⟨(Nat.le_of_ble_eq_true rfl), (Nat.le_of_ble_eq_true rfl)⟩ hl.1 rfl (Nat.le_of_ble_eq_true rfl) dL_isScaled_170 ⟨(Nat.le_of_ble_eq_true rfl), (Nat.le_of_ble_eq_true rfl)⟩ (fun H locs hw => ?_)
            refine lv_if_ne (tgt := 180) hx hb dL_isScaled_173 (by decide) (fun hc => ?_) (fun hc => ?_)
            · rw [if_neg hc] at hf
              exact t_L_isScaled_L180 hC hr hf hw (lv_sub hl [1, 2, 3] rfl)
            · rw [if_pos hc] at hf
              refine lv_iconst (v := 1) hx hb dL_isScaled_176 (by decide) ?_
              refine lv_goto (tgt := 181) hx hb dL_isScaled_177 (by decide) ?_
              exact t_L_isScaled_L181 hC hr hf hw (lv_sub hl [1, 2, 3] rfl)
set_option maxHeartbeats 4000000 in
set_option maxRecDepth 100000 in
theorem t_L_isScaled_L118 (hC : zC p l s m args meth c cL_isScaled 6 RL D cA B0) (hr : meth.sig.returnType = (Option.some FieldType.boolean)) {Γ : zSh} {x0 : Nat} {x2 : Int32} {x3 : Int32} {σ : zSt} {out : (Int32 × zSt)} (hf : f_L_isScaled_L118 Γ x0 x2 x3 σ = some out) {H : Heap} {locs : List Loc} {ls : Array Slot} (hw : zO D cA B0 Γ σ (ZB B0) s.heap H locs) (hl : lv_has ls 6 [(0, .ref x0), (2, .int x2), (3, .int x3)]) :
    W p l e rm_L_isScaled s m args below meth c H locs 19 114 (MQ below (zQ1 D cA B0 (some (.int out.1)) Γ out.2 (ZB B0)) args s 36 216 (FR B0)) (F0 m 118 ls []) := by
  have hx := hC.1
  have hb := hC.2.1
  unfold f_L_isScaled_L118 at hf
  refine lv_iconst (v := 0) hx hb dL_isScaled_118 (by decide) ?_
  exact t_L_isScaled_L119 hC hr hf hw (lv_sub hl [0, 1, 2] rfl)
set_option maxHeartbeats 4000000 in
set_option maxRecDepth 100000 in
theorem t_L_isScaled_L114 (hC : zC p l s m args meth c cL_isScaled 6 RL D cA B0) (hr : meth.sig.returnType = (Option.some FieldType.boolean)) {Γ : zSh} {x0 : Nat} {x2 : Int32} {x3 : Int32} {σ : zSt} {out : (Int32 × zSt)} (hf : f_L_isScaled_L114 Γ x0 x2 x3 σ = some out) {H : Heap} {locs : List Loc} {ls : Array Slot} (hw : zO D cA B0 Γ σ (ZB B0) s.heap H locs) (hl : lv_has ls 6 [(0, .ref x0), (2, .int x2), (3, .int x3)]) :
    W p l e rm_L_isScaled s m args below meth c H locs 19 114 (MQ below (zQ1 D cA B0 (some (.int out.1)) Γ out.2 (ZB B0)) args s 36 216 (FR B0)) (F0 m 114 ls []) := by
  have hx := hC.1
  have hb := hC.2.1
  unfold f_L_isScaled_L114 at hf
  refine lv_iconst (v := 1) hx hb dL_isScaled_114 (by decide) ?_
  refine lv_goto (tgt := 119) hx hb dL_isScaled_115 (by decide) ?_
  exact t_L_isScaled_L119 hC hr hf hw (lv_sub hl [0, 1, 2] rfl)
set_option maxHeartbeats 4000000 in
set_option maxRecDepth 100000 in
theorem t_L_isScaled_L80 (hC : zC p l s m args meth c cL_isScaled 6 RL D cA B0) (hr : meth.sig.returnType = (Option.some FieldType.boolean)) {Γ : zSh} {x0 : Nat} {x1 : Int32} {x2 : Int32} {x3 : Int32} {s0 : Int32} {σ : zSt} {out : (Int32 × zSt)} (hf : f_L_isScaled_L80 Γ x0 x1 x2 x3 s0 σ = some out) {H : Heap} {locs : List Loc} {ls : Array Slot} (hw : zO D cA B0 Γ σ (ZB B0) s.heap H locs) (hl : lv_has ls 6 [(0, .ref x0), (1, .int x1), (2, .int x2), (3, .int x3)]) :
    W p l e rm_L_isScaled s m args below meth c H locs 14 84 (MQ below (zQ1 D cA B0 (some (.int out.1)) Γ out.2 (ZB B0)) args s 36 216 (FR B0)) (F0 m 80 ls [.int s0]) := by
  have hx := hC.1
  have hb := hC.2.1
  unfold f_L_isScaled_L80 at hf
  refine lv_istore (lv' := [(5, .int s0), (0, .ref x0), (1, .int x1), (2, .int x2), (3, .int x3)]) hx hb dL_isScaled_80 hl (Nat.le_of_ble_eq_true rfl) rfl (fun ls hl => ?_)
  refine lv_iload hx hb dL_isScaled_82 (lv_at hl 0 rfl) ?_
  refine lv_if_eq (tgt := 118) hx hb dL_isScaled_84 (by decide) (fun hc => ?_) (fun hc => ?_)
  · rw [if_pos hc] at hf
    refine W.widen (k := 19) (n := 114) (Nat.le_of_ble_eq_true rfl) (Nat.le_of_ble_eq_true rfl) ?_
    exact t_L_isScaled_L118 hC hr hf hw (lv_sub hl [1, 3, 4] rfl)
  · rw [if_neg hc] at hf
    refine lv_iload_n hx hb dL_isScaled_87 rfl (lv_at hl 2 rfl) ?_
    refine lv_if_eq (tgt := 114) hx hb dL_isScaled_88 (by decide) (fun hc => ?_) (fun hc => ?_)
    · rw [if_pos hc] at hf
      refine W.widen (k := 19) (n := 114) (Nat.le_of_ble_eq_true rfl) (Nat.le_of_ble_eq_true rfl) ?_
      exact t_L_isScaled_L114 hC hr hf hw (lv_sub hl [1, 3, 4] rfl)
    · rw [if_neg hc] at hf
      refine lv_aload_n hx hb dL_isScaled_91 rfl (lv_at hl 1 rfl) ?_
      refine lv_iconst (v := 2) hx hb dL_isScaled_92 (by decide) ?_
      refine lv_aload_n hx hb dL_isScaled_93 rfl (lv_at hl 1 rfl) ?_
      refine lv_iload_n hx hb dL_isScaled_94 rfl (lv_at hl 2 rfl) ?_
      obtain ⟨ho, hf⟩ := chk_inv hf
      obtain ⟨r20, σ19, hk, hf⟩ := xonly_inv hf
      refine z_ocallV (As := [.int x1]) (rest := [.int 2, .ref x0]) (m_X6_inverse hC.2.2.2.2.2.2.2.2 hk) hC hw wd_X6_inverse lkM_L_75 (isO_sh ho) rfl rfl ⟨rfl, rfl⟩ ⟨(Nat.le_of_ble_eq_true rfl), (Nat.le_of_ble_eq_true rfl)⟩ hl.1 rfl (Nat.le_of_ble_eq_true rfl) dL_isScaled_95 ⟨(Nat.le_of_ble_eq_true rfl), (Nat.le_of_ble_eq_true rfl)⟩ (fun H locs hw => ?_)
      obtain ⟨ho, hf⟩ := chk_inv hf
      obtain ⟨r22, σ21, hk, hf⟩ := xonly_inv hf
      refine z_ocallV (As := [.int 2, .int r20]) (rest := []) (m_X6_scale hC.2.2.2.2.2.2.2.2 hk) hC hw wd_X6_scale lkM_L_70 (isO_sh ho) rfl rfl ⟨rfl, rfl⟩ ⟨(Nat.le_of_ble_eq_true rfl), (Nat.le_of_ble_eq_true rfl)⟩ hl.1 rfl (Nat.le_of_ble_eq_true rfl) dL_isScaled_98 ⟨(Nat.le_of_ble_eq_true rfl), (Nat.le_of_ble_eq_true rfl)⟩ (fun H locs hw => ?_)
      refine lv_if_lt (tgt := 118) hx hb dL_isScaled_101 (by decide) (fun hc => ?_) (fun hc => ?_)
      · rw [if_pos hc] at hf
        refine W.widen (k := 19) (n := 114) (Nat.le_of_ble_eq_true rfl) (Nat.le_of_ble_eq_true rfl) ?_
        exact t_L_isScaled_L118 hC hr hf hw (lv_sub hl [1, 3, 4] rfl)
      · rw [if_neg hc] at hf
        refine lv_aload_n hx hb dL_isScaled_104 rfl (lv_at hl 1 rfl) ?_
        refine lv_iconst (v := 2) hx hb dL_isScaled_105 (by decide) ?_
        refine lv_iconst (v := 0) hx hb dL_isScaled_106 (by decide) ?_
        obtain ⟨ho, hf⟩ := chk_inv hf
        obtain ⟨r24, σ23, hk, hf⟩ := xonly_inv hf
        refine z_ocallV (As := [.int 2, .int 0]) (rest := []) (m_X6_differing hC.2.2.2.2.2.2.2.2 hk) hC hw wd_X6_differing lkM_L_53 (isO_sh ho) rfl rfl ⟨rfl, rfl⟩ ⟨(Nat.le_of_ble_eq_true rfl), (Nat.le_of_ble_eq_true rfl)⟩ hl.1 rfl (Nat.le_of_ble_eq_true rfl) dL_isScaled_107 ⟨(Nat.le_of_ble_eq_true rfl), (Nat.le_of_ble_eq_true rfl)⟩ (fun H locs hw => ?_)
        refine lv_iconst (v := (-1)) hx hb dL_isScaled_110 (by decide) ?_
        refine lv_icmp_ne (tgt := 118) hx hb dL_isScaled_111 (by decide) (fun hc => ?_) (fun hc => ?_)
        · rw [if_neg hc] at hf
          exact t_L_isScaled_L118 hC hr hf hw (lv_sub hl [1, 3, 4] rfl)
        · rw [if_pos hc] at hf
          exact t_L_isScaled_L114 hC hr hf hw (lv_sub hl [1, 3, 4] rfl)
set_option maxHeartbeats 4000000 in
set_option maxRecDepth 100000 in
theorem t_L_isScaled_L79 (hC : zC p l s m args meth c cL_isScaled 6 RL D cA B0) (hr : meth.sig.returnType = (Option.some FieldType.boolean)) {Γ : zSh} {x0 : Nat} {x1 : Int32} {x2 : Int32} {x3 : Int32} {σ : zSt} {out : (Int32 × zSt)} (hf : f_L_isScaled_L79 Γ x0 x1 x2 x3 σ = some out) {H : Heap} {locs : List Loc} {ls : Array Slot} (hw : zO D cA B0 Γ σ (ZB B0) s.heap H locs) (hl : lv_has ls 6 [(0, .ref x0), (1, .int x1), (2, .int x2), (3, .int x3)]) :
    W p l e rm_L_isScaled s m args below meth c H locs 14 84 (MQ below (zQ1 D cA B0 (some (.int out.1)) Γ out.2 (ZB B0)) args s 36 216 (FR B0)) (F0 m 79 ls []) := by
  have hx := hC.1
  have hb := hC.2.1
  unfold f_L_isScaled_L79 at hf
  refine lv_iconst (v := 0) hx hb dL_isScaled_79 (by decide) ?_
  exact t_L_isScaled_L80 hC hr hf hw (lv_sub hl [0, 1, 2, 3] rfl)
set_option maxHeartbeats 4000000 in
set_option maxRecDepth 100000 in
theorem m_L_isScaled (h9 : l.stackTraces = false) {Γ : zSh} {a0 : Nat} {a1 : Int32} {a2 : Int32} {σ : zSt} {r : Int32} {σ2 : zSt} (hf : f_L_isScaled Γ a0 a1 a2 σ = some (r, σ2)) : Met l yL_isScaled (wq yL_isScaled cL_isScaled 6 (Option.some FieldType.boolean)) rm_L_isScaled (zQ0 D cA B0 [.ref a0, .int a1, .int a2] Γ σ (ZB B0)) (zQ1 D cA B0 (some (.int r)) Γ σ2 (ZB B0)) 36 216 (FR B0) := by
  refine z_ofW h9 (by decide) (Nat.le_of_ble_eq_true rfl) ?_
  intro p e s m args below meth c ls hC hr _ hw hl
  have hx := hC.1
  have hb := hC.2.1
  have hl : lv_has ls 6 [(0, .ref a0), (1, .int a1), (2, .int a2)] := hl
  unfold f_L_isScaled at hf
  refine lv_aload_n hx hb dL_isScaled_0 rfl (lv_at hl 0 rfl) ?_
  refine lv_iconst (v := 0) hx hb dL_isScaled_1 (by decide) ?_
  refine lv_iload_n hx hb dL_isScaled_2 rfl (lv_at hl 2 rfl) ?_
  obtain ⟨ho, hf⟩ := chk_inv hf
  obtain ⟨r2, σ1, hk, hf⟩ := xonly_inv hf
  refine z_ocallV (As := [.int 0, .int a2]) (rest := []) (m_X6_weight hC.2.2.2.2.2.2.2.2 hk) hC hw wd_X6_weight lkM_L_36 (isO_sh ho) rfl rfl ⟨rfl, rfl⟩ ⟨(Nat.le_of_ble_eq_true rfl), (Nat.le_of_ble_eq_true rfl)⟩ hl.1 rfl (Nat.le_of_ble_eq_true rfl) dL_isScaled_3 ⟨(Nat.le_of_ble_eq_true rfl), (Nat.le_of_ble_eq_true rfl)⟩ (fun H locs hw => ?_)
  refine lv_istore_n (lv' := [(3, .int r2), (0, .ref a0), (1, .int a1), (2, .int a2)]) hx hb dL_isScaled_6 rfl hl (Nat.le_of_ble_eq_true rfl) rfl (fun ls hl => ?_)
  refine lv_aload_n hx hb dL_isScaled_7 rfl (lv_at hl 1 rfl) ?_
  refine lv_iconst (v := 0) hx hb dL_isScaled_8 (by decide) ?_
  refine lv_bipush (v := 9) hx hb dL_isScaled_9 (by decide) ?_
  obtain ⟨ho, hf⟩ := chk_inv hf
  obtain ⟨r4, σ3, hk, hf⟩ := xonly_inv hf
  refine z_ocallV (As := [.int 0, .int 9]) (rest := []) (m_X6_total hC.2.2.2.2.2.2.2.2 hk) hC hw wd_X6_total lkM_L_33 (isO_sh ho) rfl rfl ⟨rfl, rfl⟩ ⟨(Nat.le_of_ble_eq_true rfl), (Nat.le_of_ble_eq_true rfl)⟩ hl.1 rfl (Nat.le_of_ble_eq_true rfl) dL_isScaled_11 ⟨(Nat.le_of_ble_eq_true rfl), (Nat.le_of_ble_eq_true rfl)⟩ (fun H locs hw => ?_)
  refine lv_istore (lv' := [(4, .int r4), (3, .int r2), (0, .ref a0), (1, .int a1), (2, .int a2)]) hx hb dL_isScaled_14 hl (Nat.le_of_ble_eq_true rfl) rfl (fun ls hl => ?_)
  refine lv_aload_n hx hb dL_isScaled_16 rfl (lv_at hl 2 rfl) ?_
  refine lv_iconst (v := 2) hx hb dL_isScaled_17 (by decide) ?_
  refine lv_iconst (v := 0) hx hb dL_isScaled_18 (by decide) ?_
  refine lv_iconst (v := 0) hx hb dL_isScaled_19 (by decide) ?_
  obtain ⟨ho, hf⟩ := chk_inv hf
  obtain ⟨r6, σ5, hk, hf⟩ := xonly_inv hf
  refine z_ocallV (As := [.int 2, .int 0, .int 0]) (rest := []) (m_X6_derive hC.2.2.2.2.2.2.2.2 hk) hC hw wd_X6_derive lkM_L_56 (isO_sh ho) rfl rfl ⟨rfl, rfl⟩ ⟨(Nat.le_of_ble_eq_true rfl), (Nat.le_of_ble_eq_true rfl)⟩ hl.1 rfl (Nat.le_of_ble_eq_true rfl) dL_isScaled_20 ⟨(Nat.le_of_ble_eq_true rfl), (Nat.le_of_ble_eq_true rfl)⟩ (fun H locs hw => ?_)
  refine lv_if_lt (tgt := 79) hx hb dL_isScaled_23 (by decide) (fun hc => ?_) (fun hc => ?_)
  · rw [if_pos hc] at hf
    refine W.widen (k := 14) (n := 84) (Nat.le_of_ble_eq_true rfl) (Nat.le_of_ble_eq_true rfl) ?_
    exact t_L_isScaled_L79 hC hr hf hw (lv_sub hl [2, 3, 4, 1] rfl)
  · rw [if_neg hc] at hf
    refine lv_aload_n hx hb dL_isScaled_26 rfl (lv_at hl 2 rfl) ?_
    refine lv_iconst (v := 2) hx hb dL_isScaled_27 (by decide) ?_
    refine lv_iload_n hx hb dL_isScaled_28 rfl (lv_at hl 3 rfl) ?_
    obtain ⟨ho, hf⟩ := chk_inv hf
    obtain ⟨r26, σ25, hk, hf⟩ := xonly_inv hf
    refine z_ocallV (As := [.int 2, .int a1]) (rest := []) (m_X6_scale hC.2.2.2.2.2.2.2.2 hk) hC hw wd_X6_scale lkM_L_70 (isO_sh ho) rfl rfl ⟨rfl, rfl⟩ ⟨(Nat.le_of_ble_eq_true rfl), (Nat.le_of_ble_eq_true rfl)⟩ hl.1 rfl (Nat.le_of_ble_eq_true rfl) dL_isScaled_29 ⟨(Nat.le_of_ble_eq_true rfl), (Nat.le_of_ble_eq_true rfl)⟩ (fun H locs hw => ?_)
    refine lv_if_lt (tgt := 79) hx hb dL_isScaled_32 (by decide) (fun hc => ?_) (fun hc => ?_)
    · rw [if_pos hc] at hf
      refine W.widen (k := 14) (n := 84) (Nat.le_of_ble_eq_true rfl) (Nat.le_of_ble_eq_true rfl) ?_
      exact t_L_isScaled_L79 hC hr hf hw (lv_sub hl [2, 3, 4, 1] rfl)
    · rw [if_neg hc] at hf
      refine lv_aload_n hx hb dL_isScaled_35 rfl (lv_at hl 2 rfl) ?_
      refine lv_iconst (v := 2) hx hb dL_isScaled_36 (by decide) ?_
      refine lv_iload_n hx hb dL_isScaled_37 rfl (lv_at hl 4 rfl) ?_
      obtain ⟨ho, hf⟩ := chk_inv hf
      obtain ⟨r28, σ27, hk, hf⟩ := xonly_inv hf
      refine z_ocallV (As := [.int 2, .int a2]) (rest := []) (m_X6_weight hC.2.2.2.2.2.2.2.2 hk) hC hw wd_X6_weight lkM_L_36 (isO_sh ho) rfl rfl ⟨rfl, rfl⟩ ⟨(Nat.le_of_ble_eq_true rfl), (Nat.le_of_ble_eq_true rfl)⟩ hl.1 rfl (Nat.le_of_ble_eq_true rfl) dL_isScaled_38 ⟨(Nat.le_of_ble_eq_true rfl), (Nat.le_of_ble_eq_true rfl)⟩ (fun H locs hw => ?_)
      refine lv_iload_n hx hb dL_isScaled_41 rfl (lv_at hl 1 rfl) ?_
      refine lv_i2l hx hb dL_isScaled_42 rfl ?_
      refine lv_iload_n hx hb dL_isScaled_43 rfl (lv_at hl 3 rfl) ?_
      refine lv_i2l hx hb dL_isScaled_44 rfl ?_
      refine lv_lmul hx hb dL_isScaled_45 ?_
      refine lv_ldc2 (v := 10007) hx hb hC.2.2.2.1 (hC.2.2.2.2.1 _ lkJ_L_73) dL_isScaled_46 ?_
      obtain ⟨v29, hg, hf⟩ := rmL_inv hf
      refine r_rmL hC hg dL_isScaled_49 ?_
      refine lv_l2i hx hb dL_isScaled_50 rfl ?_
      refine lv_icmp_ne (tgt := 79) hx hb dL_isScaled_51 (by decide) (fun hc => ?_) (fun hc => ?_)
      · rw [if_neg hc] at hf
        refine W.widen (k := 14) (n := 84) (Nat.le_of_ble_eq_true rfl) (Nat.le_of_ble_eq_true rfl) ?_
        exact t_L_isScaled_L79 hC hr hf hw (lv_sub hl [2, 3, 4, 1] rfl)
      · rw [if_pos hc] at hf
        refine lv_aload_n hx hb dL_isScaled_54 rfl (lv_at hl 2 rfl) ?_
        refine lv_iconst (v := 2) hx hb dL_isScaled_55 (by decide) ?_
        refine lv_bipush (v := 9) hx hb dL_isScaled_56 (by decide) ?_
        obtain ⟨ho, hf⟩ := chk_inv hf
        obtain ⟨r31, σ30, hk, hf⟩ := xonly_inv hf
        refine z_ocallV (As := [.int 2, .int 9]) (rest := []) (m_X6_total hC.2.2.2.2.2.2.2.2 hk) hC hw wd_X6_total lkM_L_33 (isO_sh ho) rfl rfl ⟨rfl, rfl⟩ ⟨(Nat.le_of_ble_eq_true rfl), (Nat.le_of_ble_eq_true rfl)⟩ hl.1 rfl (Nat.le_of_ble_eq_true rfl) dL_isScaled_58 ⟨(Nat.le_of_ble_eq_true rfl), (Nat.le_of_ble_eq_true rfl)⟩ (fun H locs hw => ?_)
        refine lv_iload hx hb dL_isScaled_61 (lv_at hl 0 rfl) ?_
        refine lv_i2l hx hb dL_isScaled_63 rfl ?_
        refine lv_iload_n hx hb dL_isScaled_64 rfl (lv_at hl 3 rfl) ?_
        refine lv_i2l hx hb dL_isScaled_65 rfl ?_
        refine lv_lmul hx hb dL_isScaled_66 ?_
        refine lv_ldc2 (v := 10007) hx hb hC.2.2.2.1 (hC.2.2.2.2.1 _ lkJ_L_73) dL_isScaled_67 ?_
        obtain ⟨v32, hg, hf⟩ := rmL_inv hf
        refine r_rmL hC hg dL_isScaled_70 ?_
        refine lv_l2i hx hb dL_isScaled_71 rfl ?_
        refine lv_icmp_ne (tgt := 79) hx hb dL_isScaled_72 (by decide) (fun hc => ?_) (fun hc => ?_)
        · rw [if_neg hc] at hf
          exact t_L_isScaled_L79 hC hr hf hw (lv_sub hl [2, 3, 4, 1] rfl)
        · rw [if_pos hc] at hf
          refine lv_iconst (v := 1) hx hb dL_isScaled_75 (by decide) ?_
          refine lv_goto (tgt := 80) hx hb dL_isScaled_76 (by decide) ?_
          exact t_L_isScaled_L80 hC hr hf hw (lv_sub hl [2, 3, 4, 1] rfl)
end
