section
variable {p : Program} {l : Launch} {e : Env} {s : State} {m : MethodId} {args : Array Value} {below : List Frame} {meth : Method} {c : Code} {Q : State → Prop} {D : va_G} {cA : Nat → ClassId} {B0 : Nat} {Z : Nat → Prop}
set_option maxHeartbeats 4000000 in
set_option maxRecDepth 100000 in
theorem m_X7_inverted (h9 : l.stackTraces = false) {Γ : zSh} {a0 : Int32} {σ : zSt} {r : Int32} {σ2 : zSt} (hf : f_X7_inverted Γ a0 σ = some (r, σ2)) : Met l yX7_inverted (wq yX7_inverted cX7_inverted 1 (Option.some FieldType.int)) rm_X7_inverted (zQ0 D cA B0 [.int a0] Γ σ Z) (zQ1 D cA B0 (some (.int r)) Γ σ2 Z) 0 0 (FR B0) := by
  refine z_ofW h9 (by decide) (Nat.le_of_ble_eq_true rfl) ?_
  intro p e s m args below meth c ls hC hr _ hw hl
  have hx := hC.1
  have hb := hC.2.1
  have hl : lv_has ls 1 [(0, .int a0)] := hl
  unfold f_X7_inverted at hf
  refine lv_iload_n hx hb dX7_inverted_0 rfl (lv_at hl 0 rfl) ?_
  refine lv_sipush (v := 10005) hx hb dX7_inverted_1 (by decide) ?_
  obtain ⟨r2, σ1, hk, hf⟩ := bnd_inv hf
  refine z_callS (As := [.int a0, .int 10005]) (rest := []) (m_X7_power hC.2.2.2.2.2.2.2.2 hk) hC hw wd_X7_power lkM_X7_74 rfl ⟨rfl, rfl⟩ ⟨(Nat.le_of_ble_eq_true rfl), (Nat.le_of_ble_eq_true rfl)⟩ hl.1 rfl (Nat.le_of_ble_eq_true rfl) dX7_inverted_4 ⟨(Nat.le_of_ble_eq_true rfl), (Nat.le_of_ble_eq_true rfl)⟩ (fun H locs hw => ?_)
  first | (obtain ⟨rfl, rfl⟩ := sp_inv hf) | (obtain rfl := Option.some.inj hf)
  exact W.iret hx hb hr (z_ret hw rfl) hw.2.2.2.2.2 dX7_inverted_7 hC.2.2.2.2.2.1
set_option maxHeartbeats 4000000 in
set_option maxRecDepth 100000 in
theorem m_X7_many (h9 : l.stackTraces = false) {Γ : zSh} {a0 : Nat} {a1 : Int32} {σ : zSt} {r : Int32} {σ2 : zSt} (hf : f_X7_many Γ a0 a1 σ = some (r, σ2)) : Met l yX7_many (wq yX7_many cX7_many 2 (Option.some FieldType.int)) rm_X7_many (zQ0 D cA B0 [.ref a0, .int a1] Γ σ Z) (zQ1 D cA B0 (some (.int r)) Γ σ2 Z) 0 0 (FR B0) := by
  refine z_ofW h9 (by decide) (Nat.le_of_ble_eq_true rfl) ?_
  intro p e s m args below meth c ls hC hr _ hw hl
  have hx := hC.1
  have hb := hC.2.1
  have hl : lv_has ls 2 [(0, .ref a0), (1, .int a1)] := hl
  unfold f_X7_many at hf
  refine lv_aload_n hx hb dX7_many_0 rfl (lv_at hl 0 rfl) ?_
  obtain ⟨v1, hg, hf⟩ := gfR_inv hf
  refine r_gfR hC hw hg clX7 (Nat.le_of_ble_eq_true rfl) lkF_X7_7 rfl dX7_many_1 ?_
  refine lv_sipush (v := 313) hx hb dX7_many_4 (by decide) ?_
  refine lv_iload_n hx hb dX7_many_7 rfl (lv_at hl 1 rfl) ?_
  refine lv_imul hx hb dX7_many_8 ?_
  obtain ⟨v2, hg, hf⟩ := ldI_inv hf
  refine r_ldI hC hw hg dX7_many_9 ?_
  first | (obtain ⟨rfl, rfl⟩ := sp_inv hf) | (obtain rfl := Option.some.inj hf)
  exact W.iret hx hb hr (z_ret hw rfl) hw.2.2.2.2.2 dX7_many_10 hC.2.2.2.2.2.1
set_option maxHeartbeats 4000000 in
set_option maxRecDepth 100000 in
theorem m_X7_initialAt (h9 : l.stackTraces = false) {Γ : zSh} {a0 : Int32} {a1 : Int32} {σ : zSt} {r : Int32} {σ2 : zSt} (hf : f_X7_initialAt Γ a0 a1 σ = some (r, σ2)) : Met l yX7_initialAt (wq yX7_initialAt cX7_initialAt 2 (Option.some FieldType.int)) rm_X7_initialAt (zQ0 D cA B0 [.int a0, .int a1] Γ σ Z) (zQ1 D cA B0 (some (.int r)) Γ σ2 Z) 0 0 (FR B0) := by
  refine z_ofW h9 (by decide) (Nat.le_of_ble_eq_true rfl) ?_
  intro p e s m args below meth c ls hC hr _ hw hl
  have hx := hC.1
  have hb := hC.2.1
  have hl : lv_has ls 2 [(0, .int a0), (1, .int a1)] := hl
  unfold f_X7_initialAt at hf
  refine lv_sipush (v := 313) hx hb dX7_initialAt_0 (by decide) ?_
  refine lv_iload_n hx hb dX7_initialAt_3 rfl (lv_at hl 0 rfl) ?_
  refine lv_imul hx hb dX7_initialAt_4 ?_
  refine lv_iconst (v := 1) hx hb dX7_initialAt_5 (by decide) ?_
  refine lv_iadd hx hb dX7_initialAt_6 ?_
  refine lv_iload_n hx hb dX7_initialAt_7 rfl (lv_at hl 1 rfl) ?_
  refine lv_iadd hx hb dX7_initialAt_8 ?_
  first | (obtain ⟨rfl, rfl⟩ := sp_inv hf) | (obtain rfl := Option.some.inj hf)
  exact W.iret hx hb hr (z_ret hw rfl) hw.2.2.2.2.2 dX7_initialAt_9 hC.2.2.2.2.2.1
set_option maxHeartbeats 4000000 in
set_option maxRecDepth 100000 in
theorem m_X7_finalAt (h9 : l.stackTraces = false) {Γ : zSh} {a0 : Int32} {a1 : Int32} {σ : zSt} {r : Int32} {σ2 : zSt} (hf : f_X7_finalAt Γ a0 a1 σ = some (r, σ2)) : Met l yX7_finalAt (wq yX7_finalAt cX7_finalAt 2 (Option.some FieldType.int)) rm_X7_finalAt (zQ0 D cA B0 [.int a0, .int a1] Γ σ Z) (zQ1 D cA B0 (some (.int r)) Γ σ2 Z) 0 0 (FR B0) := by
  refine z_ofW h9 (by decide) (Nat.le_of_ble_eq_true rfl) ?_
  intro p e s m args below meth c ls hC hr _ hw hl
  have hx := hC.1
  have hb := hC.2.1
  have hl : lv_has ls 2 [(0, .int a0), (1, .int a1)] := hl
  unfold f_X7_finalAt at hf
  refine lv_sipush (v := 313) hx hb dX7_finalAt_0 (by decide) ?_
  refine lv_iload_n hx hb dX7_finalAt_3 rfl (lv_at hl 0 rfl) ?_
  refine lv_imul hx hb dX7_finalAt_4 ?_
  refine lv_bipush (v := 13) hx hb dX7_finalAt_5 (by decide) ?_
  refine lv_iadd hx hb dX7_finalAt_7 ?_
  refine lv_iload_n hx hb dX7_finalAt_8 rfl (lv_at hl 1 rfl) ?_
  refine lv_iadd hx hb dX7_finalAt_9 ?_
  first | (obtain ⟨rfl, rfl⟩ := sp_inv hf) | (obtain rfl := Option.some.inj hf)
  exact W.iret hx hb hr (z_ret hw rfl) hw.2.2.2.2.2 dX7_finalAt_10 hC.2.2.2.2.2.1
set_option maxHeartbeats 4000000 in
set_option maxRecDepth 100000 in
theorem m_X7_at (h9 : l.stackTraces = false) {Γ : zSh} {a0 : Int32} {a1 : Int32} {a2 : Int32} {a3 : Int32} {σ : zSt} {r : Int32} {σ2 : zSt} (hf : f_X7_at Γ a0 a1 a2 a3 σ = some (r, σ2)) : Met l yX7_at (wq yX7_at cX7_at 4 (Option.some FieldType.int)) rm_X7_at (zQ0 D cA B0 [.int a0, .int a1, .int a2, .int a3] Γ σ Z) (zQ1 D cA B0 (some (.int r)) Γ σ2 Z) 0 0 (FR B0) := by
  refine z_ofW h9 (by decide) (Nat.le_of_ble_eq_true rfl) ?_
  intro p e s m args below meth c ls hC hr _ hw hl
  have hx := hC.1
  have hb := hC.2.1
  have hl : lv_has ls 4 [(0, .int a0), (1, .int a1), (2, .int a2), (3, .int a3)] := hl
  unfold f_X7_at at hf
  refine lv_sipush (v := 313) hx hb dX7_at_0 (by decide) ?_
  refine lv_iload_n hx hb dX7_at_3 rfl (lv_at hl 0 rfl) ?_
  refine lv_imul hx hb dX7_at_4 ?_
  refine lv_bipush (v := 25) hx hb dX7_at_5 (by decide) ?_
  refine lv_iadd hx hb dX7_at_7 ?_
  refine lv_sipush (v := 144) hx hb dX7_at_8 (by decide) ?_
  refine lv_iload_n hx hb dX7_at_11 rfl (lv_at hl 1 rfl) ?_
  refine lv_imul hx hb dX7_at_12 ?_
  refine lv_iadd hx hb dX7_at_13 ?_
  refine lv_bipush (v := 12) hx hb dX7_at_14 (by decide) ?_
  refine lv_iload_n hx hb dX7_at_16 rfl (lv_at hl 2 rfl) ?_
  refine lv_imul hx hb dX7_at_17 ?_
  refine lv_iadd hx hb dX7_at_18 ?_
  refine lv_iload_n hx hb dX7_at_19 rfl (lv_at hl 3 rfl) ?_
  refine lv_iadd hx hb dX7_at_20 ?_
  first | (obtain ⟨rfl, rfl⟩ := sp_inv hf) | (obtain rfl := Option.some.inj hf)
  exact W.iret hx hb hr (z_ret hw rfl) hw.2.2.2.2.2 dX7_at_21 hC.2.2.2.2.2.1
set_option maxHeartbeats 4000000 in
set_option maxRecDepth 100000 in
theorem t_X7_clears_B2 (hC : zC p l s m args meth c cX7_clears 4 RX7 D cA B0) (hr : meth.sig.returnType = (Option.none : Option Jvm.ClassFile.FieldType)) {Γ : zSh} {x0 : Nat} {x1 : Int32} {x2 : Int32} {x3 : Int32} {σ : zSt} {out : ((Int32 × zSt) ⊕ (zSt))} (hf : f_X7_clears_B2 Γ x0 x1 x2 x3 σ = some out) {H : Heap} {locs : List Loc} {ls : Array Slot} (hw : zO D cA B0 Γ σ Z s.heap H locs) (hl : lv_has ls 4 [(0, .ref x0), (1, .int x1), (2, .int x2), (3, .int x3)])
    (kI : ∀ (z3 : Int32) (σ2 : zSt), out = .inl (z3, σ2) → ∀ (H : Heap) (locs : List Loc) (ls : Array Slot), zO D cA B0 Γ σ2 Z s.heap H locs → lv_has ls 4 [(0, .ref x0), (1, .int x1), (2, .int x2), (3, .int z3)] → W p l e rm_X7_clears s m args below meth c H locs 0 0 Q (F0 m 2 ls []))
    (kE : ∀ (σ2 : zSt), out = .inr σ2 → ∀ (H : Heap) (locs : List Loc) (ls : Array Slot), zO D cA B0 Γ σ2 Z s.heap H locs → lv_has ls 4 [(0, .ref x0), (1, .int x1), (2, .int x2)] → W p l e rm_X7_clears s m args below meth c H locs 0 0 Q (F0 m 28 ls [])) :
    W p l e rm_X7_clears s m args below meth c H locs 0 0 Q (F0 m 2 ls []) := by
  have hx := hC.1
  have hb := hC.2.1
  unfold f_X7_clears_B2 at hf
  refine lv_iload_n hx hb dX7_clears_2 rfl (lv_at hl 3 rfl) ?_
  refine lv_sipush (v := 313) hx hb dX7_clears_3 (by decide) ?_
  refine lv_icmp_ge (tgt := 28) hx hb dX7_clears_6 (by decide) (fun hc => ?_) (fun hc => ?_)
  · rw [if_pos hc] at hf
    exact kE  σ (Option.some.inj hf).symm _ _ _ hw (lv_sub hl [0, 1, 2] rfl)
  · rw [if_neg hc] at hf
    refine lv_aload_n hx hb dX7_clears_9 rfl (lv_at hl 0 rfl) ?_
    obtain ⟨v1, hg, hf⟩ := gfR_inv hf
    refine r_gfR hC hw hg clX7 (Nat.le_of_ble_eq_true rfl) lkF_X7_7 rfl dX7_clears_10 ?_
    refine lv_sipush (v := 313) hx hb dX7_clears_13 (by decide) ?_
    refine lv_iload_n hx hb dX7_clears_16 rfl (lv_at hl 1 rfl) ?_
    refine lv_imul hx hb dX7_clears_17 ?_
    refine lv_iload_n hx hb dX7_clears_18 rfl (lv_at hl 3 rfl) ?_
    refine lv_iadd hx hb dX7_clears_19 ?_
    refine lv_iconst (v := 0) hx hb dX7_clears_20 (by decide) ?_
    obtain ⟨σ2, hg, hf⟩ := stI_inv hf
    refine r_stI hC hw hg dX7_clears_21 (fun H locs hw => ?_)
    refine lv_iinc (v := (x3 + 1)) (lv' := [(3, .int (x3 + 1)), (0, .ref x0), (1, .int x1), (2, .int x2)]) hx hb dX7_clears_22 hl (k := 3) rfl rfl (Nat.le_of_ble_eq_true rfl) rfl (fun ls hl => ?_)
    refine lv_goto (tgt := 2) hx hb dX7_clears_25 (by decide) ?_
    exact kI (x3 + 1) σ2 (Option.some.inj hf).symm _ _ _ hw (lv_sub hl [1, 2, 3, 0] rfl)
set_option maxHeartbeats 4000000 in
theorem l_X7_clears_B2 (hC : zC p l s m args meth c cX7_clears 4 RX7 D cA B0) (hr : meth.sig.returnType = (Option.none : Option Jvm.ClassFile.FieldType)) {Γ : zSh} {x0 : Nat} {x1 : Int32} {x2 : Int32} {σ2 : zSt} (kE : ∀ (H : Heap) (locs : List Loc) (ls : Array Slot), zO D cA B0 Γ σ2 Z s.heap H locs → lv_has ls 4 [(0, .ref x0), (1, .int x1), (2, .int x2)] → W p l e rm_X7_clears s m args below meth c H locs 0 0 Q (F0 m 28 ls [])) :
    ∀ (n : Nat) (x3 : Int32) (σ : zSt), loopM (fun q => f_X7_clears_B2 Γ x0 x1 x2 q.1 q.2) n (x3, σ) = some σ2 → ∀ (H : Heap) (locs : List Loc) (ls : Array Slot), zO D cA B0 Γ σ Z s.heap H locs → lv_has ls 4 [(0, .ref x0), (1, .int x1), (2, .int x2), (3, .int x3)] → W p l e rm_X7_clears s m args below meth c H locs 0 0 Q (F0 m 2 ls []) := by
  intro n
  induction n with
  | zero => intro x3 σ h; exact absurd h (by simp [loopM])
  | succ n ih =>
    intro x3 σ h H locs ls hw hl
    obtain ⟨r, h1, h2, h3⟩ := loopM_inv h
    exact t_X7_clears_B2 hC hr h1 hw hl (fun z3 s2 e H locs ls hw hl => ih z3 s2 (h2 _ e) H locs ls hw hl) (fun s2 e H locs ls hw hl => by cases h3 _ e; exact kE H locs ls hw hl)
set_option maxHeartbeats 4000000 in
set_option maxRecDepth 100000 in
theorem m_X7_clears (h9 : l.stackTraces = false) {Γ : zSh} {a0 : Nat} {a1 : Int32} {a2 : Int32} {σ : zSt} {r : Unit} {σ2 : zSt} (hf : f_X7_clears Γ a0 a1 a2 σ = some (r, σ2)) : Met l yX7_clears (wq yX7_clears cX7_clears 4 (Option.none : Option Jvm.ClassFile.FieldType)) rm_X7_clears (zQ0 D cA B0 [.ref a0, .int a1, .int a2] Γ σ Z) (zQ1 D cA B0 (none) Γ σ2 Z) 0 0 (FR B0) := by
  refine z_ofW h9 (by decide) (Nat.le_of_ble_eq_true rfl) ?_
  intro p e s m args below meth c ls hC hr _ hw hl
  have hx := hC.1
  have hb := hC.2.1
  have hl : lv_has ls 4 [(0, .ref a0), (1, .int a1), (2, .int a2)] := hl
  unfold f_X7_clears at hf
  refine lv_iconst (v := 0) hx hb dX7_clears_0 (by decide) ?_
  refine lv_istore_n (lv' := [(3, .int 0), (0, .ref a0), (1, .int a1), (2, .int a2)]) hx hb dX7_clears_1 rfl hl (Nat.le_of_ble_eq_true rfl) rfl (fun ls hl => ?_)
  obtain ⟨σ3, hk, hf⟩ := lb0_inv hf
  refine l_X7_clears_B2 hC hr (fun H locs ls hw hl => ?_) FUEL 0 σ hk _ _ _ hw (lv_sub hl [1, 2, 3, 0] rfl)
  refine lv_aload_n hx hb dX7_clears_28 rfl (lv_at hl 0 rfl) ?_
  obtain ⟨v4, hg, hf⟩ := gfR_inv hf
  refine r_gfR hC hw hg clX7 (Nat.le_of_ble_eq_true rfl) lkF_X7_7 rfl dX7_clears_29 ?_
  refine lv_sipush (v := 313) hx hb dX7_clears_32 (by decide) ?_
  refine lv_iload_n hx hb dX7_clears_35 rfl (lv_at hl 1 rfl) ?_
  refine lv_imul hx hb dX7_clears_36 ?_
  refine lv_iload_n hx hb dX7_clears_37 rfl (lv_at hl 2 rfl) ?_
  obtain ⟨σ5, hg, hf⟩ := stI_inv hf
  refine r_stI hC hw hg dX7_clears_38 (fun H locs hw => ?_)
  first | (obtain ⟨rfl, rfl⟩ := sp_inv hf) | (obtain rfl := Option.some.inj hf)
  exact W.vret hx hb hr (z_ret hw rfl) hw.2.2.2.2.2 dX7_clears_39 hC.2.2.2.2.2.1
set_option maxHeartbeats 4000000 in
set_option maxRecDepth 100000 in
theorem t_X7_copies_B2 (hC : zC p l s m args meth c cX7_copies 4 RX7 D cA B0) (hr : meth.sig.returnType = (Option.none : Option Jvm.ClassFile.FieldType)) {Γ : zSh} {x0 : Nat} {x1 : Int32} {x2 : Int32} {x3 : Int32} {σ : zSt} {out : ((Int32 × zSt) ⊕ (zSt))} (hf : f_X7_copies_B2 Γ x0 x1 x2 x3 σ = some out) {H : Heap} {locs : List Loc} {ls : Array Slot} (hw : zO D cA B0 Γ σ Z s.heap H locs) (hl : lv_has ls 4 [(0, .ref x0), (1, .int x1), (2, .int x2), (3, .int x3)])
    (kI : ∀ (z3 : Int32) (σ2 : zSt), out = .inl (z3, σ2) → ∀ (H : Heap) (locs : List Loc) (ls : Array Slot), zO D cA B0 Γ σ2 Z s.heap H locs → lv_has ls 4 [(0, .ref x0), (1, .int x1), (2, .int x2), (3, .int z3)] → W p l e rm_X7_copies s m args below meth c H locs 0 0 Q (F0 m 2 ls []))
    (kE : ∀ (σ2 : zSt), out = .inr σ2 → ∀ (H : Heap) (locs : List Loc) (ls : Array Slot), zO D cA B0 Γ σ2 Z s.heap H locs → lv_has ls 4 [] → W p l e rm_X7_copies s m args below meth c H locs 0 0 Q (F0 m 39 ls [])) :
    W p l e rm_X7_copies s m args below meth c H locs 0 0 Q (F0 m 2 ls []) := by
  have hx := hC.1
  have hb := hC.2.1
  unfold f_X7_copies_B2 at hf
  refine lv_iload_n hx hb dX7_copies_2 rfl (lv_at hl 3 rfl) ?_
  refine lv_sipush (v := 313) hx hb dX7_copies_3 (by decide) ?_
  refine lv_icmp_ge (tgt := 39) hx hb dX7_copies_6 (by decide) (fun hc => ?_) (fun hc => ?_)
  · rw [if_pos hc] at hf
    exact kE  σ (Option.some.inj hf).symm _ _ _ hw (lv_sub hl [] rfl)
  · rw [if_neg hc] at hf
    refine lv_aload_n hx hb dX7_copies_9 rfl (lv_at hl 0 rfl) ?_
    obtain ⟨v1, hg, hf⟩ := gfR_inv hf
    refine r_gfR hC hw hg clX7 (Nat.le_of_ble_eq_true rfl) lkF_X7_7 rfl dX7_copies_10 ?_
    refine lv_sipush (v := 313) hx hb dX7_copies_13 (by decide) ?_
    refine lv_iload_n hx hb dX7_copies_16 rfl (lv_at hl 2 rfl) ?_
    refine lv_imul hx hb dX7_copies_17 ?_
    refine lv_iload_n hx hb dX7_copies_18 rfl (lv_at hl 3 rfl) ?_
    refine lv_iadd hx hb dX7_copies_19 ?_
    refine lv_aload_n hx hb dX7_copies_20 rfl (lv_at hl 0 rfl) ?_
    obtain ⟨v2, hg, hf⟩ := gfR_inv hf
    refine r_gfR hC hw hg clX7 (Nat.le_of_ble_eq_true rfl) lkF_X7_7 rfl dX7_copies_21 ?_
    refine lv_sipush (v := 313) hx hb dX7_copies_24 (by decide) ?_
    refine lv_iload_n hx hb dX7_copies_27 rfl (lv_at hl 1 rfl) ?_
    refine lv_imul hx hb dX7_copies_28 ?_
    refine lv_iload_n hx hb dX7_copies_29 rfl (lv_at hl 3 rfl) ?_
    refine lv_iadd hx hb dX7_copies_30 ?_
    obtain ⟨v3, hg, hf⟩ := ldI_inv hf
    refine r_ldI hC hw hg dX7_copies_31 ?_
    obtain ⟨σ4, hg, hf⟩ := stI_inv hf
    refine r_stI hC hw hg dX7_copies_32 (fun H locs hw => ?_)
    refine lv_iinc (v := (x3 + 1)) (lv' := [(3, .int (x3 + 1)), (0, .ref x0), (1, .int x1), (2, .int x2)]) hx hb dX7_copies_33 hl (k := 3) rfl rfl (Nat.le_of_ble_eq_true rfl) rfl (fun ls hl => ?_)
    refine lv_goto (tgt := 2) hx hb dX7_copies_36 (by decide) ?_
    exact kI (x3 + 1) σ4 (Option.some.inj hf).symm _ _ _ hw (lv_sub hl [1, 2, 3, 0] rfl)
set_option maxHeartbeats 4000000 in
theorem l_X7_copies_B2 (hC : zC p l s m args meth c cX7_copies 4 RX7 D cA B0) (hr : meth.sig.returnType = (Option.none : Option Jvm.ClassFile.FieldType)) {Γ : zSh} {x0 : Nat} {x1 : Int32} {x2 : Int32} {σ2 : zSt} (kE : ∀ (H : Heap) (locs : List Loc) (ls : Array Slot), zO D cA B0 Γ σ2 Z s.heap H locs → lv_has ls 4 [] → W p l e rm_X7_copies s m args below meth c H locs 0 0 Q (F0 m 39 ls [])) :
    ∀ (n : Nat) (x3 : Int32) (σ : zSt), loopM (fun q => f_X7_copies_B2 Γ x0 x1 x2 q.1 q.2) n (x3, σ) = some σ2 → ∀ (H : Heap) (locs : List Loc) (ls : Array Slot), zO D cA B0 Γ σ Z s.heap H locs → lv_has ls 4 [(0, .ref x0), (1, .int x1), (2, .int x2), (3, .int x3)] → W p l e rm_X7_copies s m args below meth c H locs 0 0 Q (F0 m 2 ls []) := by
  intro n
  induction n with
  | zero => intro x3 σ h; exact absurd h (by simp [loopM])
  | succ n ih =>
    intro x3 σ h H locs ls hw hl
    obtain ⟨r, h1, h2, h3⟩ := loopM_inv h
    exact t_X7_copies_B2 hC hr h1 hw hl (fun z3 s2 e H locs ls hw hl => ih z3 s2 (h2 _ e) H locs ls hw hl) (fun s2 e H locs ls hw hl => by cases h3 _ e; exact kE H locs ls hw hl)
set_option maxHeartbeats 4000000 in
set_option maxRecDepth 100000 in
theorem m_X7_copies (h9 : l.stackTraces = false) {Γ : zSh} {a0 : Nat} {a1 : Int32} {a2 : Int32} {σ : zSt} {r : Unit} {σ2 : zSt} (hf : f_X7_copies Γ a0 a1 a2 σ = some (r, σ2)) : Met l yX7_copies (wq yX7_copies cX7_copies 4 (Option.none : Option Jvm.ClassFile.FieldType)) rm_X7_copies (zQ0 D cA B0 [.ref a0, .int a1, .int a2] Γ σ Z) (zQ1 D cA B0 (none) Γ σ2 Z) 0 0 (FR B0) := by
  refine z_ofW h9 (by decide) (Nat.le_of_ble_eq_true rfl) ?_
  intro p e s m args below meth c ls hC hr _ hw hl
  have hx := hC.1
  have hb := hC.2.1
  have hl : lv_has ls 4 [(0, .ref a0), (1, .int a1), (2, .int a2)] := hl
  unfold f_X7_copies at hf
  refine lv_iconst (v := 0) hx hb dX7_copies_0 (by decide) ?_
  refine lv_istore_n (lv' := [(3, .int 0), (0, .ref a0), (1, .int a1), (2, .int a2)]) hx hb dX7_copies_1 rfl hl (Nat.le_of_ble_eq_true rfl) rfl (fun ls hl => ?_)
  obtain ⟨σ5, hk, hf⟩ := lb0_inv hf
  refine l_X7_copies_B2 hC hr (fun H locs ls hw hl => ?_) FUEL 0 σ hk _ _ _ hw (lv_sub hl [1, 2, 3, 0] rfl)
  first | (obtain ⟨rfl, rfl⟩ := sp_inv hf) | (obtain rfl := Option.some.inj hf)
  exact W.vret hx hb hr (z_ret hw rfl) hw.2.2.2.2.2 dX7_copies_39 hC.2.2.2.2.2.1
set_option maxHeartbeats 4000000 in
set_option maxRecDepth 100000 in
theorem t_X7_emptyWeight_B4 (hC : zC p l s m args meth c cX7_emptyWeight 4 RX7 D cA B0) (hr : meth.sig.returnType = (Option.some FieldType.int)) {Γ : zSh} {x0 : Nat} {x1 : Int32} {x2 : Int32} {x3 : Int32} {σ : zSt} {out : ((Int32 × Int32 × zSt) ⊕ (Int32 × zSt))} (hf : f_X7_emptyWeight_B4 Γ x0 x1 x2 x3 σ = some out) {H : Heap} {locs : List Loc} {ls : Array Slot} (hw : zO D cA B0 Γ σ Z s.heap H locs) (hl : lv_has ls 4 [(0, .ref x0), (1, .int x1), (2, .int x2), (3, .int x3)])
    (kI : ∀ (z2 : Int32) (z3 : Int32) (σ2 : zSt), out = .inl (z2, z3, σ2) → ∀ (H : Heap) (locs : List Loc) (ls : Array Slot), zO D cA B0 Γ σ2 Z s.heap H locs → lv_has ls 4 [(0, .ref x0), (1, .int x1), (2, .int z2), (3, .int z3)] → W p l e rm_X7_emptyWeight s m args below meth c H locs 0 0 Q (F0 m 4 ls []))
    (kE : ∀ (z2 : Int32) (σ2 : zSt), out = .inr (z2, σ2) → ∀ (H : Heap) (locs : List Loc) (ls : Array Slot), zO D cA B0 Γ σ2 Z s.heap H locs → lv_has ls 4 [(2, .int z2)] → W p l e rm_X7_emptyWeight s m args below meth c H locs 0 0 Q (F0 m 47 ls [])) :
    W p l e rm_X7_emptyWeight s m args below meth c H locs 0 0 Q (F0 m 4 ls []) := by
  have hx := hC.1
  have hb := hC.2.1
  unfold f_X7_emptyWeight_B4 at hf
  refine lv_iload_n hx hb dX7_emptyWeight_4 rfl (lv_at hl 3 rfl) ?_
  refine lv_aload_n hx hb dX7_emptyWeight_5 rfl (lv_at hl 0 rfl) ?_
  refine lv_iload_n hx hb dX7_emptyWeight_6 rfl (lv_at hl 1 rfl) ?_
  obtain ⟨ho, hf⟩ := chk_inv hf
  obtain ⟨r2, σ1, hk, hf⟩ := bnd_inv hf
  refine z_callV (As := [.int x1]) (rest := [.int x3]) (m_X7_many hC.2.2.2.2.2.2.2.2 hk) hC hw wd_X7_many lkM_X7_78 (isO_sh ho) rfl rfl ⟨rfl, rfl⟩ ⟨(Nat.le_of_ble_eq_true rfl), (Nat.le_of_ble_eq_true rfl)⟩ hl.1 rfl (Nat.le_of_ble_eq_true rfl) dX7_emptyWeight_7 ⟨(Nat.le_of_ble_eq_true rfl), (Nat.le_of_ble_eq_true rfl)⟩ (fun H locs hw => ?_)
  refine lv_icmp_ge (tgt := 47) hx hb dX7_emptyWeight_10 (by decide) (fun hc => ?_) (fun hc => ?_)
  · rw [if_pos hc] at hf
    exact kE x2 σ1 (Option.some.inj hf).symm _ _ _ hw (lv_sub hl [2] rfl)
  · rw [if_neg hc] at hf
    refine lv_iload_n hx hb dX7_emptyWeight_13 rfl (lv_at hl 2 rfl) ?_
    refine lv_aload_n hx hb dX7_emptyWeight_14 rfl (lv_at hl 0 rfl) ?_
    obtain ⟨v3, hg, hf⟩ := gfR_inv hf
    refine r_gfR hC hw hg clX7 (Nat.le_of_ble_eq_true rfl) lkF_X7_7 rfl dX7_emptyWeight_15 ?_
    refine lv_iload_n hx hb dX7_emptyWeight_18 rfl (lv_at hl 1 rfl) ?_
    refine lv_iload_n hx hb dX7_emptyWeight_19 rfl (lv_at hl 3 rfl) ?_
    obtain ⟨r5, σ4, hk, hf⟩ := bnd_inv hf
    refine z_callS (As := [.int x1, .int x3]) (rest := [.ref v3, .int x2]) (m_X7_initialAt hC.2.2.2.2.2.2.2.2 hk) hC hw wd_X7_initialAt lkM_X7_82 rfl ⟨rfl, rfl⟩ ⟨(Nat.le_of_ble_eq_true rfl), (Nat.le_of_ble_eq_true rfl)⟩ hl.1 rfl (Nat.le_of_ble_eq_true rfl) dX7_emptyWeight_20 ⟨(Nat.le_of_ble_eq_true rfl), (Nat.le_of_ble_eq_true rfl)⟩ (fun H locs hw => ?_)
    obtain ⟨v6, hg, hf⟩ := ldI_inv hf
    refine r_ldI hC hw hg dX7_emptyWeight_23 ?_
    refine lv_aload_n hx hb dX7_emptyWeight_24 rfl (lv_at hl 0 rfl) ?_
    obtain ⟨v7, hg, hf⟩ := gfR_inv hf
    refine r_gfR hC hw hg clX7 (Nat.le_of_ble_eq_true rfl) lkF_X7_7 rfl dX7_emptyWeight_25 ?_
    refine lv_iload_n hx hb dX7_emptyWeight_28 rfl (lv_at hl 1 rfl) ?_
    refine lv_iload_n hx hb dX7_emptyWeight_29 rfl (lv_at hl 3 rfl) ?_
    obtain ⟨r9, σ8, hk, hf⟩ := bnd_inv hf
    refine z_callS (As := [.int x1, .int x3]) (rest := [.ref v7, .int v6, .int x2]) (m_X7_finalAt hC.2.2.2.2.2.2.2.2 hk) hC hw wd_X7_finalAt lkM_X7_85 rfl ⟨rfl, rfl⟩ ⟨(Nat.le_of_ble_eq_true rfl), (Nat.le_of_ble_eq_true rfl)⟩ hl.1 rfl (Nat.le_of_ble_eq_true rfl) dX7_emptyWeight_30 ⟨(Nat.le_of_ble_eq_true rfl), (Nat.le_of_ble_eq_true rfl)⟩ (fun H locs hw => ?_)
    obtain ⟨v10, hg, hf⟩ := ldI_inv hf
    refine r_ldI hC hw hg dX7_emptyWeight_33 ?_
    refine lv_imul hx hb dX7_emptyWeight_34 ?_
    refine lv_iadd hx hb dX7_emptyWeight_35 ?_
    refine lv_sipush (v := 10007) hx hb dX7_emptyWeight_36 (by decide) ?_
    obtain ⟨v11, hg, hf⟩ := rmI_inv hf
    refine r_rmI hC hg dX7_emptyWeight_39 ?_
    refine lv_istore_n (lv' := [(2, .int v11), (0, .ref x0), (1, .int x1), (3, .int x3)]) hx hb dX7_emptyWeight_40 rfl hl (Nat.le_of_ble_eq_true rfl) rfl (fun ls hl => ?_)
    refine lv_iinc (v := (x3 + 1)) (lv' := [(3, .int (x3 + 1)), (2, .int v11), (0, .ref x0), (1, .int x1)]) hx hb dX7_emptyWeight_41 hl (k := 3) rfl rfl (Nat.le_of_ble_eq_true rfl) rfl (fun ls hl => ?_)
    refine lv_goto (tgt := 4) hx hb dX7_emptyWeight_44 (by decide) ?_
    exact kI v11 (x3 + 1) σ8 (Option.some.inj hf).symm _ _ _ hw (lv_sub hl [2, 3, 1, 0] rfl)
set_option maxHeartbeats 4000000 in
theorem l_X7_emptyWeight_B4 (hC : zC p l s m args meth c cX7_emptyWeight 4 RX7 D cA B0) (hr : meth.sig.returnType = (Option.some FieldType.int)) {Γ : zSh} {x0 : Nat} {x1 : Int32} {w2 : Int32} {σ2 : zSt} (kE : ∀ (H : Heap) (locs : List Loc) (ls : Array Slot), zO D cA B0 Γ σ2 Z s.heap H locs → lv_has ls 4 [(2, .int w2)] → W p l e rm_X7_emptyWeight s m args below meth c H locs 0 0 Q (F0 m 47 ls [])) :
    ∀ (n : Nat) (x2 : Int32) (x3 : Int32) (σ : zSt), loopM (fun q => f_X7_emptyWeight_B4 Γ x0 x1 q.1 q.2.1 q.2.2) n (x2, x3, σ) = some (w2, σ2) → ∀ (H : Heap) (locs : List Loc) (ls : Array Slot), zO D cA B0 Γ σ Z s.heap H locs → lv_has ls 4 [(0, .ref x0), (1, .int x1), (2, .int x2), (3, .int x3)] → W p l e rm_X7_emptyWeight s m args below meth c H locs 0 0 Q (F0 m 4 ls []) := by
  intro n
  induction n with
  | zero => intro x2 x3 σ h; exact absurd h (by simp [loopM])
  | succ n ih =>
    intro x2 x3 σ h H locs ls hw hl
    obtain ⟨r, h1, h2, h3⟩ := loopM_inv h
    exact t_X7_emptyWeight_B4 hC hr h1 hw hl (fun z2 z3 s2 e H locs ls hw hl => ih z2 z3 s2 (h2 _ e) H locs ls hw hl) (fun z2 s2 e H locs ls hw hl => by cases h3 _ e; exact kE H locs ls hw hl)
set_option maxHeartbeats 4000000 in
set_option maxRecDepth 100000 in
theorem m_X7_emptyWeight (h9 : l.stackTraces = false) {Γ : zSh} {a0 : Nat} {a1 : Int32} {σ : zSt} {r : Int32} {σ2 : zSt} (hf : f_X7_emptyWeight Γ a0 a1 σ = some (r, σ2)) : Met l yX7_emptyWeight (wq yX7_emptyWeight cX7_emptyWeight 4 (Option.some FieldType.int)) rm_X7_emptyWeight (zQ0 D cA B0 [.ref a0, .int a1] Γ σ Z) (zQ1 D cA B0 (some (.int r)) Γ σ2 Z) 0 0 (FR B0) := by
  refine z_ofW h9 (by decide) (Nat.le_of_ble_eq_true rfl) ?_
  intro p e s m args below meth c ls hC hr _ hw hl
  have hx := hC.1
  have hb := hC.2.1
  have hl : lv_has ls 4 [(0, .ref a0), (1, .int a1)] := hl
  unfold f_X7_emptyWeight at hf
  refine lv_iconst (v := 0) hx hb dX7_emptyWeight_0 (by decide) ?_
  refine lv_istore_n (lv' := [(2, .int 0), (0, .ref a0), (1, .int a1)]) hx hb dX7_emptyWeight_1 rfl hl (Nat.le_of_ble_eq_true rfl) rfl (fun ls hl => ?_)
  refine lv_iconst (v := 0) hx hb dX7_emptyWeight_2 (by decide) ?_
  refine lv_istore_n (lv' := [(3, .int 0), (2, .int 0), (0, .ref a0), (1, .int a1)]) hx hb dX7_emptyWeight_3 rfl hl (Nat.le_of_ble_eq_true rfl) rfl (fun ls hl => ?_)
  obtain ⟨w13, σ12, hk, hf⟩ := lb1_inv hf
  refine l_X7_emptyWeight_B4 hC hr (fun H locs ls hw hl => ?_) FUEL 0 0 σ hk _ _ _ hw (lv_sub hl [2, 3, 1, 0] rfl)
  refine lv_iload_n hx hb dX7_emptyWeight_47 rfl (lv_at hl 0 rfl) ?_
  first | (obtain ⟨rfl, rfl⟩ := sp_inv hf) | (obtain rfl := Option.some.inj hf)
  exact W.iret hx hb hr (z_ret hw rfl) hw.2.2.2.2.2 dX7_emptyWeight_48 hC.2.2.2.2.2.1
set_option maxHeartbeats 4000000 in
set_option maxRecDepth 100000 in
theorem m_X7_begin (h9 : l.stackTraces = false) {Γ : zSh} {a0 : Nat} {a1 : Int32} {a2 : Int32} {σ : zSt} {r : Int32} {σ2 : zSt} (hf : f_X7_begin Γ a0 a1 a2 σ = some (r, σ2)) : Met l yX7_begin (wq yX7_begin cX7_begin 4 (Option.some FieldType.int)) rm_X7_begin (zQ0 D cA B0 [.ref a0, .int a1, .int a2] Γ σ Z) (zQ1 D cA B0 (some (.int r)) Γ σ2 Z) 0 0 (FR B0) := by
  refine z_ofW h9 (by decide) (Nat.le_of_ble_eq_true rfl) ?_
  intro p e s m args below meth c ls hC hr _ hw hl
  have hx := hC.1
  have hb := hC.2.1
  have hl : lv_has ls 4 [(0, .ref a0), (1, .int a1), (2, .int a2)] := hl
  unfold f_X7_begin at hf
  refine lv_aload_n hx hb dX7_begin_0 rfl (lv_at hl 0 rfl) ?_
  refine lv_iload_n hx hb dX7_begin_1 rfl (lv_at hl 1 rfl) ?_
  obtain ⟨r2, σ1, hk, hf⟩ := bnd_inv hf
  refine z_callS (As := [.int a1]) (rest := [.ref a0]) (m_X7_isSlot hC.2.2.2.2.2.2.2.2 hk) hC hw wd_X7_isSlot lkM_X7_88 rfl ⟨rfl, rfl⟩ ⟨(Nat.le_of_ble_eq_true rfl), (Nat.le_of_ble_eq_true rfl)⟩ hl.1 rfl (Nat.le_of_ble_eq_true rfl) dX7_begin_2 ⟨(Nat.le_of_ble_eq_true rfl), (Nat.le_of_ble_eq_true rfl)⟩ (fun H locs hw => ?_)
  refine lv_iload_n hx hb dX7_begin_5 rfl (lv_at hl 2 rfl) ?_
  refine lv_i2l hx hb dX7_begin_6 rfl ?_
  refine lv_lconst (v := 0) hx hb dX7_begin_7 (by decide) ?_
  refine lv_ldc2 (v := 12) hx hb hC.2.2.2.1 (hC.2.2.2.2.1 _ lkJ_X7_92) dX7_begin_8 ?_
  obtain ⟨r4, σ3, hk, hf⟩ := bnd_inv hf
  refine z_callS (As := [.long (a2.toInt64), .long 0, .long 12]) (rest := [.int r2, .ref a0]) (m_X7_in hC.2.2.2.2.2.2.2.2 hk) hC hw wd_X7_in lkM_X7_68 rfl ⟨rfl, rfl⟩ ⟨(Nat.le_of_ble_eq_true rfl), (Nat.le_of_ble_eq_true rfl)⟩ hl.1 rfl (Nat.le_of_ble_eq_true rfl) dX7_begin_11 ⟨(Nat.le_of_ble_eq_true rfl), (Nat.le_of_ble_eq_true rfl)⟩ (fun H locs hw => ?_)
  refine lv_iconst (v := 1) hx hb dX7_begin_14 (by decide) ?_
  obtain ⟨ho, hf⟩ := chk_inv hf
  obtain ⟨r6, σ5, hk, hf⟩ := bnd_inv hf
  refine z_callV (As := [.int r2, .int r4, .int 1]) (rest := []) (m_X7_goes hC.2.2.2.2.2.2.2.2 hk) hC hw wd_X7_goes lkM_X7_94 (isO_sh ho) rfl rfl ⟨rfl, rfl⟩ ⟨(Nat.le_of_ble_eq_true rfl), (Nat.le_of_ble_eq_true rfl)⟩ hl.1 rfl (Nat.le_of_ble_eq_true rfl) dX7_begin_15 ⟨(Nat.le_of_ble_eq_true rfl), (Nat.le_of_ble_eq_true rfl)⟩ (fun H locs hw => ?_)
  refine lv_if_ne (tgt := 23) hx hb dX7_begin_18 (by decide) (fun hc => ?_) (fun hc => ?_)
  · rw [if_neg hc] at hf
    refine lv_aload_n hx hb dX7_begin_23 rfl (lv_at hl 0 rfl) ?_
    obtain ⟨ho, hf⟩ := chk_inv hf
    obtain ⟨_, σ7, hk, hf⟩ := bnd_inv hf
    refine z_callV (As := []) (rest := []) (m_X7_save hC.2.2.2.2.2.2.2.2 hk) hC hw wd_X7_save lkM_X7_98 (isO_sh ho) rfl rfl ⟨rfl, rfl⟩ ⟨(Nat.le_of_ble_eq_true rfl), (Nat.le_of_ble_eq_true rfl)⟩ hl.1 rfl (Nat.le_of_ble_eq_true rfl) dX7_begin_24 ⟨(Nat.le_of_ble_eq_true rfl), (Nat.le_of_ble_eq_true rfl)⟩ (fun H locs hw => ?_)
    refine lv_aload_n hx hb dX7_begin_27 rfl (lv_at hl 0 rfl) ?_
    refine lv_iload_n hx hb dX7_begin_28 rfl (lv_at hl 1 rfl) ?_
    obtain ⟨ho, hf⟩ := chk_inv hf
    obtain ⟨r9, σ8, hk, hf⟩ := bnd_inv hf
    refine z_callV (As := [.int a1]) (rest := []) (m_X7_many hC.2.2.2.2.2.2.2.2 hk) hC hw wd_X7_many lkM_X7_78 (isO_sh ho) rfl rfl ⟨rfl, rfl⟩ ⟨(Nat.le_of_ble_eq_true rfl), (Nat.le_of_ble_eq_true rfl)⟩ hl.1 rfl (Nat.le_of_ble_eq_true rfl) dX7_begin_29 ⟨(Nat.le_of_ble_eq_true rfl), (Nat.le_of_ble_eq_true rfl)⟩ (fun H locs hw => ?_)
    refine lv_istore_n (lv' := [(3, .int r9), (0, .ref a0), (1, .int a1), (2, .int a2)]) hx hb dX7_begin_32 rfl hl (Nat.le_of_ble_eq_true rfl) rfl (fun ls hl => ?_)
    refine lv_aload_n hx hb dX7_begin_33 rfl (lv_at hl 1 rfl) ?_
    refine lv_iload_n hx hb dX7_begin_34 rfl (lv_at hl 2 rfl) ?_
    refine lv_iload_n hx hb dX7_begin_35 rfl (lv_at hl 3 rfl) ?_
    obtain ⟨ho, hf⟩ := chk_inv hf
    obtain ⟨_, σ10, hk, hf⟩ := bnd_inv hf
    refine z_callV (As := [.int a1, .int a2]) (rest := []) (m_X7_clears hC.2.2.2.2.2.2.2.2 hk) hC hw wd_X7_clears lkM_X7_101 (isO_sh ho) rfl rfl ⟨rfl, rfl⟩ ⟨(Nat.le_of_ble_eq_true rfl), (Nat.le_of_ble_eq_true rfl)⟩ hl.1 rfl (Nat.le_of_ble_eq_true rfl) dX7_begin_36 ⟨(Nat.le_of_ble_eq_true rfl), (Nat.le_of_ble_eq_true rfl)⟩ (fun H locs hw => ?_)
    refine lv_iload_n hx hb dX7_begin_39 rfl (lv_at hl 0 rfl) ?_
    first | (obtain ⟨rfl, rfl⟩ := sp_inv hf) | (obtain rfl := Option.some.inj hf)
    exact W.iret hx hb hr (z_ret hw rfl) hw.2.2.2.2.2 dX7_begin_40 hC.2.2.2.2.2.1
  · rw [if_pos hc] at hf
    refine lv_iconst (v := 0) hx hb dX7_begin_21 (by decide) ?_
    first | (obtain ⟨rfl, rfl⟩ := sp_inv hf) | (obtain rfl := Option.some.inj hf)
    exact W.iret hx hb hr (z_ret hw rfl) hw.2.2.2.2.2 dX7_begin_22 hC.2.2.2.2.2.1
set_option maxHeartbeats 4000000 in
set_option maxRecDepth 100000 in
theorem t_X7_isState_L29 (hC : zC p l s m args meth c cX7_isState 3 RX7 D cA B0) (hr : meth.sig.returnType = (Option.some FieldType.boolean)) {Γ : zSh} {s0 : Int32} {σ : zSt} {out : (Int32 × zSt)} (hf : f_X7_isState_L29 Γ s0 σ = some out) {H : Heap} {locs : List Loc} {ls : Array Slot} (hw : zO D cA B0 Γ σ Z s.heap H locs) (hl : lv_has ls 3 []) :
    W p l e rm_X7_isState s m args below meth c H locs 0 0 (MQ below (zQ1 D cA B0 (some (.int out.1)) Γ out.2 Z) args s 0 0 (FR B0)) (F0 m 29 ls [.int s0]) := by
  have hx := hC.1
  have hb := hC.2.1
  unfold f_X7_isState_L29 at hf
  obtain ⟨hz, hf⟩ := chk_inv hf
  first | (obtain ⟨rfl, rfl⟩ := sp_inv hf) | (obtain rfl := Option.some.inj hf)
  exact W.zret hx hb hr (isB_n hz).1 (z_ret hw rfl) hw.2.2.2.2.2 dX7_isState_29 hC.2.2.2.2.2.1
set_option maxHeartbeats 4000000 in
set_option maxRecDepth 100000 in
theorem t_X7_isState_L28 (hC : zC p l s m args meth c cX7_isState 3 RX7 D cA B0) (hr : meth.sig.returnType = (Option.some FieldType.boolean)) {Γ : zSh}  {σ : zSt} {out : (Int32 × zSt)} (hf : f_X7_isState_L28 Γ  σ = some out) {H : Heap} {locs : List Loc} {ls : Array Slot} (hw : zO D cA B0 Γ σ Z s.heap H locs) (hl : lv_has ls 3 []) :
    W p l e rm_X7_isState s m args below meth c H locs 0 0 (MQ below (zQ1 D cA B0 (some (.int out.1)) Γ out.2 Z) args s 0 0 (FR B0)) (F0 m 28 ls []) := by
  have hx := hC.1
  have hb := hC.2.1
  unfold f_X7_isState_L28 at hf
  refine lv_iconst (v := 0) hx hb dX7_isState_28 (by decide) ?_
  exact t_X7_isState_L29 hC hr hf hw (lv_sub hl [] rfl)
set_option maxHeartbeats 4000000 in
set_option maxRecDepth 100000 in
theorem m_X7_isState (h9 : l.stackTraces = false) {Γ : zSh} {a0 : Nat} {a1 : Int32} {a2 : Int32} {σ : zSt} {r : Int32} {σ2 : zSt} (hf : f_X7_isState Γ a0 a1 a2 σ = some (r, σ2)) : Met l yX7_isState (wq yX7_isState cX7_isState 3 (Option.some FieldType.boolean)) rm_X7_isState (zQ0 D cA B0 [.ref a0, .int a1, .int a2] Γ σ Z) (zQ1 D cA B0 (some (.int r)) Γ σ2 Z) 0 0 (FR B0) := by
  refine z_ofW h9 (by decide) (Nat.le_of_ble_eq_true rfl) ?_
  intro p e s m args below meth c ls hC hr _ hw hl
  have hx := hC.1
  have hb := hC.2.1
  have hl : lv_has ls 3 [(0, .ref a0), (1, .int a1), (2, .int a2)] := hl
  unfold f_X7_isState at hf
  refine lv_iload_n hx hb dX7_isState_0 rfl (lv_at hl 1 rfl) ?_
  obtain ⟨r2, σ1, hk, hf⟩ := bnd_inv hf
  refine z_callS (As := [.int a1]) (rest := []) (m_X7_isSlot hC.2.2.2.2.2.2.2.2 hk) hC hw wd_X7_isSlot lkM_X7_88 rfl ⟨rfl, rfl⟩ ⟨(Nat.le_of_ble_eq_true rfl), (Nat.le_of_ble_eq_true rfl)⟩ hl.1 rfl (Nat.le_of_ble_eq_true rfl) dX7_isState_1 ⟨(Nat.le_of_ble_eq_true rfl), (Nat.le_of_ble_eq_true rfl)⟩ (fun H locs hw => ?_)
  refine lv_if_eq (tgt := 28) hx hb dX7_isState_4 (by decide) (fun hc => ?_) (fun hc => ?_)
  · rw [if_pos hc] at hf
    exact t_X7_isState_L28 hC hr hf hw (lv_sub hl [] rfl)
  · rw [if_neg hc] at hf
    refine lv_iload_n hx hb dX7_isState_7 rfl (lv_at hl 2 rfl) ?_
    refine lv_i2l hx hb dX7_isState_8 rfl ?_
    refine lv_lconst (v := 0) hx hb dX7_isState_9 (by decide) ?_
    refine lv_aload_n hx hb dX7_isState_10 rfl (lv_at hl 0 rfl) ?_
    refine lv_iload_n hx hb dX7_isState_11 rfl (lv_at hl 1 rfl) ?_
    obtain ⟨ho, hf⟩ := chk_inv hf
    obtain ⟨r4, σ3, hk, hf⟩ := bnd_inv hf
    refine z_callV (As := [.int a1]) (rest := [.long 0, .long (a2.toInt64)]) (m_X7_many hC.2.2.2.2.2.2.2.2 hk) hC hw wd_X7_many lkM_X7_78 (isO_sh ho) rfl rfl ⟨rfl, rfl⟩ ⟨(Nat.le_of_ble_eq_true rfl), (Nat.le_of_ble_eq_true rfl)⟩ hl.1 rfl (Nat.le_of_ble_eq_true rfl) dX7_isState_12 ⟨(Nat.le_of_ble_eq_true rfl), (Nat.le_of_ble_eq_true rfl)⟩ (fun H locs hw => ?_)
    refine lv_iconst (v := 1) hx hb dX7_isState_15 (by decide) ?_
    refine lv_isub hx hb dX7_isState_16 ?_
    refine lv_i2l hx hb dX7_isState_17 rfl ?_
    obtain ⟨r6, σ5, hk, hf⟩ := bnd_inv hf
    refine z_callS (As := [.long (a2.toInt64), .long 0, .long ((r4 - 1).toInt64)]) (rest := []) (m_X7_in hC.2.2.2.2.2.2.2.2 hk) hC hw wd_X7_in lkM_X7_68 rfl ⟨rfl, rfl⟩ ⟨(Nat.le_of_ble_eq_true rfl), (Nat.le_of_ble_eq_true rfl)⟩ hl.1 rfl (Nat.le_of_ble_eq_true rfl) dX7_isState_18 ⟨(Nat.le_of_ble_eq_true rfl), (Nat.le_of_ble_eq_true rfl)⟩ (fun H locs hw => ?_)
    refine lv_if_eq (tgt := 28) hx hb dX7_isState_21 (by decide) (fun hc => ?_) (fun hc => ?_)
    · rw [if_pos hc] at hf
      exact t_X7_isState_L28 hC hr hf hw (lv_sub hl [] rfl)
    · rw [if_neg hc] at hf
      refine lv_iconst (v := 1) hx hb dX7_isState_24 (by decide) ?_
      refine lv_goto (tgt := 29) hx hb dX7_isState_25 (by decide) ?_
      exact t_X7_isState_L29 hC hr hf hw (lv_sub hl [] rfl)
set_option maxHeartbeats 4000000 in
set_option maxRecDepth 100000 in
theorem t_X7_setEnd_L42 (hC : zC p l s m args meth c cX7_setEnd 7 RX7 D cA B0) (hr : meth.sig.returnType = (Option.some FieldType.int)) {Γ : zSh} {x0 : Nat} {x4 : Int32} {s0 : Int32} {σ : zSt} {out : (Int32 × zSt)} (hf : f_X7_setEnd_L42 Γ x0 x4 s0 σ = some out) {H : Heap} {locs : List Loc} {ls : Array Slot} (hw : zO D cA B0 Γ σ Z s.heap H locs) (hl : lv_has ls 7 [(0, .ref x0), (4, .int x4)]) :
    W p l e rm_X7_setEnd s m args below meth c H locs 0 0 (MQ below (zQ1 D cA B0 (some (.int out.1)) Γ out.2 Z) args s 0 0 (FR B0)) (F0 m 42 ls [.int s0]) := by
  have hx := hC.1
  have hb := hC.2.1
  unfold f_X7_setEnd_L42 at hf
  refine lv_istore (lv' := [(5, .int s0), (0, .ref x0), (4, .int x4)]) hx hb dX7_setEnd_42 hl (Nat.le_of_ble_eq_true rfl) rfl (fun ls hl => ?_)
  refine lv_aload_n hx hb dX7_setEnd_44 rfl (lv_at hl 1 rfl) ?_
  obtain ⟨v10, hg, hf⟩ := gfR_inv hf
  refine r_gfR hC hw hg clX7 (Nat.le_of_ble_eq_true rfl) lkF_X7_7 rfl dX7_setEnd_45 ?_
  refine lv_iload hx hb dX7_setEnd_48 (lv_at hl 0 rfl) ?_
  obtain ⟨v11, hg, hf⟩ := ldI_inv hf
  refine r_ldI hC hw hg dX7_setEnd_50 ?_
  refine lv_istore (lv' := [(6, .int v11), (5, .int s0), (0, .ref x0), (4, .int x4)]) hx hb dX7_setEnd_51 hl (Nat.le_of_ble_eq_true rfl) rfl (fun ls hl => ?_)
  refine lv_aload_n hx hb dX7_setEnd_53 rfl (lv_at hl 2 rfl) ?_
  obtain ⟨v12, hg, hf⟩ := gfR_inv hf
  refine r_gfR hC hw hg clX7 (Nat.le_of_ble_eq_true rfl) lkF_X7_7 rfl dX7_setEnd_54 ?_
  refine lv_iload hx hb dX7_setEnd_57 (lv_at hl 1 rfl) ?_
  refine lv_iload hx hb dX7_setEnd_59 (lv_at hl 3 rfl) ?_
  obtain ⟨σ13, hg, hf⟩ := stI_inv hf
  refine r_stI hC hw hg dX7_setEnd_61 (fun H locs hw => ?_)
  refine lv_iload hx hb dX7_setEnd_62 (lv_at hl 0 rfl) ?_
  first | (obtain ⟨rfl, rfl⟩ := sp_inv hf) | (obtain rfl := Option.some.inj hf)
  exact W.iret hx hb hr (z_ret hw rfl) hw.2.2.2.2.2 dX7_setEnd_64 hC.2.2.2.2.2.1
set_option maxHeartbeats 4000000 in
set_option maxRecDepth 100000 in
theorem m_X7_setEnd (h9 : l.stackTraces = false) {Γ : zSh} {a0 : Nat} {a1 : Int32} {a2 : Int32} {a3 : Int32} {a4 : Int32} {σ : zSt} {r : Int32} {σ2 : zSt} (hf : f_X7_setEnd Γ a0 a1 a2 a3 a4 σ = some (r, σ2)) : Met l yX7_setEnd (wq yX7_setEnd cX7_setEnd 7 (Option.some FieldType.int)) rm_X7_setEnd (zQ0 D cA B0 [.ref a0, .int a1, .int a2, .int a3, .int a4] Γ σ Z) (zQ1 D cA B0 (some (.int r)) Γ σ2 Z) 0 0 (FR B0) := by
  refine z_ofW h9 (by decide) (Nat.le_of_ble_eq_true rfl) ?_
  intro p e s m args below meth c ls hC hr _ hw hl
  have hx := hC.1
  have hb := hC.2.1
  have hl : lv_has ls 7 [(0, .ref a0), (1, .int a1), (2, .int a2), (3, .int a3), (4, .int a4)] := hl
  unfold f_X7_setEnd at hf
  refine lv_aload_n hx hb dX7_setEnd_0 rfl (lv_at hl 0 rfl) ?_
  refine lv_aload_n hx hb dX7_setEnd_1 rfl (lv_at hl 0 rfl) ?_
  refine lv_iload_n hx hb dX7_setEnd_2 rfl (lv_at hl 1 rfl) ?_
  refine lv_iload_n hx hb dX7_setEnd_3 rfl (lv_at hl 2 rfl) ?_
  obtain ⟨ho, hf⟩ := chk_inv hf
  obtain ⟨r2, σ1, hk, hf⟩ := bnd_inv hf
  refine z_callV (As := [.int a1, .int a2]) (rest := [.ref a0]) (m_X7_isState hC.2.2.2.2.2.2.2.2 hk) hC hw wd_X7_isState lkM_X7_105 (isO_sh ho) rfl rfl ⟨rfl, rfl⟩ ⟨(Nat.le_of_ble_eq_true rfl), (Nat.le_of_ble_eq_true rfl)⟩ hl.1 rfl (Nat.le_of_ble_eq_true rfl) dX7_setEnd_4 ⟨(Nat.le_of_ble_eq_true rfl), (Nat.le_of_ble_eq_true rfl)⟩ (fun H locs hw => ?_)
  refine lv_iload hx hb dX7_setEnd_7 (lv_at hl 4 rfl) ?_
  obtain ⟨r4, σ3, hk, hf⟩ := bnd_inv hf
  refine z_callS (As := [.int a4]) (rest := [.int r2, .ref a0]) (m_X7_isNumber hC.2.2.2.2.2.2.2.2 hk) hC hw wd_X7_isNumber lkM_X7_109 rfl ⟨rfl, rfl⟩ ⟨(Nat.le_of_ble_eq_true rfl), (Nat.le_of_ble_eq_true rfl)⟩ hl.1 rfl (Nat.le_of_ble_eq_true rfl) dX7_setEnd_9 ⟨(Nat.le_of_ble_eq_true rfl), (Nat.le_of_ble_eq_true rfl)⟩ (fun H locs hw => ?_)
  refine lv_iconst (v := 1) hx hb dX7_setEnd_12 (by decide) ?_
  obtain ⟨ho, hf⟩ := chk_inv hf
  obtain ⟨r6, σ5, hk, hf⟩ := bnd_inv hf
  refine z_callV (As := [.int r2, .int r4, .int 1]) (rest := []) (m_X7_goes hC.2.2.2.2.2.2.2.2 hk) hC hw wd_X7_goes lkM_X7_94 (isO_sh ho) rfl rfl ⟨rfl, rfl⟩ ⟨(Nat.le_of_ble_eq_true rfl), (Nat.le_of_ble_eq_true rfl)⟩ hl.1 rfl (Nat.le_of_ble_eq_true rfl) dX7_setEnd_13 ⟨(Nat.le_of_ble_eq_true rfl), (Nat.le_of_ble_eq_true rfl)⟩ (fun H locs hw => ?_)
  refine lv_if_ne (tgt := 21) hx hb dX7_setEnd_16 (by decide) (fun hc => ?_) (fun hc => ?_)
  · rw [if_neg hc] at hf
    refine lv_aload_n hx hb dX7_setEnd_21 rfl (lv_at hl 0 rfl) ?_
    obtain ⟨ho, hf⟩ := chk_inv hf
    obtain ⟨_, σ7, hk, hf⟩ := bnd_inv hf
    refine z_callV (As := []) (rest := []) (m_X7_save hC.2.2.2.2.2.2.2.2 hk) hC hw wd_X7_save lkM_X7_98 (isO_sh ho) rfl rfl ⟨rfl, rfl⟩ ⟨(Nat.le_of_ble_eq_true rfl), (Nat.le_of_ble_eq_true rfl)⟩ hl.1 rfl (Nat.le_of_ble_eq_true rfl) dX7_setEnd_22 ⟨(Nat.le_of_ble_eq_true rfl), (Nat.le_of_ble_eq_true rfl)⟩ (fun H locs hw => ?_)
    refine lv_iload_n hx hb dX7_setEnd_25 rfl (lv_at hl 3 rfl) ?_
    refine lv_if_eq (tgt := 37) hx hb dX7_setEnd_26 (by decide) (fun hc => ?_) (fun hc => ?_)
    · rw [if_pos hc] at hf
      refine lv_iload_n hx hb dX7_setEnd_37 rfl (lv_at hl 1 rfl) ?_
      refine lv_iload_n hx hb dX7_setEnd_38 rfl (lv_at hl 2 rfl) ?_
      obtain ⟨r9, σ8, hk, hf⟩ := bnd_inv hf
      refine z_callS (As := [.int a1, .int a2]) (rest := []) (m_X7_initialAt hC.2.2.2.2.2.2.2.2 hk) hC hw wd_X7_initialAt lkM_X7_82 rfl ⟨rfl, rfl⟩ ⟨(Nat.le_of_ble_eq_true rfl), (Nat.le_of_ble_eq_true rfl)⟩ hl.1 rfl (Nat.le_of_ble_eq_true rfl) dX7_setEnd_39 ⟨(Nat.le_of_ble_eq_true rfl), (Nat.le_of_ble_eq_true rfl)⟩ (fun H locs hw => ?_)
      exact t_X7_setEnd_L42 hC hr hf hw (lv_sub hl [0, 4] rfl)
    · rw [if_neg hc] at hf
      refine lv_iload_n hx hb dX7_setEnd_29 rfl (lv_at hl 1 rfl) ?_
      refine lv_iload_n hx hb dX7_setEnd_30 rfl (lv_at hl 2 rfl) ?_
      obtain ⟨r15, σ14, hk, hf⟩ := bnd_inv hf
      refine z_callS (As := [.int a1, .int a2]) (rest := []) (m_X7_finalAt hC.2.2.2.2.2.2.2.2 hk) hC hw wd_X7_finalAt lkM_X7_85 rfl ⟨rfl, rfl⟩ ⟨(Nat.le_of_ble_eq_true rfl), (Nat.le_of_ble_eq_true rfl)⟩ hl.1 rfl (Nat.le_of_ble_eq_true rfl) dX7_setEnd_31 ⟨(Nat.le_of_ble_eq_true rfl), (Nat.le_of_ble_eq_true rfl)⟩ (fun H locs hw => ?_)
      refine lv_goto (tgt := 42) hx hb dX7_setEnd_34 (by decide) ?_
      exact t_X7_setEnd_L42 hC hr hf hw (lv_sub hl [0, 4] rfl)
  · rw [if_pos hc] at hf
    refine lv_iconst (v := 0) hx hb dX7_setEnd_19 (by decide) ?_
    first | (obtain ⟨rfl, rfl⟩ := sp_inv hf) | (obtain rfl := Option.some.inj hf)
    exact W.iret hx hb hr (z_ret hw rfl) hw.2.2.2.2.2 dX7_setEnd_20 hC.2.2.2.2.2.1
set_option maxHeartbeats 4000000 in
set_option maxRecDepth 100000 in
theorem t_X7_isStep_L34 (hC : zC p l s m args meth c cX7_isStep 5 RX7 D cA B0) (hr : meth.sig.returnType = (Option.some FieldType.boolean)) {Γ : zSh} {s0 : Int32} {σ : zSt} {out : (Int32 × zSt)} (hf : f_X7_isStep_L34 Γ s0 σ = some out) {H : Heap} {locs : List Loc} {ls : Array Slot} (hw : zO D cA B0 Γ σ Z s.heap H locs) (hl : lv_has ls 5 []) :
    W p l e rm_X7_isStep s m args below meth c H locs 0 0 (MQ below (zQ1 D cA B0 (some (.int out.1)) Γ out.2 Z) args s 0 0 (FR B0)) (F0 m 34 ls [.int s0]) := by
  have hx := hC.1
  have hb := hC.2.1
  unfold f_X7_isStep_L34 at hf
  obtain ⟨hz, hf⟩ := chk_inv hf
  first | (obtain ⟨rfl, rfl⟩ := sp_inv hf) | (obtain rfl := Option.some.inj hf)
  exact W.zret hx hb hr (isB_n hz).1 (z_ret hw rfl) hw.2.2.2.2.2 dX7_isStep_34 hC.2.2.2.2.2.1
set_option maxHeartbeats 4000000 in
set_option maxRecDepth 100000 in
theorem t_X7_isStep_L33 (hC : zC p l s m args meth c cX7_isStep 5 RX7 D cA B0) (hr : meth.sig.returnType = (Option.some FieldType.boolean)) {Γ : zSh}  {σ : zSt} {out : (Int32 × zSt)} (hf : f_X7_isStep_L33 Γ  σ = some out) {H : Heap} {locs : List Loc} {ls : Array Slot} (hw : zO D cA B0 Γ σ Z s.heap H locs) (hl : lv_has ls 5 []) :
    W p l e rm_X7_isStep s m args below meth c H locs 0 0 (MQ below (zQ1 D cA B0 (some (.int out.1)) Γ out.2 Z) args s 0 0 (FR B0)) (F0 m 33 ls []) := by
  have hx := hC.1
  have hb := hC.2.1
  unfold f_X7_isStep_L33 at hf
  refine lv_iconst (v := 0) hx hb dX7_isStep_33 (by decide) ?_
  exact t_X7_isStep_L34 hC hr hf hw (lv_sub hl [] rfl)
set_option maxHeartbeats 4000000 in
set_option maxRecDepth 100000 in
theorem m_X7_isStep (h9 : l.stackTraces = false) {Γ : zSh} {a0 : Nat} {a1 : Int32} {a2 : Int32} {a3 : Int32} {a4 : Int32} {σ : zSt} {r : Int32} {σ2 : zSt} (hf : f_X7_isStep Γ a0 a1 a2 a3 a4 σ = some (r, σ2)) : Met l yX7_isStep (wq yX7_isStep cX7_isStep 5 (Option.some FieldType.boolean)) rm_X7_isStep (zQ0 D cA B0 [.ref a0, .int a1, .int a2, .int a3, .int a4] Γ σ Z) (zQ1 D cA B0 (some (.int r)) Γ σ2 Z) 0 0 (FR B0) := by
  refine z_ofW h9 (by decide) (Nat.le_of_ble_eq_true rfl) ?_
  intro p e s m args below meth c ls hC hr _ hw hl
  have hx := hC.1
  have hb := hC.2.1
  have hl : lv_has ls 5 [(0, .ref a0), (1, .int a1), (2, .int a2), (3, .int a3), (4, .int a4)] := hl
  unfold f_X7_isStep at hf
  refine lv_aload_n hx hb dX7_isStep_0 rfl (lv_at hl 0 rfl) ?_
  refine lv_iload_n hx hb dX7_isStep_1 rfl (lv_at hl 1 rfl) ?_
  refine lv_iload_n hx hb dX7_isStep_2 rfl (lv_at hl 3 rfl) ?_
  obtain ⟨ho, hf⟩ := chk_inv hf
  obtain ⟨r2, σ1, hk, hf⟩ := bnd_inv hf
  refine z_callV (As := [.int a1, .int a3]) (rest := []) (m_X7_isState hC.2.2.2.2.2.2.2.2 hk) hC hw wd_X7_isState lkM_X7_105 (isO_sh ho) rfl rfl ⟨rfl, rfl⟩ ⟨(Nat.le_of_ble_eq_true rfl), (Nat.le_of_ble_eq_true rfl)⟩ hl.1 rfl (Nat.le_of_ble_eq_true rfl) dX7_isStep_3 ⟨(Nat.le_of_ble_eq_true rfl), (Nat.le_of_ble_eq_true rfl)⟩ (fun H locs hw => ?_)
  refine lv_if_eq (tgt := 33) hx hb dX7_isStep_6 (by decide) (fun hc => ?_) (fun hc => ?_)
  · rw [if_pos hc] at hf
    exact t_X7_isStep_L33 hC hr hf hw (lv_sub hl [] rfl)
  · rw [if_neg hc] at hf
    refine lv_aload_n hx hb dX7_isStep_9 rfl (lv_at hl 0 rfl) ?_
    refine lv_iload_n hx hb dX7_isStep_10 rfl (lv_at hl 1 rfl) ?_
    refine lv_iload hx hb dX7_isStep_11 (lv_at hl 4 rfl) ?_
    obtain ⟨ho, hf⟩ := chk_inv hf
    obtain ⟨r4, σ3, hk, hf⟩ := bnd_inv hf
    refine z_callV (As := [.int a1, .int a4]) (rest := []) (m_X7_isState hC.2.2.2.2.2.2.2.2 hk) hC hw wd_X7_isState lkM_X7_105 (isO_sh ho) rfl rfl ⟨rfl, rfl⟩ ⟨(Nat.le_of_ble_eq_true rfl), (Nat.le_of_ble_eq_true rfl)⟩ hl.1 rfl (Nat.le_of_ble_eq_true rfl) dX7_isStep_13 ⟨(Nat.le_of_ble_eq_true rfl), (Nat.le_of_ble_eq_true rfl)⟩ (fun H locs hw => ?_)
    refine lv_if_eq (tgt := 33) hx hb dX7_isStep_16 (by decide) (fun hc => ?_) (fun hc => ?_)
    · rw [if_pos hc] at hf
      exact t_X7_isStep_L33 hC hr hf hw (lv_sub hl [] rfl)
    · rw [if_neg hc] at hf
      refine lv_iload_n hx hb dX7_isStep_19 rfl (lv_at hl 2 rfl) ?_
      refine lv_i2l hx hb dX7_isStep_20 rfl ?_
      refine lv_lconst (v := 0) hx hb dX7_isStep_21 (by decide) ?_
      refine lv_lconst (v := 1) hx hb dX7_isStep_22 (by decide) ?_
      obtain ⟨r6, σ5, hk, hf⟩ := bnd_inv hf
      refine z_callS (As := [.long (a2.toInt64), .long 0, .long 1]) (rest := []) (m_X7_in hC.2.2.2.2.2.2.2.2 hk) hC hw wd_X7_in lkM_X7_68 rfl ⟨rfl, rfl⟩ ⟨(Nat.le_of_ble_eq_true rfl), (Nat.le_of_ble_eq_true rfl)⟩ hl.1 rfl (Nat.le_of_ble_eq_true rfl) dX7_isStep_23 ⟨(Nat.le_of_ble_eq_true rfl), (Nat.le_of_ble_eq_true rfl)⟩ (fun H locs hw => ?_)
      refine lv_if_eq (tgt := 33) hx hb dX7_isStep_26 (by decide) (fun hc => ?_) (fun hc => ?_)
      · rw [if_pos hc] at hf
        exact t_X7_isStep_L33 hC hr hf hw (lv_sub hl [] rfl)
      · rw [if_neg hc] at hf
        refine lv_iconst (v := 1) hx hb dX7_isStep_29 (by decide) ?_
        refine lv_goto (tgt := 34) hx hb dX7_isStep_30 (by decide) ?_
        exact t_X7_isStep_L34 hC hr hf hw (lv_sub hl [] rfl)
set_option maxHeartbeats 4000000 in
set_option maxRecDepth 100000 in
theorem m_X7_setStep (h9 : l.stackTraces = false) {Γ : zSh} {a0 : Nat} {a1 : Int32} {a2 : Int32} {a3 : Int32} {a4 : Int32} {a5 : Int32} {σ : zSt} {r : Int32} {σ2 : zSt} (hf : f_X7_setStep Γ a0 a1 a2 a3 a4 a5 σ = some (r, σ2)) : Met l yX7_setStep (wq yX7_setStep cX7_setStep 7 (Option.some FieldType.int)) rm_X7_setStep (zQ0 D cA B0 [.ref a0, .int a1, .int a2, .int a3, .int a4, .int a5] Γ σ Z) (zQ1 D cA B0 (some (.int r)) Γ σ2 Z) 0 0 (FR B0) := by
  refine z_ofW h9 (by decide) (Nat.le_of_ble_eq_true rfl) ?_
  intro p e s m args below meth c ls hC hr _ hw hl
  have hx := hC.1
  have hb := hC.2.1
  have hl : lv_has ls 7 [(0, .ref a0), (1, .int a1), (2, .int a2), (3, .int a3), (4, .int a4), (5, .int a5)] := hl
  unfold f_X7_setStep at hf
  refine lv_aload_n hx hb dX7_setStep_0 rfl (lv_at hl 0 rfl) ?_
  refine lv_aload_n hx hb dX7_setStep_1 rfl (lv_at hl 0 rfl) ?_
  refine lv_iload_n hx hb dX7_setStep_2 rfl (lv_at hl 1 rfl) ?_
  refine lv_iload_n hx hb dX7_setStep_3 rfl (lv_at hl 2 rfl) ?_
  refine lv_iload_n hx hb dX7_setStep_4 rfl (lv_at hl 3 rfl) ?_
  refine lv_iload hx hb dX7_setStep_5 (lv_at hl 4 rfl) ?_
  obtain ⟨ho, hf⟩ := chk_inv hf
  obtain ⟨r2, σ1, hk, hf⟩ := bnd_inv hf
  refine z_callV (As := [.int a1, .int a2, .int a3, .int a4]) (rest := [.ref a0]) (m_X7_isStep hC.2.2.2.2.2.2.2.2 hk) hC hw wd_X7_isStep lkM_X7_112 (isO_sh ho) rfl rfl ⟨rfl, rfl⟩ ⟨(Nat.le_of_ble_eq_true rfl), (Nat.le_of_ble_eq_true rfl)⟩ hl.1 rfl (Nat.le_of_ble_eq_true rfl) dX7_setStep_7 ⟨(Nat.le_of_ble_eq_true rfl), (Nat.le_of_ble_eq_true rfl)⟩ (fun H locs hw => ?_)
  refine lv_iload hx hb dX7_setStep_10 (lv_at hl 5 rfl) ?_
  obtain ⟨r4, σ3, hk, hf⟩ := bnd_inv hf
  refine z_callS (As := [.int a5]) (rest := [.int r2, .ref a0]) (m_X7_isNumber hC.2.2.2.2.2.2.2.2 hk) hC hw wd_X7_isNumber lkM_X7_109 rfl ⟨rfl, rfl⟩ ⟨(Nat.le_of_ble_eq_true rfl), (Nat.le_of_ble_eq_true rfl)⟩ hl.1 rfl (Nat.le_of_ble_eq_true rfl) dX7_setStep_12 ⟨(Nat.le_of_ble_eq_true rfl), (Nat.le_of_ble_eq_true rfl)⟩ (fun H locs hw => ?_)
  refine lv_iconst (v := 1) hx hb dX7_setStep_15 (by decide) ?_
  obtain ⟨ho, hf⟩ := chk_inv hf
  obtain ⟨r6, σ5, hk, hf⟩ := bnd_inv hf
  refine z_callV (As := [.int r2, .int r4, .int 1]) (rest := []) (m_X7_goes hC.2.2.2.2.2.2.2.2 hk) hC hw wd_X7_goes lkM_X7_94 (isO_sh ho) rfl rfl ⟨rfl, rfl⟩ ⟨(Nat.le_of_ble_eq_true rfl), (Nat.le_of_ble_eq_true rfl)⟩ hl.1 rfl (Nat.le_of_ble_eq_true rfl) dX7_setStep_16 ⟨(Nat.le_of_ble_eq_true rfl), (Nat.le_of_ble_eq_true rfl)⟩ (fun H locs hw => ?_)
  refine lv_if_ne (tgt := 24) hx hb dX7_setStep_19 (by decide) (fun hc => ?_) (fun hc => ?_)
  · rw [if_neg hc] at hf
    refine lv_aload_n hx hb dX7_setStep_24 rfl (lv_at hl 0 rfl) ?_
    obtain ⟨ho, hf⟩ := chk_inv hf
    obtain ⟨_, σ7, hk, hf⟩ := bnd_inv hf
    refine z_callV (As := []) (rest := []) (m_X7_save hC.2.2.2.2.2.2.2.2 hk) hC hw wd_X7_save lkM_X7_98 (isO_sh ho) rfl rfl ⟨rfl, rfl⟩ ⟨(Nat.le_of_ble_eq_true rfl), (Nat.le_of_ble_eq_true rfl)⟩ hl.1 rfl (Nat.le_of_ble_eq_true rfl) dX7_setStep_25 ⟨(Nat.le_of_ble_eq_true rfl), (Nat.le_of_ble_eq_true rfl)⟩ (fun H locs hw => ?_)
    refine lv_aload_n hx hb dX7_setStep_28 rfl (lv_at hl 0 rfl) ?_
    obtain ⟨v8, hg, hf⟩ := gfR_inv hf
    refine r_gfR hC hw hg clX7 (Nat.le_of_ble_eq_true rfl) lkF_X7_7 rfl dX7_setStep_29 ?_
    refine lv_iload_n hx hb dX7_setStep_32 rfl (lv_at hl 1 rfl) ?_
    refine lv_iload_n hx hb dX7_setStep_33 rfl (lv_at hl 2 rfl) ?_
    refine lv_iload_n hx hb dX7_setStep_34 rfl (lv_at hl 3 rfl) ?_
    refine lv_iload hx hb dX7_setStep_35 (lv_at hl 4 rfl) ?_
    obtain ⟨r10, σ9, hk, hf⟩ := bnd_inv hf
    refine z_callS (As := [.int a1, .int a2, .int a3, .int a4]) (rest := [.ref v8]) (m_X7_at hC.2.2.2.2.2.2.2.2 hk) hC hw wd_X7_at lkM_X7_116 rfl ⟨rfl, rfl⟩ ⟨(Nat.le_of_ble_eq_true rfl), (Nat.le_of_ble_eq_true rfl)⟩ hl.1 rfl (Nat.le_of_ble_eq_true rfl) dX7_setStep_37 ⟨(Nat.le_of_ble_eq_true rfl), (Nat.le_of_ble_eq_true rfl)⟩ (fun H locs hw => ?_)
    obtain ⟨v11, hg, hf⟩ := ldI_inv hf
    refine r_ldI hC hw hg dX7_setStep_40 ?_
    refine lv_istore (lv' := [(6, .int v11), (0, .ref a0), (1, .int a1), (2, .int a2), (3, .int a3), (4, .int a4), (5, .int a5)]) hx hb dX7_setStep_41 hl (Nat.le_of_ble_eq_true rfl) rfl (fun ls hl => ?_)
    refine lv_aload_n hx hb dX7_setStep_43 rfl (lv_at hl 1 rfl) ?_
    obtain ⟨v12, hg, hf⟩ := gfR_inv hf
    refine r_gfR hC hw hg clX7 (Nat.le_of_ble_eq_true rfl) lkF_X7_7 rfl dX7_setStep_44 ?_
    refine lv_iload_n hx hb dX7_setStep_47 rfl (lv_at hl 2 rfl) ?_
    refine lv_iload_n hx hb dX7_setStep_48 rfl (lv_at hl 3 rfl) ?_
    refine lv_iload_n hx hb dX7_setStep_49 rfl (lv_at hl 4 rfl) ?_
    refine lv_iload hx hb dX7_setStep_50 (lv_at hl 5 rfl) ?_
    obtain ⟨r14, σ13, hk, hf⟩ := bnd_inv hf
    refine z_callS (As := [.int a1, .int a2, .int a3, .int a4]) (rest := [.ref v12]) (m_X7_at hC.2.2.2.2.2.2.2.2 hk) hC hw wd_X7_at lkM_X7_116 rfl ⟨rfl, rfl⟩ ⟨(Nat.le_of_ble_eq_true rfl), (Nat.le_of_ble_eq_true rfl)⟩ hl.1 rfl (Nat.le_of_ble_eq_true rfl) dX7_setStep_52 ⟨(Nat.le_of_ble_eq_true rfl), (Nat.le_of_ble_eq_true rfl)⟩ (fun H locs hw => ?_)
    refine lv_iload hx hb dX7_setStep_55 (lv_at hl 6 rfl) ?_
    obtain ⟨σ15, hg, hf⟩ := stI_inv hf
    refine r_stI hC hw hg dX7_setStep_57 (fun H locs hw => ?_)
    refine lv_iload hx hb dX7_setStep_58 (lv_at hl 0 rfl) ?_
    first | (obtain ⟨rfl, rfl⟩ := sp_inv hf) | (obtain rfl := Option.some.inj hf)
    exact W.iret hx hb hr (z_ret hw rfl) hw.2.2.2.2.2 dX7_setStep_60 hC.2.2.2.2.2.1
  · rw [if_pos hc] at hf
    refine lv_iconst (v := 0) hx hb dX7_setStep_22 (by decide) ?_
    first | (obtain ⟨rfl, rfl⟩ := sp_inv hf) | (obtain rfl := Option.some.inj hf)
    exact W.iret hx hb hr (z_ret hw rfl) hw.2.2.2.2.2 dX7_setStep_23 hC.2.2.2.2.2.1
set_option maxHeartbeats 4000000 in
set_option maxRecDepth 100000 in
theorem m_X7_draws (h9 : l.stackTraces = false) {Γ : zSh} {a0 : Nat} {σ : zSt} {r : Int32} {σ2 : zSt} (hf : f_X7_draws Γ a0 σ = some (r, σ2)) : Met l yX7_draws (wq yX7_draws cX7_draws 1 (Option.some FieldType.int)) rm_X7_draws (zQ0 D cA B0 [.ref a0] Γ σ Z) (zQ1 D cA B0 (some (.int r)) Γ σ2 Z) 0 0 (FR B0) := by
  refine z_ofW h9 (by decide) (Nat.le_of_ble_eq_true rfl) ?_
  intro p e s m args below meth c ls hC hr _ hw hl
  have hx := hC.1
  have hb := hC.2.1
  have hl : lv_has ls 1 [(0, .ref a0)] := hl
  unfold f_X7_draws at hf
  refine lv_aload_n hx hb dX7_draws_0 rfl (lv_at hl 0 rfl) ?_
  refine lv_ldc2 (v := 1103515245) hx hb hC.2.2.2.1 (hC.2.2.2.2.1 _ lkJ_X7_120) dX7_draws_1 ?_
  refine lv_aload_n hx hb dX7_draws_4 rfl (lv_at hl 0 rfl) ?_
  obtain ⟨v1, hg, hf⟩ := gfL_inv hf
  refine r_gfL hC hw hg clX7 (Nat.le_of_ble_eq_true rfl) lkF_X7_122 rfl dX7_draws_5 ?_
  refine lv_lmul hx hb dX7_draws_8 ?_
  refine lv_ldc2 (v := 12345) hx hb hC.2.2.2.1 (hC.2.2.2.2.1 _ lkJ_X7_126) dX7_draws_9 ?_
  refine lv_ladd hx hb dX7_draws_12 ?_
  refine lv_ldc2 (v := 2147483648) hx hb hC.2.2.2.1 (hC.2.2.2.2.1 _ lkJ_X7_128) dX7_draws_13 ?_
  obtain ⟨v2, hg, hf⟩ := rmL_inv hf
  refine r_rmL hC hg dX7_draws_16 ?_
  obtain ⟨σ3, hg, hf⟩ := pfL_inv hf
  refine r_pfL hC hw hg clX7 (Nat.le_of_ble_eq_true rfl) lkF_X7_122 rfl rfl rfl dX7_draws_17 (fun H locs hw => ?_)
  refine lv_aload_n hx hb dX7_draws_20 rfl (lv_at hl 0 rfl) ?_
  obtain ⟨v4, hg, hf⟩ := gfL_inv hf
  refine r_gfL hC hw hg clX7 (Nat.le_of_ble_eq_true rfl) lkF_X7_122 rfl dX7_draws_21 ?_
  refine lv_ldc2 (v := 65536) hx hb hC.2.2.2.1 (hC.2.2.2.2.1 _ lkJ_X7_130) dX7_draws_24 ?_
  obtain ⟨v5, hg, hf⟩ := dvL_inv hf
  refine r_dvL hC hg dX7_draws_27 ?_
  refine lv_ldc2 (v := 4) hx hb hC.2.2.2.1 (hC.2.2.2.2.1 _ lkJ_X7_132) dX7_draws_28 ?_
  obtain ⟨v6, hg, hf⟩ := rmL_inv hf
  refine r_rmL hC hg dX7_draws_31 ?_
  refine lv_l2i hx hb dX7_draws_32 rfl ?_
  first | (obtain ⟨rfl, rfl⟩ := sp_inv hf) | (obtain rfl := Option.some.inj hf)
  exact W.iret hx hb hr (z_ret hw rfl) hw.2.2.2.2.2 dX7_draws_33 hC.2.2.2.2.2.1
set_option maxHeartbeats 4000000 in
set_option maxRecDepth 100000 in
theorem t_X7_random_B62 (hC : zC p l s m args meth c cX7_random 7 RX7 D cA B0) (hr : meth.sig.returnType = (Option.some FieldType.int)) {Γ : zSh} {x0 : Nat} {x1 : Int32} {x2 : Int32} {x4 : Int32} {σ : zSt} {out : ((Int32 × zSt) ⊕ (zSt))} (hf : f_X7_random_B62 Γ x0 x1 x2 x4 σ = some out) {H : Heap} {locs : List Loc} {ls : Array Slot} (hw : zO D cA B0 Γ σ Z s.heap H locs) (hl : lv_has ls 7 [(0, .ref x0), (1, .int x1), (2, .int x2), (4, .int x4)])
    (kI : ∀ (z4 : Int32) (σ2 : zSt), out = .inl (z4, σ2) → ∀ (H : Heap) (locs : List Loc) (ls : Array Slot), zO D cA B0 Γ σ2 Z s.heap H locs → lv_has ls 7 [(0, .ref x0), (1, .int x1), (2, .int x2), (4, .int z4)] → W p l e rm_X7_random s m args below meth c H locs 0 0 Q (F0 m 62 ls []))
    (kE : ∀ (σ2 : zSt), out = .inr σ2 → ∀ (H : Heap) (locs : List Loc) (ls : Array Slot), zO D cA B0 Γ σ2 Z s.heap H locs → lv_has ls 7 [(0, .ref x0), (1, .int x1), (2, .int x2)] → W p l e rm_X7_random s m args below meth c H locs 0 0 Q (F0 m 104 ls [])) :
    W p l e rm_X7_random s m args below meth c H locs 0 0 Q (F0 m 62 ls []) := by
  have hx := hC.1
  have hb := hC.2.1
  unfold f_X7_random_B62 at hf
  refine lv_iload hx hb dX7_random_62 (lv_at hl 3 rfl) ?_
  refine lv_iload_n hx hb dX7_random_64 rfl (lv_at hl 2 rfl) ?_
  refine lv_icmp_ge (tgt := 104) hx hb dX7_random_65 (by decide) (fun hc => ?_) (fun hc => ?_)
  · rw [if_pos hc] at hf
    exact kE  σ (Option.some.inj hf).symm _ _ _ hw (lv_sub hl [0, 1, 2] rfl)
  · rw [if_neg hc] at hf
    refine lv_aload_n hx hb dX7_random_68 rfl (lv_at hl 0 rfl) ?_
    obtain ⟨v10, hg, hf⟩ := gfR_inv hf
    refine r_gfR hC hw hg clX7 (Nat.le_of_ble_eq_true rfl) lkF_X7_7 rfl dX7_random_69 ?_
    refine lv_iload_n hx hb dX7_random_72 rfl (lv_at hl 1 rfl) ?_
    refine lv_iload hx hb dX7_random_73 (lv_at hl 3 rfl) ?_
    obtain ⟨r12, σ11, hk, hf⟩ := bnd_inv hf
    refine z_callS (As := [.int x1, .int x4]) (rest := [.ref v10]) (m_X7_initialAt hC.2.2.2.2.2.2.2.2 hk) hC hw wd_X7_initialAt lkM_X7_82 rfl ⟨rfl, rfl⟩ ⟨(Nat.le_of_ble_eq_true rfl), (Nat.le_of_ble_eq_true rfl)⟩ hl.1 rfl (Nat.le_of_ble_eq_true rfl) dX7_random_75 ⟨(Nat.le_of_ble_eq_true rfl), (Nat.le_of_ble_eq_true rfl)⟩ (fun H locs hw => ?_)
    refine lv_aload_n hx hb dX7_random_78 rfl (lv_at hl 0 rfl) ?_
    obtain ⟨ho, hf⟩ := chk_inv hf
    obtain ⟨r14, σ13, hk, hf⟩ := bnd_inv hf
    refine z_callV (As := []) (rest := [.int r12, .ref v10]) (m_X7_draws hC.2.2.2.2.2.2.2.2 hk) hC hw wd_X7_draws lkM_X7_136 (isO_sh ho) rfl rfl ⟨rfl, rfl⟩ ⟨(Nat.le_of_ble_eq_true rfl), (Nat.le_of_ble_eq_true rfl)⟩ hl.1 rfl (Nat.le_of_ble_eq_true rfl) dX7_random_79 ⟨(Nat.le_of_ble_eq_true rfl), (Nat.le_of_ble_eq_true rfl)⟩ (fun H locs hw => ?_)
    obtain ⟨σ15, hg, hf⟩ := stI_inv hf
    refine r_stI hC hw hg dX7_random_82 (fun H locs hw => ?_)
    refine lv_aload_n hx hb dX7_random_83 rfl (lv_at hl 0 rfl) ?_
    obtain ⟨v16, hg, hf⟩ := gfR_inv hf
    refine r_gfR hC hw hg clX7 (Nat.le_of_ble_eq_true rfl) lkF_X7_7 rfl dX7_random_84 ?_
    refine lv_iload_n hx hb dX7_random_87 rfl (lv_at hl 1 rfl) ?_
    refine lv_iload hx hb dX7_random_88 (lv_at hl 3 rfl) ?_
    obtain ⟨r18, σ17, hk, hf⟩ := bnd_inv hf
    refine z_callS (As := [.int x1, .int x4]) (rest := [.ref v16]) (m_X7_finalAt hC.2.2.2.2.2.2.2.2 hk) hC hw wd_X7_finalAt lkM_X7_85 rfl ⟨rfl, rfl⟩ ⟨(Nat.le_of_ble_eq_true rfl), (Nat.le_of_ble_eq_true rfl)⟩ hl.1 rfl (Nat.le_of_ble_eq_true rfl) dX7_random_90 ⟨(Nat.le_of_ble_eq_true rfl), (Nat.le_of_ble_eq_true rfl)⟩ (fun H locs hw => ?_)
    refine lv_aload_n hx hb dX7_random_93 rfl (lv_at hl 0 rfl) ?_
    obtain ⟨ho, hf⟩ := chk_inv hf
    obtain ⟨r20, σ19, hk, hf⟩ := bnd_inv hf
    refine z_callV (As := []) (rest := [.int r18, .ref v16]) (m_X7_draws hC.2.2.2.2.2.2.2.2 hk) hC hw wd_X7_draws lkM_X7_136 (isO_sh ho) rfl rfl ⟨rfl, rfl⟩ ⟨(Nat.le_of_ble_eq_true rfl), (Nat.le_of_ble_eq_true rfl)⟩ hl.1 rfl (Nat.le_of_ble_eq_true rfl) dX7_random_94 ⟨(Nat.le_of_ble_eq_true rfl), (Nat.le_of_ble_eq_true rfl)⟩ (fun H locs hw => ?_)
    obtain ⟨σ21, hg, hf⟩ := stI_inv hf
    refine r_stI hC hw hg dX7_random_97 (fun H locs hw => ?_)
    refine lv_iinc (v := (x4 + 1)) (lv' := [(4, .int (x4 + 1)), (0, .ref x0), (1, .int x1), (2, .int x2)]) hx hb dX7_random_98 hl (k := 3) rfl rfl (Nat.le_of_ble_eq_true rfl) rfl (fun ls hl => ?_)
    refine lv_goto (tgt := 62) hx hb dX7_random_101 (by decide) ?_
    exact kI (x4 + 1) σ21 (Option.some.inj hf).symm _ _ _ hw (lv_sub hl [1, 2, 3, 0] rfl)
set_option maxHeartbeats 4000000 in
theorem l_X7_random_B62 (hC : zC p l s m args meth c cX7_random 7 RX7 D cA B0) (hr : meth.sig.returnType = (Option.some FieldType.int)) {Γ : zSh} {x0 : Nat} {x1 : Int32} {x2 : Int32} {σ2 : zSt} (kE : ∀ (H : Heap) (locs : List Loc) (ls : Array Slot), zO D cA B0 Γ σ2 Z s.heap H locs → lv_has ls 7 [(0, .ref x0), (1, .int x1), (2, .int x2)] → W p l e rm_X7_random s m args below meth c H locs 0 0 Q (F0 m 104 ls [])) :
    ∀ (n : Nat) (x4 : Int32) (σ : zSt), loopM (fun q => f_X7_random_B62 Γ x0 x1 x2 q.1 q.2) n (x4, σ) = some σ2 → ∀ (H : Heap) (locs : List Loc) (ls : Array Slot), zO D cA B0 Γ σ Z s.heap H locs → lv_has ls 7 [(0, .ref x0), (1, .int x1), (2, .int x2), (4, .int x4)] → W p l e rm_X7_random s m args below meth c H locs 0 0 Q (F0 m 62 ls []) := by
  intro n
  induction n with
  | zero => intro x4 σ h; exact absurd h (by simp [loopM])
  | succ n ih =>
    intro x4 σ h H locs ls hw hl
    obtain ⟨r, h1, h2, h3⟩ := loopM_inv h
    exact t_X7_random_B62 hC hr h1 hw hl (fun z4 s2 e H locs ls hw hl => ih z4 s2 (h2 _ e) H locs ls hw hl) (fun s2 e H locs ls hw hl => by cases h3 _ e; exact kE H locs ls hw hl)
set_option maxHeartbeats 4000000 in
set_option maxRecDepth 100000 in
theorem t_X7_random_B107 (hC : zC p l s m args meth c cX7_random 7 RX7 D cA B0) (hr : meth.sig.returnType = (Option.some FieldType.int)) {Γ : zSh} {x0 : Nat} {x1 : Int32} {x2 : Int32} {x4 : Int32} {σ : zSt} {out : ((Int32 × zSt) ⊕ (zSt))} (hf : f_X7_random_B107 Γ x0 x1 x2 x4 σ = some out) {H : Heap} {locs : List Loc} {ls : Array Slot} (hw : zO D cA B0 Γ σ Z s.heap H locs) (hl : lv_has ls 7 [(0, .ref x0), (1, .int x1), (2, .int x2), (4, .int x4)])
    (kI : ∀ (z4 : Int32) (σ2 : zSt), out = .inl (z4, σ2) → ∀ (H : Heap) (locs : List Loc) (ls : Array Slot), zO D cA B0 Γ σ2 Z s.heap H locs → lv_has ls 7 [(0, .ref x0), (1, .int x1), (2, .int x2), (4, .int z4)] → W p l e rm_X7_random s m args below meth c H locs 0 0 Q (F0 m 107 ls []))
    (kE : ∀ (σ2 : zSt), out = .inr σ2 → ∀ (H : Heap) (locs : List Loc) (ls : Array Slot), zO D cA B0 Γ σ2 Z s.heap H locs → lv_has ls 7 [(0, .ref x0), (1, .int x1)] → W p l e rm_X7_random s m args below meth c H locs 0 0 Q (F0 m 162 ls [])) :
    W p l e rm_X7_random s m args below meth c H locs 0 0 Q (F0 m 107 ls []) := by
  have hx := hC.1
  have hb := hC.2.1
  unfold f_X7_random_B107 at hf
  refine lv_iload hx hb dX7_random_107 (lv_at hl 3 rfl) ?_
  refine lv_iconst (v := 2) hx hb dX7_random_109 (by decide) ?_
  refine lv_iload_n hx hb dX7_random_110 rfl (lv_at hl 2 rfl) ?_
  refine lv_imul hx hb dX7_random_111 ?_
  refine lv_iload_n hx hb dX7_random_112 rfl (lv_at hl 2 rfl) ?_
  refine lv_imul hx hb dX7_random_113 ?_
  refine lv_icmp_ge (tgt := 162) hx hb dX7_random_114 (by decide) (fun hc => ?_) (fun hc => ?_)
  · rw [if_pos hc] at hf
    exact kE  σ (Option.some.inj hf).symm _ _ _ hw (lv_sub hl [0, 1] rfl)
  · rw [if_neg hc] at hf
    refine lv_iload hx hb dX7_random_117 (lv_at hl 3 rfl) ?_
    refine lv_iload_n hx hb dX7_random_119 rfl (lv_at hl 2 rfl) ?_
    refine lv_iload_n hx hb dX7_random_120 rfl (lv_at hl 2 rfl) ?_
    refine lv_imul hx hb dX7_random_121 ?_
    obtain ⟨v23, hg, hf⟩ := dvI_inv hf
    refine r_dvI hC hg dX7_random_122 ?_
    refine lv_istore (lv' := [(5, .int v23), (0, .ref x0), (1, .int x1), (2, .int x2), (4, .int x4)]) hx hb dX7_random_123 hl (Nat.le_of_ble_eq_true rfl) rfl (fun ls hl => ?_)
    refine lv_iload hx hb dX7_random_125 (lv_at hl 4 rfl) ?_
    refine lv_iload_n hx hb dX7_random_127 rfl (lv_at hl 3 rfl) ?_
    refine lv_iload_n hx hb dX7_random_128 rfl (lv_at hl 3 rfl) ?_
    refine lv_imul hx hb dX7_random_129 ?_
    obtain ⟨v24, hg, hf⟩ := rmI_inv hf
    refine r_rmI hC hg dX7_random_130 ?_
    refine lv_istore (lv' := [(6, .int v24), (5, .int v23), (0, .ref x0), (1, .int x1), (2, .int x2), (4, .int x4)]) hx hb dX7_random_131 hl (Nat.le_of_ble_eq_true rfl) rfl (fun ls hl => ?_)
    refine lv_aload_n hx hb dX7_random_133 rfl (lv_at hl 2 rfl) ?_
    obtain ⟨v25, hg, hf⟩ := gfR_inv hf
    refine r_gfR hC hw hg clX7 (Nat.le_of_ble_eq_true rfl) lkF_X7_7 rfl dX7_random_134 ?_
    refine lv_iload_n hx hb dX7_random_137 rfl (lv_at hl 3 rfl) ?_
    refine lv_iload hx hb dX7_random_138 (lv_at hl 1 rfl) ?_
    refine lv_iload hx hb dX7_random_140 (lv_at hl 0 rfl) ?_
    refine lv_iload_n hx hb dX7_random_142 rfl (lv_at hl 4 rfl) ?_
    obtain ⟨v26, hg, hf⟩ := dvI_inv hf
    refine r_dvI hC hg dX7_random_143 ?_
    refine lv_iload hx hb dX7_random_144 (lv_at hl 0 rfl) ?_
    refine lv_iload_n hx hb dX7_random_146 rfl (lv_at hl 4 rfl) ?_
    obtain ⟨v27, hg, hf⟩ := rmI_inv hf
    refine r_rmI hC hg dX7_random_147 ?_
    obtain ⟨r29, σ28, hk, hf⟩ := bnd_inv hf
    refine z_callS (As := [.int x1, .int v23, .int v26, .int v27]) (rest := [.ref v25]) (m_X7_at hC.2.2.2.2.2.2.2.2 hk) hC hw wd_X7_at lkM_X7_116 rfl ⟨rfl, rfl⟩ ⟨(Nat.le_of_ble_eq_true rfl), (Nat.le_of_ble_eq_true rfl)⟩ hl.1 rfl (Nat.le_of_ble_eq_true rfl) dX7_random_148 ⟨(Nat.le_of_ble_eq_true rfl), (Nat.le_of_ble_eq_true rfl)⟩ (fun H locs hw => ?_)
    refine lv_aload_n hx hb dX7_random_151 rfl (lv_at hl 2 rfl) ?_
    obtain ⟨ho, hf⟩ := chk_inv hf
    obtain ⟨r31, σ30, hk, hf⟩ := bnd_inv hf
    refine z_callV (As := []) (rest := [.int r29, .ref v25]) (m_X7_draws hC.2.2.2.2.2.2.2.2 hk) hC hw wd_X7_draws lkM_X7_136 (isO_sh ho) rfl rfl ⟨rfl, rfl⟩ ⟨(Nat.le_of_ble_eq_true rfl), (Nat.le_of_ble_eq_true rfl)⟩ hl.1 rfl (Nat.le_of_ble_eq_true rfl) dX7_random_152 ⟨(Nat.le_of_ble_eq_true rfl), (Nat.le_of_ble_eq_true rfl)⟩ (fun H locs hw => ?_)
    obtain ⟨σ32, hg, hf⟩ := stI_inv hf
    refine r_stI hC hw hg dX7_random_155 (fun H locs hw => ?_)
    refine lv_iinc (v := (x4 + 1)) (lv' := [(4, .int (x4 + 1)), (6, .int v24), (5, .int v23), (0, .ref x0), (1, .int x1), (2, .int x2)]) hx hb dX7_random_156 hl (k := 5) rfl rfl (Nat.le_of_ble_eq_true rfl) rfl (fun ls hl => ?_)
    refine lv_goto (tgt := 107) hx hb dX7_random_159 (by decide) ?_
    exact kI (x4 + 1) σ32 (Option.some.inj hf).symm _ _ _ hw (lv_sub hl [3, 4, 5, 0] rfl)
set_option maxHeartbeats 4000000 in
theorem l_X7_random_B107 (hC : zC p l s m args meth c cX7_random 7 RX7 D cA B0) (hr : meth.sig.returnType = (Option.some FieldType.int)) {Γ : zSh} {x0 : Nat} {x1 : Int32} {x2 : Int32} {σ2 : zSt} (kE : ∀ (H : Heap) (locs : List Loc) (ls : Array Slot), zO D cA B0 Γ σ2 Z s.heap H locs → lv_has ls 7 [(0, .ref x0), (1, .int x1)] → W p l e rm_X7_random s m args below meth c H locs 0 0 Q (F0 m 162 ls [])) :
    ∀ (n : Nat) (x4 : Int32) (σ : zSt), loopM (fun q => f_X7_random_B107 Γ x0 x1 x2 q.1 q.2) n (x4, σ) = some σ2 → ∀ (H : Heap) (locs : List Loc) (ls : Array Slot), zO D cA B0 Γ σ Z s.heap H locs → lv_has ls 7 [(0, .ref x0), (1, .int x1), (2, .int x2), (4, .int x4)] → W p l e rm_X7_random s m args below meth c H locs 0 0 Q (F0 m 107 ls []) := by
  intro n
  induction n with
  | zero => intro x4 σ h; exact absurd h (by simp [loopM])
  | succ n ih =>
    intro x4 σ h H locs ls hw hl
    obtain ⟨r, h1, h2, h3⟩ := loopM_inv h
    exact t_X7_random_B107 hC hr h1 hw hl (fun z4 s2 e H locs ls hw hl => ih z4 s2 (h2 _ e) H locs ls hw hl) (fun s2 e H locs ls hw hl => by cases h3 _ e; exact kE H locs ls hw hl)
set_option maxHeartbeats 4000000 in
set_option maxRecDepth 100000 in
theorem t_X7_random_L34 (hC : zC p l s m args meth c cX7_random 7 RX7 D cA B0) (hr : meth.sig.returnType = (Option.some FieldType.int)) {Γ : zSh} {x0 : Nat} {x1 : Int32} {x2 : Int32} {x3 : Int32} {s0 : Int32} {s1 : Int32} {s2 : Nat} {σ : zSt} {out : (Int32 × zSt)} (hf : f_X7_random_L34 Γ x0 x1 x2 x3 s0 s1 s2 σ = some out) {H : Heap} {locs : List Loc} {ls : Array Slot} (hw : zO D cA B0 Γ σ Z s.heap H locs) (hl : lv_has ls 7 [(0, .ref x0), (1, .int x1), (2, .int x2), (3, .int x3)]) :
    W p l e rm_X7_random s m args below meth c H locs 0 0 (MQ below (zQ1 D cA B0 (some (.int out.1)) Γ out.2 Z) args s 0 0 (FR B0)) (F0 m 34 ls [.int s0, .int s1, .ref s2]) := by
  have hx := hC.1
  have hb := hC.2.1
  unfold f_X7_random_L34 at hf
  refine lv_iconst (v := 1) hx hb dX7_random_34 (by decide) ?_
  obtain ⟨ho, hf⟩ := chk_inv hf
  obtain ⟨r6, σ5, hk, hf⟩ := bnd_inv hf
  refine z_callV (As := [.int s1, .int s0, .int 1]) (rest := []) (m_X7_goes hC.2.2.2.2.2.2.2.2 hk) hC hw wd_X7_goes lkM_X7_94 (isO_sh ho) rfl rfl ⟨rfl, rfl⟩ ⟨(Nat.le_of_ble_eq_true rfl), (Nat.le_of_ble_eq_true rfl)⟩ hl.1 rfl (Nat.le_of_ble_eq_true rfl) dX7_random_35 ⟨(Nat.le_of_ble_eq_true rfl), (Nat.le_of_ble_eq_true rfl)⟩ (fun H locs hw => ?_)
  refine lv_if_ne (tgt := 43) hx hb dX7_random_38 (by decide) (fun hc => ?_) (fun hc => ?_)
  · rw [if_neg hc] at hf
    refine lv_aload_n hx hb dX7_random_43 rfl (lv_at hl 0 rfl) ?_
    obtain ⟨ho, hf⟩ := chk_inv hf
    obtain ⟨_, σ7, hk, hf⟩ := bnd_inv hf
    refine z_callV (As := []) (rest := []) (m_X7_save hC.2.2.2.2.2.2.2.2 hk) hC hw wd_X7_save lkM_X7_98 (isO_sh ho) rfl rfl ⟨rfl, rfl⟩ ⟨(Nat.le_of_ble_eq_true rfl), (Nat.le_of_ble_eq_true rfl)⟩ hl.1 rfl (Nat.le_of_ble_eq_true rfl) dX7_random_44 ⟨(Nat.le_of_ble_eq_true rfl), (Nat.le_of_ble_eq_true rfl)⟩ (fun H locs hw => ?_)
    refine lv_aload_n hx hb dX7_random_47 rfl (lv_at hl 0 rfl) ?_
    refine lv_iload_n hx hb dX7_random_48 rfl (lv_at hl 1 rfl) ?_
    refine lv_iload_n hx hb dX7_random_49 rfl (lv_at hl 2 rfl) ?_
    obtain ⟨ho, hf⟩ := chk_inv hf
    obtain ⟨_, σ8, hk, hf⟩ := bnd_inv hf
    refine z_callV (As := [.int x1, .int x2]) (rest := []) (m_X7_clears hC.2.2.2.2.2.2.2.2 hk) hC hw wd_X7_clears lkM_X7_101 (isO_sh ho) rfl rfl ⟨rfl, rfl⟩ ⟨(Nat.le_of_ble_eq_true rfl), (Nat.le_of_ble_eq_true rfl)⟩ hl.1 rfl (Nat.le_of_ble_eq_true rfl) dX7_random_50 ⟨(Nat.le_of_ble_eq_true rfl), (Nat.le_of_ble_eq_true rfl)⟩ (fun H locs hw => ?_)
    refine lv_aload_n hx hb dX7_random_53 rfl (lv_at hl 0 rfl) ?_
    refine lv_iload_n hx hb dX7_random_54 rfl (lv_at hl 3 rfl) ?_
    refine lv_i2l hx hb dX7_random_55 rfl ?_
    obtain ⟨σ9, hg, hf⟩ := pfL_inv hf
    refine r_pfL hC hw hg clX7 (Nat.le_of_ble_eq_true rfl) lkF_X7_122 rfl rfl rfl dX7_random_56 (fun H locs hw => ?_)
    refine lv_iconst (v := 0) hx hb dX7_random_59 (by decide) ?_
    refine lv_istore (lv' := [(4, .int 0), (0, .ref x0), (1, .int x1), (2, .int x2), (3, .int x3)]) hx hb dX7_random_60 hl (Nat.le_of_ble_eq_true rfl) rfl (fun ls hl => ?_)
    obtain ⟨σ22, hk, hf⟩ := lb0_inv hf
    refine l_X7_random_B62 hC hr (fun H locs ls hw hl => ?_) FUEL 0 σ9 hk _ _ _ hw (lv_sub hl [1, 2, 3, 0] rfl)
    refine lv_iconst (v := 0) hx hb dX7_random_104 (by decide) ?_
    refine lv_istore (lv' := [(4, .int 0), (0, .ref x0), (1, .int x1), (2, .int x2)]) hx hb dX7_random_105 hl (Nat.le_of_ble_eq_true rfl) rfl (fun ls hl => ?_)
    obtain ⟨σ33, hk, hf⟩ := lb0_inv hf
    refine l_X7_random_B107 hC hr (fun H locs ls hw hl => ?_) FUEL 0 σ22 hk _ _ _ hw (lv_sub hl [1, 2, 3, 0] rfl)
    refine lv_aload_n hx hb dX7_random_162 rfl (lv_at hl 0 rfl) ?_
    refine lv_iload_n hx hb dX7_random_163 rfl (lv_at hl 1 rfl) ?_
    obtain ⟨ho, hf⟩ := chk_inv hf
    obtain ⟨r35, σ34, hk, hf⟩ := bnd_inv hf
    refine z_callV (As := [.int x1]) (rest := []) (m_X7_emptyWeight hC.2.2.2.2.2.2.2.2 hk) hC hw wd_X7_emptyWeight lkM_X7_140 (isO_sh ho) rfl rfl ⟨rfl, rfl⟩ ⟨(Nat.le_of_ble_eq_true rfl), (Nat.le_of_ble_eq_true rfl)⟩ hl.1 rfl (Nat.le_of_ble_eq_true rfl) dX7_random_164 ⟨(Nat.le_of_ble_eq_true rfl), (Nat.le_of_ble_eq_true rfl)⟩ (fun H locs hw => ?_)
    first | (obtain ⟨rfl, rfl⟩ := sp_inv hf) | (obtain rfl := Option.some.inj hf)
    exact W.iret hx hb hr (z_ret hw rfl) hw.2.2.2.2.2 dX7_random_167 hC.2.2.2.2.2.1
  · rw [if_pos hc] at hf
    refine lv_iconst (v := 0) hx hb dX7_random_41 (by decide) ?_
    first | (obtain ⟨rfl, rfl⟩ := sp_inv hf) | (obtain rfl := Option.some.inj hf)
    exact W.iret hx hb hr (z_ret hw rfl) hw.2.2.2.2.2 dX7_random_42 hC.2.2.2.2.2.1
set_option maxHeartbeats 4000000 in
set_option maxRecDepth 100000 in
theorem t_X7_random_L33 (hC : zC p l s m args meth c cX7_random 7 RX7 D cA B0) (hr : meth.sig.returnType = (Option.some FieldType.int)) {Γ : zSh} {x0 : Nat} {x1 : Int32} {x2 : Int32} {x3 : Int32} {s0 : Int32} {s1 : Nat} {σ : zSt} {out : (Int32 × zSt)} (hf : f_X7_random_L33 Γ x0 x1 x2 x3 s0 s1 σ = some out) {H : Heap} {locs : List Loc} {ls : Array Slot} (hw : zO D cA B0 Γ σ Z s.heap H locs) (hl : lv_has ls 7 [(0, .ref x0), (1, .int x1), (2, .int x2), (3, .int x3)]) :
    W p l e rm_X7_random s m args below meth c H locs 0 0 (MQ below (zQ1 D cA B0 (some (.int out.1)) Γ out.2 Z) args s 0 0 (FR B0)) (F0 m 33 ls [.int s0, .ref s1]) := by
  have hx := hC.1
  have hb := hC.2.1
  unfold f_X7_random_L33 at hf
  refine lv_iconst (v := 0) hx hb dX7_random_33 (by decide) ?_
  exact t_X7_random_L34 hC hr hf hw (lv_sub hl [0, 1, 2, 3] rfl)
set_option maxHeartbeats 4000000 in
set_option maxRecDepth 100000 in
theorem m_X7_random (h9 : l.stackTraces = false) {Γ : zSh} {a0 : Nat} {a1 : Int32} {a2 : Int32} {a3 : Int32} {σ : zSt} {r : Int32} {σ2 : zSt} (hf : f_X7_random Γ a0 a1 a2 a3 σ = some (r, σ2)) : Met l yX7_random (wq yX7_random cX7_random 7 (Option.some FieldType.int)) rm_X7_random (zQ0 D cA B0 [.ref a0, .int a1, .int a2, .int a3] Γ σ Z) (zQ1 D cA B0 (some (.int r)) Γ σ2 Z) 0 0 (FR B0) := by
  refine z_ofW h9 (by decide) (Nat.le_of_ble_eq_true rfl) ?_
  intro p e s m args below meth c ls hC hr _ hw hl
  have hx := hC.1
  have hb := hC.2.1
  have hl : lv_has ls 7 [(0, .ref a0), (1, .int a1), (2, .int a2), (3, .int a3)] := hl
  unfold f_X7_random at hf
  refine lv_aload_n hx hb dX7_random_0 rfl (lv_at hl 0 rfl) ?_
  refine lv_iload_n hx hb dX7_random_1 rfl (lv_at hl 1 rfl) ?_
  obtain ⟨r2, σ1, hk, hf⟩ := bnd_inv hf
  refine z_callS (As := [.int a1]) (rest := [.ref a0]) (m_X7_isSlot hC.2.2.2.2.2.2.2.2 hk) hC hw wd_X7_isSlot lkM_X7_88 rfl ⟨rfl, rfl⟩ ⟨(Nat.le_of_ble_eq_true rfl), (Nat.le_of_ble_eq_true rfl)⟩ hl.1 rfl (Nat.le_of_ble_eq_true rfl) dX7_random_2 ⟨(Nat.le_of_ble_eq_true rfl), (Nat.le_of_ble_eq_true rfl)⟩ (fun H locs hw => ?_)
  refine lv_iload_n hx hb dX7_random_5 rfl (lv_at hl 2 rfl) ?_
  refine lv_i2l hx hb dX7_random_6 rfl ?_
  refine lv_lconst (v := 0) hx hb dX7_random_7 (by decide) ?_
  refine lv_ldc2 (v := 12) hx hb hC.2.2.2.1 (hC.2.2.2.2.1 _ lkJ_X7_92) dX7_random_8 ?_
  obtain ⟨r4, σ3, hk, hf⟩ := bnd_inv hf
  refine z_callS (As := [.long (a2.toInt64), .long 0, .long 12]) (rest := [.int r2, .ref a0]) (m_X7_in hC.2.2.2.2.2.2.2.2 hk) hC hw wd_X7_in lkM_X7_68 rfl ⟨rfl, rfl⟩ ⟨(Nat.le_of_ble_eq_true rfl), (Nat.le_of_ble_eq_true rfl)⟩ hl.1 rfl (Nat.le_of_ble_eq_true rfl) dX7_random_11 ⟨(Nat.le_of_ble_eq_true rfl), (Nat.le_of_ble_eq_true rfl)⟩ (fun H locs hw => ?_)
  refine lv_if_eq (tgt := 33) hx hb dX7_random_14 (by decide) (fun hc => ?_) (fun hc => ?_)
  · rw [if_pos hc] at hf
    exact t_X7_random_L33 hC hr hf hw (lv_sub hl [0, 1, 2, 3] rfl)
  · rw [if_neg hc] at hf
    refine lv_iload_n hx hb dX7_random_17 rfl (lv_at hl 3 rfl) ?_
    refine lv_i2l hx hb dX7_random_18 rfl ?_
    refine lv_lconst (v := 0) hx hb dX7_random_19 (by decide) ?_
    refine lv_ldc2 (v := 999999) hx hb hC.2.2.2.1 (hC.2.2.2.2.1 _ lkJ_X7_134) dX7_random_20 ?_
    obtain ⟨r37, σ36, hk, hf⟩ := bnd_inv hf
    refine z_callS (As := [.long (a3.toInt64), .long 0, .long 999999]) (rest := [.int r2, .ref a0]) (m_X7_in hC.2.2.2.2.2.2.2.2 hk) hC hw wd_X7_in lkM_X7_68 rfl ⟨rfl, rfl⟩ ⟨(Nat.le_of_ble_eq_true rfl), (Nat.le_of_ble_eq_true rfl)⟩ hl.1 rfl (Nat.le_of_ble_eq_true rfl) dX7_random_23 ⟨(Nat.le_of_ble_eq_true rfl), (Nat.le_of_ble_eq_true rfl)⟩ (fun H locs hw => ?_)
    refine lv_if_eq (tgt := 33) hx hb dX7_random_26 (by decide) (fun hc => ?_) (fun hc => ?_)
    · rw [if_pos hc] at hf
      exact t_X7_random_L33 hC hr hf hw (lv_sub hl [0, 1, 2, 3] rfl)
    · rw [if_neg hc] at hf
      refine lv_iconst (v := 1) hx hb dX7_random_29 (by decide) ?_
      refine lv_goto (tgt := 34) hx hb dX7_random_30 (by decide) ?_
      exact t_X7_random_L34 hC hr hf hw (lv_sub hl [0, 1, 2, 3] rfl)
set_option maxHeartbeats 4000000 in
set_option maxRecDepth 100000 in
theorem t_X7_states_L22 (hC : zC p l s m args meth c cX7_states 2 RX7 D cA B0) (hr : meth.sig.returnType = (Option.some FieldType.int)) {Γ : zSh} {s0 : Int32} {σ : zSt} {out : (Int32 × zSt)} (hf : f_X7_states_L22 Γ s0 σ = some out) {H : Heap} {locs : List Loc} {ls : Array Slot} (hw : zO D cA B0 Γ σ Z s.heap H locs) (hl : lv_has ls 2 []) :
    W p l e rm_X7_states s m args below meth c H locs 0 0 (MQ below (zQ1 D cA B0 (some (.int out.1)) Γ out.2 Z) args s 0 0 (FR B0)) (F0 m 22 ls [.int s0]) := by
  have hx := hC.1
  have hb := hC.2.1
  unfold f_X7_states_L22 at hf
  first | (obtain ⟨rfl, rfl⟩ := sp_inv hf) | (obtain rfl := Option.some.inj hf)
  exact W.iret hx hb hr (z_ret hw rfl) hw.2.2.2.2.2 dX7_states_22 hC.2.2.2.2.2.1
set_option maxHeartbeats 4000000 in
set_option maxRecDepth 100000 in
theorem m_X7_states (h9 : l.stackTraces = false) {Γ : zSh} {a0 : Nat} {a1 : Int32} {σ : zSt} {r : Int32} {σ2 : zSt} (hf : f_X7_states Γ a0 a1 σ = some (r, σ2)) : Met l yX7_states (wq yX7_states cX7_states 2 (Option.some FieldType.int)) rm_X7_states (zQ0 D cA B0 [.ref a0, .int a1] Γ σ Z) (zQ1 D cA B0 (some (.int r)) Γ σ2 Z) 0 0 (FR B0) := by
  refine z_ofW h9 (by decide) (Nat.le_of_ble_eq_true rfl) ?_
  intro p e s m args below meth c ls hC hr _ hw hl
  have hx := hC.1
  have hb := hC.2.1
  have hl : lv_has ls 2 [(0, .ref a0), (1, .int a1)] := hl
  unfold f_X7_states at hf
  refine lv_aload_n hx hb dX7_states_0 rfl (lv_at hl 0 rfl) ?_
  refine lv_iload_n hx hb dX7_states_1 rfl (lv_at hl 1 rfl) ?_
  obtain ⟨r2, σ1, hk, hf⟩ := bnd_inv hf
  refine z_callS (As := [.int a1]) (rest := [.ref a0]) (m_X7_isSlot hC.2.2.2.2.2.2.2.2 hk) hC hw wd_X7_isSlot lkM_X7_88 rfl ⟨rfl, rfl⟩ ⟨(Nat.le_of_ble_eq_true rfl), (Nat.le_of_ble_eq_true rfl)⟩ hl.1 rfl (Nat.le_of_ble_eq_true rfl) dX7_states_2 ⟨(Nat.le_of_ble_eq_true rfl), (Nat.le_of_ble_eq_true rfl)⟩ (fun H locs hw => ?_)
  refine lv_iconst (v := 1) hx hb dX7_states_5 (by decide) ?_
  refine lv_iconst (v := 1) hx hb dX7_states_6 (by decide) ?_
  obtain ⟨ho, hf⟩ := chk_inv hf
  obtain ⟨r4, σ3, hk, hf⟩ := bnd_inv hf
  refine z_callV (As := [.int r2, .int 1, .int 1]) (rest := []) (m_X7_goes hC.2.2.2.2.2.2.2.2 hk) hC hw wd_X7_goes lkM_X7_94 (isO_sh ho) rfl rfl ⟨rfl, rfl⟩ ⟨(Nat.le_of_ble_eq_true rfl), (Nat.le_of_ble_eq_true rfl)⟩ hl.1 rfl (Nat.le_of_ble_eq_true rfl) dX7_states_7 ⟨(Nat.le_of_ble_eq_true rfl), (Nat.le_of_ble_eq_true rfl)⟩ (fun H locs hw => ?_)
  refine lv_if_eq (tgt := 21) hx hb dX7_states_10 (by decide) (fun hc => ?_) (fun hc => ?_)
  · rw [if_pos hc] at hf
    refine lv_iconst (v := 0) hx hb dX7_states_21 (by decide) ?_
    exact t_X7_states_L22 hC hr hf hw (lv_sub hl [] rfl)
  · rw [if_neg hc] at hf
    refine lv_aload_n hx hb dX7_states_13 rfl (lv_at hl 0 rfl) ?_
    refine lv_iload_n hx hb dX7_states_14 rfl (lv_at hl 1 rfl) ?_
    obtain ⟨ho, hf⟩ := chk_inv hf
    obtain ⟨r6, σ5, hk, hf⟩ := bnd_inv hf
    refine z_callV (As := [.int a1]) (rest := []) (m_X7_many hC.2.2.2.2.2.2.2.2 hk) hC hw wd_X7_many lkM_X7_78 (isO_sh ho) rfl rfl ⟨rfl, rfl⟩ ⟨(Nat.le_of_ble_eq_true rfl), (Nat.le_of_ble_eq_true rfl)⟩ hl.1 rfl (Nat.le_of_ble_eq_true rfl) dX7_states_15 ⟨(Nat.le_of_ble_eq_true rfl), (Nat.le_of_ble_eq_true rfl)⟩ (fun H locs hw => ?_)
    refine lv_goto (tgt := 22) hx hb dX7_states_18 (by decide) ?_
    exact t_X7_states_L22 hC hr hf hw (lv_sub hl [] rfl)
set_option maxHeartbeats 4000000 in
set_option maxRecDepth 100000 in
theorem t_X7_end_L41 (hC : zC p l s m args meth c cX7_end 4 RX7 D cA B0) (hr : meth.sig.returnType = (Option.some FieldType.int)) {Γ : zSh} {s0 : Int32} {σ : zSt} {out : (Int32 × zSt)} (hf : f_X7_end_L41 Γ s0 σ = some out) {H : Heap} {locs : List Loc} {ls : Array Slot} (hw : zO D cA B0 Γ σ Z s.heap H locs) (hl : lv_has ls 4 []) :
    W p l e rm_X7_end s m args below meth c H locs 0 0 (MQ below (zQ1 D cA B0 (some (.int out.1)) Γ out.2 Z) args s 0 0 (FR B0)) (F0 m 41 ls [.int s0]) := by
  have hx := hC.1
  have hb := hC.2.1
  unfold f_X7_end_L41 at hf
  first | (obtain ⟨rfl, rfl⟩ := sp_inv hf) | (obtain rfl := Option.some.inj hf)
  exact W.iret hx hb hr (z_ret hw rfl) hw.2.2.2.2.2 dX7_end_41 hC.2.2.2.2.2.1
set_option maxHeartbeats 4000000 in
set_option maxRecDepth 100000 in
theorem t_X7_end_L36 (hC : zC p l s m args meth c cX7_end 4 RX7 D cA B0) (hr : meth.sig.returnType = (Option.some FieldType.int)) {Γ : zSh} {s0 : Int32} {s1 : Nat} {σ : zSt} {out : (Int32 × zSt)} (hf : f_X7_end_L36 Γ s0 s1 σ = some out) {H : Heap} {locs : List Loc} {ls : Array Slot} (hw : zO D cA B0 Γ σ Z s.heap H locs) (hl : lv_has ls 4 []) :
    W p l e rm_X7_end s m args below meth c H locs 0 0 (MQ below (zQ1 D cA B0 (some (.int out.1)) Γ out.2 Z) args s 0 0 (FR B0)) (F0 m 36 ls [.int s0, .ref s1]) := by
  have hx := hC.1
  have hb := hC.2.1
  unfold f_X7_end_L36 at hf
  obtain ⟨v8, hg, hf⟩ := ldI_inv hf
  refine r_ldI hC hw hg dX7_end_36 ?_
  refine lv_goto (tgt := 41) hx hb dX7_end_37 (by decide) ?_
  exact t_X7_end_L41 hC hr hf hw (lv_sub hl [] rfl)
set_option maxHeartbeats 4000000 in
set_option maxRecDepth 100000 in
theorem m_X7_end (h9 : l.stackTraces = false) {Γ : zSh} {a0 : Nat} {a1 : Int32} {a2 : Int32} {a3 : Int32} {σ : zSt} {r : Int32} {σ2 : zSt} (hf : f_X7_end Γ a0 a1 a2 a3 σ = some (r, σ2)) : Met l yX7_end (wq yX7_end cX7_end 4 (Option.some FieldType.int)) rm_X7_end (zQ0 D cA B0 [.ref a0, .int a1, .int a2, .int a3] Γ σ Z) (zQ1 D cA B0 (some (.int r)) Γ σ2 Z) 0 0 (FR B0) := by
  refine z_ofW h9 (by decide) (Nat.le_of_ble_eq_true rfl) ?_
  intro p e s m args below meth c ls hC hr _ hw hl
  have hx := hC.1
  have hb := hC.2.1
  have hl : lv_has ls 4 [(0, .ref a0), (1, .int a1), (2, .int a2), (3, .int a3)] := hl
  unfold f_X7_end at hf
  refine lv_aload_n hx hb dX7_end_0 rfl (lv_at hl 0 rfl) ?_
  refine lv_aload_n hx hb dX7_end_1 rfl (lv_at hl 0 rfl) ?_
  refine lv_iload_n hx hb dX7_end_2 rfl (lv_at hl 1 rfl) ?_
  refine lv_iload_n hx hb dX7_end_3 rfl (lv_at hl 2 rfl) ?_
  obtain ⟨ho, hf⟩ := chk_inv hf
  obtain ⟨r2, σ1, hk, hf⟩ := bnd_inv hf
  refine z_callV (As := [.int a1, .int a2]) (rest := [.ref a0]) (m_X7_isState hC.2.2.2.2.2.2.2.2 hk) hC hw wd_X7_isState lkM_X7_105 (isO_sh ho) rfl rfl ⟨rfl, rfl⟩ ⟨(Nat.le_of_ble_eq_true rfl), (Nat.le_of_ble_eq_true rfl)⟩ hl.1 rfl (Nat.le_of_ble_eq_true rfl) dX7_end_4 ⟨(Nat.le_of_ble_eq_true rfl), (Nat.le_of_ble_eq_true rfl)⟩ (fun H locs hw => ?_)
  refine lv_iconst (v := 1) hx hb dX7_end_7 (by decide) ?_
  refine lv_iconst (v := 1) hx hb dX7_end_8 (by decide) ?_
  obtain ⟨ho, hf⟩ := chk_inv hf
  obtain ⟨r4, σ3, hk, hf⟩ := bnd_inv hf
  refine z_callV (As := [.int r2, .int 1, .int 1]) (rest := []) (m_X7_goes hC.2.2.2.2.2.2.2.2 hk) hC hw wd_X7_goes lkM_X7_94 (isO_sh ho) rfl rfl ⟨rfl, rfl⟩ ⟨(Nat.le_of_ble_eq_true rfl), (Nat.le_of_ble_eq_true rfl)⟩ hl.1 rfl (Nat.le_of_ble_eq_true rfl) dX7_end_9 ⟨(Nat.le_of_ble_eq_true rfl), (Nat.le_of_ble_eq_true rfl)⟩ (fun H locs hw => ?_)
  refine lv_if_eq (tgt := 40) hx hb dX7_end_12 (by decide) (fun hc => ?_) (fun hc => ?_)
  · rw [if_pos hc] at hf
    refine lv_iconst (v := 0) hx hb dX7_end_40 (by decide) ?_
    exact t_X7_end_L41 hC hr hf hw (lv_sub hl [] rfl)
  · rw [if_neg hc] at hf
    refine lv_aload_n hx hb dX7_end_15 rfl (lv_at hl 0 rfl) ?_
    obtain ⟨v5, hg, hf⟩ := gfR_inv hf
    refine r_gfR hC hw hg clX7 (Nat.le_of_ble_eq_true rfl) lkF_X7_7 rfl dX7_end_16 ?_
    refine lv_iload_n hx hb dX7_end_19 rfl (lv_at hl 3 rfl) ?_
    refine lv_if_eq (tgt := 31) hx hb dX7_end_20 (by decide) (fun hc => ?_) (fun hc => ?_)
    · rw [if_pos hc] at hf
      refine lv_iload_n hx hb dX7_end_31 rfl (lv_at hl 1 rfl) ?_
      refine lv_iload_n hx hb dX7_end_32 rfl (lv_at hl 2 rfl) ?_
      obtain ⟨r7, σ6, hk, hf⟩ := bnd_inv hf
      refine z_callS (As := [.int a1, .int a2]) (rest := [.ref v5]) (m_X7_initialAt hC.2.2.2.2.2.2.2.2 hk) hC hw wd_X7_initialAt lkM_X7_82 rfl ⟨rfl, rfl⟩ ⟨(Nat.le_of_ble_eq_true rfl), (Nat.le_of_ble_eq_true rfl)⟩ hl.1 rfl (Nat.le_of_ble_eq_true rfl) dX7_end_33 ⟨(Nat.le_of_ble_eq_true rfl), (Nat.le_of_ble_eq_true rfl)⟩ (fun H locs hw => ?_)
      exact t_X7_end_L36 hC hr hf hw (lv_sub hl [] rfl)
    · rw [if_neg hc] at hf
      refine lv_iload_n hx hb dX7_end_23 rfl (lv_at hl 1 rfl) ?_
      refine lv_iload_n hx hb dX7_end_24 rfl (lv_at hl 2 rfl) ?_
      obtain ⟨r10, σ9, hk, hf⟩ := bnd_inv hf
      refine z_callS (As := [.int a1, .int a2]) (rest := [.ref v5]) (m_X7_finalAt hC.2.2.2.2.2.2.2.2 hk) hC hw wd_X7_finalAt lkM_X7_85 rfl ⟨rfl, rfl⟩ ⟨(Nat.le_of_ble_eq_true rfl), (Nat.le_of_ble_eq_true rfl)⟩ hl.1 rfl (Nat.le_of_ble_eq_true rfl) dX7_end_25 ⟨(Nat.le_of_ble_eq_true rfl), (Nat.le_of_ble_eq_true rfl)⟩ (fun H locs hw => ?_)
      refine lv_goto (tgt := 36) hx hb dX7_end_28 (by decide) ?_
      exact t_X7_end_L36 hC hr hf hw (lv_sub hl [] rfl)
set_option maxHeartbeats 4000000 in
set_option maxRecDepth 100000 in
theorem t_X7_step_L35 (hC : zC p l s m args meth c cX7_step 5 RX7 D cA B0) (hr : meth.sig.returnType = (Option.some FieldType.int)) {Γ : zSh} {s0 : Int32} {σ : zSt} {out : (Int32 × zSt)} (hf : f_X7_step_L35 Γ s0 σ = some out) {H : Heap} {locs : List Loc} {ls : Array Slot} (hw : zO D cA B0 Γ σ Z s.heap H locs) (hl : lv_has ls 5 []) :
    W p l e rm_X7_step s m args below meth c H locs 0 0 (MQ below (zQ1 D cA B0 (some (.int out.1)) Γ out.2 Z) args s 0 0 (FR B0)) (F0 m 35 ls [.int s0]) := by
  have hx := hC.1
  have hb := hC.2.1
  unfold f_X7_step_L35 at hf
  first | (obtain ⟨rfl, rfl⟩ := sp_inv hf) | (obtain rfl := Option.some.inj hf)
  exact W.iret hx hb hr (z_ret hw rfl) hw.2.2.2.2.2 dX7_step_35 hC.2.2.2.2.2.1
set_option maxHeartbeats 4000000 in
set_option maxRecDepth 100000 in
theorem m_X7_step (h9 : l.stackTraces = false) {Γ : zSh} {a0 : Nat} {a1 : Int32} {a2 : Int32} {a3 : Int32} {a4 : Int32} {σ : zSt} {r : Int32} {σ2 : zSt} (hf : f_X7_step Γ a0 a1 a2 a3 a4 σ = some (r, σ2)) : Met l yX7_step (wq yX7_step cX7_step 5 (Option.some FieldType.int)) rm_X7_step (zQ0 D cA B0 [.ref a0, .int a1, .int a2, .int a3, .int a4] Γ σ Z) (zQ1 D cA B0 (some (.int r)) Γ σ2 Z) 0 0 (FR B0) := by
  refine z_ofW h9 (by decide) (Nat.le_of_ble_eq_true rfl) ?_
  intro p e s m args below meth c ls hC hr _ hw hl
  have hx := hC.1
  have hb := hC.2.1
  have hl : lv_has ls 5 [(0, .ref a0), (1, .int a1), (2, .int a2), (3, .int a3), (4, .int a4)] := hl
  unfold f_X7_step at hf
  refine lv_aload_n hx hb dX7_step_0 rfl (lv_at hl 0 rfl) ?_
  refine lv_aload_n hx hb dX7_step_1 rfl (lv_at hl 0 rfl) ?_
  refine lv_iload_n hx hb dX7_step_2 rfl (lv_at hl 1 rfl) ?_
  refine lv_iload_n hx hb dX7_step_3 rfl (lv_at hl 2 rfl) ?_
  refine lv_iload_n hx hb dX7_step_4 rfl (lv_at hl 3 rfl) ?_
  refine lv_iload hx hb dX7_step_5 (lv_at hl 4 rfl) ?_
  obtain ⟨ho, hf⟩ := chk_inv hf
  obtain ⟨r2, σ1, hk, hf⟩ := bnd_inv hf
  refine z_callV (As := [.int a1, .int a2, .int a3, .int a4]) (rest := [.ref a0]) (m_X7_isStep hC.2.2.2.2.2.2.2.2 hk) hC hw wd_X7_isStep lkM_X7_112 (isO_sh ho) rfl rfl ⟨rfl, rfl⟩ ⟨(Nat.le_of_ble_eq_true rfl), (Nat.le_of_ble_eq_true rfl)⟩ hl.1 rfl (Nat.le_of_ble_eq_true rfl) dX7_step_7 ⟨(Nat.le_of_ble_eq_true rfl), (Nat.le_of_ble_eq_true rfl)⟩ (fun H locs hw => ?_)
  refine lv_iconst (v := 1) hx hb dX7_step_10 (by decide) ?_
  refine lv_iconst (v := 1) hx hb dX7_step_11 (by decide) ?_
  obtain ⟨ho, hf⟩ := chk_inv hf
  obtain ⟨r4, σ3, hk, hf⟩ := bnd_inv hf
  refine z_callV (As := [.int r2, .int 1, .int 1]) (rest := []) (m_X7_goes hC.2.2.2.2.2.2.2.2 hk) hC hw wd_X7_goes lkM_X7_94 (isO_sh ho) rfl rfl ⟨rfl, rfl⟩ ⟨(Nat.le_of_ble_eq_true rfl), (Nat.le_of_ble_eq_true rfl)⟩ hl.1 rfl (Nat.le_of_ble_eq_true rfl) dX7_step_12 ⟨(Nat.le_of_ble_eq_true rfl), (Nat.le_of_ble_eq_true rfl)⟩ (fun H locs hw => ?_)
  refine lv_if_eq (tgt := 34) hx hb dX7_step_15 (by decide) (fun hc => ?_) (fun hc => ?_)
  · rw [if_pos hc] at hf
    refine lv_iconst (v := 0) hx hb dX7_step_34 (by decide) ?_
    exact t_X7_step_L35 hC hr hf hw (lv_sub hl [] rfl)
  · rw [if_neg hc] at hf
    refine lv_aload_n hx hb dX7_step_18 rfl (lv_at hl 0 rfl) ?_
    obtain ⟨v5, hg, hf⟩ := gfR_inv hf
    refine r_gfR hC hw hg clX7 (Nat.le_of_ble_eq_true rfl) lkF_X7_7 rfl dX7_step_19 ?_
    refine lv_iload_n hx hb dX7_step_22 rfl (lv_at hl 1 rfl) ?_
    refine lv_iload_n hx hb dX7_step_23 rfl (lv_at hl 2 rfl) ?_
    refine lv_iload_n hx hb dX7_step_24 rfl (lv_at hl 3 rfl) ?_
    refine lv_iload hx hb dX7_step_25 (lv_at hl 4 rfl) ?_
    obtain ⟨r7, σ6, hk, hf⟩ := bnd_inv hf
    refine z_callS (As := [.int a1, .int a2, .int a3, .int a4]) (rest := [.ref v5]) (m_X7_at hC.2.2.2.2.2.2.2.2 hk) hC hw wd_X7_at lkM_X7_116 rfl ⟨rfl, rfl⟩ ⟨(Nat.le_of_ble_eq_true rfl), (Nat.le_of_ble_eq_true rfl)⟩ hl.1 rfl (Nat.le_of_ble_eq_true rfl) dX7_step_27 ⟨(Nat.le_of_ble_eq_true rfl), (Nat.le_of_ble_eq_true rfl)⟩ (fun H locs hw => ?_)
    obtain ⟨v8, hg, hf⟩ := ldI_inv hf
    refine r_ldI hC hw hg dX7_step_30 ?_
    refine lv_goto (tgt := 35) hx hb dX7_step_31 (by decide) ?_
    exact t_X7_step_L35 hC hr hf hw (lv_sub hl [] rfl)
set_option maxHeartbeats 4000000 in
set_option maxRecDepth 100000 in
theorem t_X7_laysInitial_B2 (hC : zC p l s m args meth c cX7_laysInitial 4 RX7 D cA B0) (hr : meth.sig.returnType = (Option.none : Option Jvm.ClassFile.FieldType)) {Γ : zSh} {x0 : Nat} {x1 : Int32} {x2 : Int32} {x3 : Int32} {σ : zSt} {out : ((Int32 × zSt) ⊕ (zSt))} (hf : f_X7_laysInitial_B2 Γ x0 x1 x2 x3 σ = some out) {H : Heap} {locs : List Loc} {ls : Array Slot} (hw : zO D cA B0 Γ σ Z s.heap H locs) (hl : lv_has ls 4 [(0, .ref x0), (1, .int x1), (2, .int x2), (3, .int x3)])
    (kI : ∀ (z3 : Int32) (σ2 : zSt), out = .inl (z3, σ2) → ∀ (H : Heap) (locs : List Loc) (ls : Array Slot), zO D cA B0 Γ σ2 Z s.heap H locs → lv_has ls 4 [(0, .ref x0), (1, .int x1), (2, .int x2), (3, .int z3)] → W p l e rm_X7_laysInitial s m args below meth c H locs 0 0 Q (F0 m 2 ls []))
    (kE : ∀ (σ2 : zSt), out = .inr σ2 → ∀ (H : Heap) (locs : List Loc) (ls : Array Slot), zO D cA B0 Γ σ2 Z s.heap H locs → lv_has ls 4 [] → W p l e rm_X7_laysInitial s m args below meth c H locs 0 0 Q (F0 m 35 ls [])) :
    W p l e rm_X7_laysInitial s m args below meth c H locs 0 0 Q (F0 m 2 ls []) := by
  have hx := hC.1
  have hb := hC.2.1
  unfold f_X7_laysInitial_B2 at hf
  refine lv_iload_n hx hb dX7_laysInitial_2 rfl (lv_at hl 3 rfl) ?_
  refine lv_aload_n hx hb dX7_laysInitial_3 rfl (lv_at hl 0 rfl) ?_
  refine lv_iload_n hx hb dX7_laysInitial_4 rfl (lv_at hl 1 rfl) ?_
  obtain ⟨ho, hf⟩ := chk_inv hf
  obtain ⟨r2, σ1, hk, hf⟩ := bnd_inv hf
  refine z_callV (As := [.int x1]) (rest := [.int x3]) (m_X7_many hC.2.2.2.2.2.2.2.2 hk) hC hw wd_X7_many lkM_X7_78 (isO_sh ho) rfl rfl ⟨rfl, rfl⟩ ⟨(Nat.le_of_ble_eq_true rfl), (Nat.le_of_ble_eq_true rfl)⟩ hl.1 rfl (Nat.le_of_ble_eq_true rfl) dX7_laysInitial_5 ⟨(Nat.le_of_ble_eq_true rfl), (Nat.le_of_ble_eq_true rfl)⟩ (fun H locs hw => ?_)
  refine lv_icmp_ge (tgt := 35) hx hb dX7_laysInitial_8 (by decide) (fun hc => ?_) (fun hc => ?_)
  · rw [if_pos hc] at hf
    exact kE  σ1 (Option.some.inj hf).symm _ _ _ hw (lv_sub hl [] rfl)
  · rw [if_neg hc] at hf
    refine lv_aload_n hx hb dX7_laysInitial_11 rfl (lv_at hl 0 rfl) ?_
    obtain ⟨v3, hg, hf⟩ := gfR_inv hf
    refine r_gfR hC hw hg clX7 (Nat.le_of_ble_eq_true rfl) lkF_X7_16 rfl dX7_laysInitial_12 ?_
    refine lv_iload_n hx hb dX7_laysInitial_15 rfl (lv_at hl 2 rfl) ?_
    refine lv_iload_n hx hb dX7_laysInitial_16 rfl (lv_at hl 3 rfl) ?_
    refine lv_iadd hx hb dX7_laysInitial_17 ?_
    refine lv_aload_n hx hb dX7_laysInitial_18 rfl (lv_at hl 0 rfl) ?_
    obtain ⟨v4, hg, hf⟩ := gfR_inv hf
    refine r_gfR hC hw hg clX7 (Nat.le_of_ble_eq_true rfl) lkF_X7_7 rfl dX7_laysInitial_19 ?_
    refine lv_iload_n hx hb dX7_laysInitial_22 rfl (lv_at hl 1 rfl) ?_
    refine lv_iload_n hx hb dX7_laysInitial_23 rfl (lv_at hl 3 rfl) ?_
    obtain ⟨r6, σ5, hk, hf⟩ := bnd_inv hf
    refine z_callS (As := [.int x1, .int x3]) (rest := [.ref v4, .int (x2 + x3), .ref v3]) (m_X7_initialAt hC.2.2.2.2.2.2.2.2 hk) hC hw wd_X7_initialAt lkM_X7_82 rfl ⟨rfl, rfl⟩ ⟨(Nat.le_of_ble_eq_true rfl), (Nat.le_of_ble_eq_true rfl)⟩ hl.1 rfl (Nat.le_of_ble_eq_true rfl) dX7_laysInitial_24 ⟨(Nat.le_of_ble_eq_true rfl), (Nat.le_of_ble_eq_true rfl)⟩ (fun H locs hw => ?_)
    obtain ⟨v7, hg, hf⟩ := ldI_inv hf
    refine r_ldI hC hw hg dX7_laysInitial_27 ?_
    obtain ⟨σ8, hg, hf⟩ := stI_inv hf
    refine r_stI hC hw hg dX7_laysInitial_28 (fun H locs hw => ?_)
    refine lv_iinc (v := (x3 + 1)) (lv' := [(3, .int (x3 + 1)), (0, .ref x0), (1, .int x1), (2, .int x2)]) hx hb dX7_laysInitial_29 hl (k := 3) rfl rfl (Nat.le_of_ble_eq_true rfl) rfl (fun ls hl => ?_)
    refine lv_goto (tgt := 2) hx hb dX7_laysInitial_32 (by decide) ?_
    exact kI (x3 + 1) σ8 (Option.some.inj hf).symm _ _ _ hw (lv_sub hl [1, 2, 3, 0] rfl)
set_option maxHeartbeats 4000000 in
theorem l_X7_laysInitial_B2 (hC : zC p l s m args meth c cX7_laysInitial 4 RX7 D cA B0) (hr : meth.sig.returnType = (Option.none : Option Jvm.ClassFile.FieldType)) {Γ : zSh} {x0 : Nat} {x1 : Int32} {x2 : Int32} {σ2 : zSt} (kE : ∀ (H : Heap) (locs : List Loc) (ls : Array Slot), zO D cA B0 Γ σ2 Z s.heap H locs → lv_has ls 4 [] → W p l e rm_X7_laysInitial s m args below meth c H locs 0 0 Q (F0 m 35 ls [])) :
    ∀ (n : Nat) (x3 : Int32) (σ : zSt), loopM (fun q => f_X7_laysInitial_B2 Γ x0 x1 x2 q.1 q.2) n (x3, σ) = some σ2 → ∀ (H : Heap) (locs : List Loc) (ls : Array Slot), zO D cA B0 Γ σ Z s.heap H locs → lv_has ls 4 [(0, .ref x0), (1, .int x1), (2, .int x2), (3, .int x3)] → W p l e rm_X7_laysInitial s m args below meth c H locs 0 0 Q (F0 m 2 ls []) := by
  intro n
  induction n with
  | zero => intro x3 σ h; exact absurd h (by simp [loopM])
  | succ n ih =>
    intro x3 σ h H locs ls hw hl
    obtain ⟨r, h1, h2, h3⟩ := loopM_inv h
    exact t_X7_laysInitial_B2 hC hr h1 hw hl (fun z3 s2 e H locs ls hw hl => ih z3 s2 (h2 _ e) H locs ls hw hl) (fun s2 e H locs ls hw hl => by cases h3 _ e; exact kE H locs ls hw hl)
set_option maxHeartbeats 4000000 in
set_option maxRecDepth 100000 in
theorem m_X7_laysInitial (h9 : l.stackTraces = false) {Γ : zSh} {a0 : Nat} {a1 : Int32} {a2 : Int32} {σ : zSt} {r : Unit} {σ2 : zSt} (hf : f_X7_laysInitial Γ a0 a1 a2 σ = some (r, σ2)) : Met l yX7_laysInitial (wq yX7_laysInitial cX7_laysInitial 4 (Option.none : Option Jvm.ClassFile.FieldType)) rm_X7_laysInitial (zQ0 D cA B0 [.ref a0, .int a1, .int a2] Γ σ Z) (zQ1 D cA B0 (none) Γ σ2 Z) 0 0 (FR B0) := by
  refine z_ofW h9 (by decide) (Nat.le_of_ble_eq_true rfl) ?_
  intro p e s m args below meth c ls hC hr _ hw hl
  have hx := hC.1
  have hb := hC.2.1
  have hl : lv_has ls 4 [(0, .ref a0), (1, .int a1), (2, .int a2)] := hl
  unfold f_X7_laysInitial at hf
  refine lv_iconst (v := 0) hx hb dX7_laysInitial_0 (by decide) ?_
  refine lv_istore_n (lv' := [(3, .int 0), (0, .ref a0), (1, .int a1), (2, .int a2)]) hx hb dX7_laysInitial_1 rfl hl (Nat.le_of_ble_eq_true rfl) rfl (fun ls hl => ?_)
  obtain ⟨σ9, hk, hf⟩ := lb0_inv hf
  refine l_X7_laysInitial_B2 hC hr (fun H locs ls hw hl => ?_) FUEL 0 σ hk _ _ _ hw (lv_sub hl [1, 2, 3, 0] rfl)
  first | (obtain ⟨rfl, rfl⟩ := sp_inv hf) | (obtain rfl := Option.some.inj hf)
  exact W.vret hx hb hr (z_ret hw rfl) hw.2.2.2.2.2 dX7_laysInitial_35 hC.2.2.2.2.2.1
set_option maxHeartbeats 4000000 in
set_option maxRecDepth 100000 in
theorem t_X7_passes_B19_L80 (hC : zC p l s m args meth c cX7_passes 8 RX7 D cA B0) (hr : meth.sig.returnType = (Option.none : Option Jvm.ClassFile.FieldType)) {Γ : zSh} {x0 : Nat} {x1 : Int32} {x2 : Int32} {x3 : Int32} {x4 : Int32} {x5 : Int32} {x6 : Int32} {s0 : Int32}  {σ : zSt} {out : ((Int32 × Int32 × zSt) ⊕ (Int32 × zSt))} (hf : f_X7_passes_B19_L80 Γ x0 x1 x2 x3 x4 x5 x6 s0 σ = some out) {H : Heap} {locs : List Loc} {ls : Array Slot} (hw : zO D cA B0 Γ σ Z s.heap H locs) (hl : lv_has ls 8 [(0, .ref x0), (1, .int x1), (2, .int x2), (3, .int x3), (4, .int x4), (5, .int x5), (6, .int x6)])
    (kI : ∀ (z5 : Int32) (z6 : Int32) (σ2 : zSt), out = .inl (z5, z6, σ2) → ∀ (H : Heap) (locs : List Loc) (ls : Array Slot), zO D cA B0 Γ σ2 Z s.heap H locs → lv_has ls 8 [(0, .ref x0), (1, .int x1), (2, .int x2), (3, .int x3), (4, .int x4), (5, .int z5), (6, .int z6)] → W p l e rm_X7_passes s m args below meth c H locs 0 0 Q (F0 m 19 ls []))
    (kE : ∀ (z5 : Int32) (σ2 : zSt), out = .inr (z5, σ2) → ∀ (H : Heap) (locs : List Loc) (ls : Array Slot), zO D cA B0 Γ σ2 Z s.heap H locs → lv_has ls 8 [(0, .ref x0), (1, .int x1), (2, .int x2), (3, .int x3), (4, .int x4), (5, .int z5)] → W p l e rm_X7_passes s m args below meth c H locs 0 0 Q (F0 m 109 ls [])) :
    W p l e rm_X7_passes s m args below meth c H locs 0 0 Q (F0 m 80 ls [.int s0]) := by
  have hx := hC.1
  have hb := hC.2.1
  unfold f_X7_passes_B19_L80 at hf
  refine lv_istore (lv' := [(7, .int s0), (0, .ref x0), (1, .int x1), (2, .int x2), (3, .int x3), (4, .int x4), (5, .int x5), (6, .int x6)]) hx hb dX7_passes_80 hl (Nat.le_of_ble_eq_true rfl) rfl (fun ls hl => ?_)
  refine lv_iload hx hb dX7_passes_82 (lv_at hl 6 rfl) ?_
  refine lv_aload_n hx hb dX7_passes_84 rfl (lv_at hl 1 rfl) ?_
  obtain ⟨v9, hg, hf⟩ := gfR_inv hf
  refine r_gfR hC hw hg clX7 (Nat.le_of_ble_eq_true rfl) lkF_X7_16 rfl dX7_passes_85 ?_
  refine lv_iload_n hx hb dX7_passes_88 rfl (lv_at hl 3 rfl) ?_
  refine lv_iload hx hb dX7_passes_89 (lv_at hl 7 rfl) ?_
  refine lv_iadd hx hb dX7_passes_91 ?_
  obtain ⟨v10, hg, hf⟩ := ldI_inv hf
  refine r_ldI hC hw hg dX7_passes_92 ?_
  refine lv_iload hx hb dX7_passes_93 (lv_at hl 0 rfl) ?_
  refine lv_imul hx hb dX7_passes_95 ?_
  refine lv_iadd hx hb dX7_passes_96 ?_
  refine lv_sipush (v := 10007) hx hb dX7_passes_97 (by decide) ?_
  obtain ⟨v11, hg, hf⟩ := rmI_inv hf
  refine r_rmI hC hg dX7_passes_100 ?_
  refine lv_istore (lv' := [(5, .int v11), (7, .int s0), (0, .ref x0), (1, .int x1), (2, .int x2), (3, .int x3), (4, .int x4), (6, .int x6)]) hx hb dX7_passes_101 hl (Nat.le_of_ble_eq_true rfl) rfl (fun ls hl => ?_)
  refine lv_iinc (v := (x6 + 1)) (lv' := [(6, .int (x6 + 1)), (5, .int v11), (7, .int s0), (0, .ref x0), (1, .int x1), (2, .int x2), (3, .int x3), (4, .int x4)]) hx hb dX7_passes_103 hl (k := 7) rfl rfl (Nat.le_of_ble_eq_true rfl) rfl (fun ls hl => ?_)
  refine lv_goto (tgt := 19) hx hb dX7_passes_106 (by decide) ?_
  exact kI v11 (x6 + 1) σ (Option.some.inj hf).symm _ _ _ hw (lv_sub hl [3, 4, 5, 6, 7, 1, 0] rfl)
set_option maxHeartbeats 4000000 in
set_option maxRecDepth 100000 in
theorem t_X7_passes_B19 (hC : zC p l s m args meth c cX7_passes 8 RX7 D cA B0) (hr : meth.sig.returnType = (Option.none : Option Jvm.ClassFile.FieldType)) {Γ : zSh} {x0 : Nat} {x1 : Int32} {x2 : Int32} {x3 : Int32} {x4 : Int32} {x5 : Int32} {x6 : Int32} {σ : zSt} {out : ((Int32 × Int32 × zSt) ⊕ (Int32 × zSt))} (hf : f_X7_passes_B19 Γ x0 x1 x2 x3 x4 x5 x6 σ = some out) {H : Heap} {locs : List Loc} {ls : Array Slot} (hw : zO D cA B0 Γ σ Z s.heap H locs) (hl : lv_has ls 8 [(0, .ref x0), (1, .int x1), (2, .int x2), (3, .int x3), (4, .int x4), (5, .int x5), (6, .int x6)])
    (kI : ∀ (z5 : Int32) (z6 : Int32) (σ2 : zSt), out = .inl (z5, z6, σ2) → ∀ (H : Heap) (locs : List Loc) (ls : Array Slot), zO D cA B0 Γ σ2 Z s.heap H locs → lv_has ls 8 [(0, .ref x0), (1, .int x1), (2, .int x2), (3, .int x3), (4, .int x4), (5, .int z5), (6, .int z6)] → W p l e rm_X7_passes s m args below meth c H locs 0 0 Q (F0 m 19 ls []))
    (kE : ∀ (z5 : Int32) (σ2 : zSt), out = .inr (z5, σ2) → ∀ (H : Heap) (locs : List Loc) (ls : Array Slot), zO D cA B0 Γ σ2 Z s.heap H locs → lv_has ls 8 [(0, .ref x0), (1, .int x1), (2, .int x2), (3, .int x3), (4, .int x4), (5, .int z5)] → W p l e rm_X7_passes s m args below meth c H locs 0 0 Q (F0 m 109 ls [])) :
    W p l e rm_X7_passes s m args below meth c H locs 0 0 Q (F0 m 19 ls []) := by
  have hx := hC.1
  have hb := hC.2.1
  unfold f_X7_passes_B19 at hf
  refine lv_iload hx hb dX7_passes_19 (lv_at hl 6 rfl) ?_
  refine lv_aload_n hx hb dX7_passes_21 rfl (lv_at hl 0 rfl) ?_
  refine lv_iload_n hx hb dX7_passes_22 rfl (lv_at hl 1 rfl) ?_
  obtain ⟨ho, hf⟩ := chk_inv hf
  obtain ⟨r4, σ3, hk, hf⟩ := bnd_inv hf
  refine z_callV (As := [.int x1]) (rest := [.int x6]) (m_X7_many hC.2.2.2.2.2.2.2.2 hk) hC hw wd_X7_many lkM_X7_78 (isO_sh ho) rfl rfl ⟨rfl, rfl⟩ ⟨(Nat.le_of_ble_eq_true rfl), (Nat.le_of_ble_eq_true rfl)⟩ hl.1 rfl (Nat.le_of_ble_eq_true rfl) dX7_passes_23 ⟨(Nat.le_of_ble_eq_true rfl), (Nat.le_of_ble_eq_true rfl)⟩ (fun H locs hw => ?_)
  refine lv_icmp_ge (tgt := 109) hx hb dX7_passes_26 (by decide) (fun hc => ?_) (fun hc => ?_)
  · rw [if_pos hc] at hf
    exact kE x5 σ3 (Option.some.inj hf).symm _ _ _ hw (lv_sub hl [0, 1, 2, 3, 4, 5] rfl)
  · rw [if_neg hc] at hf
    refine lv_iload_n hx hb dX7_passes_29 rfl (lv_at hl 3 rfl) ?_
    refine lv_iconst (v := 2) hx hb dX7_passes_30 (by decide) ?_
    refine lv_icmp_ne (tgt := 66) hx hb dX7_passes_31 (by decide) (fun hc => ?_) (fun hc => ?_)
    · rw [if_neg hc] at hf
      refine lv_aload_n hx hb dX7_passes_66 rfl (lv_at hl 0 rfl) ?_
      obtain ⟨v5, hg, hf⟩ := gfR_inv hf
      refine r_gfR hC hw hg clX7 (Nat.le_of_ble_eq_true rfl) lkF_X7_7 rfl dX7_passes_67 ?_
      refine lv_iload_n hx hb dX7_passes_70 rfl (lv_at hl 1 rfl) ?_
      refine lv_iload_n hx hb dX7_passes_71 rfl (lv_at hl 3 rfl) ?_
      refine lv_iload hx hb dX7_passes_72 (lv_at hl 6 rfl) ?_
      refine lv_iload hx hb dX7_passes_74 (lv_at hl 4 rfl) ?_
      obtain ⟨r7, σ6, hk, hf⟩ := bnd_inv hf
      refine z_callS (As := [.int x1, .int x3, .int x6, .int x4]) (rest := [.ref v5]) (m_X7_at hC.2.2.2.2.2.2.2.2 hk) hC hw wd_X7_at lkM_X7_116 rfl ⟨rfl, rfl⟩ ⟨(Nat.le_of_ble_eq_true rfl), (Nat.le_of_ble_eq_true rfl)⟩ hl.1 rfl (Nat.le_of_ble_eq_true rfl) dX7_passes_76 ⟨(Nat.le_of_ble_eq_true rfl), (Nat.le_of_ble_eq_true rfl)⟩ (fun H locs hw => ?_)
      obtain ⟨v8, hg, hf⟩ := ldI_inv hf
      refine r_ldI hC hw hg dX7_passes_79 ?_
      exact t_X7_passes_B19_L80 hC hr hf hw (lv_sub hl [0, 1, 2, 3, 4, 5, 6] rfl) kI kE
    · rw [if_pos hc] at hf
      refine lv_aload_n hx hb dX7_passes_34 rfl (lv_at hl 0 rfl) ?_
      obtain ⟨v12, hg, hf⟩ := gfR_inv hf
      refine r_gfR hC hw hg clX7 (Nat.le_of_ble_eq_true rfl) lkF_X7_7 rfl dX7_passes_35 ?_
      refine lv_iload_n hx hb dX7_passes_38 rfl (lv_at hl 1 rfl) ?_
      refine lv_iconst (v := 0) hx hb dX7_passes_39 (by decide) ?_
      refine lv_iload hx hb dX7_passes_40 (lv_at hl 6 rfl) ?_
      refine lv_iload hx hb dX7_passes_42 (lv_at hl 4 rfl) ?_
      obtain ⟨r14, σ13, hk, hf⟩ := bnd_inv hf
      refine z_callS (As := [.int x1, .int 0, .int x6, .int x4]) (rest := [.ref v12]) (m_X7_at hC.2.2.2.2.2.2.2.2 hk) hC hw wd_X7_at lkM_X7_116 rfl ⟨rfl, rfl⟩ ⟨(Nat.le_of_ble_eq_true rfl), (Nat.le_of_ble_eq_true rfl)⟩ hl.1 rfl (Nat.le_of_ble_eq_true rfl) dX7_passes_44 ⟨(Nat.le_of_ble_eq_true rfl), (Nat.le_of_ble_eq_true rfl)⟩ (fun H locs hw => ?_)
      obtain ⟨v15, hg, hf⟩ := ldI_inv hf
      refine r_ldI hC hw hg dX7_passes_47 ?_
      refine lv_aload_n hx hb dX7_passes_48 rfl (lv_at hl 0 rfl) ?_
      obtain ⟨v16, hg, hf⟩ := gfR_inv hf
      refine r_gfR hC hw hg clX7 (Nat.le_of_ble_eq_true rfl) lkF_X7_7 rfl dX7_passes_49 ?_
      refine lv_iload_n hx hb dX7_passes_52 rfl (lv_at hl 1 rfl) ?_
      refine lv_iconst (v := 1) hx hb dX7_passes_53 (by decide) ?_
      refine lv_iload hx hb dX7_passes_54 (lv_at hl 6 rfl) ?_
      refine lv_iload hx hb dX7_passes_56 (lv_at hl 4 rfl) ?_
      obtain ⟨r18, σ17, hk, hf⟩ := bnd_inv hf
      refine z_callS (As := [.int x1, .int 1, .int x6, .int x4]) (rest := [.ref v16, .int v15]) (m_X7_at hC.2.2.2.2.2.2.2.2 hk) hC hw wd_X7_at lkM_X7_116 rfl ⟨rfl, rfl⟩ ⟨(Nat.le_of_ble_eq_true rfl), (Nat.le_of_ble_eq_true rfl)⟩ hl.1 rfl (Nat.le_of_ble_eq_true rfl) dX7_passes_58 ⟨(Nat.le_of_ble_eq_true rfl), (Nat.le_of_ble_eq_true rfl)⟩ (fun H locs hw => ?_)
      obtain ⟨v19, hg, hf⟩ := ldI_inv hf
      refine r_ldI hC hw hg dX7_passes_61 ?_
      refine lv_iadd hx hb dX7_passes_62 ?_
      refine lv_goto (tgt := 80) hx hb dX7_passes_63 (by decide) ?_
      exact t_X7_passes_B19_L80 hC hr hf hw (lv_sub hl [0, 1, 2, 3, 4, 5, 6] rfl) kI kE
set_option maxHeartbeats 4000000 in
theorem l_X7_passes_B19 (hC : zC p l s m args meth c cX7_passes 8 RX7 D cA B0) (hr : meth.sig.returnType = (Option.none : Option Jvm.ClassFile.FieldType)) {Γ : zSh} {x0 : Nat} {x1 : Int32} {x2 : Int32} {x3 : Int32} {x4 : Int32} {w5 : Int32} {σ2 : zSt} (kE : ∀ (H : Heap) (locs : List Loc) (ls : Array Slot), zO D cA B0 Γ σ2 Z s.heap H locs → lv_has ls 8 [(0, .ref x0), (1, .int x1), (2, .int x2), (3, .int x3), (4, .int x4), (5, .int w5)] → W p l e rm_X7_passes s m args below meth c H locs 0 0 Q (F0 m 109 ls [])) :
    ∀ (n : Nat) (x5 : Int32) (x6 : Int32) (σ : zSt), loopM (fun q => f_X7_passes_B19 Γ x0 x1 x2 x3 x4 q.1 q.2.1 q.2.2) n (x5, x6, σ) = some (w5, σ2) → ∀ (H : Heap) (locs : List Loc) (ls : Array Slot), zO D cA B0 Γ σ Z s.heap H locs → lv_has ls 8 [(0, .ref x0), (1, .int x1), (2, .int x2), (3, .int x3), (4, .int x4), (5, .int x5), (6, .int x6)] → W p l e rm_X7_passes s m args below meth c H locs 0 0 Q (F0 m 19 ls []) := by
  intro n
  induction n with
  | zero => intro x5 x6 σ h; exact absurd h (by simp [loopM])
  | succ n ih =>
    intro x5 x6 σ h H locs ls hw hl
    obtain ⟨r, h1, h2, h3⟩ := loopM_inv h
    exact t_X7_passes_B19 hC hr h1 hw hl (fun z5 z6 s2 e H locs ls hw hl => ih z5 z6 s2 (h2 _ e) H locs ls hw hl) (fun z5 s2 e H locs ls hw hl => by cases h3 _ e; exact kE H locs ls hw hl)
set_option maxHeartbeats 4000000 in
set_option maxRecDepth 100000 in
theorem t_X7_passes_B3 (hC : zC p l s m args meth c cX7_passes 8 RX7 D cA B0) (hr : meth.sig.returnType = (Option.none : Option Jvm.ClassFile.FieldType)) {Γ : zSh} {x0 : Nat} {x1 : Int32} {x2 : Int32} {x3 : Int32} {x4 : Int32} {σ : zSt} {out : ((Int32 × zSt) ⊕ (zSt))} (hf : f_X7_passes_B3 Γ x0 x1 x2 x3 x4 σ = some out) {H : Heap} {locs : List Loc} {ls : Array Slot} (hw : zO D cA B0 Γ σ Z s.heap H locs) (hl : lv_has ls 8 [(0, .ref x0), (1, .int x1), (2, .int x2), (3, .int x3), (4, .int x4)])
    (kI : ∀ (z4 : Int32) (σ2 : zSt), out = .inl (z4, σ2) → ∀ (H : Heap) (locs : List Loc) (ls : Array Slot), zO D cA B0 Γ σ2 Z s.heap H locs → lv_has ls 8 [(0, .ref x0), (1, .int x1), (2, .int x2), (3, .int x3), (4, .int z4)] → W p l e rm_X7_passes s m args below meth c H locs 0 0 Q (F0 m 3 ls []))
    (kE : ∀ (σ2 : zSt), out = .inr σ2 → ∀ (H : Heap) (locs : List Loc) (ls : Array Slot), zO D cA B0 Γ σ2 Z s.heap H locs → lv_has ls 8 [(0, .ref x0), (1, .int x1), (2, .int x2)] → W p l e rm_X7_passes s m args below meth c H locs 0 0 Q (F0 m 124 ls [])) :
    W p l e rm_X7_passes s m args below meth c H locs 0 0 Q (F0 m 3 ls []) := by
  have hx := hC.1
  have hb := hC.2.1
  unfold f_X7_passes_B3 at hf
  refine lv_iload hx hb dX7_passes_3 (lv_at hl 4 rfl) ?_
  refine lv_aload_n hx hb dX7_passes_5 rfl (lv_at hl 0 rfl) ?_
  refine lv_iload_n hx hb dX7_passes_6 rfl (lv_at hl 1 rfl) ?_
  obtain ⟨ho, hf⟩ := chk_inv hf
  obtain ⟨r2, σ1, hk, hf⟩ := bnd_inv hf
  refine z_callV (As := [.int x1]) (rest := [.int x4]) (m_X7_many hC.2.2.2.2.2.2.2.2 hk) hC hw wd_X7_many lkM_X7_78 (isO_sh ho) rfl rfl ⟨rfl, rfl⟩ ⟨(Nat.le_of_ble_eq_true rfl), (Nat.le_of_ble_eq_true rfl)⟩ hl.1 rfl (Nat.le_of_ble_eq_true rfl) dX7_passes_7 ⟨(Nat.le_of_ble_eq_true rfl), (Nat.le_of_ble_eq_true rfl)⟩ (fun H locs hw => ?_)
  refine lv_icmp_ge (tgt := 124) hx hb dX7_passes_10 (by decide) (fun hc => ?_) (fun hc => ?_)
  · rw [if_pos hc] at hf
    exact kE  σ1 (Option.some.inj hf).symm _ _ _ hw (lv_sub hl [0, 1, 2] rfl)
  · rw [if_neg hc] at hf
    refine lv_iconst (v := 0) hx hb dX7_passes_13 (by decide) ?_
    refine lv_istore (lv' := [(5, .int 0), (0, .ref x0), (1, .int x1), (2, .int x2), (3, .int x3), (4, .int x4)]) hx hb dX7_passes_14 hl (Nat.le_of_ble_eq_true rfl) rfl (fun ls hl => ?_)
    refine lv_iconst (v := 0) hx hb dX7_passes_16 (by decide) ?_
    refine lv_istore (lv' := [(6, .int 0), (5, .int 0), (0, .ref x0), (1, .int x1), (2, .int x2), (3, .int x3), (4, .int x4)]) hx hb dX7_passes_17 hl (Nat.le_of_ble_eq_true rfl) rfl (fun ls hl => ?_)
    obtain ⟨w21, σ20, hk, hf⟩ := lb1_inv hf
    refine l_X7_passes_B19 hC hr (fun H locs ls hw hl => ?_) FUEL 0 0 σ1 hk _ _ _ hw (lv_sub hl [2, 3, 4, 5, 6, 1, 0] rfl)
    refine lv_aload_n hx hb dX7_passes_109 rfl (lv_at hl 0 rfl) ?_
    obtain ⟨v22, hg, hf⟩ := gfR_inv hf
    refine r_gfR hC hw hg clX7 (Nat.le_of_ble_eq_true rfl) lkF_X7_19 rfl dX7_passes_110 ?_
    refine lv_iload hx hb dX7_passes_113 (lv_at hl 4 rfl) ?_
    refine lv_iload hx hb dX7_passes_115 (lv_at hl 5 rfl) ?_
    obtain ⟨σ23, hg, hf⟩ := stI_inv hf
    refine r_stI hC hw hg dX7_passes_117 (fun H locs hw => ?_)
    refine lv_iinc (v := (x4 + 1)) (lv' := [(4, .int (x4 + 1)), (0, .ref x0), (1, .int x1), (2, .int x2), (3, .int x3), (5, .int w21)]) hx hb dX7_passes_118 hl (k := 4) rfl rfl (Nat.le_of_ble_eq_true rfl) rfl (fun ls hl => ?_)
    refine lv_goto (tgt := 3) hx hb dX7_passes_121 (by decide) ?_
    exact kI (x4 + 1) σ23 (Option.some.inj hf).symm _ _ _ hw (lv_sub hl [1, 2, 3, 4, 0] rfl)
set_option maxHeartbeats 4000000 in
theorem l_X7_passes_B3 (hC : zC p l s m args meth c cX7_passes 8 RX7 D cA B0) (hr : meth.sig.returnType = (Option.none : Option Jvm.ClassFile.FieldType)) {Γ : zSh} {x0 : Nat} {x1 : Int32} {x2 : Int32} {x3 : Int32} {σ2 : zSt} (kE : ∀ (H : Heap) (locs : List Loc) (ls : Array Slot), zO D cA B0 Γ σ2 Z s.heap H locs → lv_has ls 8 [(0, .ref x0), (1, .int x1), (2, .int x2)] → W p l e rm_X7_passes s m args below meth c H locs 0 0 Q (F0 m 124 ls [])) :
    ∀ (n : Nat) (x4 : Int32) (σ : zSt), loopM (fun q => f_X7_passes_B3 Γ x0 x1 x2 x3 q.1 q.2) n (x4, σ) = some σ2 → ∀ (H : Heap) (locs : List Loc) (ls : Array Slot), zO D cA B0 Γ σ Z s.heap H locs → lv_has ls 8 [(0, .ref x0), (1, .int x1), (2, .int x2), (3, .int x3), (4, .int x4)] → W p l e rm_X7_passes s m args below meth c H locs 0 0 Q (F0 m 3 ls []) := by
  intro n
  induction n with
  | zero => intro x4 σ h; exact absurd h (by simp [loopM])
  | succ n ih =>
    intro x4 σ h H locs ls hw hl
    obtain ⟨r, h1, h2, h3⟩ := loopM_inv h
    exact t_X7_passes_B3 hC hr h1 hw hl (fun z4 s2 e H locs ls hw hl => ih z4 s2 (h2 _ e) H locs ls hw hl) (fun s2 e H locs ls hw hl => by cases h3 _ e; exact kE H locs ls hw hl)
set_option maxHeartbeats 4000000 in
set_option maxRecDepth 100000 in
theorem t_X7_passes_B127 (hC : zC p l s m args meth c cX7_passes 8 RX7 D cA B0) (hr : meth.sig.returnType = (Option.none : Option Jvm.ClassFile.FieldType)) {Γ : zSh} {x0 : Nat} {x1 : Int32} {x2 : Int32} {x4 : Int32} {σ : zSt} {out : ((Int32 × zSt) ⊕ (zSt))} (hf : f_X7_passes_B127 Γ x0 x1 x2 x4 σ = some out) {H : Heap} {locs : List Loc} {ls : Array Slot} (hw : zO D cA B0 Γ σ Z s.heap H locs) (hl : lv_has ls 8 [(0, .ref x0), (1, .int x1), (2, .int x2), (4, .int x4)])
    (kI : ∀ (z4 : Int32) (σ2 : zSt), out = .inl (z4, σ2) → ∀ (H : Heap) (locs : List Loc) (ls : Array Slot), zO D cA B0 Γ σ2 Z s.heap H locs → lv_has ls 8 [(0, .ref x0), (1, .int x1), (2, .int x2), (4, .int z4)] → W p l e rm_X7_passes s m args below meth c H locs 0 0 Q (F0 m 127 ls []))
    (kE : ∀ (σ2 : zSt), out = .inr σ2 → ∀ (H : Heap) (locs : List Loc) (ls : Array Slot), zO D cA B0 Γ σ2 Z s.heap H locs → lv_has ls 8 [] → W p l e rm_X7_passes s m args below meth c H locs 0 0 Q (F0 m 159 ls [])) :
    W p l e rm_X7_passes s m args below meth c H locs 0 0 Q (F0 m 127 ls []) := by
  have hx := hC.1
  have hb := hC.2.1
  unfold f_X7_passes_B127 at hf
  refine lv_iload hx hb dX7_passes_127 (lv_at hl 3 rfl) ?_
  refine lv_aload_n hx hb dX7_passes_129 rfl (lv_at hl 0 rfl) ?_
  refine lv_iload_n hx hb dX7_passes_130 rfl (lv_at hl 1 rfl) ?_
  obtain ⟨ho, hf⟩ := chk_inv hf
  obtain ⟨r26, σ25, hk, hf⟩ := bnd_inv hf
  refine z_callV (As := [.int x1]) (rest := [.int x4]) (m_X7_many hC.2.2.2.2.2.2.2.2 hk) hC hw wd_X7_many lkM_X7_78 (isO_sh ho) rfl rfl ⟨rfl, rfl⟩ ⟨(Nat.le_of_ble_eq_true rfl), (Nat.le_of_ble_eq_true rfl)⟩ hl.1 rfl (Nat.le_of_ble_eq_true rfl) dX7_passes_131 ⟨(Nat.le_of_ble_eq_true rfl), (Nat.le_of_ble_eq_true rfl)⟩ (fun H locs hw => ?_)
  refine lv_icmp_ge (tgt := 159) hx hb dX7_passes_134 (by decide) (fun hc => ?_) (fun hc => ?_)
  · rw [if_pos hc] at hf
    exact kE  σ25 (Option.some.inj hf).symm _ _ _ hw (lv_sub hl [] rfl)
  · rw [if_neg hc] at hf
    refine lv_aload_n hx hb dX7_passes_137 rfl (lv_at hl 0 rfl) ?_
    obtain ⟨v27, hg, hf⟩ := gfR_inv hf
    refine r_gfR hC hw hg clX7 (Nat.le_of_ble_eq_true rfl) lkF_X7_16 rfl dX7_passes_138 ?_
    refine lv_iload_n hx hb dX7_passes_141 rfl (lv_at hl 2 rfl) ?_
    refine lv_iload hx hb dX7_passes_142 (lv_at hl 3 rfl) ?_
    refine lv_iadd hx hb dX7_passes_144 ?_
    refine lv_aload_n hx hb dX7_passes_145 rfl (lv_at hl 0 rfl) ?_
    obtain ⟨v28, hg, hf⟩ := gfR_inv hf
    refine r_gfR hC hw hg clX7 (Nat.le_of_ble_eq_true rfl) lkF_X7_19 rfl dX7_passes_146 ?_
    refine lv_iload hx hb dX7_passes_149 (lv_at hl 3 rfl) ?_
    obtain ⟨v29, hg, hf⟩ := ldI_inv hf
    refine r_ldI hC hw hg dX7_passes_151 ?_
    obtain ⟨σ30, hg, hf⟩ := stI_inv hf
    refine r_stI hC hw hg dX7_passes_152 (fun H locs hw => ?_)
    refine lv_iinc (v := (x4 + 1)) (lv' := [(4, .int (x4 + 1)), (0, .ref x0), (1, .int x1), (2, .int x2)]) hx hb dX7_passes_153 hl (k := 3) rfl rfl (Nat.le_of_ble_eq_true rfl) rfl (fun ls hl => ?_)
    refine lv_goto (tgt := 127) hx hb dX7_passes_156 (by decide) ?_
    exact kI (x4 + 1) σ30 (Option.some.inj hf).symm _ _ _ hw (lv_sub hl [1, 2, 3, 0] rfl)
set_option maxHeartbeats 4000000 in
theorem l_X7_passes_B127 (hC : zC p l s m args meth c cX7_passes 8 RX7 D cA B0) (hr : meth.sig.returnType = (Option.none : Option Jvm.ClassFile.FieldType)) {Γ : zSh} {x0 : Nat} {x1 : Int32} {x2 : Int32} {σ2 : zSt} (kE : ∀ (H : Heap) (locs : List Loc) (ls : Array Slot), zO D cA B0 Γ σ2 Z s.heap H locs → lv_has ls 8 [] → W p l e rm_X7_passes s m args below meth c H locs 0 0 Q (F0 m 159 ls [])) :
    ∀ (n : Nat) (x4 : Int32) (σ : zSt), loopM (fun q => f_X7_passes_B127 Γ x0 x1 x2 q.1 q.2) n (x4, σ) = some σ2 → ∀ (H : Heap) (locs : List Loc) (ls : Array Slot), zO D cA B0 Γ σ Z s.heap H locs → lv_has ls 8 [(0, .ref x0), (1, .int x1), (2, .int x2), (4, .int x4)] → W p l e rm_X7_passes s m args below meth c H locs 0 0 Q (F0 m 127 ls []) := by
  intro n
  induction n with
  | zero => intro x4 σ h; exact absurd h (by simp [loopM])
  | succ n ih =>
    intro x4 σ h H locs ls hw hl
    obtain ⟨r, h1, h2, h3⟩ := loopM_inv h
    exact t_X7_passes_B127 hC hr h1 hw hl (fun z4 s2 e H locs ls hw hl => ih z4 s2 (h2 _ e) H locs ls hw hl) (fun s2 e H locs ls hw hl => by cases h3 _ e; exact kE H locs ls hw hl)
set_option maxHeartbeats 4000000 in
set_option maxRecDepth 100000 in
theorem m_X7_passes (h9 : l.stackTraces = false) {Γ : zSh} {a0 : Nat} {a1 : Int32} {a2 : Int32} {a3 : Int32} {σ : zSt} {r : Unit} {σ2 : zSt} (hf : f_X7_passes Γ a0 a1 a2 a3 σ = some (r, σ2)) : Met l yX7_passes (wq yX7_passes cX7_passes 8 (Option.none : Option Jvm.ClassFile.FieldType)) rm_X7_passes (zQ0 D cA B0 [.ref a0, .int a1, .int a2, .int a3] Γ σ Z) (zQ1 D cA B0 (none) Γ σ2 Z) 0 0 (FR B0) := by
  refine z_ofW h9 (by decide) (Nat.le_of_ble_eq_true rfl) ?_
  intro p e s m args below meth c ls hC hr _ hw hl
  have hx := hC.1
  have hb := hC.2.1
  have hl : lv_has ls 8 [(0, .ref a0), (1, .int a1), (2, .int a2), (3, .int a3)] := hl
  unfold f_X7_passes at hf
  refine lv_iconst (v := 0) hx hb dX7_passes_0 (by decide) ?_
  refine lv_istore (lv' := [(4, .int 0), (0, .ref a0), (1, .int a1), (2, .int a2), (3, .int a3)]) hx hb dX7_passes_1 hl (Nat.le_of_ble_eq_true rfl) rfl (fun ls hl => ?_)
  obtain ⟨σ24, hk, hf⟩ := lb0_inv hf
  refine l_X7_passes_B3 hC hr (fun H locs ls hw hl => ?_) FUEL 0 σ hk _ _ _ hw (lv_sub hl [1, 2, 3, 4, 0] rfl)
  refine lv_iconst (v := 0) hx hb dX7_passes_124 (by decide) ?_
  refine lv_istore (lv' := [(4, .int 0), (0, .ref a0), (1, .int a1), (2, .int a2)]) hx hb dX7_passes_125 hl (Nat.le_of_ble_eq_true rfl) rfl (fun ls hl => ?_)
  obtain ⟨σ31, hk, hf⟩ := lb0_inv hf
  refine l_X7_passes_B127 hC hr (fun H locs ls hw hl => ?_) FUEL 0 σ24 hk _ _ _ hw (lv_sub hl [1, 2, 3, 0] rfl)
  first | (obtain ⟨rfl, rfl⟩ := sp_inv hf) | (obtain rfl := Option.some.inj hf)
  exact W.vret hx hb hr (z_ret hw rfl) hw.2.2.2.2.2 dX7_passes_159 hC.2.2.2.2.2.1
set_option maxHeartbeats 4000000 in
set_option maxRecDepth 100000 in
theorem t_X7_ends_B5 (hC : zC p l s m args meth c cX7_ends 5 RX7 D cA B0) (hr : meth.sig.returnType = (Option.some FieldType.int)) {Γ : zSh} {x0 : Nat} {x1 : Int32} {x2 : Int32} {x3 : Int32} {x4 : Int32} {σ : zSt} {out : ((Int32 × Int32 × zSt) ⊕ (Int32 × zSt))} (hf : f_X7_ends_B5 Γ x0 x1 x2 x3 x4 σ = some out) {H : Heap} {locs : List Loc} {ls : Array Slot} (hw : zO D cA B0 Γ σ Z s.heap H locs) (hl : lv_has ls 5 [(0, .ref x0), (1, .int x1), (2, .int x2), (3, .int x3), (4, .int x4)])
    (kI : ∀ (z3 : Int32) (z4 : Int32) (σ2 : zSt), out = .inl (z3, z4, σ2) → ∀ (H : Heap) (locs : List Loc) (ls : Array Slot), zO D cA B0 Γ σ2 Z s.heap H locs → lv_has ls 5 [(0, .ref x0), (1, .int x1), (2, .int x2), (3, .int z3), (4, .int z4)] → W p l e rm_X7_ends s m args below meth c H locs 0 0 Q (F0 m 5 ls []))
    (kE : ∀ (z3 : Int32) (σ2 : zSt), out = .inr (z3, σ2) → ∀ (H : Heap) (locs : List Loc) (ls : Array Slot), zO D cA B0 Γ σ2 Z s.heap H locs → lv_has ls 5 [(3, .int z3)] → W p l e rm_X7_ends s m args below meth c H locs 0 0 Q (F0 m 49 ls [])) :
    W p l e rm_X7_ends s m args below meth c H locs 0 0 Q (F0 m 5 ls []) := by
  have hx := hC.1
  have hb := hC.2.1
  unfold f_X7_ends_B5 at hf
  refine lv_iload hx hb dX7_ends_5 (lv_at hl 4 rfl) ?_
  refine lv_aload_n hx hb dX7_ends_7 rfl (lv_at hl 0 rfl) ?_
  refine lv_iload_n hx hb dX7_ends_8 rfl (lv_at hl 1 rfl) ?_
  obtain ⟨ho, hf⟩ := chk_inv hf
  obtain ⟨r2, σ1, hk, hf⟩ := bnd_inv hf
  refine z_callV (As := [.int x1]) (rest := [.int x4]) (m_X7_many hC.2.2.2.2.2.2.2.2 hk) hC hw wd_X7_many lkM_X7_78 (isO_sh ho) rfl rfl ⟨rfl, rfl⟩ ⟨(Nat.le_of_ble_eq_true rfl), (Nat.le_of_ble_eq_true rfl)⟩ hl.1 rfl (Nat.le_of_ble_eq_true rfl) dX7_ends_9 ⟨(Nat.le_of_ble_eq_true rfl), (Nat.le_of_ble_eq_true rfl)⟩ (fun H locs hw => ?_)
  refine lv_icmp_ge (tgt := 49) hx hb dX7_ends_12 (by decide) (fun hc => ?_) (fun hc => ?_)
  · rw [if_pos hc] at hf
    exact kE x3 σ1 (Option.some.inj hf).symm _ _ _ hw (lv_sub hl [3] rfl)
  · rw [if_neg hc] at hf
    refine lv_iload_n hx hb dX7_ends_15 rfl (lv_at hl 3 rfl) ?_
    refine lv_aload_n hx hb dX7_ends_16 rfl (lv_at hl 0 rfl) ?_
    obtain ⟨v3, hg, hf⟩ := gfR_inv hf
    refine r_gfR hC hw hg clX7 (Nat.le_of_ble_eq_true rfl) lkF_X7_16 rfl dX7_ends_17 ?_
    refine lv_iload_n hx hb dX7_ends_20 rfl (lv_at hl 2 rfl) ?_
    refine lv_iload hx hb dX7_ends_21 (lv_at hl 4 rfl) ?_
    refine lv_iadd hx hb dX7_ends_23 ?_
    obtain ⟨v4, hg, hf⟩ := ldI_inv hf
    refine r_ldI hC hw hg dX7_ends_24 ?_
    refine lv_aload_n hx hb dX7_ends_25 rfl (lv_at hl 0 rfl) ?_
    obtain ⟨v5, hg, hf⟩ := gfR_inv hf
    refine r_gfR hC hw hg clX7 (Nat.le_of_ble_eq_true rfl) lkF_X7_7 rfl dX7_ends_26 ?_
    refine lv_iload_n hx hb dX7_ends_29 rfl (lv_at hl 1 rfl) ?_
    refine lv_iload hx hb dX7_ends_30 (lv_at hl 4 rfl) ?_
    obtain ⟨r7, σ6, hk, hf⟩ := bnd_inv hf
    refine z_callS (As := [.int x1, .int x4]) (rest := [.ref v5, .int v4, .int x3]) (m_X7_finalAt hC.2.2.2.2.2.2.2.2 hk) hC hw wd_X7_finalAt lkM_X7_85 rfl ⟨rfl, rfl⟩ ⟨(Nat.le_of_ble_eq_true rfl), (Nat.le_of_ble_eq_true rfl)⟩ hl.1 rfl (Nat.le_of_ble_eq_true rfl) dX7_ends_32 ⟨(Nat.le_of_ble_eq_true rfl), (Nat.le_of_ble_eq_true rfl)⟩ (fun H locs hw => ?_)
    obtain ⟨v8, hg, hf⟩ := ldI_inv hf
    refine r_ldI hC hw hg dX7_ends_35 ?_
    refine lv_imul hx hb dX7_ends_36 ?_
    refine lv_iadd hx hb dX7_ends_37 ?_
    refine lv_sipush (v := 10007) hx hb dX7_ends_38 (by decide) ?_
    obtain ⟨v9, hg, hf⟩ := rmI_inv hf
    refine r_rmI hC hg dX7_ends_41 ?_
    refine lv_istore_n (lv' := [(3, .int v9), (0, .ref x0), (1, .int x1), (2, .int x2), (4, .int x4)]) hx hb dX7_ends_42 rfl hl (Nat.le_of_ble_eq_true rfl) rfl (fun ls hl => ?_)
    refine lv_iinc (v := (x4 + 1)) (lv' := [(4, .int (x4 + 1)), (3, .int v9), (0, .ref x0), (1, .int x1), (2, .int x2)]) hx hb dX7_ends_43 hl (k := 4) rfl rfl (Nat.le_of_ble_eq_true rfl) rfl (fun ls hl => ?_)
    refine lv_goto (tgt := 5) hx hb dX7_ends_46 (by decide) ?_
    exact kI v9 (x4 + 1) σ6 (Option.some.inj hf).symm _ _ _ hw (lv_sub hl [2, 3, 4, 1, 0] rfl)
set_option maxHeartbeats 4000000 in
theorem l_X7_ends_B5 (hC : zC p l s m args meth c cX7_ends 5 RX7 D cA B0) (hr : meth.sig.returnType = (Option.some FieldType.int)) {Γ : zSh} {x0 : Nat} {x1 : Int32} {x2 : Int32} {w3 : Int32} {σ2 : zSt} (kE : ∀ (H : Heap) (locs : List Loc) (ls : Array Slot), zO D cA B0 Γ σ2 Z s.heap H locs → lv_has ls 5 [(3, .int w3)] → W p l e rm_X7_ends s m args below meth c H locs 0 0 Q (F0 m 49 ls [])) :
    ∀ (n : Nat) (x3 : Int32) (x4 : Int32) (σ : zSt), loopM (fun q => f_X7_ends_B5 Γ x0 x1 x2 q.1 q.2.1 q.2.2) n (x3, x4, σ) = some (w3, σ2) → ∀ (H : Heap) (locs : List Loc) (ls : Array Slot), zO D cA B0 Γ σ Z s.heap H locs → lv_has ls 5 [(0, .ref x0), (1, .int x1), (2, .int x2), (3, .int x3), (4, .int x4)] → W p l e rm_X7_ends s m args below meth c H locs 0 0 Q (F0 m 5 ls []) := by
  intro n
  induction n with
  | zero => intro x3 x4 σ h; exact absurd h (by simp [loopM])
  | succ n ih =>
    intro x3 x4 σ h H locs ls hw hl
    obtain ⟨r, h1, h2, h3⟩ := loopM_inv h
    exact t_X7_ends_B5 hC hr h1 hw hl (fun z3 z4 s2 e H locs ls hw hl => ih z3 z4 s2 (h2 _ e) H locs ls hw hl) (fun z3 s2 e H locs ls hw hl => by cases h3 _ e; exact kE H locs ls hw hl)
set_option maxHeartbeats 4000000 in
set_option maxRecDepth 100000 in
theorem m_X7_ends (h9 : l.stackTraces = false) {Γ : zSh} {a0 : Nat} {a1 : Int32} {a2 : Int32} {σ : zSt} {r : Int32} {σ2 : zSt} (hf : f_X7_ends Γ a0 a1 a2 σ = some (r, σ2)) : Met l yX7_ends (wq yX7_ends cX7_ends 5 (Option.some FieldType.int)) rm_X7_ends (zQ0 D cA B0 [.ref a0, .int a1, .int a2] Γ σ Z) (zQ1 D cA B0 (some (.int r)) Γ σ2 Z) 0 0 (FR B0) := by
  refine z_ofW h9 (by decide) (Nat.le_of_ble_eq_true rfl) ?_
  intro p e s m args below meth c ls hC hr _ hw hl
  have hx := hC.1
  have hb := hC.2.1
  have hl : lv_has ls 5 [(0, .ref a0), (1, .int a1), (2, .int a2)] := hl
  unfold f_X7_ends at hf
  refine lv_iconst (v := 0) hx hb dX7_ends_0 (by decide) ?_
  refine lv_istore_n (lv' := [(3, .int 0), (0, .ref a0), (1, .int a1), (2, .int a2)]) hx hb dX7_ends_1 rfl hl (Nat.le_of_ble_eq_true rfl) rfl (fun ls hl => ?_)
  refine lv_iconst (v := 0) hx hb dX7_ends_2 (by decide) ?_
  refine lv_istore (lv' := [(4, .int 0), (3, .int 0), (0, .ref a0), (1, .int a1), (2, .int a2)]) hx hb dX7_ends_3 hl (Nat.le_of_ble_eq_true rfl) rfl (fun ls hl => ?_)
  obtain ⟨w11, σ10, hk, hf⟩ := lb1_inv hf
  refine l_X7_ends_B5 hC hr (fun H locs ls hw hl => ?_) FUEL 0 0 σ hk _ _ _ hw (lv_sub hl [2, 3, 4, 1, 0] rfl)
  refine lv_iload_n hx hb dX7_ends_49 rfl (lv_at hl 0 rfl) ?_
  first | (obtain ⟨rfl, rfl⟩ := sp_inv hf) | (obtain rfl := Option.some.inj hf)
  exact W.iret hx hb hr (z_ret hw rfl) hw.2.2.2.2.2 dX7_ends_50 hC.2.2.2.2.2.1
set_option maxHeartbeats 4000000 in
set_option maxRecDepth 100000 in
theorem t_X7_passesWord_B2 (hC : zC p l s m args meth c cX7_passesWord 5 RX7 D cA B0) (hr : meth.sig.returnType = (Option.none : Option Jvm.ClassFile.FieldType)) {Γ : zSh} {x0 : Nat} {x1 : Int32} {x2 : Int32} {x3 : Int32} {σ : zSt} {out : ((Int32 × zSt) ⊕ (Int32 × zSt))} (hf : f_X7_passesWord_B2 Γ x0 x1 x2 x3 σ = some out) {H : Heap} {locs : List Loc} {ls : Array Slot} (hw : zO D cA B0 Γ σ Z s.heap H locs) (hl : lv_has ls 5 [(0, .ref x0), (1, .int x1), (2, .int x2), (3, .int x3)])
    (kI : ∀ (z3 : Int32) (σ2 : zSt), out = .inl (z3, σ2) → ∀ (H : Heap) (locs : List Loc) (ls : Array Slot), zO D cA B0 Γ σ2 Z s.heap H locs → lv_has ls 5 [(0, .ref x0), (1, .int x1), (2, .int x2), (3, .int z3)] → W p l e rm_X7_passesWord s m args below meth c H locs 0 0 Q (F0 m 2 ls []))
    (kE : ∀ (z3 : Int32) (σ2 : zSt), out = .inr (z3, σ2) → ∀ (H : Heap) (locs : List Loc) (ls : Array Slot), zO D cA B0 Γ σ2 Z s.heap H locs → lv_has ls 5 [(0, .ref x0), (1, .int x1), (2, .int x2), (3, .int z3)] → W p l e rm_X7_passesWord s m args below meth c H locs 0 0 Q (F0 m 18 ls [])) :
    W p l e rm_X7_passesWord s m args below meth c H locs 0 0 Q (F0 m 2 ls []) := by
  have hx := hC.1
  have hb := hC.2.1
  unfold f_X7_passesWord_B2 at hf
  refine lv_iconst (v := 2) hx hb dX7_passesWord_2 (by decide) ?_
  refine lv_iload_n hx hb dX7_passesWord_3 rfl (lv_at hl 3 rfl) ?_
  refine lv_imul hx hb dX7_passesWord_4 ?_
  refine lv_iload_n hx hb dX7_passesWord_5 rfl (lv_at hl 2 rfl) ?_
  refine lv_iconst (v := 1) hx hb dX7_passesWord_6 (by decide) ?_
  refine lv_iadd hx hb dX7_passesWord_7 ?_
  refine lv_icmp_gt (tgt := 18) hx hb dX7_passesWord_8 (by decide) (fun hc => ?_) (fun hc => ?_)
  · rw [if_pos hc] at hf
    exact kE x3 σ (Option.some.inj hf).symm _ _ _ hw (lv_sub hl [0, 1, 2, 3] rfl)
  · rw [if_neg hc] at hf
    refine lv_iload_n hx hb dX7_passesWord_11 rfl (lv_at hl 3 rfl) ?_
    refine lv_iconst (v := 2) hx hb dX7_passesWord_12 (by decide) ?_
    refine lv_imul hx hb dX7_passesWord_13 ?_
    refine lv_istore_n (lv' := [(3, .int (x3 * 2)), (0, .ref x0), (1, .int x1), (2, .int x2)]) hx hb dX7_passesWord_14 rfl hl (Nat.le_of_ble_eq_true rfl) rfl (fun ls hl => ?_)
    refine lv_goto (tgt := 2) hx hb dX7_passesWord_15 (by decide) ?_
    exact kI (x3 * 2) σ (Option.some.inj hf).symm _ _ _ hw (lv_sub hl [1, 2, 3, 0] rfl)
set_option maxHeartbeats 4000000 in
theorem l_X7_passesWord_B2 (hC : zC p l s m args meth c cX7_passesWord 5 RX7 D cA B0) (hr : meth.sig.returnType = (Option.none : Option Jvm.ClassFile.FieldType)) {Γ : zSh} {x0 : Nat} {x1 : Int32} {x2 : Int32} {w3 : Int32} {σ2 : zSt} (kE : ∀ (H : Heap) (locs : List Loc) (ls : Array Slot), zO D cA B0 Γ σ2 Z s.heap H locs → lv_has ls 5 [(0, .ref x0), (1, .int x1), (2, .int x2), (3, .int w3)] → W p l e rm_X7_passesWord s m args below meth c H locs 0 0 Q (F0 m 18 ls [])) :
    ∀ (n : Nat) (x3 : Int32) (σ : zSt), loopM (fun q => f_X7_passesWord_B2 Γ x0 x1 x2 q.1 q.2) n (x3, σ) = some (w3, σ2) → ∀ (H : Heap) (locs : List Loc) (ls : Array Slot), zO D cA B0 Γ σ Z s.heap H locs → lv_has ls 5 [(0, .ref x0), (1, .int x1), (2, .int x2), (3, .int x3)] → W p l e rm_X7_passesWord s m args below meth c H locs 0 0 Q (F0 m 2 ls []) := by
  intro n
  induction n with
  | zero => intro x3 σ h; exact absurd h (by simp [loopM])
  | succ n ih =>
    intro x3 σ h H locs ls hw hl
    obtain ⟨r, h1, h2, h3⟩ := loopM_inv h
    exact t_X7_passesWord_B2 hC hr h1 hw hl (fun z3 s2 e H locs ls hw hl => ih z3 s2 (h2 _ e) H locs ls hw hl) (fun z3 s2 e H locs ls hw hl => by cases h3 _ e; exact kE H locs ls hw hl)
set_option maxHeartbeats 4000000 in
set_option maxRecDepth 100000 in
theorem t_X7_passesWord_B23 (hC : zC p l s m args meth c cX7_passesWord 5 RX7 D cA B0) (hr : meth.sig.returnType = (Option.none : Option Jvm.ClassFile.FieldType)) {Γ : zSh} {x0 : Nat} {x1 : Int32} {x2 : Int32} {x4 : Int32} {σ : zSt} {out : ((Int32 × zSt) ⊕ (zSt))} (hf : f_X7_passesWord_B23 Γ x0 x1 x2 x4 σ = some out) {H : Heap} {locs : List Loc} {ls : Array Slot} (hw : zO D cA B0 Γ σ Z s.heap H locs) (hl : lv_has ls 5 [(0, .ref x0), (1, .int x1), (2, .int x2), (4, .int x4)])
    (kI : ∀ (z4 : Int32) (σ2 : zSt), out = .inl (z4, σ2) → ∀ (H : Heap) (locs : List Loc) (ls : Array Slot), zO D cA B0 Γ σ2 Z s.heap H locs → lv_has ls 5 [(0, .ref x0), (1, .int x1), (2, .int x2), (4, .int z4)] → W p l e rm_X7_passesWord s m args below meth c H locs 0 0 Q (F0 m 23 ls []))
    (kE : ∀ (σ2 : zSt), out = .inr σ2 → ∀ (H : Heap) (locs : List Loc) (ls : Array Slot), zO D cA B0 Γ σ2 Z s.heap H locs → lv_has ls 5 [] → W p l e rm_X7_passesWord s m args below meth c H locs 0 0 Q (F0 m 51 ls [])) :
    W p l e rm_X7_passesWord s m args below meth c H locs 0 0 Q (F0 m 23 ls []) := by
  have hx := hC.1
  have hb := hC.2.1
  unfold f_X7_passesWord_B23 at hf
  refine lv_iload hx hb dX7_passesWord_23 (lv_at hl 3 rfl) ?_
  refine lv_if_le (tgt := 51) hx hb dX7_passesWord_25 (by decide) (fun hc => ?_) (fun hc => ?_)
  · rw [if_pos hc] at hf
    exact kE  σ (Option.some.inj hf).symm _ _ _ hw (lv_sub hl [] rfl)
  · rw [if_neg hc] at hf
    refine lv_aload_n hx hb dX7_passesWord_28 rfl (lv_at hl 0 rfl) ?_
    refine lv_iload_n hx hb dX7_passesWord_29 rfl (lv_at hl 1 rfl) ?_
    refine lv_iconst (v := 0) hx hb dX7_passesWord_30 (by decide) ?_
    refine lv_iload_n hx hb dX7_passesWord_31 rfl (lv_at hl 2 rfl) ?_
    refine lv_iconst (v := 1) hx hb dX7_passesWord_32 (by decide) ?_
    refine lv_iadd hx hb dX7_passesWord_33 ?_
    refine lv_iload hx hb dX7_passesWord_34 (lv_at hl 3 rfl) ?_
    obtain ⟨v4, hg, hf⟩ := dvI_inv hf
    refine r_dvI hC hg dX7_passesWord_36 ?_
    refine lv_iconst (v := 2) hx hb dX7_passesWord_37 (by decide) ?_
    obtain ⟨v5, hg, hf⟩ := rmI_inv hf
    refine r_rmI hC hg dX7_passesWord_38 ?_
    obtain ⟨ho, hf⟩ := chk_inv hf
    obtain ⟨_, σ6, hk, hf⟩ := bnd_inv hf
    refine z_callV (As := [.int x1, .int 0, .int v5]) (rest := []) (m_X7_passes hC.2.2.2.2.2.2.2.2 hk) hC hw wd_X7_passes lkM_X7_143 (isO_sh ho) rfl rfl ⟨rfl, rfl⟩ ⟨(Nat.le_of_ble_eq_true rfl), (Nat.le_of_ble_eq_true rfl)⟩ hl.1 rfl (Nat.le_of_ble_eq_true rfl) dX7_passesWord_39 ⟨(Nat.le_of_ble_eq_true rfl), (Nat.le_of_ble_eq_true rfl)⟩ (fun H locs hw => ?_)
    refine lv_iload hx hb dX7_passesWord_42 (lv_at hl 3 rfl) ?_
    refine lv_iconst (v := 2) hx hb dX7_passesWord_44 (by decide) ?_
    obtain ⟨v7, hg, hf⟩ := dvI_inv hf
    refine r_dvI hC hg dX7_passesWord_45 ?_
    refine lv_istore (lv' := [(4, .int v7), (0, .ref x0), (1, .int x1), (2, .int x2)]) hx hb dX7_passesWord_46 hl (Nat.le_of_ble_eq_true rfl) rfl (fun ls hl => ?_)
    refine lv_goto (tgt := 23) hx hb dX7_passesWord_48 (by decide) ?_
    exact kI v7 σ6 (Option.some.inj hf).symm _ _ _ hw (lv_sub hl [1, 2, 3, 0] rfl)
set_option maxHeartbeats 4000000 in
theorem l_X7_passesWord_B23 (hC : zC p l s m args meth c cX7_passesWord 5 RX7 D cA B0) (hr : meth.sig.returnType = (Option.none : Option Jvm.ClassFile.FieldType)) {Γ : zSh} {x0 : Nat} {x1 : Int32} {x2 : Int32} {σ2 : zSt} (kE : ∀ (H : Heap) (locs : List Loc) (ls : Array Slot), zO D cA B0 Γ σ2 Z s.heap H locs → lv_has ls 5 [] → W p l e rm_X7_passesWord s m args below meth c H locs 0 0 Q (F0 m 51 ls [])) :
    ∀ (n : Nat) (x4 : Int32) (σ : zSt), loopM (fun q => f_X7_passesWord_B23 Γ x0 x1 x2 q.1 q.2) n (x4, σ) = some σ2 → ∀ (H : Heap) (locs : List Loc) (ls : Array Slot), zO D cA B0 Γ σ Z s.heap H locs → lv_has ls 5 [(0, .ref x0), (1, .int x1), (2, .int x2), (4, .int x4)] → W p l e rm_X7_passesWord s m args below meth c H locs 0 0 Q (F0 m 23 ls []) := by
  intro n
  induction n with
  | zero => intro x4 σ h; exact absurd h (by simp [loopM])
  | succ n ih =>
    intro x4 σ h H locs ls hw hl
    obtain ⟨r, h1, h2, h3⟩ := loopM_inv h
    exact t_X7_passesWord_B23 hC hr h1 hw hl (fun z4 s2 e H locs ls hw hl => ih z4 s2 (h2 _ e) H locs ls hw hl) (fun s2 e H locs ls hw hl => by cases h3 _ e; exact kE H locs ls hw hl)
set_option maxHeartbeats 4000000 in
set_option maxRecDepth 100000 in
theorem m_X7_passesWord (h9 : l.stackTraces = false) {Γ : zSh} {a0 : Nat} {a1 : Int32} {a2 : Int32} {σ : zSt} {r : Unit} {σ2 : zSt} (hf : f_X7_passesWord Γ a0 a1 a2 σ = some (r, σ2)) : Met l yX7_passesWord (wq yX7_passesWord cX7_passesWord 5 (Option.none : Option Jvm.ClassFile.FieldType)) rm_X7_passesWord (zQ0 D cA B0 [.ref a0, .int a1, .int a2] Γ σ Z) (zQ1 D cA B0 (none) Γ σ2 Z) 0 0 (FR B0) := by
  refine z_ofW h9 (by decide) (Nat.le_of_ble_eq_true rfl) ?_
  intro p e s m args below meth c ls hC hr _ hw hl
  have hx := hC.1
  have hb := hC.2.1
  have hl : lv_has ls 5 [(0, .ref a0), (1, .int a1), (2, .int a2)] := hl
  unfold f_X7_passesWord at hf
  refine lv_iconst (v := 1) hx hb dX7_passesWord_0 (by decide) ?_
  refine lv_istore_n (lv' := [(3, .int 1), (0, .ref a0), (1, .int a1), (2, .int a2)]) hx hb dX7_passesWord_1 rfl hl (Nat.le_of_ble_eq_true rfl) rfl (fun ls hl => ?_)
  obtain ⟨w2, σ1, hk, hf⟩ := lb1_inv hf
  refine l_X7_passesWord_B2 hC hr (fun H locs ls hw hl => ?_) FUEL 1 σ hk _ _ _ hw (lv_sub hl [1, 2, 3, 0] rfl)
  refine lv_iload_n hx hb dX7_passesWord_18 rfl (lv_at hl 3 rfl) ?_
  refine lv_iconst (v := 2) hx hb dX7_passesWord_19 (by decide) ?_
  obtain ⟨v3, hg, hf⟩ := dvI_inv hf
  refine r_dvI hC hg dX7_passesWord_20 ?_
  refine lv_istore (lv' := [(4, .int v3), (0, .ref a0), (1, .int a1), (2, .int a2), (3, .int w2)]) hx hb dX7_passesWord_21 hl (Nat.le_of_ble_eq_true rfl) rfl (fun ls hl => ?_)
  obtain ⟨σ8, hk, hf⟩ := lb0_inv hf
  refine l_X7_passesWord_B23 hC hr (fun H locs ls hw hl => ?_) FUEL v3 σ1 hk _ _ _ hw (lv_sub hl [1, 2, 3, 0] rfl)
  first | (obtain ⟨rfl, rfl⟩ := sp_inv hf) | (obtain rfl := Option.some.inj hf)
  exact W.vret hx hb hr (z_ret hw rfl) hw.2.2.2.2.2 dX7_passesWord_51 hC.2.2.2.2.2.1
set_option maxHeartbeats 4000000 in
set_option maxRecDepth 100000 in
theorem m_X7_weighs (h9 : l.stackTraces = false) {Γ : zSh} {a0 : Nat} {a1 : Int32} {a2 : Int32} {σ : zSt} {r : Int32} {σ2 : zSt} (hf : f_X7_weighs Γ a0 a1 a2 σ = some (r, σ2)) : Met l yX7_weighs (wq yX7_weighs cX7_weighs 3 (Option.some FieldType.int)) rm_X7_weighs (zQ0 D cA B0 [.ref a0, .int a1, .int a2] Γ σ Z) (zQ1 D cA B0 (some (.int r)) Γ σ2 Z) 0 0 (FR B0) := by
  refine z_ofW h9 (by decide) (Nat.le_of_ble_eq_true rfl) ?_
  intro p e s m args below meth c ls hC hr _ hw hl
  have hx := hC.1
  have hb := hC.2.1
  have hl : lv_has ls 3 [(0, .ref a0), (1, .int a1), (2, .int a2)] := hl
  unfold f_X7_weighs at hf
  refine lv_aload_n hx hb dX7_weighs_0 rfl (lv_at hl 0 rfl) ?_
  refine lv_iload_n hx hb dX7_weighs_1 rfl (lv_at hl 1 rfl) ?_
  refine lv_iconst (v := 0) hx hb dX7_weighs_2 (by decide) ?_
  obtain ⟨ho, hf⟩ := chk_inv hf
  obtain ⟨_, σ1, hk, hf⟩ := bnd_inv hf
  refine z_callV (As := [.int a1, .int 0]) (rest := []) (m_X7_laysInitial hC.2.2.2.2.2.2.2.2 hk) hC hw wd_X7_laysInitial lkM_X7_147 (isO_sh ho) rfl rfl ⟨rfl, rfl⟩ ⟨(Nat.le_of_ble_eq_true rfl), (Nat.le_of_ble_eq_true rfl)⟩ hl.1 rfl (Nat.le_of_ble_eq_true rfl) dX7_weighs_3 ⟨(Nat.le_of_ble_eq_true rfl), (Nat.le_of_ble_eq_true rfl)⟩ (fun H locs hw => ?_)
  refine lv_aload_n hx hb dX7_weighs_6 rfl (lv_at hl 0 rfl) ?_
  refine lv_iload_n hx hb dX7_weighs_7 rfl (lv_at hl 1 rfl) ?_
  refine lv_iload_n hx hb dX7_weighs_8 rfl (lv_at hl 2 rfl) ?_
  obtain ⟨ho, hf⟩ := chk_inv hf
  obtain ⟨_, σ2, hk, hf⟩ := bnd_inv hf
  refine z_callV (As := [.int a1, .int a2]) (rest := []) (m_X7_passesWord hC.2.2.2.2.2.2.2.2 hk) hC hw wd_X7_passesWord lkM_X7_150 (isO_sh ho) rfl rfl ⟨rfl, rfl⟩ ⟨(Nat.le_of_ble_eq_true rfl), (Nat.le_of_ble_eq_true rfl)⟩ hl.1 rfl (Nat.le_of_ble_eq_true rfl) dX7_weighs_9 ⟨(Nat.le_of_ble_eq_true rfl), (Nat.le_of_ble_eq_true rfl)⟩ (fun H locs hw => ?_)
  refine lv_aload_n hx hb dX7_weighs_12 rfl (lv_at hl 0 rfl) ?_
  refine lv_iload_n hx hb dX7_weighs_13 rfl (lv_at hl 1 rfl) ?_
  refine lv_iconst (v := 0) hx hb dX7_weighs_14 (by decide) ?_
  obtain ⟨ho, hf⟩ := chk_inv hf
  obtain ⟨r4, σ3, hk, hf⟩ := bnd_inv hf
  refine z_callV (As := [.int a1, .int 0]) (rest := []) (m_X7_ends hC.2.2.2.2.2.2.2.2 hk) hC hw wd_X7_ends lkM_X7_153 (isO_sh ho) rfl rfl ⟨rfl, rfl⟩ ⟨(Nat.le_of_ble_eq_true rfl), (Nat.le_of_ble_eq_true rfl)⟩ hl.1 rfl (Nat.le_of_ble_eq_true rfl) dX7_weighs_15 ⟨(Nat.le_of_ble_eq_true rfl), (Nat.le_of_ble_eq_true rfl)⟩ (fun H locs hw => ?_)
  first | (obtain ⟨rfl, rfl⟩ := sp_inv hf) | (obtain rfl := Option.some.inj hf)
  exact W.iret hx hb hr (z_ret hw rfl) hw.2.2.2.2.2 dX7_weighs_18 hC.2.2.2.2.2.1
set_option maxHeartbeats 4000000 in
set_option maxRecDepth 100000 in
theorem t_X7_weight_L31 (hC : zC p l s m args meth c cX7_weight 3 RX7 D cA B0) (hr : meth.sig.returnType = (Option.some FieldType.int)) {Γ : zSh} {s0 : Int32} {σ : zSt} {out : (Int32 × zSt)} (hf : f_X7_weight_L31 Γ s0 σ = some out) {H : Heap} {locs : List Loc} {ls : Array Slot} (hw : zO D cA B0 Γ σ Z s.heap H locs) (hl : lv_has ls 3 []) :
    W p l e rm_X7_weight s m args below meth c H locs 0 0 (MQ below (zQ1 D cA B0 (some (.int out.1)) Γ out.2 Z) args s 0 0 (FR B0)) (F0 m 31 ls [.int s0]) := by
  have hx := hC.1
  have hb := hC.2.1
  unfold f_X7_weight_L31 at hf
  first | (obtain ⟨rfl, rfl⟩ := sp_inv hf) | (obtain rfl := Option.some.inj hf)
  exact W.iret hx hb hr (z_ret hw rfl) hw.2.2.2.2.2 dX7_weight_31 hC.2.2.2.2.2.1
set_option maxHeartbeats 4000000 in
set_option maxRecDepth 100000 in
theorem m_X7_weight (h9 : l.stackTraces = false) {Γ : zSh} {a0 : Nat} {a1 : Int32} {a2 : Int32} {σ : zSt} {r : Int32} {σ2 : zSt} (hf : f_X7_weight Γ a0 a1 a2 σ = some (r, σ2)) : Met l yX7_weight (wq yX7_weight cX7_weight 3 (Option.some FieldType.int)) rm_X7_weight (zQ0 D cA B0 [.ref a0, .int a1, .int a2] Γ σ Z) (zQ1 D cA B0 (some (.int r)) Γ σ2 Z) 0 0 (FR B0) := by
  refine z_ofW h9 (by decide) (Nat.le_of_ble_eq_true rfl) ?_
  intro p e s m args below meth c ls hC hr _ hw hl
  have hx := hC.1
  have hb := hC.2.1
  have hl : lv_has ls 3 [(0, .ref a0), (1, .int a1), (2, .int a2)] := hl
  unfold f_X7_weight at hf
  refine lv_aload_n hx hb dX7_weight_0 rfl (lv_at hl 0 rfl) ?_
  refine lv_iload_n hx hb dX7_weight_1 rfl (lv_at hl 1 rfl) ?_
  obtain ⟨r2, σ1, hk, hf⟩ := bnd_inv hf
  refine z_callS (As := [.int a1]) (rest := [.ref a0]) (m_X7_isSlot hC.2.2.2.2.2.2.2.2 hk) hC hw wd_X7_isSlot lkM_X7_88 rfl ⟨rfl, rfl⟩ ⟨(Nat.le_of_ble_eq_true rfl), (Nat.le_of_ble_eq_true rfl)⟩ hl.1 rfl (Nat.le_of_ble_eq_true rfl) dX7_weight_2 ⟨(Nat.le_of_ble_eq_true rfl), (Nat.le_of_ble_eq_true rfl)⟩ (fun H locs hw => ?_)
  refine lv_iload_n hx hb dX7_weight_5 rfl (lv_at hl 2 rfl) ?_
  refine lv_i2l hx hb dX7_weight_6 rfl ?_
  refine lv_lconst (v := 0) hx hb dX7_weight_7 (by decide) ?_
  refine lv_ldc2 (v := 1000000) hx hb hC.2.2.2.1 (hC.2.2.2.2.1 _ lkJ_X7_156) dX7_weight_8 ?_
  obtain ⟨r4, σ3, hk, hf⟩ := bnd_inv hf
  refine z_callS (As := [.long (a2.toInt64), .long 0, .long 1000000]) (rest := [.int r2, .ref a0]) (m_X7_in hC.2.2.2.2.2.2.2.2 hk) hC hw wd_X7_in lkM_X7_68 rfl ⟨rfl, rfl⟩ ⟨(Nat.le_of_ble_eq_true rfl), (Nat.le_of_ble_eq_true rfl)⟩ hl.1 rfl (Nat.le_of_ble_eq_true rfl) dX7_weight_11 ⟨(Nat.le_of_ble_eq_true rfl), (Nat.le_of_ble_eq_true rfl)⟩ (fun H locs hw => ?_)
  refine lv_iconst (v := 1) hx hb dX7_weight_14 (by decide) ?_
  obtain ⟨ho, hf⟩ := chk_inv hf
  obtain ⟨r6, σ5, hk, hf⟩ := bnd_inv hf
  refine z_callV (As := [.int r2, .int r4, .int 1]) (rest := []) (m_X7_goes hC.2.2.2.2.2.2.2.2 hk) hC hw wd_X7_goes lkM_X7_94 (isO_sh ho) rfl rfl ⟨rfl, rfl⟩ ⟨(Nat.le_of_ble_eq_true rfl), (Nat.le_of_ble_eq_true rfl)⟩ hl.1 rfl (Nat.le_of_ble_eq_true rfl) dX7_weight_15 ⟨(Nat.le_of_ble_eq_true rfl), (Nat.le_of_ble_eq_true rfl)⟩ (fun H locs hw => ?_)
  refine lv_if_eq (tgt := 30) hx hb dX7_weight_18 (by decide) (fun hc => ?_) (fun hc => ?_)
  · rw [if_pos hc] at hf
    refine lv_iconst (v := 0) hx hb dX7_weight_30 (by decide) ?_
    exact t_X7_weight_L31 hC hr hf hw (lv_sub hl [] rfl)
  · rw [if_neg hc] at hf
    refine lv_aload_n hx hb dX7_weight_21 rfl (lv_at hl 0 rfl) ?_
    refine lv_iload_n hx hb dX7_weight_22 rfl (lv_at hl 1 rfl) ?_
    refine lv_iload_n hx hb dX7_weight_23 rfl (lv_at hl 2 rfl) ?_
    obtain ⟨ho, hf⟩ := chk_inv hf
    obtain ⟨r8, σ7, hk, hf⟩ := bnd_inv hf
    refine z_callV (As := [.int a1, .int a2]) (rest := []) (m_X7_weighs hC.2.2.2.2.2.2.2.2 hk) hC hw wd_X7_weighs lkM_X7_158 (isO_sh ho) rfl rfl ⟨rfl, rfl⟩ ⟨(Nat.le_of_ble_eq_true rfl), (Nat.le_of_ble_eq_true rfl)⟩ hl.1 rfl (Nat.le_of_ble_eq_true rfl) dX7_weight_24 ⟨(Nat.le_of_ble_eq_true rfl), (Nat.le_of_ble_eq_true rfl)⟩ (fun H locs hw => ?_)
    refine lv_goto (tgt := 31) hx hb dX7_weight_27 (by decide) ?_
    exact t_X7_weight_L31 hC hr hf hw (lv_sub hl [] rfl)
set_option maxHeartbeats 4000000 in
set_option maxRecDepth 100000 in
theorem t_X7_powerWeight_B52 (hC : zC p l s m args meth c cX7_powerWeight 5 RX7 D cA B0) (hr : meth.sig.returnType = (Option.some FieldType.int)) {Γ : zSh} {x0 : Nat} {x1 : Int32} {x2 : Int32} {x3 : Int32} {x4 : Int32} {σ : zSt} {out : ((Int32 × zSt) ⊕ (zSt))} (hf : f_X7_powerWeight_B52 Γ x0 x1 x2 x3 x4 σ = some out) {H : Heap} {locs : List Loc} {ls : Array Slot} (hw : zO D cA B0 Γ σ Z s.heap H locs) (hl : lv_has ls 5 [(0, .ref x0), (1, .int x1), (2, .int x2), (3, .int x3), (4, .int x4)])
    (kI : ∀ (z4 : Int32) (σ2 : zSt), out = .inl (z4, σ2) → ∀ (H : Heap) (locs : List Loc) (ls : Array Slot), zO D cA B0 Γ σ2 Z s.heap H locs → lv_has ls 5 [(0, .ref x0), (1, .int x1), (2, .int x2), (3, .int x3), (4, .int z4)] → W p l e rm_X7_powerWeight s m args below meth c H locs 0 0 Q (F0 m 52 ls []))
    (kE : ∀ (σ2 : zSt), out = .inr σ2 → ∀ (H : Heap) (locs : List Loc) (ls : Array Slot), zO D cA B0 Γ σ2 Z s.heap H locs → lv_has ls 5 [(0, .ref x0), (1, .int x1)] → W p l e rm_X7_powerWeight s m args below meth c H locs 0 0 Q (F0 m 70 ls [])) :
    W p l e rm_X7_powerWeight s m args below meth c H locs 0 0 Q (F0 m 52 ls []) := by
  have hx := hC.1
  have hb := hC.2.1
  unfold f_X7_powerWeight_B52 at hf
  refine lv_iload hx hb dX7_powerWeight_52 (lv_at hl 4 rfl) ?_
  refine lv_iload_n hx hb dX7_powerWeight_54 rfl (lv_at hl 3 rfl) ?_
  refine lv_icmp_ge (tgt := 70) hx hb dX7_powerWeight_55 (by decide) (fun hc => ?_) (fun hc => ?_)
  · rw [if_pos hc] at hf
    exact kE  σ (Option.some.inj hf).symm _ _ _ hw (lv_sub hl [0, 1] rfl)
  · rw [if_neg hc] at hf
    refine lv_aload_n hx hb dX7_powerWeight_58 rfl (lv_at hl 0 rfl) ?_
    refine lv_iload_n hx hb dX7_powerWeight_59 rfl (lv_at hl 1 rfl) ?_
    refine lv_iload_n hx hb dX7_powerWeight_60 rfl (lv_at hl 2 rfl) ?_
    obtain ⟨ho, hf⟩ := chk_inv hf
    obtain ⟨_, σ8, hk, hf⟩ := bnd_inv hf
    refine z_callV (As := [.int x1, .int x2]) (rest := []) (m_X7_passesWord hC.2.2.2.2.2.2.2.2 hk) hC hw wd_X7_passesWord lkM_X7_150 (isO_sh ho) rfl rfl ⟨rfl, rfl⟩ ⟨(Nat.le_of_ble_eq_true rfl), (Nat.le_of_ble_eq_true rfl)⟩ hl.1 rfl (Nat.le_of_ble_eq_true rfl) dX7_powerWeight_61 ⟨(Nat.le_of_ble_eq_true rfl), (Nat.le_of_ble_eq_true rfl)⟩ (fun H locs hw => ?_)
    refine lv_iinc (v := (x4 + 1)) (lv' := [(4, .int (x4 + 1)), (0, .ref x0), (1, .int x1), (2, .int x2), (3, .int x3)]) hx hb dX7_powerWeight_64 hl (k := 4) rfl rfl (Nat.le_of_ble_eq_true rfl) rfl (fun ls hl => ?_)
    refine lv_goto (tgt := 52) hx hb dX7_powerWeight_67 (by decide) ?_
    exact kI (x4 + 1) σ8 (Option.some.inj hf).symm _ _ _ hw (lv_sub hl [1, 2, 3, 4, 0] rfl)
set_option maxHeartbeats 4000000 in
theorem l_X7_powerWeight_B52 (hC : zC p l s m args meth c cX7_powerWeight 5 RX7 D cA B0) (hr : meth.sig.returnType = (Option.some FieldType.int)) {Γ : zSh} {x0 : Nat} {x1 : Int32} {x2 : Int32} {x3 : Int32} {σ2 : zSt} (kE : ∀ (H : Heap) (locs : List Loc) (ls : Array Slot), zO D cA B0 Γ σ2 Z s.heap H locs → lv_has ls 5 [(0, .ref x0), (1, .int x1)] → W p l e rm_X7_powerWeight s m args below meth c H locs 0 0 Q (F0 m 70 ls [])) :
    ∀ (n : Nat) (x4 : Int32) (σ : zSt), loopM (fun q => f_X7_powerWeight_B52 Γ x0 x1 x2 x3 q.1 q.2) n (x4, σ) = some σ2 → ∀ (H : Heap) (locs : List Loc) (ls : Array Slot), zO D cA B0 Γ σ Z s.heap H locs → lv_has ls 5 [(0, .ref x0), (1, .int x1), (2, .int x2), (3, .int x3), (4, .int x4)] → W p l e rm_X7_powerWeight s m args below meth c H locs 0 0 Q (F0 m 52 ls []) := by
  intro n
  induction n with
  | zero => intro x4 σ h; exact absurd h (by simp [loopM])
  | succ n ih =>
    intro x4 σ h H locs ls hw hl
    obtain ⟨r, h1, h2, h3⟩ := loopM_inv h
    exact t_X7_powerWeight_B52 hC hr h1 hw hl (fun z4 s2 e H locs ls hw hl => ih z4 s2 (h2 _ e) H locs ls hw hl) (fun s2 e H locs ls hw hl => by cases h3 _ e; exact kE H locs ls hw hl)
set_option maxHeartbeats 4000000 in
set_option maxRecDepth 100000 in
theorem t_X7_powerWeight_L34 (hC : zC p l s m args meth c cX7_powerWeight 5 RX7 D cA B0) (hr : meth.sig.returnType = (Option.some FieldType.int)) {Γ : zSh} {x0 : Nat} {x1 : Int32} {x2 : Int32} {x3 : Int32} {s0 : Int32} {s1 : Int32} {s2 : Nat} {σ : zSt} {out : (Int32 × zSt)} (hf : f_X7_powerWeight_L34 Γ x0 x1 x2 x3 s0 s1 s2 σ = some out) {H : Heap} {locs : List Loc} {ls : Array Slot} (hw : zO D cA B0 Γ σ Z s.heap H locs) (hl : lv_has ls 5 [(0, .ref x0), (1, .int x1), (2, .int x2), (3, .int x3)]) :
    W p l e rm_X7_powerWeight s m args below meth c H locs 0 0 (MQ below (zQ1 D cA B0 (some (.int out.1)) Γ out.2 Z) args s 0 0 (FR B0)) (F0 m 34 ls [.int s0, .int s1, .ref s2]) := by
  have hx := hC.1
  have hb := hC.2.1
  unfold f_X7_powerWeight_L34 at hf
  refine lv_iconst (v := 1) hx hb dX7_powerWeight_34 (by decide) ?_
  obtain ⟨ho, hf⟩ := chk_inv hf
  obtain ⟨r6, σ5, hk, hf⟩ := bnd_inv hf
  refine z_callV (As := [.int s1, .int s0, .int 1]) (rest := []) (m_X7_goes hC.2.2.2.2.2.2.2.2 hk) hC hw wd_X7_goes lkM_X7_94 (isO_sh ho) rfl rfl ⟨rfl, rfl⟩ ⟨(Nat.le_of_ble_eq_true rfl), (Nat.le_of_ble_eq_true rfl)⟩ hl.1 rfl (Nat.le_of_ble_eq_true rfl) dX7_powerWeight_35 ⟨(Nat.le_of_ble_eq_true rfl), (Nat.le_of_ble_eq_true rfl)⟩ (fun H locs hw => ?_)
  refine lv_if_ne (tgt := 43) hx hb dX7_powerWeight_38 (by decide) (fun hc => ?_) (fun hc => ?_)
  · rw [if_neg hc] at hf
    refine lv_aload_n hx hb dX7_powerWeight_43 rfl (lv_at hl 0 rfl) ?_
    refine lv_iload_n hx hb dX7_powerWeight_44 rfl (lv_at hl 1 rfl) ?_
    refine lv_iconst (v := 0) hx hb dX7_powerWeight_45 (by decide) ?_
    obtain ⟨ho, hf⟩ := chk_inv hf
    obtain ⟨_, σ7, hk, hf⟩ := bnd_inv hf
    refine z_callV (As := [.int x1, .int 0]) (rest := []) (m_X7_laysInitial hC.2.2.2.2.2.2.2.2 hk) hC hw wd_X7_laysInitial lkM_X7_147 (isO_sh ho) rfl rfl ⟨rfl, rfl⟩ ⟨(Nat.le_of_ble_eq_true rfl), (Nat.le_of_ble_eq_true rfl)⟩ hl.1 rfl (Nat.le_of_ble_eq_true rfl) dX7_powerWeight_46 ⟨(Nat.le_of_ble_eq_true rfl), (Nat.le_of_ble_eq_true rfl)⟩ (fun H locs hw => ?_)
    refine lv_iconst (v := 0) hx hb dX7_powerWeight_49 (by decide) ?_
    refine lv_istore (lv' := [(4, .int 0), (0, .ref x0), (1, .int x1), (2, .int x2), (3, .int x3)]) hx hb dX7_powerWeight_50 hl (Nat.le_of_ble_eq_true rfl) rfl (fun ls hl => ?_)
    obtain ⟨σ9, hk, hf⟩ := lb0_inv hf
    refine l_X7_powerWeight_B52 hC hr (fun H locs ls hw hl => ?_) FUEL 0 σ7 hk _ _ _ hw (lv_sub hl [1, 2, 3, 4, 0] rfl)
    refine lv_aload_n hx hb dX7_powerWeight_70 rfl (lv_at hl 0 rfl) ?_
    refine lv_iload_n hx hb dX7_powerWeight_71 rfl (lv_at hl 1 rfl) ?_
    refine lv_iconst (v := 0) hx hb dX7_powerWeight_72 (by decide) ?_
    obtain ⟨ho, hf⟩ := chk_inv hf
    obtain ⟨r11, σ10, hk, hf⟩ := bnd_inv hf
    refine z_callV (As := [.int x1, .int 0]) (rest := []) (m_X7_ends hC.2.2.2.2.2.2.2.2 hk) hC hw wd_X7_ends lkM_X7_153 (isO_sh ho) rfl rfl ⟨rfl, rfl⟩ ⟨(Nat.le_of_ble_eq_true rfl), (Nat.le_of_ble_eq_true rfl)⟩ hl.1 rfl (Nat.le_of_ble_eq_true rfl) dX7_powerWeight_73 ⟨(Nat.le_of_ble_eq_true rfl), (Nat.le_of_ble_eq_true rfl)⟩ (fun H locs hw => ?_)
    first | (obtain ⟨rfl, rfl⟩ := sp_inv hf) | (obtain rfl := Option.some.inj hf)
    exact W.iret hx hb hr (z_ret hw rfl) hw.2.2.2.2.2 dX7_powerWeight_76 hC.2.2.2.2.2.1
  · rw [if_pos hc] at hf
    refine lv_iconst (v := 0) hx hb dX7_powerWeight_41 (by decide) ?_
    first | (obtain ⟨rfl, rfl⟩ := sp_inv hf) | (obtain rfl := Option.some.inj hf)
    exact W.iret hx hb hr (z_ret hw rfl) hw.2.2.2.2.2 dX7_powerWeight_42 hC.2.2.2.2.2.1
set_option maxHeartbeats 4000000 in
set_option maxRecDepth 100000 in
theorem t_X7_powerWeight_L33 (hC : zC p l s m args meth c cX7_powerWeight 5 RX7 D cA B0) (hr : meth.sig.returnType = (Option.some FieldType.int)) {Γ : zSh} {x0 : Nat} {x1 : Int32} {x2 : Int32} {x3 : Int32} {s0 : Int32} {s1 : Nat} {σ : zSt} {out : (Int32 × zSt)} (hf : f_X7_powerWeight_L33 Γ x0 x1 x2 x3 s0 s1 σ = some out) {H : Heap} {locs : List Loc} {ls : Array Slot} (hw : zO D cA B0 Γ σ Z s.heap H locs) (hl : lv_has ls 5 [(0, .ref x0), (1, .int x1), (2, .int x2), (3, .int x3)]) :
    W p l e rm_X7_powerWeight s m args below meth c H locs 0 0 (MQ below (zQ1 D cA B0 (some (.int out.1)) Γ out.2 Z) args s 0 0 (FR B0)) (F0 m 33 ls [.int s0, .ref s1]) := by
  have hx := hC.1
  have hb := hC.2.1
  unfold f_X7_powerWeight_L33 at hf
  refine lv_iconst (v := 0) hx hb dX7_powerWeight_33 (by decide) ?_
  exact t_X7_powerWeight_L34 hC hr hf hw (lv_sub hl [0, 1, 2, 3] rfl)
set_option maxHeartbeats 4000000 in
set_option maxRecDepth 100000 in
theorem m_X7_powerWeight (h9 : l.stackTraces = false) {Γ : zSh} {a0 : Nat} {a1 : Int32} {a2 : Int32} {a3 : Int32} {σ : zSt} {r : Int32} {σ2 : zSt} (hf : f_X7_powerWeight Γ a0 a1 a2 a3 σ = some (r, σ2)) : Met l yX7_powerWeight (wq yX7_powerWeight cX7_powerWeight 5 (Option.some FieldType.int)) rm_X7_powerWeight (zQ0 D cA B0 [.ref a0, .int a1, .int a2, .int a3] Γ σ Z) (zQ1 D cA B0 (some (.int r)) Γ σ2 Z) 0 0 (FR B0) := by
  refine z_ofW h9 (by decide) (Nat.le_of_ble_eq_true rfl) ?_
  intro p e s m args below meth c ls hC hr _ hw hl
  have hx := hC.1
  have hb := hC.2.1
  have hl : lv_has ls 5 [(0, .ref a0), (1, .int a1), (2, .int a2), (3, .int a3)] := hl
  unfold f_X7_powerWeight at hf
  refine lv_aload_n hx hb dX7_powerWeight_0 rfl (lv_at hl 0 rfl) ?_
  refine lv_iload_n hx hb dX7_powerWeight_1 rfl (lv_at hl 1 rfl) ?_
  obtain ⟨r2, σ1, hk, hf⟩ := bnd_inv hf
  refine z_callS (As := [.int a1]) (rest := [.ref a0]) (m_X7_isSlot hC.2.2.2.2.2.2.2.2 hk) hC hw wd_X7_isSlot lkM_X7_88 rfl ⟨rfl, rfl⟩ ⟨(Nat.le_of_ble_eq_true rfl), (Nat.le_of_ble_eq_true rfl)⟩ hl.1 rfl (Nat.le_of_ble_eq_true rfl) dX7_powerWeight_2 ⟨(Nat.le_of_ble_eq_true rfl), (Nat.le_of_ble_eq_true rfl)⟩ (fun H locs hw => ?_)
  refine lv_iload_n hx hb dX7_powerWeight_5 rfl (lv_at hl 2 rfl) ?_
  refine lv_i2l hx hb dX7_powerWeight_6 rfl ?_
  refine lv_lconst (v := 0) hx hb dX7_powerWeight_7 (by decide) ?_
  refine lv_ldc2 (v := 1000000) hx hb hC.2.2.2.1 (hC.2.2.2.2.1 _ lkJ_X7_156) dX7_powerWeight_8 ?_
  obtain ⟨r4, σ3, hk, hf⟩ := bnd_inv hf
  refine z_callS (As := [.long (a2.toInt64), .long 0, .long 1000000]) (rest := [.int r2, .ref a0]) (m_X7_in hC.2.2.2.2.2.2.2.2 hk) hC hw wd_X7_in lkM_X7_68 rfl ⟨rfl, rfl⟩ ⟨(Nat.le_of_ble_eq_true rfl), (Nat.le_of_ble_eq_true rfl)⟩ hl.1 rfl (Nat.le_of_ble_eq_true rfl) dX7_powerWeight_11 ⟨(Nat.le_of_ble_eq_true rfl), (Nat.le_of_ble_eq_true rfl)⟩ (fun H locs hw => ?_)
  refine lv_if_eq (tgt := 33) hx hb dX7_powerWeight_14 (by decide) (fun hc => ?_) (fun hc => ?_)
  · rw [if_pos hc] at hf
    exact t_X7_powerWeight_L33 hC hr hf hw (lv_sub hl [0, 1, 2, 3] rfl)
  · rw [if_neg hc] at hf
    refine lv_iload_n hx hb dX7_powerWeight_17 rfl (lv_at hl 3 rfl) ?_
    refine lv_i2l hx hb dX7_powerWeight_18 rfl ?_
    refine lv_lconst (v := 0) hx hb dX7_powerWeight_19 (by decide) ?_
    refine lv_ldc2 (v := 200) hx hb hC.2.2.2.1 (hC.2.2.2.2.1 _ lkJ_X7_161) dX7_powerWeight_20 ?_
    obtain ⟨r13, σ12, hk, hf⟩ := bnd_inv hf
    refine z_callS (As := [.long (a3.toInt64), .long 0, .long 200]) (rest := [.int r2, .ref a0]) (m_X7_in hC.2.2.2.2.2.2.2.2 hk) hC hw wd_X7_in lkM_X7_68 rfl ⟨rfl, rfl⟩ ⟨(Nat.le_of_ble_eq_true rfl), (Nat.le_of_ble_eq_true rfl)⟩ hl.1 rfl (Nat.le_of_ble_eq_true rfl) dX7_powerWeight_23 ⟨(Nat.le_of_ble_eq_true rfl), (Nat.le_of_ble_eq_true rfl)⟩ (fun H locs hw => ?_)
    refine lv_if_eq (tgt := 33) hx hb dX7_powerWeight_26 (by decide) (fun hc => ?_) (fun hc => ?_)
    · rw [if_pos hc] at hf
      exact t_X7_powerWeight_L33 hC hr hf hw (lv_sub hl [0, 1, 2, 3] rfl)
    · rw [if_neg hc] at hf
      refine lv_iconst (v := 1) hx hb dX7_powerWeight_29 (by decide) ?_
      refine lv_goto (tgt := 34) hx hb dX7_powerWeight_30 (by decide) ?_
      exact t_X7_powerWeight_L34 hC hr hf hw (lv_sub hl [0, 1, 2, 3] rfl)
set_option maxHeartbeats 4000000 in
set_option maxRecDepth 100000 in
theorem t_X7_total_B31 (hC : zC p l s m args meth c cX7_total 4 RX7 D cA B0) (hr : meth.sig.returnType = (Option.some FieldType.int)) {Γ : zSh} {x0 : Nat} {x1 : Int32} {x2 : Int32} {x3 : Int32} {σ : zSt} {out : ((Int32 × zSt) ⊕ (zSt))} (hf : f_X7_total_B31 Γ x0 x1 x2 x3 σ = some out) {H : Heap} {locs : List Loc} {ls : Array Slot} (hw : zO D cA B0 Γ σ Z s.heap H locs) (hl : lv_has ls 4 [(0, .ref x0), (1, .int x1), (2, .int x2), (3, .int x3)])
    (kI : ∀ (z3 : Int32) (σ2 : zSt), out = .inl (z3, σ2) → ∀ (H : Heap) (locs : List Loc) (ls : Array Slot), zO D cA B0 Γ σ2 Z s.heap H locs → lv_has ls 4 [(0, .ref x0), (1, .int x1), (2, .int x2), (3, .int z3)] → W p l e rm_X7_total s m args below meth c H locs 0 0 Q (F0 m 31 ls []))
    (kE : ∀ (σ2 : zSt), out = .inr σ2 → ∀ (H : Heap) (locs : List Loc) (ls : Array Slot), zO D cA B0 Γ σ2 Z s.heap H locs → lv_has ls 4 [(0, .ref x0), (1, .int x1)] → W p l e rm_X7_total s m args below meth c H locs 0 0 Q (F0 m 49 ls [])) :
    W p l e rm_X7_total s m args below meth c H locs 0 0 Q (F0 m 31 ls []) := by
  have hx := hC.1
  have hb := hC.2.1
  unfold f_X7_total_B31 at hf
  refine lv_iload_n hx hb dX7_total_31 rfl (lv_at hl 3 rfl) ?_
  refine lv_iload_n hx hb dX7_total_32 rfl (lv_at hl 2 rfl) ?_
  refine lv_icmp_ge (tgt := 49) hx hb dX7_total_33 (by decide) (fun hc => ?_) (fun hc => ?_)
  · rw [if_pos hc] at hf
    exact kE  σ (Option.some.inj hf).symm _ _ _ hw (lv_sub hl [0, 1] rfl)
  · rw [if_neg hc] at hf
    refine lv_aload_n hx hb dX7_total_36 rfl (lv_at hl 0 rfl) ?_
    refine lv_iload_n hx hb dX7_total_37 rfl (lv_at hl 1 rfl) ?_
    refine lv_iconst (v := 0) hx hb dX7_total_38 (by decide) ?_
    refine lv_iconst (v := 2) hx hb dX7_total_39 (by decide) ?_
    obtain ⟨ho, hf⟩ := chk_inv hf
    obtain ⟨_, σ8, hk, hf⟩ := bnd_inv hf
    refine z_callV (As := [.int x1, .int 0, .int 2]) (rest := []) (m_X7_passes hC.2.2.2.2.2.2.2.2 hk) hC hw wd_X7_passes lkM_X7_143 (isO_sh ho) rfl rfl ⟨rfl, rfl⟩ ⟨(Nat.le_of_ble_eq_true rfl), (Nat.le_of_ble_eq_true rfl)⟩ hl.1 rfl (Nat.le_of_ble_eq_true rfl) dX7_total_40 ⟨(Nat.le_of_ble_eq_true rfl), (Nat.le_of_ble_eq_true rfl)⟩ (fun H locs hw => ?_)
    refine lv_iinc (v := (x3 + 1)) (lv' := [(3, .int (x3 + 1)), (0, .ref x0), (1, .int x1), (2, .int x2)]) hx hb dX7_total_43 hl (k := 3) rfl rfl (Nat.le_of_ble_eq_true rfl) rfl (fun ls hl => ?_)
    refine lv_goto (tgt := 31) hx hb dX7_total_46 (by decide) ?_
    exact kI (x3 + 1) σ8 (Option.some.inj hf).symm _ _ _ hw (lv_sub hl [1, 2, 3, 0] rfl)
set_option maxHeartbeats 4000000 in
theorem l_X7_total_B31 (hC : zC p l s m args meth c cX7_total 4 RX7 D cA B0) (hr : meth.sig.returnType = (Option.some FieldType.int)) {Γ : zSh} {x0 : Nat} {x1 : Int32} {x2 : Int32} {σ2 : zSt} (kE : ∀ (H : Heap) (locs : List Loc) (ls : Array Slot), zO D cA B0 Γ σ2 Z s.heap H locs → lv_has ls 4 [(0, .ref x0), (1, .int x1)] → W p l e rm_X7_total s m args below meth c H locs 0 0 Q (F0 m 49 ls [])) :
    ∀ (n : Nat) (x3 : Int32) (σ : zSt), loopM (fun q => f_X7_total_B31 Γ x0 x1 x2 q.1 q.2) n (x3, σ) = some σ2 → ∀ (H : Heap) (locs : List Loc) (ls : Array Slot), zO D cA B0 Γ σ Z s.heap H locs → lv_has ls 4 [(0, .ref x0), (1, .int x1), (2, .int x2), (3, .int x3)] → W p l e rm_X7_total s m args below meth c H locs 0 0 Q (F0 m 31 ls []) := by
  intro n
  induction n with
  | zero => intro x3 σ h; exact absurd h (by simp [loopM])
  | succ n ih =>
    intro x3 σ h H locs ls hw hl
    obtain ⟨r, h1, h2, h3⟩ := loopM_inv h
    exact t_X7_total_B31 hC hr h1 hw hl (fun z3 s2 e H locs ls hw hl => ih z3 s2 (h2 _ e) H locs ls hw hl) (fun s2 e H locs ls hw hl => by cases h3 _ e; exact kE H locs ls hw hl)
set_option maxHeartbeats 4000000 in
set_option maxRecDepth 100000 in
theorem m_X7_total (h9 : l.stackTraces = false) {Γ : zSh} {a0 : Nat} {a1 : Int32} {a2 : Int32} {σ : zSt} {r : Int32} {σ2 : zSt} (hf : f_X7_total Γ a0 a1 a2 σ = some (r, σ2)) : Met l yX7_total (wq yX7_total cX7_total 4 (Option.some FieldType.int)) rm_X7_total (zQ0 D cA B0 [.ref a0, .int a1, .int a2] Γ σ Z) (zQ1 D cA B0 (some (.int r)) Γ σ2 Z) 0 0 (FR B0) := by
  refine z_ofW h9 (by decide) (Nat.le_of_ble_eq_true rfl) ?_
  intro p e s m args below meth c ls hC hr _ hw hl
  have hx := hC.1
  have hb := hC.2.1
  have hl : lv_has ls 4 [(0, .ref a0), (1, .int a1), (2, .int a2)] := hl
  unfold f_X7_total at hf
  refine lv_aload_n hx hb dX7_total_0 rfl (lv_at hl 0 rfl) ?_
  refine lv_iload_n hx hb dX7_total_1 rfl (lv_at hl 1 rfl) ?_
  obtain ⟨r2, σ1, hk, hf⟩ := bnd_inv hf
  refine z_callS (As := [.int a1]) (rest := [.ref a0]) (m_X7_isSlot hC.2.2.2.2.2.2.2.2 hk) hC hw wd_X7_isSlot lkM_X7_88 rfl ⟨rfl, rfl⟩ ⟨(Nat.le_of_ble_eq_true rfl), (Nat.le_of_ble_eq_true rfl)⟩ hl.1 rfl (Nat.le_of_ble_eq_true rfl) dX7_total_2 ⟨(Nat.le_of_ble_eq_true rfl), (Nat.le_of_ble_eq_true rfl)⟩ (fun H locs hw => ?_)
  refine lv_iload_n hx hb dX7_total_5 rfl (lv_at hl 2 rfl) ?_
  refine lv_i2l hx hb dX7_total_6 rfl ?_
  refine lv_lconst (v := 0) hx hb dX7_total_7 (by decide) ?_
  refine lv_ldc2 (v := 2000) hx hb hC.2.2.2.1 (hC.2.2.2.2.1 _ lkJ_X7_163) dX7_total_8 ?_
  obtain ⟨r4, σ3, hk, hf⟩ := bnd_inv hf
  refine z_callS (As := [.long (a2.toInt64), .long 0, .long 2000]) (rest := [.int r2, .ref a0]) (m_X7_in hC.2.2.2.2.2.2.2.2 hk) hC hw wd_X7_in lkM_X7_68 rfl ⟨rfl, rfl⟩ ⟨(Nat.le_of_ble_eq_true rfl), (Nat.le_of_ble_eq_true rfl)⟩ hl.1 rfl (Nat.le_of_ble_eq_true rfl) dX7_total_11 ⟨(Nat.le_of_ble_eq_true rfl), (Nat.le_of_ble_eq_true rfl)⟩ (fun H locs hw => ?_)
  refine lv_iconst (v := 1) hx hb dX7_total_14 (by decide) ?_
  obtain ⟨ho, hf⟩ := chk_inv hf
  obtain ⟨r6, σ5, hk, hf⟩ := bnd_inv hf
  refine z_callV (As := [.int r2, .int r4, .int 1]) (rest := []) (m_X7_goes hC.2.2.2.2.2.2.2.2 hk) hC hw wd_X7_goes lkM_X7_94 (isO_sh ho) rfl rfl ⟨rfl, rfl⟩ ⟨(Nat.le_of_ble_eq_true rfl), (Nat.le_of_ble_eq_true rfl)⟩ hl.1 rfl (Nat.le_of_ble_eq_true rfl) dX7_total_15 ⟨(Nat.le_of_ble_eq_true rfl), (Nat.le_of_ble_eq_true rfl)⟩ (fun H locs hw => ?_)
  refine lv_if_ne (tgt := 23) hx hb dX7_total_18 (by decide) (fun hc => ?_) (fun hc => ?_)
  · rw [if_neg hc] at hf
    refine lv_aload_n hx hb dX7_total_23 rfl (lv_at hl 0 rfl) ?_
    refine lv_iload_n hx hb dX7_total_24 rfl (lv_at hl 1 rfl) ?_
    refine lv_iconst (v := 0) hx hb dX7_total_25 (by decide) ?_
    obtain ⟨ho, hf⟩ := chk_inv hf
    obtain ⟨_, σ7, hk, hf⟩ := bnd_inv hf
    refine z_callV (As := [.int a1, .int 0]) (rest := []) (m_X7_laysInitial hC.2.2.2.2.2.2.2.2 hk) hC hw wd_X7_laysInitial lkM_X7_147 (isO_sh ho) rfl rfl ⟨rfl, rfl⟩ ⟨(Nat.le_of_ble_eq_true rfl), (Nat.le_of_ble_eq_true rfl)⟩ hl.1 rfl (Nat.le_of_ble_eq_true rfl) dX7_total_26 ⟨(Nat.le_of_ble_eq_true rfl), (Nat.le_of_ble_eq_true rfl)⟩ (fun H locs hw => ?_)
    refine lv_iconst (v := 0) hx hb dX7_total_29 (by decide) ?_
    refine lv_istore_n (lv' := [(3, .int 0), (0, .ref a0), (1, .int a1), (2, .int a2)]) hx hb dX7_total_30 rfl hl (Nat.le_of_ble_eq_true rfl) rfl (fun ls hl => ?_)
    obtain ⟨σ9, hk, hf⟩ := lb0_inv hf
    refine l_X7_total_B31 hC hr (fun H locs ls hw hl => ?_) FUEL 0 σ7 hk _ _ _ hw (lv_sub hl [1, 2, 3, 0] rfl)
    refine lv_aload_n hx hb dX7_total_49 rfl (lv_at hl 0 rfl) ?_
    refine lv_iload_n hx hb dX7_total_50 rfl (lv_at hl 1 rfl) ?_
    refine lv_iconst (v := 0) hx hb dX7_total_51 (by decide) ?_
    obtain ⟨ho, hf⟩ := chk_inv hf
    obtain ⟨r11, σ10, hk, hf⟩ := bnd_inv hf
    refine z_callV (As := [.int a1, .int 0]) (rest := []) (m_X7_ends hC.2.2.2.2.2.2.2.2 hk) hC hw wd_X7_ends lkM_X7_153 (isO_sh ho) rfl rfl ⟨rfl, rfl⟩ ⟨(Nat.le_of_ble_eq_true rfl), (Nat.le_of_ble_eq_true rfl)⟩ hl.1 rfl (Nat.le_of_ble_eq_true rfl) dX7_total_52 ⟨(Nat.le_of_ble_eq_true rfl), (Nat.le_of_ble_eq_true rfl)⟩ (fun H locs hw => ?_)
    first | (obtain ⟨rfl, rfl⟩ := sp_inv hf) | (obtain rfl := Option.some.inj hf)
    exact W.iret hx hb hr (z_ret hw rfl) hw.2.2.2.2.2 dX7_total_55 hC.2.2.2.2.2.1
  · rw [if_pos hc] at hf
    refine lv_iconst (v := 0) hx hb dX7_total_21 (by decide) ?_
    first | (obtain ⟨rfl, rfl⟩ := sp_inv hf) | (obtain rfl := Option.some.inj hf)
    exact W.iret hx hb hr (z_ret hw rfl) hw.2.2.2.2.2 dX7_total_22 hC.2.2.2.2.2.1
set_option maxHeartbeats 4000000 in
set_option maxRecDepth 100000 in
theorem t_X7_support_B28_L50 (hC : zC p l s m args meth c cX7_support 5 RX7 D cA B0) (hr : meth.sig.returnType = (Option.some FieldType.int)) {Γ : zSh} {x0 : Nat} {x1 : Int32} {x2 : Int32} {x4 : Int32} {s0 : Int32} {s1 : Int32}  {σ : zSt} {out : ((Int32 × Int32 × zSt) ⊕ (Int32 × zSt))} (hf : f_X7_support_B28_L50 Γ x0 x1 x2 x4 s0 s1 σ = some out) {H : Heap} {locs : List Loc} {ls : Array Slot} (hw : zO D cA B0 Γ σ Z s.heap H locs) (hl : lv_has ls 5 [(0, .ref x0), (1, .int x1), (2, .int x2), (4, .int x4)])
    (kI : ∀ (z3 : Int32) (z4 : Int32) (σ2 : zSt), out = .inl (z3, z4, σ2) → ∀ (H : Heap) (locs : List Loc) (ls : Array Slot), zO D cA B0 Γ σ2 Z s.heap H locs → lv_has ls 5 [(0, .ref x0), (1, .int x1), (2, .int x2), (3, .int z3), (4, .int z4)] → W p l e rm_X7_support s m args below meth c H locs 0 0 Q (F0 m 28 ls []))
    (kE : ∀ (z3 : Int32) (σ2 : zSt), out = .inr (z3, σ2) → ∀ (H : Heap) (locs : List Loc) (ls : Array Slot), zO D cA B0 Γ σ2 Z s.heap H locs → lv_has ls 5 [(3, .int z3)] → W p l e rm_X7_support s m args below meth c H locs 0 0 Q (F0 m 58 ls [])) :
    W p l e rm_X7_support s m args below meth c H locs 0 0 Q (F0 m 50 ls [.int s0, .int s1]) := by
  have hx := hC.1
  have hb := hC.2.1
  unfold f_X7_support_B28_L50 at hf
  refine lv_iadd hx hb dX7_support_50 ?_
  refine lv_istore_n (lv' := [(3, .int (s1 + s0)), (0, .ref x0), (1, .int x1), (2, .int x2), (4, .int x4)]) hx hb dX7_support_51 rfl hl (Nat.le_of_ble_eq_true rfl) rfl (fun ls hl => ?_)
  refine lv_iinc (v := (x4 + 1)) (lv' := [(4, .int (x4 + 1)), (3, .int (s1 + s0)), (0, .ref x0), (1, .int x1), (2, .int x2)]) hx hb dX7_support_52 hl (k := 4) rfl rfl (Nat.le_of_ble_eq_true rfl) rfl (fun ls hl => ?_)
  refine lv_goto (tgt := 28) hx hb dX7_support_55 (by decide) ?_
  exact kI (s1 + s0) (x4 + 1) σ (Option.some.inj hf).symm _ _ _ hw (lv_sub hl [2, 3, 4, 1, 0] rfl)
set_option maxHeartbeats 4000000 in
set_option maxRecDepth 100000 in
theorem t_X7_support_B28 (hC : zC p l s m args meth c cX7_support 5 RX7 D cA B0) (hr : meth.sig.returnType = (Option.some FieldType.int)) {Γ : zSh} {x0 : Nat} {x1 : Int32} {x2 : Int32} {x3 : Int32} {x4 : Int32} {σ : zSt} {out : ((Int32 × Int32 × zSt) ⊕ (Int32 × zSt))} (hf : f_X7_support_B28 Γ x0 x1 x2 x3 x4 σ = some out) {H : Heap} {locs : List Loc} {ls : Array Slot} (hw : zO D cA B0 Γ σ Z s.heap H locs) (hl : lv_has ls 5 [(0, .ref x0), (1, .int x1), (2, .int x2), (3, .int x3), (4, .int x4)])
    (kI : ∀ (z3 : Int32) (z4 : Int32) (σ2 : zSt), out = .inl (z3, z4, σ2) → ∀ (H : Heap) (locs : List Loc) (ls : Array Slot), zO D cA B0 Γ σ2 Z s.heap H locs → lv_has ls 5 [(0, .ref x0), (1, .int x1), (2, .int x2), (3, .int z3), (4, .int z4)] → W p l e rm_X7_support s m args below meth c H locs 0 0 Q (F0 m 28 ls []))
    (kE : ∀ (z3 : Int32) (σ2 : zSt), out = .inr (z3, σ2) → ∀ (H : Heap) (locs : List Loc) (ls : Array Slot), zO D cA B0 Γ σ2 Z s.heap H locs → lv_has ls 5 [(3, .int z3)] → W p l e rm_X7_support s m args below meth c H locs 0 0 Q (F0 m 58 ls [])) :
    W p l e rm_X7_support s m args below meth c H locs 0 0 Q (F0 m 28 ls []) := by
  have hx := hC.1
  have hb := hC.2.1
  unfold f_X7_support_B28 at hf
  refine lv_iload hx hb dX7_support_28 (lv_at hl 4 rfl) ?_
  refine lv_iload_n hx hb dX7_support_30 rfl (lv_at hl 2 rfl) ?_
  refine lv_icmp_ge (tgt := 58) hx hb dX7_support_31 (by decide) (fun hc => ?_) (fun hc => ?_)
  · rw [if_pos hc] at hf
    exact kE x3 σ (Option.some.inj hf).symm _ _ _ hw (lv_sub hl [3] rfl)
  · rw [if_neg hc] at hf
    refine lv_iload_n hx hb dX7_support_34 rfl (lv_at hl 3 rfl) ?_
    refine lv_aload_n hx hb dX7_support_35 rfl (lv_at hl 0 rfl) ?_
    refine lv_iload_n hx hb dX7_support_36 rfl (lv_at hl 1 rfl) ?_
    refine lv_iload hx hb dX7_support_37 (lv_at hl 4 rfl) ?_
    obtain ⟨ho, hf⟩ := chk_inv hf
    obtain ⟨r8, σ7, hk, hf⟩ := bnd_inv hf
    refine z_callV (As := [.int x1, .int x4]) (rest := [.int x3]) (m_X7_weighs hC.2.2.2.2.2.2.2.2 hk) hC hw wd_X7_weighs lkM_X7_158 (isO_sh ho) rfl rfl ⟨rfl, rfl⟩ ⟨(Nat.le_of_ble_eq_true rfl), (Nat.le_of_ble_eq_true rfl)⟩ hl.1 rfl (Nat.le_of_ble_eq_true rfl) dX7_support_39 ⟨(Nat.le_of_ble_eq_true rfl), (Nat.le_of_ble_eq_true rfl)⟩ (fun H locs hw => ?_)
    refine lv_if_eq (tgt := 49) hx hb dX7_support_42 (by decide) (fun hc => ?_) (fun hc => ?_)
    · rw [if_pos hc] at hf
      refine lv_iconst (v := 0) hx hb dX7_support_49 (by decide) ?_
      exact t_X7_support_B28_L50 hC hr hf hw (lv_sub hl [0, 1, 2, 4] rfl) kI kE
    · rw [if_neg hc] at hf
      refine lv_iconst (v := 1) hx hb dX7_support_45 (by decide) ?_
      refine lv_goto (tgt := 50) hx hb dX7_support_46 (by decide) ?_
      exact t_X7_support_B28_L50 hC hr hf hw (lv_sub hl [0, 1, 2, 4] rfl) kI kE
set_option maxHeartbeats 4000000 in
theorem l_X7_support_B28 (hC : zC p l s m args meth c cX7_support 5 RX7 D cA B0) (hr : meth.sig.returnType = (Option.some FieldType.int)) {Γ : zSh} {x0 : Nat} {x1 : Int32} {x2 : Int32} {w3 : Int32} {σ2 : zSt} (kE : ∀ (H : Heap) (locs : List Loc) (ls : Array Slot), zO D cA B0 Γ σ2 Z s.heap H locs → lv_has ls 5 [(3, .int w3)] → W p l e rm_X7_support s m args below meth c H locs 0 0 Q (F0 m 58 ls [])) :
    ∀ (n : Nat) (x3 : Int32) (x4 : Int32) (σ : zSt), loopM (fun q => f_X7_support_B28 Γ x0 x1 x2 q.1 q.2.1 q.2.2) n (x3, x4, σ) = some (w3, σ2) → ∀ (H : Heap) (locs : List Loc) (ls : Array Slot), zO D cA B0 Γ σ Z s.heap H locs → lv_has ls 5 [(0, .ref x0), (1, .int x1), (2, .int x2), (3, .int x3), (4, .int x4)] → W p l e rm_X7_support s m args below meth c H locs 0 0 Q (F0 m 28 ls []) := by
  intro n
  induction n with
  | zero => intro x3 x4 σ h; exact absurd h (by simp [loopM])
  | succ n ih =>
    intro x3 x4 σ h H locs ls hw hl
    obtain ⟨r, h1, h2, h3⟩ := loopM_inv h
    exact t_X7_support_B28 hC hr h1 hw hl (fun z3 z4 s2 e H locs ls hw hl => ih z3 z4 s2 (h2 _ e) H locs ls hw hl) (fun z3 s2 e H locs ls hw hl => by cases h3 _ e; exact kE H locs ls hw hl)
set_option maxHeartbeats 4000000 in
set_option maxRecDepth 100000 in
theorem m_X7_support (h9 : l.stackTraces = false) {Γ : zSh} {a0 : Nat} {a1 : Int32} {a2 : Int32} {σ : zSt} {r : Int32} {σ2 : zSt} (hf : f_X7_support Γ a0 a1 a2 σ = some (r, σ2)) : Met l yX7_support (wq yX7_support cX7_support 5 (Option.some FieldType.int)) rm_X7_support (zQ0 D cA B0 [.ref a0, .int a1, .int a2] Γ σ Z) (zQ1 D cA B0 (some (.int r)) Γ σ2 Z) 0 0 (FR B0) := by
  refine z_ofW h9 (by decide) (Nat.le_of_ble_eq_true rfl) ?_
  intro p e s m args below meth c ls hC hr _ hw hl
  have hx := hC.1
  have hb := hC.2.1
  have hl : lv_has ls 5 [(0, .ref a0), (1, .int a1), (2, .int a2)] := hl
  unfold f_X7_support at hf
  refine lv_aload_n hx hb dX7_support_0 rfl (lv_at hl 0 rfl) ?_
  refine lv_iload_n hx hb dX7_support_1 rfl (lv_at hl 1 rfl) ?_
  obtain ⟨r2, σ1, hk, hf⟩ := bnd_inv hf
  refine z_callS (As := [.int a1]) (rest := [.ref a0]) (m_X7_isSlot hC.2.2.2.2.2.2.2.2 hk) hC hw wd_X7_isSlot lkM_X7_88 rfl ⟨rfl, rfl⟩ ⟨(Nat.le_of_ble_eq_true rfl), (Nat.le_of_ble_eq_true rfl)⟩ hl.1 rfl (Nat.le_of_ble_eq_true rfl) dX7_support_2 ⟨(Nat.le_of_ble_eq_true rfl), (Nat.le_of_ble_eq_true rfl)⟩ (fun H locs hw => ?_)
  refine lv_iload_n hx hb dX7_support_5 rfl (lv_at hl 2 rfl) ?_
  refine lv_i2l hx hb dX7_support_6 rfl ?_
  refine lv_lconst (v := 0) hx hb dX7_support_7 (by decide) ?_
  refine lv_ldc2 (v := 4095) hx hb hC.2.2.2.1 (hC.2.2.2.2.1 _ lkJ_X7_165) dX7_support_8 ?_
  obtain ⟨r4, σ3, hk, hf⟩ := bnd_inv hf
  refine z_callS (As := [.long (a2.toInt64), .long 0, .long 4095]) (rest := [.int r2, .ref a0]) (m_X7_in hC.2.2.2.2.2.2.2.2 hk) hC hw wd_X7_in lkM_X7_68 rfl ⟨rfl, rfl⟩ ⟨(Nat.le_of_ble_eq_true rfl), (Nat.le_of_ble_eq_true rfl)⟩ hl.1 rfl (Nat.le_of_ble_eq_true rfl) dX7_support_11 ⟨(Nat.le_of_ble_eq_true rfl), (Nat.le_of_ble_eq_true rfl)⟩ (fun H locs hw => ?_)
  refine lv_iconst (v := 1) hx hb dX7_support_14 (by decide) ?_
  obtain ⟨ho, hf⟩ := chk_inv hf
  obtain ⟨r6, σ5, hk, hf⟩ := bnd_inv hf
  refine z_callV (As := [.int r2, .int r4, .int 1]) (rest := []) (m_X7_goes hC.2.2.2.2.2.2.2.2 hk) hC hw wd_X7_goes lkM_X7_94 (isO_sh ho) rfl rfl ⟨rfl, rfl⟩ ⟨(Nat.le_of_ble_eq_true rfl), (Nat.le_of_ble_eq_true rfl)⟩ hl.1 rfl (Nat.le_of_ble_eq_true rfl) dX7_support_15 ⟨(Nat.le_of_ble_eq_true rfl), (Nat.le_of_ble_eq_true rfl)⟩ (fun H locs hw => ?_)
  refine lv_if_ne (tgt := 23) hx hb dX7_support_18 (by decide) (fun hc => ?_) (fun hc => ?_)
  · rw [if_neg hc] at hf
    refine lv_iconst (v := 0) hx hb dX7_support_23 (by decide) ?_
    refine lv_istore_n (lv' := [(3, .int 0), (0, .ref a0), (1, .int a1), (2, .int a2)]) hx hb dX7_support_24 rfl hl (Nat.le_of_ble_eq_true rfl) rfl (fun ls hl => ?_)
    refine lv_iconst (v := 0) hx hb dX7_support_25 (by decide) ?_
    refine lv_istore (lv' := [(4, .int 0), (3, .int 0), (0, .ref a0), (1, .int a1), (2, .int a2)]) hx hb dX7_support_26 hl (Nat.le_of_ble_eq_true rfl) rfl (fun ls hl => ?_)
    obtain ⟨w10, σ9, hk, hf⟩ := lb1_inv hf
    refine l_X7_support_B28 hC hr (fun H locs ls hw hl => ?_) FUEL 0 0 σ5 hk _ _ _ hw (lv_sub hl [2, 3, 4, 1, 0] rfl)
    refine lv_iload_n hx hb dX7_support_58 rfl (lv_at hl 0 rfl) ?_
    first | (obtain ⟨rfl, rfl⟩ := sp_inv hf) | (obtain rfl := Option.some.inj hf)
    exact W.iret hx hb hr (z_ret hw rfl) hw.2.2.2.2.2 dX7_support_59 hC.2.2.2.2.2.1
  · rw [if_pos hc] at hf
    refine lv_iconst (v := 0) hx hb dX7_support_21 (by decide) ?_
    first | (obtain ⟨rfl, rfl⟩ := sp_inv hf) | (obtain rfl := Option.some.inj hf)
    exact W.iret hx hb hr (z_ret hw rfl) hw.2.2.2.2.2 dX7_support_22 hC.2.2.2.2.2.1
set_option maxHeartbeats 4000000 in
set_option maxRecDepth 100000 in
theorem t_X7_reduces_B2_L28 (hC : zC p l s m args meth c cX7_reduces 5 RX7 D cA B0) (hr : meth.sig.returnType = (Option.some FieldType.boolean)) {Γ : zSh} {x0 : Nat} {x1 : Int32} {x2 : Int32} {s0 : Int32} {s1 : Int32} {s2 : Nat}  {σ : zSt} {out : ((Int32 × zSt) ⊕ (zSt))} (hf : f_X7_reduces_B2_L28 Γ x0 x1 x2 s0 s1 s2 σ = some out) {H : Heap} {locs : List Loc} {ls : Array Slot} (hw : zO D cA B0 Γ σ Z s.heap H locs) (hl : lv_has ls 5 [(0, .ref x0), (1, .int x1), (2, .int x2)])
    (kI : ∀ (z2 : Int32) (σ2 : zSt), out = .inl (z2, σ2) → ∀ (H : Heap) (locs : List Loc) (ls : Array Slot), zO D cA B0 Γ σ2 Z s.heap H locs → lv_has ls 5 [(0, .ref x0), (1, .int x1), (2, .int z2)] → W p l e rm_X7_reduces s m args below meth c H locs 0 0 Q (F0 m 2 ls []))
    (kE : ∀ (σ2 : zSt), out = .inr σ2 → ∀ (H : Heap) (locs : List Loc) (ls : Array Slot), zO D cA B0 Γ σ2 Z s.heap H locs → lv_has ls 5 [(0, .ref x0), (1, .int x1)] → W p l e rm_X7_reduces s m args below meth c H locs 0 0 Q (F0 m 42 ls [])) :
    W p l e rm_X7_reduces s m args below meth c H locs 0 0 Q (F0 m 28 ls [.int s0, .int s1, .ref s2]) := by
  have hx := hC.1
  have hb := hC.2.1
  unfold f_X7_reduces_B2_L28 at hf
  obtain ⟨σ2, hg, hf⟩ := stI_inv hf
  refine r_stI hC hw hg dX7_reduces_28 (fun H locs hw => ?_)
  refine lv_aload_n hx hb dX7_reduces_29 rfl (lv_at hl 0 rfl) ?_
  obtain ⟨v3, hg, hf⟩ := gfR_inv hf
  refine r_gfR hC hw hg clX7 (Nat.le_of_ble_eq_true rfl) lkF_X7_40 rfl dX7_reduces_30 ?_
  refine lv_iload_n hx hb dX7_reduces_33 rfl (lv_at hl 2 rfl) ?_
  refine lv_iconst (v := 0) hx hb dX7_reduces_34 (by decide) ?_
  obtain ⟨σ4, hg, hf⟩ := stI_inv hf
  refine r_stI hC hw hg dX7_reduces_35 (fun H locs hw => ?_)
  refine lv_iinc (v := (x2 + 1)) (lv' := [(2, .int (x2 + 1)), (0, .ref x0), (1, .int x1)]) hx hb dX7_reduces_36 hl (k := 2) rfl rfl (Nat.le_of_ble_eq_true rfl) rfl (fun ls hl => ?_)
  refine lv_goto (tgt := 2) hx hb dX7_reduces_39 (by decide) ?_
  exact kI (x2 + 1) σ4 (Option.some.inj hf).symm _ _ _ hw (lv_sub hl [1, 2, 0] rfl)
set_option maxHeartbeats 4000000 in
set_option maxRecDepth 100000 in
theorem t_X7_reduces_B2 (hC : zC p l s m args meth c cX7_reduces 5 RX7 D cA B0) (hr : meth.sig.returnType = (Option.some FieldType.boolean)) {Γ : zSh} {x0 : Nat} {x1 : Int32} {x2 : Int32} {σ : zSt} {out : ((Int32 × zSt) ⊕ (zSt))} (hf : f_X7_reduces_B2 Γ x0 x1 x2 σ = some out) {H : Heap} {locs : List Loc} {ls : Array Slot} (hw : zO D cA B0 Γ σ Z s.heap H locs) (hl : lv_has ls 5 [(0, .ref x0), (1, .int x1), (2, .int x2)])
    (kI : ∀ (z2 : Int32) (σ2 : zSt), out = .inl (z2, σ2) → ∀ (H : Heap) (locs : List Loc) (ls : Array Slot), zO D cA B0 Γ σ2 Z s.heap H locs → lv_has ls 5 [(0, .ref x0), (1, .int x1), (2, .int z2)] → W p l e rm_X7_reduces s m args below meth c H locs 0 0 Q (F0 m 2 ls []))
    (kE : ∀ (σ2 : zSt), out = .inr σ2 → ∀ (H : Heap) (locs : List Loc) (ls : Array Slot), zO D cA B0 Γ σ2 Z s.heap H locs → lv_has ls 5 [(0, .ref x0), (1, .int x1)] → W p l e rm_X7_reduces s m args below meth c H locs 0 0 Q (F0 m 42 ls [])) :
    W p l e rm_X7_reduces s m args below meth c H locs 0 0 Q (F0 m 2 ls []) := by
  have hx := hC.1
  have hb := hC.2.1
  unfold f_X7_reduces_B2 at hf
  refine lv_iload_n hx hb dX7_reduces_2 rfl (lv_at hl 2 rfl) ?_
  refine lv_bipush (v := 24) hx hb dX7_reduces_3 (by decide) ?_
  refine lv_icmp_ge (tgt := 42) hx hb dX7_reduces_5 (by decide) (fun hc => ?_) (fun hc => ?_)
  · rw [if_pos hc] at hf
    exact kE  σ (Option.some.inj hf).symm _ _ _ hw (lv_sub hl [0, 1] rfl)
  · rw [if_neg hc] at hf
    refine lv_aload_n hx hb dX7_reduces_8 rfl (lv_at hl 0 rfl) ?_
    obtain ⟨v1, hg, hf⟩ := gfR_inv hf
    refine r_gfR hC hw hg clX7 (Nat.le_of_ble_eq_true rfl) lkF_X7_37 rfl dX7_reduces_9 ?_
    refine lv_iload_n hx hb dX7_reduces_12 rfl (lv_at hl 2 rfl) ?_
    refine lv_iload_n hx hb dX7_reduces_13 rfl (lv_at hl 2 rfl) ?_
    refine lv_iload_n hx hb dX7_reduces_14 rfl (lv_at hl 1 rfl) ?_
    refine lv_icmp_ge (tgt := 27) hx hb dX7_reduces_15 (by decide) (fun hc => ?_) (fun hc => ?_)
    · rw [if_pos hc] at hf
      refine lv_iconst (v := 0) hx hb dX7_reduces_27 (by decide) ?_
      exact t_X7_reduces_B2_L28 hC hr hf hw (lv_sub hl [0, 1, 2] rfl) kI kE
    · rw [if_neg hc] at hf
      refine lv_aload_n hx hb dX7_reduces_18 rfl (lv_at hl 0 rfl) ?_
      obtain ⟨v5, hg, hf⟩ := gfR_inv hf
      refine r_gfR hC hw hg clX7 (Nat.le_of_ble_eq_true rfl) lkF_X7_16 rfl dX7_reduces_19 ?_
      refine lv_iload_n hx hb dX7_reduces_22 rfl (lv_at hl 2 rfl) ?_
      obtain ⟨v6, hg, hf⟩ := ldI_inv hf
      refine r_ldI hC hw hg dX7_reduces_23 ?_
      refine lv_goto (tgt := 28) hx hb dX7_reduces_24 (by decide) ?_
      exact t_X7_reduces_B2_L28 hC hr hf hw (lv_sub hl [0, 1, 2] rfl) kI kE
set_option maxHeartbeats 4000000 in
theorem l_X7_reduces_B2 (hC : zC p l s m args meth c cX7_reduces 5 RX7 D cA B0) (hr : meth.sig.returnType = (Option.some FieldType.boolean)) {Γ : zSh} {x0 : Nat} {x1 : Int32} {σ2 : zSt} (kE : ∀ (H : Heap) (locs : List Loc) (ls : Array Slot), zO D cA B0 Γ σ2 Z s.heap H locs → lv_has ls 5 [(0, .ref x0), (1, .int x1)] → W p l e rm_X7_reduces s m args below meth c H locs 0 0 Q (F0 m 42 ls [])) :
    ∀ (n : Nat) (x2 : Int32) (σ : zSt), loopM (fun q => f_X7_reduces_B2 Γ x0 x1 q.1 q.2) n (x2, σ) = some σ2 → ∀ (H : Heap) (locs : List Loc) (ls : Array Slot), zO D cA B0 Γ σ Z s.heap H locs → lv_has ls 5 [(0, .ref x0), (1, .int x1), (2, .int x2)] → W p l e rm_X7_reduces s m args below meth c H locs 0 0 Q (F0 m 2 ls []) := by
  intro n
  induction n with
  | zero => intro x2 σ h; exact absurd h (by simp [loopM])
  | succ n ih =>
    intro x2 σ h H locs ls hw hl
    obtain ⟨r, h1, h2, h3⟩ := loopM_inv h
    exact t_X7_reduces_B2 hC hr h1 hw hl (fun z2 s2 e H locs ls hw hl => ih z2 s2 (h2 _ e) H locs ls hw hl) (fun s2 e H locs ls hw hl => by cases h3 _ e; exact kE H locs ls hw hl)
set_option maxHeartbeats 4000000 in
set_option maxRecDepth 100000 in
theorem t_X7_reduces_B67 (hC : zC p l s m args meth c cX7_reduces 5 RX7 D cA B0) (hr : meth.sig.returnType = (Option.some FieldType.boolean)) {Γ : zSh} {x0 : Nat} {x1 : Int32} {x2 : Int32} {x3 : Int32} {x4 : Int32} {σ : zSt} {out : ((Int32 × zSt) ⊕ (zSt))} (hf : f_X7_reduces_B67 Γ x0 x1 x2 x3 x4 σ = some out) {H : Heap} {locs : List Loc} {ls : Array Slot} (hw : zO D cA B0 Γ σ Z s.heap H locs) (hl : lv_has ls 5 [(0, .ref x0), (1, .int x1), (2, .int x2), (3, .int x3), (4, .int x4)])
    (kI : ∀ (z4 : Int32) (σ2 : zSt), out = .inl (z4, σ2) → ∀ (H : Heap) (locs : List Loc) (ls : Array Slot), zO D cA B0 Γ σ2 Z s.heap H locs → lv_has ls 5 [(0, .ref x0), (1, .int x1), (2, .int x2), (3, .int x3), (4, .int z4)] → W p l e rm_X7_reduces s m args below meth c H locs 0 0 Q (F0 m 67 ls []))
    (kE : ∀ (σ2 : zSt), out = .inr σ2 → ∀ (H : Heap) (locs : List Loc) (ls : Array Slot), zO D cA B0 Γ σ2 Z s.heap H locs → lv_has ls 5 [(0, .ref x0), (1, .int x1), (2, .int x2)] → W p l e rm_X7_reduces s m args below meth c H locs 0 0 Q (F0 m 154 ls [])) :
    W p l e rm_X7_reduces s m args below meth c H locs 0 0 Q (F0 m 67 ls []) := by
  have hx := hC.1
  have hb := hC.2.1
  unfold f_X7_reduces_B67 at hf
  refine lv_iload hx hb dX7_reduces_67 (lv_at hl 4 rfl) ?_
  refine lv_bipush (v := 24) hx hb dX7_reduces_69 (by decide) ?_
  refine lv_icmp_ge (tgt := 154) hx hb dX7_reduces_71 (by decide) (fun hc => ?_) (fun hc => ?_)
  · rw [if_pos hc] at hf
    exact kE  σ (Option.some.inj hf).symm _ _ _ hw (lv_sub hl [0, 1, 2] rfl)
  · rw [if_neg hc] at hf
    refine lv_iload_n hx hb dX7_reduces_74 rfl (lv_at hl 3 rfl) ?_
    refine lv_if_le (tgt := 154) hx hb dX7_reduces_75 (by decide) (fun hc => ?_) (fun hc => ?_)
    · rw [if_pos hc] at hf
      exact kE  σ (Option.some.inj hf).symm _ _ _ hw (lv_sub hl [0, 1, 2] rfl)
    · rw [if_neg hc] at hf
      refine lv_aload_n hx hb dX7_reduces_78 rfl (lv_at hl 0 rfl) ?_
      obtain ⟨v13, hg, hf⟩ := gfR_inv hf
      refine r_gfR hC hw hg clX7 (Nat.le_of_ble_eq_true rfl) lkF_X7_37 rfl dX7_reduces_79 ?_
      refine lv_iload hx hb dX7_reduces_82 (lv_at hl 4 rfl) ?_
      refine lv_aload_n hx hb dX7_reduces_84 rfl (lv_at hl 0 rfl) ?_
      obtain ⟨v14, hg, hf⟩ := gfR_inv hf
      refine r_gfR hC hw hg clX7 (Nat.le_of_ble_eq_true rfl) lkF_X7_37 rfl dX7_reduces_85 ?_
      refine lv_iload hx hb dX7_reduces_88 (lv_at hl 4 rfl) ?_
      obtain ⟨v15, hg, hf⟩ := ldI_inv hf
      refine r_ldI hC hw hg dX7_reduces_90 ?_
      refine lv_sipush (v := 10007) hx hb dX7_reduces_91 (by decide) ?_
      refine lv_iload_n hx hb dX7_reduces_94 rfl (lv_at hl 3 rfl) ?_
      refine lv_isub hx hb dX7_reduces_95 ?_
      refine lv_aload_n hx hb dX7_reduces_96 rfl (lv_at hl 0 rfl) ?_
      obtain ⟨v16, hg, hf⟩ := gfR_inv hf
      refine r_gfR hC hw hg clX7 (Nat.le_of_ble_eq_true rfl) lkF_X7_25 rfl dX7_reduces_97 ?_
      refine lv_bipush (v := 24) hx hb dX7_reduces_100 (by decide) ?_
      refine lv_iload_n hx hb dX7_reduces_102 rfl (lv_at hl 2 rfl) ?_
      refine lv_imul hx hb dX7_reduces_103 ?_
      refine lv_iload hx hb dX7_reduces_104 (lv_at hl 4 rfl) ?_
      refine lv_iadd hx hb dX7_reduces_106 ?_
      obtain ⟨v17, hg, hf⟩ := ldI_inv hf
      refine r_ldI hC hw hg dX7_reduces_107 ?_
      refine lv_imul hx hb dX7_reduces_108 ?_
      refine lv_iadd hx hb dX7_reduces_109 ?_
      refine lv_sipush (v := 10007) hx hb dX7_reduces_110 (by decide) ?_
      obtain ⟨v18, hg, hf⟩ := rmI_inv hf
      refine r_rmI hC hg dX7_reduces_113 ?_
      obtain ⟨σ19, hg, hf⟩ := stI_inv hf
      refine r_stI hC hw hg dX7_reduces_114 (fun H locs hw => ?_)
      refine lv_aload_n hx hb dX7_reduces_115 rfl (lv_at hl 0 rfl) ?_
      obtain ⟨v20, hg, hf⟩ := gfR_inv hf
      refine r_gfR hC hw hg clX7 (Nat.le_of_ble_eq_true rfl) lkF_X7_40 rfl dX7_reduces_116 ?_
      refine lv_iload hx hb dX7_reduces_119 (lv_at hl 4 rfl) ?_
      refine lv_aload_n hx hb dX7_reduces_121 rfl (lv_at hl 0 rfl) ?_
      obtain ⟨v21, hg, hf⟩ := gfR_inv hf
      refine r_gfR hC hw hg clX7 (Nat.le_of_ble_eq_true rfl) lkF_X7_40 rfl dX7_reduces_122 ?_
      refine lv_iload hx hb dX7_reduces_125 (lv_at hl 4 rfl) ?_
      obtain ⟨v22, hg, hf⟩ := ldI_inv hf
      refine r_ldI hC hw hg dX7_reduces_127 ?_
      refine lv_iload_n hx hb dX7_reduces_128 rfl (lv_at hl 3 rfl) ?_
      refine lv_aload_n hx hb dX7_reduces_129 rfl (lv_at hl 0 rfl) ?_
      obtain ⟨v23, hg, hf⟩ := gfR_inv hf
      refine r_gfR hC hw hg clX7 (Nat.le_of_ble_eq_true rfl) lkF_X7_28 rfl dX7_reduces_130 ?_
      refine lv_bipush (v := 24) hx hb dX7_reduces_133 (by decide) ?_
      refine lv_iload_n hx hb dX7_reduces_135 rfl (lv_at hl 2 rfl) ?_
      refine lv_imul hx hb dX7_reduces_136 ?_
      refine lv_iload hx hb dX7_reduces_137 (lv_at hl 4 rfl) ?_
      refine lv_iadd hx hb dX7_reduces_139 ?_
      obtain ⟨v24, hg, hf⟩ := ldI_inv hf
      refine r_ldI hC hw hg dX7_reduces_140 ?_
      refine lv_imul hx hb dX7_reduces_141 ?_
      refine lv_iadd hx hb dX7_reduces_142 ?_
      refine lv_sipush (v := 10007) hx hb dX7_reduces_143 (by decide) ?_
      obtain ⟨v25, hg, hf⟩ := rmI_inv hf
      refine r_rmI hC hg dX7_reduces_146 ?_
      obtain ⟨σ26, hg, hf⟩ := stI_inv hf
      refine r_stI hC hw hg dX7_reduces_147 (fun H locs hw => ?_)
      refine lv_iinc (v := (x4 + 1)) (lv' := [(4, .int (x4 + 1)), (0, .ref x0), (1, .int x1), (2, .int x2), (3, .int x3)]) hx hb dX7_reduces_148 hl (k := 4) rfl rfl (Nat.le_of_ble_eq_true rfl) rfl (fun ls hl => ?_)
      refine lv_goto (tgt := 67) hx hb dX7_reduces_151 (by decide) ?_
      exact kI (x4 + 1) σ26 (Option.some.inj hf).symm _ _ _ hw (lv_sub hl [1, 2, 3, 4, 0] rfl)
set_option maxHeartbeats 4000000 in
theorem l_X7_reduces_B67 (hC : zC p l s m args meth c cX7_reduces 5 RX7 D cA B0) (hr : meth.sig.returnType = (Option.some FieldType.boolean)) {Γ : zSh} {x0 : Nat} {x1 : Int32} {x2 : Int32} {x3 : Int32} {σ2 : zSt} (kE : ∀ (H : Heap) (locs : List Loc) (ls : Array Slot), zO D cA B0 Γ σ2 Z s.heap H locs → lv_has ls 5 [(0, .ref x0), (1, .int x1), (2, .int x2)] → W p l e rm_X7_reduces s m args below meth c H locs 0 0 Q (F0 m 154 ls [])) :
    ∀ (n : Nat) (x4 : Int32) (σ : zSt), loopM (fun q => f_X7_reduces_B67 Γ x0 x1 x2 x3 q.1 q.2) n (x4, σ) = some σ2 → ∀ (H : Heap) (locs : List Loc) (ls : Array Slot), zO D cA B0 Γ σ Z s.heap H locs → lv_has ls 5 [(0, .ref x0), (1, .int x1), (2, .int x2), (3, .int x3), (4, .int x4)] → W p l e rm_X7_reduces s m args below meth c H locs 0 0 Q (F0 m 67 ls []) := by
  intro n
  induction n with
  | zero => intro x4 σ h; exact absurd h (by simp [loopM])
  | succ n ih =>
    intro x4 σ h H locs ls hw hl
    obtain ⟨r, h1, h2, h3⟩ := loopM_inv h
    exact t_X7_reduces_B67 hC hr h1 hw hl (fun z4 s2 e H locs ls hw hl => ih z4 s2 (h2 _ e) H locs ls hw hl) (fun s2 e H locs ls hw hl => by cases h3 _ e; exact kE H locs ls hw hl)
set_option maxHeartbeats 4000000 in
set_option maxRecDepth 100000 in
theorem t_X7_reduces_B44 (hC : zC p l s m args meth c cX7_reduces 5 RX7 D cA B0) (hr : meth.sig.returnType = (Option.some FieldType.boolean)) {Γ : zSh} {x0 : Nat} {x1 : Int32} {x2 : Int32} {σ : zSt} {out : ((Int32 × zSt) ⊕ (zSt))} (hf : f_X7_reduces_B44 Γ x0 x1 x2 σ = some out) {H : Heap} {locs : List Loc} {ls : Array Slot} (hw : zO D cA B0 Γ σ Z s.heap H locs) (hl : lv_has ls 5 [(0, .ref x0), (1, .int x1), (2, .int x2)])
    (kI : ∀ (z2 : Int32) (σ2 : zSt), out = .inl (z2, σ2) → ∀ (H : Heap) (locs : List Loc) (ls : Array Slot), zO D cA B0 Γ σ2 Z s.heap H locs → lv_has ls 5 [(0, .ref x0), (1, .int x1), (2, .int z2)] → W p l e rm_X7_reduces s m args below meth c H locs 0 0 Q (F0 m 44 ls []))
    (kE : ∀ (σ2 : zSt), out = .inr σ2 → ∀ (H : Heap) (locs : List Loc) (ls : Array Slot), zO D cA B0 Γ σ2 Z s.heap H locs → lv_has ls 5 [(0, .ref x0), (1, .int x1)] → W p l e rm_X7_reduces s m args below meth c H locs 0 0 Q (F0 m 160 ls [])) :
    W p l e rm_X7_reduces s m args below meth c H locs 0 0 Q (F0 m 44 ls []) := by
  have hx := hC.1
  have hb := hC.2.1
  unfold f_X7_reduces_B44 at hf
  refine lv_iload_n hx hb dX7_reduces_44 rfl (lv_at hl 2 rfl) ?_
  refine lv_aload_n hx hb dX7_reduces_45 rfl (lv_at hl 0 rfl) ?_
  obtain ⟨v8, hg, hf⟩ := gfI_inv hf
  refine r_gfI hC hw hg clX7 (Nat.le_of_ble_eq_true rfl) lkF_X7_167 rfl dX7_reduces_46 ?_
  refine lv_icmp_ge (tgt := 160) hx hb dX7_reduces_49 (by decide) (fun hc => ?_) (fun hc => ?_)
  · rw [if_pos hc] at hf
    exact kE  σ (Option.some.inj hf).symm _ _ _ hw (lv_sub hl [0, 1] rfl)
  · rw [if_neg hc] at hf
    refine lv_aload_n hx hb dX7_reduces_52 rfl (lv_at hl 0 rfl) ?_
    obtain ⟨v9, hg, hf⟩ := gfR_inv hf
    refine r_gfR hC hw hg clX7 (Nat.le_of_ble_eq_true rfl) lkF_X7_37 rfl dX7_reduces_53 ?_
    refine lv_aload_n hx hb dX7_reduces_56 rfl (lv_at hl 0 rfl) ?_
    obtain ⟨v10, hg, hf⟩ := gfR_inv hf
    refine r_gfR hC hw hg clX7 (Nat.le_of_ble_eq_true rfl) lkF_X7_31 rfl dX7_reduces_57 ?_
    refine lv_iload_n hx hb dX7_reduces_60 rfl (lv_at hl 2 rfl) ?_
    obtain ⟨v11, hg, hf⟩ := ldI_inv hf
    refine r_ldI hC hw hg dX7_reduces_61 ?_
    obtain ⟨v12, hg, hf⟩ := ldI_inv hf
    refine r_ldI hC hw hg dX7_reduces_62 ?_
    refine lv_istore_n (lv' := [(3, .int v12), (0, .ref x0), (1, .int x1), (2, .int x2)]) hx hb dX7_reduces_63 rfl hl (Nat.le_of_ble_eq_true rfl) rfl (fun ls hl => ?_)
    refine lv_iconst (v := 0) hx hb dX7_reduces_64 (by decide) ?_
    refine lv_istore (lv' := [(4, .int 0), (3, .int v12), (0, .ref x0), (1, .int x1), (2, .int x2)]) hx hb dX7_reduces_65 hl (Nat.le_of_ble_eq_true rfl) rfl (fun ls hl => ?_)
    obtain ⟨σ27, hk, hf⟩ := lb0_inv hf
    refine l_X7_reduces_B67 hC hr (fun H locs ls hw hl => ?_) FUEL 0 σ hk _ _ _ hw (lv_sub hl [2, 3, 4, 1, 0] rfl)
    refine lv_iinc (v := (x2 + 1)) (lv' := [(2, .int (x2 + 1)), (0, .ref x0), (1, .int x1)]) hx hb dX7_reduces_154 hl (k := 2) rfl rfl (Nat.le_of_ble_eq_true rfl) rfl (fun ls hl => ?_)
    refine lv_goto (tgt := 44) hx hb dX7_reduces_157 (by decide) ?_
    exact kI (x2 + 1) σ27 (Option.some.inj hf).symm _ _ _ hw (lv_sub hl [1, 2, 0] rfl)
set_option maxHeartbeats 4000000 in
theorem l_X7_reduces_B44 (hC : zC p l s m args meth c cX7_reduces 5 RX7 D cA B0) (hr : meth.sig.returnType = (Option.some FieldType.boolean)) {Γ : zSh} {x0 : Nat} {x1 : Int32} {σ2 : zSt} (kE : ∀ (H : Heap) (locs : List Loc) (ls : Array Slot), zO D cA B0 Γ σ2 Z s.heap H locs → lv_has ls 5 [(0, .ref x0), (1, .int x1)] → W p l e rm_X7_reduces s m args below meth c H locs 0 0 Q (F0 m 160 ls [])) :
    ∀ (n : Nat) (x2 : Int32) (σ : zSt), loopM (fun q => f_X7_reduces_B44 Γ x0 x1 q.1 q.2) n (x2, σ) = some σ2 → ∀ (H : Heap) (locs : List Loc) (ls : Array Slot), zO D cA B0 Γ σ Z s.heap H locs → lv_has ls 5 [(0, .ref x0), (1, .int x1), (2, .int x2)] → W p l e rm_X7_reduces s m args below meth c H locs 0 0 Q (F0 m 44 ls []) := by
  intro n
  induction n with
  | zero => intro x2 σ h; exact absurd h (by simp [loopM])
  | succ n ih =>
    intro x2 σ h H locs ls hw hl
    obtain ⟨r, h1, h2, h3⟩ := loopM_inv h
    exact t_X7_reduces_B44 hC hr h1 hw hl (fun z2 s2 e H locs ls hw hl => ih z2 s2 (h2 _ e) H locs ls hw hl) (fun s2 e H locs ls hw hl => by cases h3 _ e; exact kE H locs ls hw hl)
set_option maxHeartbeats 4000000 in
set_option maxRecDepth 100000 in
theorem t_X7_reduces_B164_L187 (hC : zC p l s m args meth c cX7_reduces 5 RX7 D cA B0) (hr : meth.sig.returnType = (Option.some FieldType.boolean)) {Γ : zSh} {x0 : Nat} {x1 : Int32} {x3 : Int32} {s0 : Int32}  {σ : zSt} {out : ((Int32 × Int32 × zSt) ⊕ (Int32 × zSt))} (hf : f_X7_reduces_B164_L187 Γ x0 x1 x3 s0 σ = some out) {H : Heap} {locs : List Loc} {ls : Array Slot} (hw : zO D cA B0 Γ σ Z s.heap H locs) (hl : lv_has ls 5 [(0, .ref x0), (1, .int x1), (3, .int x3)])
    (kI : ∀ (z2 : Int32) (z3 : Int32) (σ2 : zSt), out = .inl (z2, z3, σ2) → ∀ (H : Heap) (locs : List Loc) (ls : Array Slot), zO D cA B0 Γ σ2 Z s.heap H locs → lv_has ls 5 [(0, .ref x0), (1, .int x1), (2, .int z2), (3, .int z3)] → W p l e rm_X7_reduces s m args below meth c H locs 0 0 Q (F0 m 164 ls []))
    (kE : ∀ (z2 : Int32) (σ2 : zSt), out = .inr (z2, σ2) → ∀ (H : Heap) (locs : List Loc) (ls : Array Slot), zO D cA B0 Γ σ2 Z s.heap H locs → lv_has ls 5 [(2, .int z2)] → W p l e rm_X7_reduces s m args below meth c H locs 0 0 Q (F0 m 194 ls [])) :
    W p l e rm_X7_reduces s m args below meth c H locs 0 0 Q (F0 m 187 ls [.int s0]) := by
  have hx := hC.1
  have hb := hC.2.1
  unfold f_X7_reduces_B164_L187 at hf
  refine lv_istore_n (lv' := [(2, .int s0), (0, .ref x0), (1, .int x1), (3, .int x3)]) hx hb dX7_reduces_187 rfl hl (Nat.le_of_ble_eq_true rfl) rfl (fun ls hl => ?_)
  refine lv_iinc (v := (x3 + 1)) (lv' := [(3, .int (x3 + 1)), (2, .int s0), (0, .ref x0), (1, .int x1)]) hx hb dX7_reduces_188 hl (k := 3) rfl rfl (Nat.le_of_ble_eq_true rfl) rfl (fun ls hl => ?_)
  refine lv_goto (tgt := 164) hx hb dX7_reduces_191 (by decide) ?_
  exact kI s0 (x3 + 1) σ (Option.some.inj hf).symm _ _ _ hw (lv_sub hl [2, 3, 1, 0] rfl)
set_option maxHeartbeats 4000000 in
set_option maxRecDepth 100000 in
theorem t_X7_reduces_B164_L182 (hC : zC p l s m args meth c cX7_reduces 5 RX7 D cA B0) (hr : meth.sig.returnType = (Option.some FieldType.boolean)) {Γ : zSh} {x0 : Nat} {x1 : Int32} {x3 : Int32}  {σ : zSt} {out : ((Int32 × Int32 × zSt) ⊕ (Int32 × zSt))} (hf : f_X7_reduces_B164_L182 Γ x0 x1 x3 σ = some out) {H : Heap} {locs : List Loc} {ls : Array Slot} (hw : zO D cA B0 Γ σ Z s.heap H locs) (hl : lv_has ls 5 [(0, .ref x0), (1, .int x1), (3, .int x3)])
    (kI : ∀ (z2 : Int32) (z3 : Int32) (σ2 : zSt), out = .inl (z2, z3, σ2) → ∀ (H : Heap) (locs : List Loc) (ls : Array Slot), zO D cA B0 Γ σ2 Z s.heap H locs → lv_has ls 5 [(0, .ref x0), (1, .int x1), (2, .int z2), (3, .int z3)] → W p l e rm_X7_reduces s m args below meth c H locs 0 0 Q (F0 m 164 ls []))
    (kE : ∀ (z2 : Int32) (σ2 : zSt), out = .inr (z2, σ2) → ∀ (H : Heap) (locs : List Loc) (ls : Array Slot), zO D cA B0 Γ σ2 Z s.heap H locs → lv_has ls 5 [(2, .int z2)] → W p l e rm_X7_reduces s m args below meth c H locs 0 0 Q (F0 m 194 ls [])) :
    W p l e rm_X7_reduces s m args below meth c H locs 0 0 Q (F0 m 182 ls []) := by
  have hx := hC.1
  have hb := hC.2.1
  unfold f_X7_reduces_B164_L182 at hf
  refine lv_iconst (v := 1) hx hb dX7_reduces_182 (by decide) ?_
  refine lv_goto (tgt := 187) hx hb dX7_reduces_183 (by decide) ?_
  exact t_X7_reduces_B164_L187 hC hr hf hw (lv_sub hl [0, 1, 2] rfl) kI kE
set_option maxHeartbeats 4000000 in
set_option maxRecDepth 100000 in
theorem t_X7_reduces_B164 (hC : zC p l s m args meth c cX7_reduces 5 RX7 D cA B0) (hr : meth.sig.returnType = (Option.some FieldType.boolean)) {Γ : zSh} {x0 : Nat} {x1 : Int32} {x2 : Int32} {x3 : Int32} {σ : zSt} {out : ((Int32 × Int32 × zSt) ⊕ (Int32 × zSt))} (hf : f_X7_reduces_B164 Γ x0 x1 x2 x3 σ = some out) {H : Heap} {locs : List Loc} {ls : Array Slot} (hw : zO D cA B0 Γ σ Z s.heap H locs) (hl : lv_has ls 5 [(0, .ref x0), (1, .int x1), (2, .int x2), (3, .int x3)])
    (kI : ∀ (z2 : Int32) (z3 : Int32) (σ2 : zSt), out = .inl (z2, z3, σ2) → ∀ (H : Heap) (locs : List Loc) (ls : Array Slot), zO D cA B0 Γ σ2 Z s.heap H locs → lv_has ls 5 [(0, .ref x0), (1, .int x1), (2, .int z2), (3, .int z3)] → W p l e rm_X7_reduces s m args below meth c H locs 0 0 Q (F0 m 164 ls []))
    (kE : ∀ (z2 : Int32) (σ2 : zSt), out = .inr (z2, σ2) → ∀ (H : Heap) (locs : List Loc) (ls : Array Slot), zO D cA B0 Γ σ2 Z s.heap H locs → lv_has ls 5 [(2, .int z2)] → W p l e rm_X7_reduces s m args below meth c H locs 0 0 Q (F0 m 194 ls [])) :
    W p l e rm_X7_reduces s m args below meth c H locs 0 0 Q (F0 m 164 ls []) := by
  have hx := hC.1
  have hb := hC.2.1
  unfold f_X7_reduces_B164 at hf
  refine lv_iload_n hx hb dX7_reduces_164 rfl (lv_at hl 3 rfl) ?_
  refine lv_iload_n hx hb dX7_reduces_165 rfl (lv_at hl 1 rfl) ?_
  refine lv_icmp_ge (tgt := 194) hx hb dX7_reduces_166 (by decide) (fun hc => ?_) (fun hc => ?_)
  · rw [if_pos hc] at hf
    exact kE x2 σ (Option.some.inj hf).symm _ _ _ hw (lv_sub hl [2] rfl)
  · rw [if_neg hc] at hf
    refine lv_iload_n hx hb dX7_reduces_169 rfl (lv_at hl 2 rfl) ?_
    refine lv_if_ne (tgt := 182) hx hb dX7_reduces_170 (by decide) (fun hc => ?_) (fun hc => ?_)
    · rw [if_neg hc] at hf
      exact t_X7_reduces_B164_L182 hC hr hf hw (lv_sub hl [0, 1, 3] rfl) kI kE
    · rw [if_pos hc] at hf
      refine lv_aload_n hx hb dX7_reduces_173 rfl (lv_at hl 0 rfl) ?_
      obtain ⟨v29, hg, hf⟩ := gfR_inv hf
      refine r_gfR hC hw hg clX7 (Nat.le_of_ble_eq_true rfl) lkF_X7_37 rfl dX7_reduces_174 ?_
      refine lv_iload_n hx hb dX7_reduces_177 rfl (lv_at hl 3 rfl) ?_
      obtain ⟨v30, hg, hf⟩ := ldI_inv hf
      refine r_ldI hC hw hg dX7_reduces_178 ?_
      refine lv_if_eq (tgt := 186) hx hb dX7_reduces_179 (by decide) (fun hc => ?_) (fun hc => ?_)
      · rw [if_pos hc] at hf
        refine lv_iconst (v := 0) hx hb dX7_reduces_186 (by decide) ?_
        exact t_X7_reduces_B164_L187 hC hr hf hw (lv_sub hl [0, 1, 3] rfl) kI kE
      · rw [if_neg hc] at hf
        exact t_X7_reduces_B164_L182 hC hr hf hw (lv_sub hl [0, 1, 3] rfl) kI kE
set_option maxHeartbeats 4000000 in
theorem l_X7_reduces_B164 (hC : zC p l s m args meth c cX7_reduces 5 RX7 D cA B0) (hr : meth.sig.returnType = (Option.some FieldType.boolean)) {Γ : zSh} {x0 : Nat} {x1 : Int32} {w2 : Int32} {σ2 : zSt} (kE : ∀ (H : Heap) (locs : List Loc) (ls : Array Slot), zO D cA B0 Γ σ2 Z s.heap H locs → lv_has ls 5 [(2, .int w2)] → W p l e rm_X7_reduces s m args below meth c H locs 0 0 Q (F0 m 194 ls [])) :
    ∀ (n : Nat) (x2 : Int32) (x3 : Int32) (σ : zSt), loopM (fun q => f_X7_reduces_B164 Γ x0 x1 q.1 q.2.1 q.2.2) n (x2, x3, σ) = some (w2, σ2) → ∀ (H : Heap) (locs : List Loc) (ls : Array Slot), zO D cA B0 Γ σ Z s.heap H locs → lv_has ls 5 [(0, .ref x0), (1, .int x1), (2, .int x2), (3, .int x3)] → W p l e rm_X7_reduces s m args below meth c H locs 0 0 Q (F0 m 164 ls []) := by
  intro n
  induction n with
  | zero => intro x2 x3 σ h; exact absurd h (by simp [loopM])
  | succ n ih =>
    intro x2 x3 σ h H locs ls hw hl
    obtain ⟨r, h1, h2, h3⟩ := loopM_inv h
    exact t_X7_reduces_B164 hC hr h1 hw hl (fun z2 z3 s2 e H locs ls hw hl => ih z2 z3 s2 (h2 _ e) H locs ls hw hl) (fun z2 s2 e H locs ls hw hl => by cases h3 _ e; exact kE H locs ls hw hl)
set_option maxHeartbeats 4000000 in
set_option maxRecDepth 100000 in
theorem m_X7_reduces (h9 : l.stackTraces = false) {Γ : zSh} {a0 : Nat} {a1 : Int32} {σ : zSt} {r : Int32} {σ2 : zSt} (hf : f_X7_reduces Γ a0 a1 σ = some (r, σ2)) : Met l yX7_reduces (wq yX7_reduces cX7_reduces 5 (Option.some FieldType.boolean)) rm_X7_reduces (zQ0 D cA B0 [.ref a0, .int a1] Γ σ Z) (zQ1 D cA B0 (some (.int r)) Γ σ2 Z) 0 0 (FR B0) := by
  refine z_ofW h9 (by decide) (Nat.le_of_ble_eq_true rfl) ?_
  intro p e s m args below meth c ls hC hr _ hw hl
  have hx := hC.1
  have hb := hC.2.1
  have hl : lv_has ls 5 [(0, .ref a0), (1, .int a1)] := hl
  unfold f_X7_reduces at hf
  refine lv_iconst (v := 0) hx hb dX7_reduces_0 (by decide) ?_
  refine lv_istore_n (lv' := [(2, .int 0), (0, .ref a0), (1, .int a1)]) hx hb dX7_reduces_1 rfl hl (Nat.le_of_ble_eq_true rfl) rfl (fun ls hl => ?_)
  obtain ⟨σ7, hk, hf⟩ := lb0_inv hf
  refine l_X7_reduces_B2 hC hr (fun H locs ls hw hl => ?_) FUEL 0 σ hk _ _ _ hw (lv_sub hl [1, 2, 0] rfl)
  refine lv_iconst (v := 0) hx hb dX7_reduces_42 (by decide) ?_
  refine lv_istore_n (lv' := [(2, .int 0), (0, .ref a0), (1, .int a1)]) hx hb dX7_reduces_43 rfl hl (Nat.le_of_ble_eq_true rfl) rfl (fun ls hl => ?_)
  obtain ⟨σ28, hk, hf⟩ := lb0_inv hf
  refine l_X7_reduces_B44 hC hr (fun H locs ls hw hl => ?_) FUEL 0 σ7 hk _ _ _ hw (lv_sub hl [1, 2, 0] rfl)
  refine lv_iconst (v := 0) hx hb dX7_reduces_160 (by decide) ?_
  refine lv_istore_n (lv' := [(2, .int 0), (0, .ref a0), (1, .int a1)]) hx hb dX7_reduces_161 rfl hl (Nat.le_of_ble_eq_true rfl) rfl (fun ls hl => ?_)
  refine lv_iconst (v := 0) hx hb dX7_reduces_162 (by decide) ?_
  refine lv_istore_n (lv' := [(3, .int 0), (2, .int 0), (0, .ref a0), (1, .int a1)]) hx hb dX7_reduces_163 rfl hl (Nat.le_of_ble_eq_true rfl) rfl (fun ls hl => ?_)
  obtain ⟨w32, σ31, hk, hf⟩ := lb1_inv hf
  refine l_X7_reduces_B164 hC hr (fun H locs ls hw hl => ?_) FUEL 0 0 σ28 hk _ _ _ hw (lv_sub hl [2, 3, 1, 0] rfl)
  refine lv_iload_n hx hb dX7_reduces_194 rfl (lv_at hl 0 rfl) ?_
  obtain ⟨hz, hf⟩ := chk_inv hf
  first | (obtain ⟨rfl, rfl⟩ := sp_inv hf) | (obtain rfl := Option.some.inj hf)
  exact W.zret hx hb hr (isB_n hz).1 (z_ret hw rfl) hw.2.2.2.2.2 dX7_reduces_195 hC.2.2.2.2.2.1
set_option maxHeartbeats 4000000 in
set_option maxRecDepth 100000 in
theorem t_X7_offers_B17 (hC : zC p l s m args meth c cX7_offers 8 RX7 D cA B0) (hr : meth.sig.returnType = (Option.none : Option Jvm.ClassFile.FieldType)) {Γ : zSh} {x0 : Nat} {x1 : Int32} {x2 : Int32} {x3 : Int32} {x4 : Int32} {σ : zSt} {out : ((Int32 × zSt) ⊕ (Int32 × zSt))} (hf : f_X7_offers_B17 Γ x0 x1 x2 x3 x4 σ = some out) {H : Heap} {locs : List Loc} {ls : Array Slot} (hw : zO D cA B0 Γ σ Z s.heap H locs) (hl : lv_has ls 8 [(0, .ref x0), (1, .int x1), (2, .int x2), (3, .int x3), (4, .int x4)])
    (kI : ∀ (z4 : Int32) (σ2 : zSt), out = .inl (z4, σ2) → ∀ (H : Heap) (locs : List Loc) (ls : Array Slot), zO D cA B0 Γ σ2 Z s.heap H locs → lv_has ls 8 [(0, .ref x0), (1, .int x1), (2, .int x2), (3, .int x3), (4, .int z4)] → W p l e rm_X7_offers s m args below meth c H locs 0 0 Q (F0 m 17 ls []))
    (kE : ∀ (z4 : Int32) (σ2 : zSt), out = .inr (z4, σ2) → ∀ (H : Heap) (locs : List Loc) (ls : Array Slot), zO D cA B0 Γ σ2 Z s.heap H locs → lv_has ls 8 [(0, .ref x0), (1, .int x1), (2, .int x2), (3, .int x3), (4, .int z4)] → W p l e rm_X7_offers s m args below meth c H locs 0 0 Q (F0 m 33 ls [])) :
    W p l e rm_X7_offers s m args below meth c H locs 0 0 Q (F0 m 17 ls []) := by
  have hx := hC.1
  have hb := hC.2.1
  unfold f_X7_offers_B17 at hf
  refine lv_aload_n hx hb dX7_offers_17 rfl (lv_at hl 0 rfl) ?_
  obtain ⟨v4, hg, hf⟩ := gfR_inv hf
  refine r_gfR hC hw hg clX7 (Nat.le_of_ble_eq_true rfl) lkF_X7_37 rfl dX7_offers_18 ?_
  refine lv_iload hx hb dX7_offers_21 (lv_at hl 4 rfl) ?_
  obtain ⟨v5, hg, hf⟩ := ldI_inv hf
  refine r_ldI hC hw hg dX7_offers_23 ?_
  refine lv_if_ne (tgt := 33) hx hb dX7_offers_24 (by decide) (fun hc => ?_) (fun hc => ?_)
  · rw [if_neg hc] at hf
    exact kE x4 σ (Option.some.inj hf).symm _ _ _ hw (lv_sub hl [0, 1, 2, 3, 4] rfl)
  · rw [if_pos hc] at hf
    refine lv_iinc (v := (x4 + 1)) (lv' := [(4, .int (x4 + 1)), (0, .ref x0), (1, .int x1), (2, .int x2), (3, .int x3)]) hx hb dX7_offers_27 hl (k := 4) rfl rfl (Nat.le_of_ble_eq_true rfl) rfl (fun ls hl => ?_)
    refine lv_goto (tgt := 17) hx hb dX7_offers_30 (by decide) ?_
    exact kI (x4 + 1) σ (Option.some.inj hf).symm _ _ _ hw (lv_sub hl [1, 2, 3, 4, 0] rfl)
set_option maxHeartbeats 4000000 in
theorem l_X7_offers_B17 (hC : zC p l s m args meth c cX7_offers 8 RX7 D cA B0) (hr : meth.sig.returnType = (Option.none : Option Jvm.ClassFile.FieldType)) {Γ : zSh} {x0 : Nat} {x1 : Int32} {x2 : Int32} {x3 : Int32} {w4 : Int32} {σ2 : zSt} (kE : ∀ (H : Heap) (locs : List Loc) (ls : Array Slot), zO D cA B0 Γ σ2 Z s.heap H locs → lv_has ls 8 [(0, .ref x0), (1, .int x1), (2, .int x2), (3, .int x3), (4, .int w4)] → W p l e rm_X7_offers s m args below meth c H locs 0 0 Q (F0 m 33 ls [])) :
    ∀ (n : Nat) (x4 : Int32) (σ : zSt), loopM (fun q => f_X7_offers_B17 Γ x0 x1 x2 x3 q.1 q.2) n (x4, σ) = some (w4, σ2) → ∀ (H : Heap) (locs : List Loc) (ls : Array Slot), zO D cA B0 Γ σ Z s.heap H locs → lv_has ls 8 [(0, .ref x0), (1, .int x1), (2, .int x2), (3, .int x3), (4, .int x4)] → W p l e rm_X7_offers s m args below meth c H locs 0 0 Q (F0 m 17 ls []) := by
  intro n
  induction n with
  | zero => intro x4 σ h; exact absurd h (by simp [loopM])
  | succ n ih =>
    intro x4 σ h H locs ls hw hl
    obtain ⟨r, h1, h2, h3⟩ := loopM_inv h
    exact t_X7_offers_B17 hC hr h1 hw hl (fun z4 s2 e H locs ls hw hl => ih z4 s2 (h2 _ e) H locs ls hw hl) (fun z4 s2 e H locs ls hw hl => by cases h3 _ e; exact kE H locs ls hw hl)
set_option maxHeartbeats 4000000 in
set_option maxRecDepth 100000 in
theorem t_X7_offers_B48_L121 (hC : zC p l s m args meth c cX7_offers 8 RX7 D cA B0) (hr : meth.sig.returnType = (Option.none : Option Jvm.ClassFile.FieldType)) {Γ : zSh} {x0 : Nat} {x1 : Int32} {x2 : Int32} {x3 : Int32} {x4 : Int32} {x5 : Int32} {x6 : Int32} {s0 : Int32}  {σ : zSt} {out : ((Int32 × zSt) ⊕ (zSt))} (hf : f_X7_offers_B48_L121 Γ x0 x1 x2 x3 x4 x5 x6 s0 σ = some out) {H : Heap} {locs : List Loc} {ls : Array Slot} (hw : zO D cA B0 Γ σ Z s.heap H locs) (hl : lv_has ls 8 [(0, .ref x0), (1, .int x1), (2, .int x2), (3, .int x3), (4, .int x4), (5, .int x5), (6, .int x6)])
    (kI : ∀ (z6 : Int32) (σ2 : zSt), out = .inl (z6, σ2) → ∀ (H : Heap) (locs : List Loc) (ls : Array Slot), zO D cA B0 Γ σ2 Z s.heap H locs → lv_has ls 8 [(0, .ref x0), (1, .int x1), (2, .int x2), (3, .int x3), (4, .int x4), (5, .int x5), (6, .int z6)] → W p l e rm_X7_offers s m args below meth c H locs 0 0 Q (F0 m 48 ls []))
    (kE : ∀ (σ2 : zSt), out = .inr σ2 → ∀ (H : Heap) (locs : List Loc) (ls : Array Slot), zO D cA B0 Γ σ2 Z s.heap H locs → lv_has ls 8 [(0, .ref x0), (2, .int x2), (3, .int x3), (4, .int x4)] → W p l e rm_X7_offers s m args below meth c H locs 0 0 Q (F0 m 166 ls [])) :
    W p l e rm_X7_offers s m args below meth c H locs 0 0 Q (F0 m 121 ls [.int s0]) := by
  have hx := hC.1
  have hb := hC.2.1
  unfold f_X7_offers_B48_L121 at hf
  refine lv_sipush (v := 10007) hx hb dX7_offers_121 (by decide) ?_
  refine lv_iadd hx hb dX7_offers_124 ?_
  refine lv_aload_n hx hb dX7_offers_125 rfl (lv_at hl 0 rfl) ?_
  obtain ⟨v19, hg, hf⟩ := gfR_inv hf
  refine r_gfR hC hw hg clX7 (Nat.le_of_ble_eq_true rfl) lkF_X7_40 rfl dX7_offers_126 ?_
  refine lv_iload hx hb dX7_offers_129 (lv_at hl 6 rfl) ?_
  obtain ⟨v20, hg, hf⟩ := ldI_inv hf
  refine r_ldI hC hw hg dX7_offers_131 ?_
  refine lv_isub hx hb dX7_offers_132 ?_
  refine lv_sipush (v := 10007) hx hb dX7_offers_133 (by decide) ?_
  obtain ⟨v21, hg, hf⟩ := rmI_inv hf
  refine r_rmI hC hg dX7_offers_136 ?_
  refine lv_istore (lv' := [(7, .int v21), (0, .ref x0), (1, .int x1), (2, .int x2), (3, .int x3), (4, .int x4), (5, .int x5), (6, .int x6)]) hx hb dX7_offers_137 hl (Nat.le_of_ble_eq_true rfl) rfl (fun ls hl => ?_)
  refine lv_aload_n hx hb dX7_offers_139 rfl (lv_at hl 1 rfl) ?_
  obtain ⟨v22, hg, hf⟩ := gfR_inv hf
  refine r_gfR hC hw hg clX7 (Nat.le_of_ble_eq_true rfl) lkF_X7_28 rfl dX7_offers_140 ?_
  refine lv_bipush (v := 24) hx hb dX7_offers_143 (by decide) ?_
  refine lv_iload_n hx hb dX7_offers_145 rfl (lv_at hl 4 rfl) ?_
  refine lv_imul hx hb dX7_offers_146 ?_
  refine lv_iload hx hb dX7_offers_147 (lv_at hl 7 rfl) ?_
  refine lv_iadd hx hb dX7_offers_149 ?_
  refine lv_iload hx hb dX7_offers_150 (lv_at hl 0 rfl) ?_
  refine lv_iload hx hb dX7_offers_152 (lv_at hl 6 rfl) ?_
  refine lv_imul hx hb dX7_offers_154 ?_
  refine lv_sipush (v := 10007) hx hb dX7_offers_155 (by decide) ?_
  obtain ⟨v23, hg, hf⟩ := rmI_inv hf
  refine r_rmI hC hg dX7_offers_158 ?_
  obtain ⟨σ24, hg, hf⟩ := stI_inv hf
  refine r_stI hC hw hg dX7_offers_159 (fun H locs hw => ?_)
  refine lv_iinc (v := (x6 + 1)) (lv' := [(6, .int (x6 + 1)), (7, .int v21), (0, .ref x0), (1, .int x1), (2, .int x2), (3, .int x3), (4, .int x4), (5, .int x5)]) hx hb dX7_offers_160 hl (k := 7) rfl rfl (Nat.le_of_ble_eq_true rfl) rfl (fun ls hl => ?_)
  refine lv_goto (tgt := 48) hx hb dX7_offers_163 (by decide) ?_
  exact kI (x6 + 1) σ24 (Option.some.inj hf).symm _ _ _ hw (lv_sub hl [2, 3, 4, 5, 6, 7, 0] rfl)
set_option maxHeartbeats 4000000 in
set_option maxRecDepth 100000 in
theorem t_X7_offers_B48_L83 (hC : zC p l s m args meth c cX7_offers 8 RX7 D cA B0) (hr : meth.sig.returnType = (Option.none : Option Jvm.ClassFile.FieldType)) {Γ : zSh} {x0 : Nat} {x1 : Int32} {x2 : Int32} {x3 : Int32} {x4 : Int32} {x5 : Int32} {x6 : Int32} {s0 : Int32} {s1 : Int32} {s2 : Nat}  {σ : zSt} {out : ((Int32 × zSt) ⊕ (zSt))} (hf : f_X7_offers_B48_L83 Γ x0 x1 x2 x3 x4 x5 x6 s0 s1 s2 σ = some out) {H : Heap} {locs : List Loc} {ls : Array Slot} (hw : zO D cA B0 Γ σ Z s.heap H locs) (hl : lv_has ls 8 [(0, .ref x0), (1, .int x1), (2, .int x2), (3, .int x3), (4, .int x4), (5, .int x5), (6, .int x6)])
    (kI : ∀ (z6 : Int32) (σ2 : zSt), out = .inl (z6, σ2) → ∀ (H : Heap) (locs : List Loc) (ls : Array Slot), zO D cA B0 Γ σ2 Z s.heap H locs → lv_has ls 8 [(0, .ref x0), (1, .int x1), (2, .int x2), (3, .int x3), (4, .int x4), (5, .int x5), (6, .int z6)] → W p l e rm_X7_offers s m args below meth c H locs 0 0 Q (F0 m 48 ls []))
    (kE : ∀ (σ2 : zSt), out = .inr σ2 → ∀ (H : Heap) (locs : List Loc) (ls : Array Slot), zO D cA B0 Γ σ2 Z s.heap H locs → lv_has ls 8 [(0, .ref x0), (2, .int x2), (3, .int x3), (4, .int x4)] → W p l e rm_X7_offers s m args below meth c H locs 0 0 Q (F0 m 166 ls [])) :
    W p l e rm_X7_offers s m args below meth c H locs 0 0 Q (F0 m 83 ls [.int s0, .int s1, .ref s2]) := by
  have hx := hC.1
  have hb := hC.2.1
  unfold f_X7_offers_B48_L83 at hf
  obtain ⟨σ13, hg, hf⟩ := stI_inv hf
  refine r_stI hC hw hg dX7_offers_83 (fun H locs hw => ?_)
  refine lv_aload_n hx hb dX7_offers_84 rfl (lv_at hl 0 rfl) ?_
  obtain ⟨v14, hg, hf⟩ := gfR_inv hf
  refine r_gfR hC hw hg clX7 (Nat.le_of_ble_eq_true rfl) lkF_X7_25 rfl dX7_offers_85 ?_
  refine lv_bipush (v := 24) hx hb dX7_offers_88 (by decide) ?_
  refine lv_iload_n hx hb dX7_offers_90 rfl (lv_at hl 3 rfl) ?_
  refine lv_imul hx hb dX7_offers_91 ?_
  refine lv_iload hx hb dX7_offers_92 (lv_at hl 6 rfl) ?_
  refine lv_iadd hx hb dX7_offers_94 ?_
  refine lv_aload_n hx hb dX7_offers_95 rfl (lv_at hl 0 rfl) ?_
  obtain ⟨v15, hg, hf⟩ := gfR_inv hf
  refine r_gfR hC hw hg clX7 (Nat.le_of_ble_eq_true rfl) lkF_X7_37 rfl dX7_offers_96 ?_
  refine lv_iload hx hb dX7_offers_99 (lv_at hl 6 rfl) ?_
  obtain ⟨v16, hg, hf⟩ := ldI_inv hf
  refine r_ldI hC hw hg dX7_offers_101 ?_
  refine lv_iload hx hb dX7_offers_102 (lv_at hl 5 rfl) ?_
  refine lv_imul hx hb dX7_offers_104 ?_
  refine lv_sipush (v := 10007) hx hb dX7_offers_105 (by decide) ?_
  obtain ⟨v17, hg, hf⟩ := rmI_inv hf
  refine r_rmI hC hg dX7_offers_108 ?_
  obtain ⟨σ18, hg, hf⟩ := stI_inv hf
  refine r_stI hC hw hg dX7_offers_109 (fun H locs hw => ?_)
  refine lv_iload hx hb dX7_offers_110 (lv_at hl 6 rfl) ?_
  refine lv_iload_n hx hb dX7_offers_112 rfl (lv_at hl 3 rfl) ?_
  refine lv_icmp_ne (tgt := 120) hx hb dX7_offers_113 (by decide) (fun hc => ?_) (fun hc => ?_)
  · rw [if_neg hc] at hf
    refine lv_iconst (v := 0) hx hb dX7_offers_120 (by decide) ?_
    exact t_X7_offers_B48_L121 hC hr hf hw (lv_sub hl [0, 1, 2, 3, 4, 5, 6] rfl) kI kE
  · rw [if_pos hc] at hf
    refine lv_iconst (v := 1) hx hb dX7_offers_116 (by decide) ?_
    refine lv_goto (tgt := 121) hx hb dX7_offers_117 (by decide) ?_
    exact t_X7_offers_B48_L121 hC hr hf hw (lv_sub hl [0, 1, 2, 3, 4, 5, 6] rfl) kI kE
set_option maxHeartbeats 4000000 in
set_option maxRecDepth 100000 in
theorem t_X7_offers_B48 (hC : zC p l s m args meth c cX7_offers 8 RX7 D cA B0) (hr : meth.sig.returnType = (Option.none : Option Jvm.ClassFile.FieldType)) {Γ : zSh} {x0 : Nat} {x1 : Int32} {x2 : Int32} {x3 : Int32} {x4 : Int32} {x5 : Int32} {x6 : Int32} {σ : zSt} {out : ((Int32 × zSt) ⊕ (zSt))} (hf : f_X7_offers_B48 Γ x0 x1 x2 x3 x4 x5 x6 σ = some out) {H : Heap} {locs : List Loc} {ls : Array Slot} (hw : zO D cA B0 Γ σ Z s.heap H locs) (hl : lv_has ls 8 [(0, .ref x0), (1, .int x1), (2, .int x2), (3, .int x3), (4, .int x4), (5, .int x5), (6, .int x6)])
    (kI : ∀ (z6 : Int32) (σ2 : zSt), out = .inl (z6, σ2) → ∀ (H : Heap) (locs : List Loc) (ls : Array Slot), zO D cA B0 Γ σ2 Z s.heap H locs → lv_has ls 8 [(0, .ref x0), (1, .int x1), (2, .int x2), (3, .int x3), (4, .int x4), (5, .int x5), (6, .int z6)] → W p l e rm_X7_offers s m args below meth c H locs 0 0 Q (F0 m 48 ls []))
    (kE : ∀ (σ2 : zSt), out = .inr σ2 → ∀ (H : Heap) (locs : List Loc) (ls : Array Slot), zO D cA B0 Γ σ2 Z s.heap H locs → lv_has ls 8 [(0, .ref x0), (2, .int x2), (3, .int x3), (4, .int x4)] → W p l e rm_X7_offers s m args below meth c H locs 0 0 Q (F0 m 166 ls [])) :
    W p l e rm_X7_offers s m args below meth c H locs 0 0 Q (F0 m 48 ls []) := by
  have hx := hC.1
  have hb := hC.2.1
  unfold f_X7_offers_B48 at hf
  refine lv_iload hx hb dX7_offers_48 (lv_at hl 6 rfl) ?_
  refine lv_bipush (v := 24) hx hb dX7_offers_50 (by decide) ?_
  refine lv_icmp_ge (tgt := 166) hx hb dX7_offers_52 (by decide) (fun hc => ?_) (fun hc => ?_)
  · rw [if_pos hc] at hf
    exact kE  σ (Option.some.inj hf).symm _ _ _ hw (lv_sub hl [0, 2, 3, 4] rfl)
  · rw [if_neg hc] at hf
    refine lv_aload_n hx hb dX7_offers_55 rfl (lv_at hl 0 rfl) ?_
    obtain ⟨v12, hg, hf⟩ := gfR_inv hf
    refine r_gfR hC hw hg clX7 (Nat.le_of_ble_eq_true rfl) lkF_X7_22 rfl dX7_offers_56 ?_
    refine lv_bipush (v := 24) hx hb dX7_offers_59 (by decide) ?_
    refine lv_iload_n hx hb dX7_offers_61 rfl (lv_at hl 3 rfl) ?_
    refine lv_imul hx hb dX7_offers_62 ?_
    refine lv_iload hx hb dX7_offers_63 (lv_at hl 6 rfl) ?_
    refine lv_iadd hx hb dX7_offers_65 ?_
    refine lv_iload hx hb dX7_offers_66 (lv_at hl 6 rfl) ?_
    refine lv_iload_n hx hb dX7_offers_68 rfl (lv_at hl 1 rfl) ?_
    refine lv_icmp_ge (tgt := 82) hx hb dX7_offers_69 (by decide) (fun hc => ?_) (fun hc => ?_)
    · rw [if_pos hc] at hf
      refine lv_iconst (v := 0) hx hb dX7_offers_82 (by decide) ?_
      exact t_X7_offers_B48_L83 hC hr hf hw (lv_sub hl [0, 1, 2, 3, 4, 5, 6] rfl) kI kE
    · rw [if_neg hc] at hf
      refine lv_aload_n hx hb dX7_offers_72 rfl (lv_at hl 0 rfl) ?_
      obtain ⟨v25, hg, hf⟩ := gfR_inv hf
      refine r_gfR hC hw hg clX7 (Nat.le_of_ble_eq_true rfl) lkF_X7_16 rfl dX7_offers_73 ?_
      refine lv_iload hx hb dX7_offers_76 (lv_at hl 6 rfl) ?_
      obtain ⟨v26, hg, hf⟩ := ldI_inv hf
      refine r_ldI hC hw hg dX7_offers_78 ?_
      refine lv_goto (tgt := 83) hx hb dX7_offers_79 (by decide) ?_
      exact t_X7_offers_B48_L83 hC hr hf hw (lv_sub hl [0, 1, 2, 3, 4, 5, 6] rfl) kI kE
set_option maxHeartbeats 4000000 in
theorem l_X7_offers_B48 (hC : zC p l s m args meth c cX7_offers 8 RX7 D cA B0) (hr : meth.sig.returnType = (Option.none : Option Jvm.ClassFile.FieldType)) {Γ : zSh} {x0 : Nat} {x1 : Int32} {x2 : Int32} {x3 : Int32} {x4 : Int32} {x5 : Int32} {σ2 : zSt} (kE : ∀ (H : Heap) (locs : List Loc) (ls : Array Slot), zO D cA B0 Γ σ2 Z s.heap H locs → lv_has ls 8 [(0, .ref x0), (2, .int x2), (3, .int x3), (4, .int x4)] → W p l e rm_X7_offers s m args below meth c H locs 0 0 Q (F0 m 166 ls [])) :
    ∀ (n : Nat) (x6 : Int32) (σ : zSt), loopM (fun q => f_X7_offers_B48 Γ x0 x1 x2 x3 x4 x5 q.1 q.2) n (x6, σ) = some σ2 → ∀ (H : Heap) (locs : List Loc) (ls : Array Slot), zO D cA B0 Γ σ Z s.heap H locs → lv_has ls 8 [(0, .ref x0), (1, .int x1), (2, .int x2), (3, .int x3), (4, .int x4), (5, .int x5), (6, .int x6)] → W p l e rm_X7_offers s m args below meth c H locs 0 0 Q (F0 m 48 ls []) := by
  intro n
  induction n with
  | zero => intro x6 σ h; exact absurd h (by simp [loopM])
  | succ n ih =>
    intro x6 σ h H locs ls hw hl
    obtain ⟨r, h1, h2, h3⟩ := loopM_inv h
    exact t_X7_offers_B48 hC hr h1 hw hl (fun z6 s2 e H locs ls hw hl => ih z6 s2 (h2 _ e) H locs ls hw hl) (fun s2 e H locs ls hw hl => by cases h3 _ e; exact kE H locs ls hw hl)
set_option maxHeartbeats 4000000 in
set_option maxRecDepth 100000 in
theorem m_X7_offers (h9 : l.stackTraces = false) {Γ : zSh} {a0 : Nat} {a1 : Int32} {a2 : Int32} {σ : zSt} {r : Unit} {σ2 : zSt} (hf : f_X7_offers Γ a0 a1 a2 σ = some (r, σ2)) : Met l yX7_offers (wq yX7_offers cX7_offers 8 (Option.none : Option Jvm.ClassFile.FieldType)) rm_X7_offers (zQ0 D cA B0 [.ref a0, .int a1, .int a2] Γ σ Z) (zQ1 D cA B0 (none) Γ σ2 Z) 0 0 (FR B0) := by
  refine z_ofW h9 (by decide) (Nat.le_of_ble_eq_true rfl) ?_
  intro p e s m args below meth c ls hC hr _ hw hl
  have hx := hC.1
  have hb := hC.2.1
  have hl : lv_has ls 8 [(0, .ref a0), (1, .int a1), (2, .int a2)] := hl
  unfold f_X7_offers at hf
  refine lv_aload_n hx hb dX7_offers_0 rfl (lv_at hl 0 rfl) ?_
  refine lv_iload_n hx hb dX7_offers_1 rfl (lv_at hl 1 rfl) ?_
  obtain ⟨ho, hf⟩ := chk_inv hf
  obtain ⟨r2, σ1, hk, hf⟩ := bnd_inv hf
  refine z_callV (As := [.int a1]) (rest := []) (m_X7_reduces hC.2.2.2.2.2.2.2.2 hk) hC hw wd_X7_reduces lkM_X7_170 (isO_sh ho) rfl rfl ⟨rfl, rfl⟩ ⟨(Nat.le_of_ble_eq_true rfl), (Nat.le_of_ble_eq_true rfl)⟩ hl.1 rfl (Nat.le_of_ble_eq_true rfl) dX7_offers_2 ⟨(Nat.le_of_ble_eq_true rfl), (Nat.le_of_ble_eq_true rfl)⟩ (fun H locs hw => ?_)
  refine lv_if_ne (tgt := 9) hx hb dX7_offers_5 (by decide) (fun hc => ?_) (fun hc => ?_)
  · rw [if_neg hc] at hf
    refine lv_aload_n hx hb dX7_offers_9 rfl (lv_at hl 0 rfl) ?_
    obtain ⟨v3, hg, hf⟩ := gfI_inv hf
    refine r_gfI hC hw hg clX7 (Nat.le_of_ble_eq_true rfl) lkF_X7_167 rfl dX7_offers_10 ?_
    refine lv_istore_n (lv' := [(3, .int v3), (0, .ref a0), (1, .int a1), (2, .int a2)]) hx hb dX7_offers_13 rfl hl (Nat.le_of_ble_eq_true rfl) rfl (fun ls hl => ?_)
    refine lv_iconst (v := 0) hx hb dX7_offers_14 (by decide) ?_
    refine lv_istore (lv' := [(4, .int 0), (3, .int v3), (0, .ref a0), (1, .int a1), (2, .int a2)]) hx hb dX7_offers_15 hl (Nat.le_of_ble_eq_true rfl) rfl (fun ls hl => ?_)
    obtain ⟨w7, σ6, hk, hf⟩ := lb1_inv hf
    refine l_X7_offers_B17 hC hr (fun H locs ls hw hl => ?_) FUEL 0 σ1 hk _ _ _ hw (lv_sub hl [2, 3, 4, 1, 0] rfl)
    refine lv_aload_n hx hb dX7_offers_33 rfl (lv_at hl 0 rfl) ?_
    obtain ⟨v8, hg, hf⟩ := gfR_inv hf
    refine r_gfR hC hw hg clX7 (Nat.le_of_ble_eq_true rfl) lkF_X7_37 rfl dX7_offers_34 ?_
    refine lv_iload hx hb dX7_offers_37 (lv_at hl 4 rfl) ?_
    obtain ⟨v9, hg, hf⟩ := ldI_inv hf
    refine r_ldI hC hw hg dX7_offers_39 ?_
    obtain ⟨r11, σ10, hk, hf⟩ := bnd_inv hf
    refine z_callS (As := [.int v9]) (rest := []) (m_X7_inverted hC.2.2.2.2.2.2.2.2 hk) hC hw wd_X7_inverted lkM_X7_173 rfl ⟨rfl, rfl⟩ ⟨(Nat.le_of_ble_eq_true rfl), (Nat.le_of_ble_eq_true rfl)⟩ hl.1 rfl (Nat.le_of_ble_eq_true rfl) dX7_offers_40 ⟨(Nat.le_of_ble_eq_true rfl), (Nat.le_of_ble_eq_true rfl)⟩ (fun H locs hw => ?_)
    refine lv_istore (lv' := [(5, .int r11), (0, .ref a0), (1, .int a1), (2, .int a2), (3, .int v3), (4, .int w7)]) hx hb dX7_offers_43 hl (Nat.le_of_ble_eq_true rfl) rfl (fun ls hl => ?_)
    refine lv_iconst (v := 0) hx hb dX7_offers_45 (by decide) ?_
    refine lv_istore (lv' := [(6, .int 0), (5, .int r11), (0, .ref a0), (1, .int a1), (2, .int a2), (3, .int v3), (4, .int w7)]) hx hb dX7_offers_46 hl (Nat.le_of_ble_eq_true rfl) rfl (fun ls hl => ?_)
    obtain ⟨σ27, hk, hf⟩ := lb0_inv hf
    refine l_X7_offers_B48 hC hr (fun H locs ls hw hl => ?_) FUEL 0 σ10 hk _ _ _ hw (lv_sub hl [2, 3, 4, 5, 6, 1, 0] rfl)
    refine lv_aload_n hx hb dX7_offers_166 rfl (lv_at hl 0 rfl) ?_
    obtain ⟨v28, hg, hf⟩ := gfR_inv hf
    refine r_gfR hC hw hg clX7 (Nat.le_of_ble_eq_true rfl) lkF_X7_31 rfl dX7_offers_167 ?_
    refine lv_iload_n hx hb dX7_offers_170 rfl (lv_at hl 2 rfl) ?_
    refine lv_iload hx hb dX7_offers_171 (lv_at hl 3 rfl) ?_
    obtain ⟨σ29, hg, hf⟩ := stI_inv hf
    refine r_stI hC hw hg dX7_offers_173 (fun H locs hw => ?_)
    refine lv_aload_n hx hb dX7_offers_174 rfl (lv_at hl 0 rfl) ?_
    obtain ⟨v30, hg, hf⟩ := gfR_inv hf
    refine r_gfR hC hw hg clX7 (Nat.le_of_ble_eq_true rfl) lkF_X7_34 rfl dX7_offers_175 ?_
    refine lv_iload_n hx hb dX7_offers_178 rfl (lv_at hl 2 rfl) ?_
    refine lv_iload_n hx hb dX7_offers_179 rfl (lv_at hl 1 rfl) ?_
    obtain ⟨σ31, hg, hf⟩ := stI_inv hf
    refine r_stI hC hw hg dX7_offers_180 (fun H locs hw => ?_)
    refine lv_aload_n hx hb dX7_offers_181 rfl (lv_at hl 0 rfl) ?_
    refine lv_dup hx hb dX7_offers_182 rfl ?_
    obtain ⟨v32, hg, hf⟩ := gfI_inv hf
    refine r_gfI hC hw hg clX7 (Nat.le_of_ble_eq_true rfl) lkF_X7_167 rfl dX7_offers_183 ?_
    refine lv_iconst (v := 1) hx hb dX7_offers_186 (by decide) ?_
    refine lv_iadd hx hb dX7_offers_187 ?_
    obtain ⟨σ33, hg, hf⟩ := pfI_inv hf
    refine r_pfI hC hw hg clX7 (Nat.le_of_ble_eq_true rfl) lkF_X7_167 rfl rfl rfl dX7_offers_188 (fun H locs hw => ?_)
    first | (obtain ⟨rfl, rfl⟩ := sp_inv hf) | (obtain rfl := Option.some.inj hf)
    exact W.vret hx hb hr (z_ret hw rfl) hw.2.2.2.2.2 dX7_offers_191 hC.2.2.2.2.2.1
  · rw [if_pos hc] at hf
    first | (obtain ⟨rfl, rfl⟩ := sp_inv hf) | (obtain rfl := Option.some.inj hf)
    exact W.vret hx hb hr (z_ret hw rfl) hw.2.2.2.2.2 dX7_offers_8 hC.2.2.2.2.2.1
set_option maxHeartbeats 4000000 in
set_option maxRecDepth 100000 in
theorem t_X7_laysBasis_B2 (hC : zC p l s m args meth c cX7_laysBasis 4 RX7 D cA B0) (hr : meth.sig.returnType = (Option.none : Option Jvm.ClassFile.FieldType)) {Γ : zSh} {x0 : Nat} {x1 : Int32} {x2 : Int32} {x3 : Int32} {σ : zSt} {out : ((Int32 × zSt) ⊕ (zSt))} (hf : f_X7_laysBasis_B2 Γ x0 x1 x2 x3 σ = some out) {H : Heap} {locs : List Loc} {ls : Array Slot} (hw : zO D cA B0 Γ σ Z s.heap H locs) (hl : lv_has ls 4 [(0, .ref x0), (1, .int x1), (2, .int x2), (3, .int x3)])
    (kI : ∀ (z3 : Int32) (σ2 : zSt), out = .inl (z3, σ2) → ∀ (H : Heap) (locs : List Loc) (ls : Array Slot), zO D cA B0 Γ σ2 Z s.heap H locs → lv_has ls 4 [(0, .ref x0), (1, .int x1), (2, .int x2), (3, .int z3)] → W p l e rm_X7_laysBasis s m args below meth c H locs 0 0 Q (F0 m 2 ls []))
    (kE : ∀ (σ2 : zSt), out = .inr σ2 → ∀ (H : Heap) (locs : List Loc) (ls : Array Slot), zO D cA B0 Γ σ2 Z s.heap H locs → lv_has ls 4 [] → W p l e rm_X7_laysBasis s m args below meth c H locs 0 0 Q (F0 m 30 ls [])) :
    W p l e rm_X7_laysBasis s m args below meth c H locs 0 0 Q (F0 m 2 ls []) := by
  have hx := hC.1
  have hb := hC.2.1
  unfold f_X7_laysBasis_B2 at hf
  refine lv_iload_n hx hb dX7_laysBasis_2 rfl (lv_at hl 3 rfl) ?_
  refine lv_iload_n hx hb dX7_laysBasis_3 rfl (lv_at hl 2 rfl) ?_
  refine lv_icmp_ge (tgt := 30) hx hb dX7_laysBasis_4 (by decide) (fun hc => ?_) (fun hc => ?_)
  · rw [if_pos hc] at hf
    exact kE  σ (Option.some.inj hf).symm _ _ _ hw (lv_sub hl [] rfl)
  · rw [if_neg hc] at hf
    refine lv_aload_n hx hb dX7_laysBasis_7 rfl (lv_at hl 0 rfl) ?_
    obtain ⟨v1, hg, hf⟩ := gfR_inv hf
    refine r_gfR hC hw hg clX7 (Nat.le_of_ble_eq_true rfl) lkF_X7_16 rfl dX7_laysBasis_8 ?_
    refine lv_iload_n hx hb dX7_laysBasis_11 rfl (lv_at hl 3 rfl) ?_
    refine lv_aload_n hx hb dX7_laysBasis_12 rfl (lv_at hl 0 rfl) ?_
    obtain ⟨v2, hg, hf⟩ := gfR_inv hf
    refine r_gfR hC hw hg clX7 (Nat.le_of_ble_eq_true rfl) lkF_X7_22 rfl dX7_laysBasis_13 ?_
    refine lv_bipush (v := 24) hx hb dX7_laysBasis_16 (by decide) ?_
    refine lv_iload_n hx hb dX7_laysBasis_18 rfl (lv_at hl 1 rfl) ?_
    refine lv_imul hx hb dX7_laysBasis_19 ?_
    refine lv_iload_n hx hb dX7_laysBasis_20 rfl (lv_at hl 3 rfl) ?_
    refine lv_iadd hx hb dX7_laysBasis_21 ?_
    obtain ⟨v3, hg, hf⟩ := ldI_inv hf
    refine r_ldI hC hw hg dX7_laysBasis_22 ?_
    obtain ⟨σ4, hg, hf⟩ := stI_inv hf
    refine r_stI hC hw hg dX7_laysBasis_23 (fun H locs hw => ?_)
    refine lv_iinc (v := (x3 + 1)) (lv' := [(3, .int (x3 + 1)), (0, .ref x0), (1, .int x1), (2, .int x2)]) hx hb dX7_laysBasis_24 hl (k := 3) rfl rfl (Nat.le_of_ble_eq_true rfl) rfl (fun ls hl => ?_)
    refine lv_goto (tgt := 2) hx hb dX7_laysBasis_27 (by decide) ?_
    exact kI (x3 + 1) σ4 (Option.some.inj hf).symm _ _ _ hw (lv_sub hl [1, 2, 3, 0] rfl)
set_option maxHeartbeats 4000000 in
theorem l_X7_laysBasis_B2 (hC : zC p l s m args meth c cX7_laysBasis 4 RX7 D cA B0) (hr : meth.sig.returnType = (Option.none : Option Jvm.ClassFile.FieldType)) {Γ : zSh} {x0 : Nat} {x1 : Int32} {x2 : Int32} {σ2 : zSt} (kE : ∀ (H : Heap) (locs : List Loc) (ls : Array Slot), zO D cA B0 Γ σ2 Z s.heap H locs → lv_has ls 4 [] → W p l e rm_X7_laysBasis s m args below meth c H locs 0 0 Q (F0 m 30 ls [])) :
    ∀ (n : Nat) (x3 : Int32) (σ : zSt), loopM (fun q => f_X7_laysBasis_B2 Γ x0 x1 x2 q.1 q.2) n (x3, σ) = some σ2 → ∀ (H : Heap) (locs : List Loc) (ls : Array Slot), zO D cA B0 Γ σ Z s.heap H locs → lv_has ls 4 [(0, .ref x0), (1, .int x1), (2, .int x2), (3, .int x3)] → W p l e rm_X7_laysBasis s m args below meth c H locs 0 0 Q (F0 m 2 ls []) := by
  intro n
  induction n with
  | zero => intro x3 σ h; exact absurd h (by simp [loopM])
  | succ n ih =>
    intro x3 σ h H locs ls hw hl
    obtain ⟨r, h1, h2, h3⟩ := loopM_inv h
    exact t_X7_laysBasis_B2 hC hr h1 hw hl (fun z3 s2 e H locs ls hw hl => ih z3 s2 (h2 _ e) H locs ls hw hl) (fun s2 e H locs ls hw hl => by cases h3 _ e; exact kE H locs ls hw hl)
set_option maxHeartbeats 4000000 in
set_option maxRecDepth 100000 in
theorem m_X7_laysBasis (h9 : l.stackTraces = false) {Γ : zSh} {a0 : Nat} {a1 : Int32} {a2 : Int32} {σ : zSt} {r : Unit} {σ2 : zSt} (hf : f_X7_laysBasis Γ a0 a1 a2 σ = some (r, σ2)) : Met l yX7_laysBasis (wq yX7_laysBasis cX7_laysBasis 4 (Option.none : Option Jvm.ClassFile.FieldType)) rm_X7_laysBasis (zQ0 D cA B0 [.ref a0, .int a1, .int a2] Γ σ Z) (zQ1 D cA B0 (none) Γ σ2 Z) 0 0 (FR B0) := by
  refine z_ofW h9 (by decide) (Nat.le_of_ble_eq_true rfl) ?_
  intro p e s m args below meth c ls hC hr _ hw hl
  have hx := hC.1
  have hb := hC.2.1
  have hl : lv_has ls 4 [(0, .ref a0), (1, .int a1), (2, .int a2)] := hl
  unfold f_X7_laysBasis at hf
  refine lv_iconst (v := 0) hx hb dX7_laysBasis_0 (by decide) ?_
  refine lv_istore_n (lv' := [(3, .int 0), (0, .ref a0), (1, .int a1), (2, .int a2)]) hx hb dX7_laysBasis_1 rfl hl (Nat.le_of_ble_eq_true rfl) rfl (fun ls hl => ?_)
  obtain ⟨σ5, hk, hf⟩ := lb0_inv hf
  refine l_X7_laysBasis_B2 hC hr (fun H locs ls hw hl => ?_) FUEL 0 σ hk _ _ _ hw (lv_sub hl [1, 2, 3, 0] rfl)
  first | (obtain ⟨rfl, rfl⟩ := sp_inv hf) | (obtain rfl := Option.some.inj hf)
  exact W.vret hx hb hr (z_ret hw rfl) hw.2.2.2.2.2 dX7_laysBasis_30 hC.2.2.2.2.2.1
set_option maxHeartbeats 4000000 in
set_option maxRecDepth 100000 in
theorem t_X7_spans_B68_L106 (hC : zC p l s m args meth c cX7_spans 6 RX7 D cA B0) (hr : meth.sig.returnType = (Option.none : Option Jvm.ClassFile.FieldType)) {Γ : zSh} {x0 : Nat} {x1 : Int32} {x2 : Int32} {x3 : Int32} {x4 : Int32} {x5 : Int32}  {σ : zSt} {out : ((Int32 × zSt) ⊕ (zSt))} (hf : f_X7_spans_B68_L106 Γ x0 x1 x2 x3 x4 x5 σ = some out) {H : Heap} {locs : List Loc} {ls : Array Slot} (hw : zO D cA B0 Γ σ Z s.heap H locs) (hl : lv_has ls 6 [(0, .ref x0), (1, .int x1), (2, .int x2), (3, .int x3), (4, .int x4), (5, .int x5)])
    (kI : ∀ (z5 : Int32) (σ2 : zSt), out = .inl (z5, σ2) → ∀ (H : Heap) (locs : List Loc) (ls : Array Slot), zO D cA B0 Γ σ2 Z s.heap H locs → lv_has ls 6 [(0, .ref x0), (1, .int x1), (2, .int x2), (3, .int x3), (4, .int x4), (5, .int z5)] → W p l e rm_X7_spans s m args below meth c H locs 0 0 Q (F0 m 68 ls []))
    (kE : ∀ (σ2 : zSt), out = .inr σ2 → ∀ (H : Heap) (locs : List Loc) (ls : Array Slot), zO D cA B0 Γ σ2 Z s.heap H locs → lv_has ls 6 [(0, .ref x0), (1, .int x1), (2, .int x2), (3, .int x3), (4, .int x4)] → W p l e rm_X7_spans s m args below meth c H locs 0 0 Q (F0 m 131 ls [])) :
    W p l e rm_X7_spans s m args below meth c H locs 0 0 Q (F0 m 106 ls []) := by
  have hx := hC.1
  have hb := hC.2.1
  unfold f_X7_spans_B68_L106 at hf
  refine lv_aload_n hx hb dX7_spans_106 rfl (lv_at hl 0 rfl) ?_
  refine lv_iload_n hx hb dX7_spans_107 rfl (lv_at hl 3 rfl) ?_
  refine lv_iconst (v := 2) hx hb dX7_spans_108 (by decide) ?_
  refine lv_aload_n hx hb dX7_spans_109 rfl (lv_at hl 0 rfl) ?_
  obtain ⟨v11, hg, hf⟩ := gfR_inv hf
  refine r_gfR hC hw hg clX7 (Nat.le_of_ble_eq_true rfl) lkF_X7_34 rfl dX7_spans_110 ?_
  refine lv_iload hx hb dX7_spans_113 (lv_at hl 4 rfl) ?_
  obtain ⟨v12, hg, hf⟩ := ldI_inv hf
  refine r_ldI hC hw hg dX7_spans_115 ?_
  refine lv_imul hx hb dX7_spans_116 ?_
  refine lv_iconst (v := 1) hx hb dX7_spans_117 (by decide) ?_
  refine lv_iadd hx hb dX7_spans_118 ?_
  refine lv_iload hx hb dX7_spans_119 (lv_at hl 5 rfl) ?_
  refine lv_iadd hx hb dX7_spans_121 ?_
  obtain ⟨ho, hf⟩ := chk_inv hf
  obtain ⟨_, σ13, hk, hf⟩ := bnd_inv hf
  refine z_callV (As := [.int x3, .int (((2 * v12) + 1) + x5)]) (rest := []) (m_X7_offers hC.2.2.2.2.2.2.2.2 hk) hC hw wd_X7_offers lkM_X7_176 (isO_sh ho) rfl rfl ⟨rfl, rfl⟩ ⟨(Nat.le_of_ble_eq_true rfl), (Nat.le_of_ble_eq_true rfl)⟩ hl.1 rfl (Nat.le_of_ble_eq_true rfl) dX7_spans_122 ⟨(Nat.le_of_ble_eq_true rfl), (Nat.le_of_ble_eq_true rfl)⟩ (fun H locs hw => ?_)
  refine lv_iinc (v := (x5 + 1)) (lv' := [(5, .int (x5 + 1)), (0, .ref x0), (1, .int x1), (2, .int x2), (3, .int x3), (4, .int x4)]) hx hb dX7_spans_125 hl (k := 5) rfl rfl (Nat.le_of_ble_eq_true rfl) rfl (fun ls hl => ?_)
  refine lv_goto (tgt := 68) hx hb dX7_spans_128 (by decide) ?_
  exact kI (x5 + 1) σ13 (Option.some.inj hf).symm _ _ _ hw (lv_sub hl [1, 2, 3, 4, 5, 0] rfl)
set_option maxHeartbeats 4000000 in
set_option maxRecDepth 100000 in
theorem t_X7_spans_B68 (hC : zC p l s m args meth c cX7_spans 6 RX7 D cA B0) (hr : meth.sig.returnType = (Option.none : Option Jvm.ClassFile.FieldType)) {Γ : zSh} {x0 : Nat} {x1 : Int32} {x2 : Int32} {x3 : Int32} {x4 : Int32} {x5 : Int32} {σ : zSt} {out : ((Int32 × zSt) ⊕ (zSt))} (hf : f_X7_spans_B68 Γ x0 x1 x2 x3 x4 x5 σ = some out) {H : Heap} {locs : List Loc} {ls : Array Slot} (hw : zO D cA B0 Γ σ Z s.heap H locs) (hl : lv_has ls 6 [(0, .ref x0), (1, .int x1), (2, .int x2), (3, .int x3), (4, .int x4), (5, .int x5)])
    (kI : ∀ (z5 : Int32) (σ2 : zSt), out = .inl (z5, σ2) → ∀ (H : Heap) (locs : List Loc) (ls : Array Slot), zO D cA B0 Γ σ2 Z s.heap H locs → lv_has ls 6 [(0, .ref x0), (1, .int x1), (2, .int x2), (3, .int x3), (4, .int x4), (5, .int z5)] → W p l e rm_X7_spans s m args below meth c H locs 0 0 Q (F0 m 68 ls []))
    (kE : ∀ (σ2 : zSt), out = .inr σ2 → ∀ (H : Heap) (locs : List Loc) (ls : Array Slot), zO D cA B0 Γ σ2 Z s.heap H locs → lv_has ls 6 [(0, .ref x0), (1, .int x1), (2, .int x2), (3, .int x3), (4, .int x4)] → W p l e rm_X7_spans s m args below meth c H locs 0 0 Q (F0 m 131 ls [])) :
    W p l e rm_X7_spans s m args below meth c H locs 0 0 Q (F0 m 68 ls []) := by
  have hx := hC.1
  have hb := hC.2.1
  unfold f_X7_spans_B68 at hf
  refine lv_iload hx hb dX7_spans_68 (lv_at hl 5 rfl) ?_
  refine lv_iconst (v := 2) hx hb dX7_spans_70 (by decide) ?_
  refine lv_icmp_ge (tgt := 131) hx hb dX7_spans_71 (by decide) (fun hc => ?_) (fun hc => ?_)
  · rw [if_pos hc] at hf
    exact kE  σ (Option.some.inj hf).symm _ _ _ hw (lv_sub hl [0, 1, 2, 3, 4] rfl)
  · rw [if_neg hc] at hf
    refine lv_aload_n hx hb dX7_spans_74 rfl (lv_at hl 0 rfl) ?_
    refine lv_iload hx hb dX7_spans_75 (lv_at hl 4 rfl) ?_
    refine lv_iload_n hx hb dX7_spans_77 rfl (lv_at hl 3 rfl) ?_
    obtain ⟨ho, hf⟩ := chk_inv hf
    obtain ⟨_, σ9, hk, hf⟩ := bnd_inv hf
    refine z_callV (As := [.int x4, .int x3]) (rest := []) (m_X7_laysBasis hC.2.2.2.2.2.2.2.2 hk) hC hw wd_X7_laysBasis lkM_X7_179 (isO_sh ho) rfl rfl ⟨rfl, rfl⟩ ⟨(Nat.le_of_ble_eq_true rfl), (Nat.le_of_ble_eq_true rfl)⟩ hl.1 rfl (Nat.le_of_ble_eq_true rfl) dX7_spans_78 ⟨(Nat.le_of_ble_eq_true rfl), (Nat.le_of_ble_eq_true rfl)⟩ (fun H locs hw => ?_)
    refine lv_aload_n hx hb dX7_spans_81 rfl (lv_at hl 0 rfl) ?_
    refine lv_iload_n hx hb dX7_spans_82 rfl (lv_at hl 1 rfl) ?_
    refine lv_iconst (v := 0) hx hb dX7_spans_83 (by decide) ?_
    refine lv_iload hx hb dX7_spans_84 (lv_at hl 5 rfl) ?_
    obtain ⟨ho, hf⟩ := chk_inv hf
    obtain ⟨_, σ10, hk, hf⟩ := bnd_inv hf
    refine z_callV (As := [.int x1, .int 0, .int x5]) (rest := []) (m_X7_passes hC.2.2.2.2.2.2.2.2 hk) hC hw wd_X7_passes lkM_X7_143 (isO_sh ho) rfl rfl ⟨rfl, rfl⟩ ⟨(Nat.le_of_ble_eq_true rfl), (Nat.le_of_ble_eq_true rfl)⟩ hl.1 rfl (Nat.le_of_ble_eq_true rfl) dX7_spans_86 ⟨(Nat.le_of_ble_eq_true rfl), (Nat.le_of_ble_eq_true rfl)⟩ (fun H locs hw => ?_)
    refine lv_iload_n hx hb dX7_spans_89 rfl (lv_at hl 2 rfl) ?_
    refine lv_iconst (v := (-1)) hx hb dX7_spans_90 (by decide) ?_
    refine lv_icmp_eq (tgt := 106) hx hb dX7_spans_91 (by decide) (fun hc => ?_) (fun hc => ?_)
    · rw [if_pos hc] at hf
      exact t_X7_spans_B68_L106 hC hr hf hw (lv_sub hl [0, 1, 2, 3, 4, 5] rfl) kI kE
    · rw [if_neg hc] at hf
      refine lv_aload_n hx hb dX7_spans_94 rfl (lv_at hl 0 rfl) ?_
      refine lv_iload_n hx hb dX7_spans_95 rfl (lv_at hl 2 rfl) ?_
      refine lv_aload_n hx hb dX7_spans_96 rfl (lv_at hl 0 rfl) ?_
      refine lv_iload_n hx hb dX7_spans_97 rfl (lv_at hl 1 rfl) ?_
      obtain ⟨ho, hf⟩ := chk_inv hf
      obtain ⟨r15, σ14, hk, hf⟩ := bnd_inv hf
      refine z_callV (As := [.int x1]) (rest := [.int x2, .ref x0]) (m_X7_many hC.2.2.2.2.2.2.2.2 hk) hC hw wd_X7_many lkM_X7_78 (isO_sh ho) rfl rfl ⟨rfl, rfl⟩ ⟨(Nat.le_of_ble_eq_true rfl), (Nat.le_of_ble_eq_true rfl)⟩ hl.1 rfl (Nat.le_of_ble_eq_true rfl) dX7_spans_98 ⟨(Nat.le_of_ble_eq_true rfl), (Nat.le_of_ble_eq_true rfl)⟩ (fun H locs hw => ?_)
      refine lv_iload hx hb dX7_spans_101 (lv_at hl 5 rfl) ?_
      obtain ⟨ho, hf⟩ := chk_inv hf
      obtain ⟨_, σ16, hk, hf⟩ := bnd_inv hf
      refine z_callV (As := [.int x2, .int r15, .int x5]) (rest := []) (m_X7_passes hC.2.2.2.2.2.2.2.2 hk) hC hw wd_X7_passes lkM_X7_143 (isO_sh ho) rfl rfl ⟨rfl, rfl⟩ ⟨(Nat.le_of_ble_eq_true rfl), (Nat.le_of_ble_eq_true rfl)⟩ hl.1 rfl (Nat.le_of_ble_eq_true rfl) dX7_spans_103 ⟨(Nat.le_of_ble_eq_true rfl), (Nat.le_of_ble_eq_true rfl)⟩ (fun H locs hw => ?_)
      exact t_X7_spans_B68_L106 hC hr hf hw (lv_sub hl [0, 1, 2, 3, 4, 5] rfl) kI kE
set_option maxHeartbeats 4000000 in
theorem l_X7_spans_B68 (hC : zC p l s m args meth c cX7_spans 6 RX7 D cA B0) (hr : meth.sig.returnType = (Option.none : Option Jvm.ClassFile.FieldType)) {Γ : zSh} {x0 : Nat} {x1 : Int32} {x2 : Int32} {x3 : Int32} {x4 : Int32} {σ2 : zSt} (kE : ∀ (H : Heap) (locs : List Loc) (ls : Array Slot), zO D cA B0 Γ σ2 Z s.heap H locs → lv_has ls 6 [(0, .ref x0), (1, .int x1), (2, .int x2), (3, .int x3), (4, .int x4)] → W p l e rm_X7_spans s m args below meth c H locs 0 0 Q (F0 m 131 ls [])) :
    ∀ (n : Nat) (x5 : Int32) (σ : zSt), loopM (fun q => f_X7_spans_B68 Γ x0 x1 x2 x3 x4 q.1 q.2) n (x5, σ) = some σ2 → ∀ (H : Heap) (locs : List Loc) (ls : Array Slot), zO D cA B0 Γ σ Z s.heap H locs → lv_has ls 6 [(0, .ref x0), (1, .int x1), (2, .int x2), (3, .int x3), (4, .int x4), (5, .int x5)] → W p l e rm_X7_spans s m args below meth c H locs 0 0 Q (F0 m 68 ls []) := by
  intro n
  induction n with
  | zero => intro x5 σ h; exact absurd h (by simp [loopM])
  | succ n ih =>
    intro x5 σ h H locs ls hw hl
    obtain ⟨r, h1, h2, h3⟩ := loopM_inv h
    exact t_X7_spans_B68 hC hr h1 hw hl (fun z5 s2 e H locs ls hw hl => ih z5 s2 (h2 _ e) H locs ls hw hl) (fun s2 e H locs ls hw hl => by cases h3 _ e; exact kE H locs ls hw hl)
set_option maxHeartbeats 4000000 in
set_option maxRecDepth 100000 in
theorem t_X7_spans_B56 (hC : zC p l s m args meth c cX7_spans 6 RX7 D cA B0) (hr : meth.sig.returnType = (Option.none : Option Jvm.ClassFile.FieldType)) {Γ : zSh} {x0 : Nat} {x1 : Int32} {x2 : Int32} {x3 : Int32} {x4 : Int32} {σ : zSt} {out : ((Int32 × zSt) ⊕ (zSt))} (hf : f_X7_spans_B56 Γ x0 x1 x2 x3 x4 σ = some out) {H : Heap} {locs : List Loc} {ls : Array Slot} (hw : zO D cA B0 Γ σ Z s.heap H locs) (hl : lv_has ls 6 [(0, .ref x0), (1, .int x1), (2, .int x2), (3, .int x3), (4, .int x4)])
    (kI : ∀ (z4 : Int32) (σ2 : zSt), out = .inl (z4, σ2) → ∀ (H : Heap) (locs : List Loc) (ls : Array Slot), zO D cA B0 Γ σ2 Z s.heap H locs → lv_has ls 6 [(0, .ref x0), (1, .int x1), (2, .int x2), (3, .int x3), (4, .int z4)] → W p l e rm_X7_spans s m args below meth c H locs 0 0 Q (F0 m 56 ls []))
    (kE : ∀ (σ2 : zSt), out = .inr σ2 → ∀ (H : Heap) (locs : List Loc) (ls : Array Slot), zO D cA B0 Γ σ2 Z s.heap H locs → lv_has ls 6 [] → W p l e rm_X7_spans s m args below meth c H locs 0 0 Q (F0 m 137 ls [])) :
    W p l e rm_X7_spans s m args below meth c H locs 0 0 Q (F0 m 56 ls []) := by
  have hx := hC.1
  have hb := hC.2.1
  unfold f_X7_spans_B56 at hf
  refine lv_iload hx hb dX7_spans_56 (lv_at hl 4 rfl) ?_
  refine lv_aload_n hx hb dX7_spans_58 rfl (lv_at hl 0 rfl) ?_
  obtain ⟨v8, hg, hf⟩ := gfI_inv hf
  refine r_gfI hC hw hg clX7 (Nat.le_of_ble_eq_true rfl) lkF_X7_167 rfl dX7_spans_59 ?_
  refine lv_icmp_ge (tgt := 137) hx hb dX7_spans_62 (by decide) (fun hc => ?_) (fun hc => ?_)
  · rw [if_pos hc] at hf
    exact kE  σ (Option.some.inj hf).symm _ _ _ hw (lv_sub hl [] rfl)
  · rw [if_neg hc] at hf
    refine lv_iconst (v := 0) hx hb dX7_spans_65 (by decide) ?_
    refine lv_istore (lv' := [(5, .int 0), (0, .ref x0), (1, .int x1), (2, .int x2), (3, .int x3), (4, .int x4)]) hx hb dX7_spans_66 hl (Nat.le_of_ble_eq_true rfl) rfl (fun ls hl => ?_)
    obtain ⟨σ17, hk, hf⟩ := lb0_inv hf
    refine l_X7_spans_B68 hC hr (fun H locs ls hw hl => ?_) FUEL 0 σ hk _ _ _ hw (lv_sub hl [1, 2, 3, 4, 5, 0] rfl)
    refine lv_iinc (v := (x4 + 1)) (lv' := [(4, .int (x4 + 1)), (0, .ref x0), (1, .int x1), (2, .int x2), (3, .int x3)]) hx hb dX7_spans_131 hl (k := 4) rfl rfl (Nat.le_of_ble_eq_true rfl) rfl (fun ls hl => ?_)
    refine lv_goto (tgt := 56) hx hb dX7_spans_134 (by decide) ?_
    exact kI (x4 + 1) σ17 (Option.some.inj hf).symm _ _ _ hw (lv_sub hl [1, 2, 3, 4, 0] rfl)
set_option maxHeartbeats 4000000 in
theorem l_X7_spans_B56 (hC : zC p l s m args meth c cX7_spans 6 RX7 D cA B0) (hr : meth.sig.returnType = (Option.none : Option Jvm.ClassFile.FieldType)) {Γ : zSh} {x0 : Nat} {x1 : Int32} {x2 : Int32} {x3 : Int32} {σ2 : zSt} (kE : ∀ (H : Heap) (locs : List Loc) (ls : Array Slot), zO D cA B0 Γ σ2 Z s.heap H locs → lv_has ls 6 [] → W p l e rm_X7_spans s m args below meth c H locs 0 0 Q (F0 m 137 ls [])) :
    ∀ (n : Nat) (x4 : Int32) (σ : zSt), loopM (fun q => f_X7_spans_B56 Γ x0 x1 x2 x3 q.1 q.2) n (x4, σ) = some σ2 → ∀ (H : Heap) (locs : List Loc) (ls : Array Slot), zO D cA B0 Γ σ Z s.heap H locs → lv_has ls 6 [(0, .ref x0), (1, .int x1), (2, .int x2), (3, .int x3), (4, .int x4)] → W p l e rm_X7_spans s m args below meth c H locs 0 0 Q (F0 m 56 ls []) := by
  intro n
  induction n with
  | zero => intro x4 σ h; exact absurd h (by simp [loopM])
  | succ n ih =>
    intro x4 σ h H locs ls hw hl
    obtain ⟨r, h1, h2, h3⟩ := loopM_inv h
    exact t_X7_spans_B56 hC hr h1 hw hl (fun z4 s2 e H locs ls hw hl => ih z4 s2 (h2 _ e) H locs ls hw hl) (fun s2 e H locs ls hw hl => by cases h3 _ e; exact kE H locs ls hw hl)
set_option maxHeartbeats 4000000 in
set_option maxRecDepth 100000 in
theorem t_X7_spans_L47 (hC : zC p l s m args meth c cX7_spans 6 RX7 D cA B0) (hr : meth.sig.returnType = (Option.none : Option Jvm.ClassFile.FieldType)) {Γ : zSh} {x0 : Nat} {x1 : Int32} {x2 : Int32} {x3 : Int32} {σ : zSt} {out : (Unit × zSt)} (hf : f_X7_spans_L47 Γ x0 x1 x2 x3 σ = some out) {H : Heap} {locs : List Loc} {ls : Array Slot} (hw : zO D cA B0 Γ σ Z s.heap H locs) (hl : lv_has ls 6 [(0, .ref x0), (1, .int x1), (2, .int x2), (3, .int x3)]) :
    W p l e rm_X7_spans s m args below meth c H locs 0 0 (MQ below (zQ1 D cA B0 (none) Γ out.2 Z) args s 0 0 (FR B0)) (F0 m 47 ls []) := by
  have hx := hC.1
  have hb := hC.2.1
  unfold f_X7_spans_L47 at hf
  refine lv_aload_n hx hb dX7_spans_47 rfl (lv_at hl 0 rfl) ?_
  refine lv_iload_n hx hb dX7_spans_48 rfl (lv_at hl 3 rfl) ?_
  refine lv_iconst (v := 0) hx hb dX7_spans_49 (by decide) ?_
  obtain ⟨ho, hf⟩ := chk_inv hf
  obtain ⟨_, σ7, hk, hf⟩ := bnd_inv hf
  refine z_callV (As := [.int x3, .int 0]) (rest := []) (m_X7_offers hC.2.2.2.2.2.2.2.2 hk) hC hw wd_X7_offers lkM_X7_176 (isO_sh ho) rfl rfl ⟨rfl, rfl⟩ ⟨(Nat.le_of_ble_eq_true rfl), (Nat.le_of_ble_eq_true rfl)⟩ hl.1 rfl (Nat.le_of_ble_eq_true rfl) dX7_spans_50 ⟨(Nat.le_of_ble_eq_true rfl), (Nat.le_of_ble_eq_true rfl)⟩ (fun H locs hw => ?_)
  refine lv_iconst (v := 0) hx hb dX7_spans_53 (by decide) ?_
  refine lv_istore (lv' := [(4, .int 0), (0, .ref x0), (1, .int x1), (2, .int x2), (3, .int x3)]) hx hb dX7_spans_54 hl (Nat.le_of_ble_eq_true rfl) rfl (fun ls hl => ?_)
  obtain ⟨σ18, hk, hf⟩ := lb0_inv hf
  refine l_X7_spans_B56 hC hr (fun H locs ls hw hl => ?_) FUEL 0 σ7 hk _ _ _ hw (lv_sub hl [1, 2, 3, 4, 0] rfl)
  first | (obtain ⟨rfl, rfl⟩ := sp_inv hf) | (obtain rfl := Option.some.inj hf)
  exact W.vret hx hb hr (z_ret hw rfl) hw.2.2.2.2.2 dX7_spans_137 hC.2.2.2.2.2.1
set_option maxHeartbeats 4000000 in
set_option maxRecDepth 100000 in
theorem t_X7_spans_L19 (hC : zC p l s m args meth c cX7_spans 6 RX7 D cA B0) (hr : meth.sig.returnType = (Option.none : Option Jvm.ClassFile.FieldType)) {Γ : zSh} {x0 : Nat} {x1 : Int32} {x2 : Int32} {s0 : Int32} {s1 : Int32} {σ : zSt} {out : (Unit × zSt)} (hf : f_X7_spans_L19 Γ x0 x1 x2 s0 s1 σ = some out) {H : Heap} {locs : List Loc} {ls : Array Slot} (hw : zO D cA B0 Γ σ Z s.heap H locs) (hl : lv_has ls 6 [(0, .ref x0), (1, .int x1), (2, .int x2)]) :
    W p l e rm_X7_spans s m args below meth c H locs 0 0 (MQ below (zQ1 D cA B0 (none) Γ out.2 Z) args s 0 0 (FR B0)) (F0 m 19 ls [.int s0, .int s1]) := by
  have hx := hC.1
  have hb := hC.2.1
  unfold f_X7_spans_L19 at hf
  refine lv_iadd hx hb dX7_spans_19 ?_
  refine lv_istore_n (lv' := [(3, .int (s1 + s0)), (0, .ref x0), (1, .int x1), (2, .int x2)]) hx hb dX7_spans_20 rfl hl (Nat.le_of_ble_eq_true rfl) rfl (fun ls hl => ?_)
  refine lv_aload_n hx hb dX7_spans_21 rfl (lv_at hl 1 rfl) ?_
  refine lv_iconst (v := 0) hx hb dX7_spans_22 (by decide) ?_
  obtain ⟨σ5, hg, hf⟩ := pfI_inv hf
  refine r_pfI hC hw hg clX7 (Nat.le_of_ble_eq_true rfl) lkF_X7_167 rfl rfl rfl dX7_spans_23 (fun H locs hw => ?_)
  refine lv_aload_n hx hb dX7_spans_26 rfl (lv_at hl 1 rfl) ?_
  refine lv_iload_n hx hb dX7_spans_27 rfl (lv_at hl 2 rfl) ?_
  refine lv_iconst (v := 0) hx hb dX7_spans_28 (by decide) ?_
  obtain ⟨ho, hf⟩ := chk_inv hf
  obtain ⟨_, σ6, hk, hf⟩ := bnd_inv hf
  refine z_callV (As := [.int x1, .int 0]) (rest := []) (m_X7_laysInitial hC.2.2.2.2.2.2.2.2 hk) hC hw wd_X7_laysInitial lkM_X7_147 (isO_sh ho) rfl rfl ⟨rfl, rfl⟩ ⟨(Nat.le_of_ble_eq_true rfl), (Nat.le_of_ble_eq_true rfl)⟩ hl.1 rfl (Nat.le_of_ble_eq_true rfl) dX7_spans_29 ⟨(Nat.le_of_ble_eq_true rfl), (Nat.le_of_ble_eq_true rfl)⟩ (fun H locs hw => ?_)
  refine lv_iload_n hx hb dX7_spans_32 rfl (lv_at hl 3 rfl) ?_
  refine lv_iconst (v := (-1)) hx hb dX7_spans_33 (by decide) ?_
  refine lv_icmp_eq (tgt := 47) hx hb dX7_spans_34 (by decide) (fun hc => ?_) (fun hc => ?_)
  · rw [if_pos hc] at hf
    exact t_X7_spans_L47 hC hr hf hw (lv_sub hl [1, 2, 3, 0] rfl)
  · rw [if_neg hc] at hf
    refine lv_aload_n hx hb dX7_spans_37 rfl (lv_at hl 1 rfl) ?_
    refine lv_iload_n hx hb dX7_spans_38 rfl (lv_at hl 3 rfl) ?_
    refine lv_aload_n hx hb dX7_spans_39 rfl (lv_at hl 1 rfl) ?_
    refine lv_iload_n hx hb dX7_spans_40 rfl (lv_at hl 2 rfl) ?_
    obtain ⟨ho, hf⟩ := chk_inv hf
    obtain ⟨r20, σ19, hk, hf⟩ := bnd_inv hf
    refine z_callV (As := [.int x1]) (rest := [.int x2, .ref x0]) (m_X7_many hC.2.2.2.2.2.2.2.2 hk) hC hw wd_X7_many lkM_X7_78 (isO_sh ho) rfl rfl ⟨rfl, rfl⟩ ⟨(Nat.le_of_ble_eq_true rfl), (Nat.le_of_ble_eq_true rfl)⟩ hl.1 rfl (Nat.le_of_ble_eq_true rfl) dX7_spans_41 ⟨(Nat.le_of_ble_eq_true rfl), (Nat.le_of_ble_eq_true rfl)⟩ (fun H locs hw => ?_)
    obtain ⟨ho, hf⟩ := chk_inv hf
    obtain ⟨_, σ21, hk, hf⟩ := bnd_inv hf
    refine z_callV (As := [.int x2, .int r20]) (rest := []) (m_X7_laysInitial hC.2.2.2.2.2.2.2.2 hk) hC hw wd_X7_laysInitial lkM_X7_147 (isO_sh ho) rfl rfl ⟨rfl, rfl⟩ ⟨(Nat.le_of_ble_eq_true rfl), (Nat.le_of_ble_eq_true rfl)⟩ hl.1 rfl (Nat.le_of_ble_eq_true rfl) dX7_spans_44 ⟨(Nat.le_of_ble_eq_true rfl), (Nat.le_of_ble_eq_true rfl)⟩ (fun H locs hw => ?_)
    exact t_X7_spans_L47 hC hr hf hw (lv_sub hl [1, 2, 3, 0] rfl)
set_option maxHeartbeats 4000000 in
set_option maxRecDepth 100000 in
theorem m_X7_spans (h9 : l.stackTraces = false) {Γ : zSh} {a0 : Nat} {a1 : Int32} {a2 : Int32} {σ : zSt} {r : Unit} {σ2 : zSt} (hf : f_X7_spans Γ a0 a1 a2 σ = some (r, σ2)) : Met l yX7_spans (wq yX7_spans cX7_spans 6 (Option.none : Option Jvm.ClassFile.FieldType)) rm_X7_spans (zQ0 D cA B0 [.ref a0, .int a1, .int a2] Γ σ Z) (zQ1 D cA B0 (none) Γ σ2 Z) 0 0 (FR B0) := by
  refine z_ofW h9 (by decide) (Nat.le_of_ble_eq_true rfl) ?_
  intro p e s m args below meth c ls hC hr _ hw hl
  have hx := hC.1
  have hb := hC.2.1
  have hl : lv_has ls 6 [(0, .ref a0), (1, .int a1), (2, .int a2)] := hl
  unfold f_X7_spans at hf
  refine lv_aload_n hx hb dX7_spans_0 rfl (lv_at hl 0 rfl) ?_
  refine lv_iload_n hx hb dX7_spans_1 rfl (lv_at hl 1 rfl) ?_
  obtain ⟨ho, hf⟩ := chk_inv hf
  obtain ⟨r2, σ1, hk, hf⟩ := bnd_inv hf
  refine z_callV (As := [.int a1]) (rest := []) (m_X7_many hC.2.2.2.2.2.2.2.2 hk) hC hw wd_X7_many lkM_X7_78 (isO_sh ho) rfl rfl ⟨rfl, rfl⟩ ⟨(Nat.le_of_ble_eq_true rfl), (Nat.le_of_ble_eq_true rfl)⟩ hl.1 rfl (Nat.le_of_ble_eq_true rfl) dX7_spans_2 ⟨(Nat.le_of_ble_eq_true rfl), (Nat.le_of_ble_eq_true rfl)⟩ (fun H locs hw => ?_)
  refine lv_iload_n hx hb dX7_spans_5 rfl (lv_at hl 2 rfl) ?_
  refine lv_iconst (v := (-1)) hx hb dX7_spans_6 (by decide) ?_
  refine lv_icmp_ne (tgt := 14) hx hb dX7_spans_7 (by decide) (fun hc => ?_) (fun hc => ?_)
  · rw [if_neg hc] at hf
    refine lv_aload_n hx hb dX7_spans_14 rfl (lv_at hl 0 rfl) ?_
    refine lv_iload_n hx hb dX7_spans_15 rfl (lv_at hl 2 rfl) ?_
    obtain ⟨ho, hf⟩ := chk_inv hf
    obtain ⟨r4, σ3, hk, hf⟩ := bnd_inv hf
    refine z_callV (As := [.int a2]) (rest := [.int r2]) (m_X7_many hC.2.2.2.2.2.2.2.2 hk) hC hw wd_X7_many lkM_X7_78 (isO_sh ho) rfl rfl ⟨rfl, rfl⟩ ⟨(Nat.le_of_ble_eq_true rfl), (Nat.le_of_ble_eq_true rfl)⟩ hl.1 rfl (Nat.le_of_ble_eq_true rfl) dX7_spans_16 ⟨(Nat.le_of_ble_eq_true rfl), (Nat.le_of_ble_eq_true rfl)⟩ (fun H locs hw => ?_)
    exact t_X7_spans_L19 hC hr hf hw (lv_sub hl [0, 1, 2] rfl)
  · rw [if_pos hc] at hf
    refine lv_iconst (v := 0) hx hb dX7_spans_10 (by decide) ?_
    refine lv_goto (tgt := 19) hx hb dX7_spans_11 (by decide) ?_
    exact t_X7_spans_L19 hC hr hf hw (lv_sub hl [0, 1, 2] rfl)
set_option maxHeartbeats 4000000 in
set_option maxRecDepth 100000 in
theorem t_X7_endsBasis_L36 (hC : zC p l s m args meth c cX7_endsBasis 4 RX7 D cA B0) (hr : meth.sig.returnType = (Option.some FieldType.int)) {Γ : zSh} {s0 : Int32} {s1 : Int32} {σ : zSt} {out : (Int32 × zSt)} (hf : f_X7_endsBasis_L36 Γ s0 s1 σ = some out) {H : Heap} {locs : List Loc} {ls : Array Slot} (hw : zO D cA B0 Γ σ Z s.heap H locs) (hl : lv_has ls 4 []) :
    W p l e rm_X7_endsBasis s m args below meth c H locs 0 0 (MQ below (zQ1 D cA B0 (some (.int out.1)) Γ out.2 Z) args s 0 0 (FR B0)) (F0 m 36 ls [.int s0, .int s1]) := by
  have hx := hC.1
  have hb := hC.2.1
  unfold f_X7_endsBasis_L36 at hf
  refine lv_iadd hx hb dX7_endsBasis_36 ?_
  refine lv_sipush (v := 10007) hx hb dX7_endsBasis_37 (by decide) ?_
  obtain ⟨v8, hg, hf⟩ := rmI_inv hf
  refine r_rmI hC hg dX7_endsBasis_40 ?_
  first | (obtain ⟨rfl, rfl⟩ := sp_inv hf) | (obtain rfl := Option.some.inj hf)
  exact W.iret hx hb hr (z_ret hw rfl) hw.2.2.2.2.2 dX7_endsBasis_41 hC.2.2.2.2.2.1
set_option maxHeartbeats 4000000 in
set_option maxRecDepth 100000 in
theorem m_X7_endsBasis (h9 : l.stackTraces = false) {Γ : zSh} {a0 : Nat} {a1 : Int32} {a2 : Int32} {a3 : Int32} {σ : zSt} {r : Int32} {σ2 : zSt} (hf : f_X7_endsBasis Γ a0 a1 a2 a3 σ = some (r, σ2)) : Met l yX7_endsBasis (wq yX7_endsBasis cX7_endsBasis 4 (Option.some FieldType.int)) rm_X7_endsBasis (zQ0 D cA B0 [.ref a0, .int a1, .int a2, .int a3] Γ σ Z) (zQ1 D cA B0 (some (.int r)) Γ σ2 Z) 0 0 (FR B0) := by
  refine z_ofW h9 (by decide) (Nat.le_of_ble_eq_true rfl) ?_
  intro p e s m args below meth c ls hC hr _ hw hl
  have hx := hC.1
  have hb := hC.2.1
  have hl : lv_has ls 4 [(0, .ref a0), (1, .int a1), (2, .int a2), (3, .int a3)] := hl
  unfold f_X7_endsBasis at hf
  refine lv_aload_n hx hb dX7_endsBasis_0 rfl (lv_at hl 0 rfl) ?_
  refine lv_iload_n hx hb dX7_endsBasis_1 rfl (lv_at hl 1 rfl) ?_
  refine lv_bipush (v := 24) hx hb dX7_endsBasis_2 (by decide) ?_
  obtain ⟨ho, hf⟩ := chk_inv hf
  obtain ⟨_, σ1, hk, hf⟩ := bnd_inv hf
  refine z_callV (As := [.int a1, .int 24]) (rest := []) (m_X7_laysBasis hC.2.2.2.2.2.2.2.2 hk) hC hw wd_X7_laysBasis lkM_X7_179 (isO_sh ho) rfl rfl ⟨rfl, rfl⟩ ⟨(Nat.le_of_ble_eq_true rfl), (Nat.le_of_ble_eq_true rfl)⟩ hl.1 rfl (Nat.le_of_ble_eq_true rfl) dX7_endsBasis_4 ⟨(Nat.le_of_ble_eq_true rfl), (Nat.le_of_ble_eq_true rfl)⟩ (fun H locs hw => ?_)
  refine lv_aload_n hx hb dX7_endsBasis_7 rfl (lv_at hl 0 rfl) ?_
  refine lv_iload_n hx hb dX7_endsBasis_8 rfl (lv_at hl 2 rfl) ?_
  refine lv_iconst (v := 0) hx hb dX7_endsBasis_9 (by decide) ?_
  obtain ⟨ho, hf⟩ := chk_inv hf
  obtain ⟨r3, σ2, hk, hf⟩ := bnd_inv hf
  refine z_callV (As := [.int a2, .int 0]) (rest := []) (m_X7_ends hC.2.2.2.2.2.2.2.2 hk) hC hw wd_X7_ends lkM_X7_153 (isO_sh ho) rfl rfl ⟨rfl, rfl⟩ ⟨(Nat.le_of_ble_eq_true rfl), (Nat.le_of_ble_eq_true rfl)⟩ hl.1 rfl (Nat.le_of_ble_eq_true rfl) dX7_endsBasis_10 ⟨(Nat.le_of_ble_eq_true rfl), (Nat.le_of_ble_eq_true rfl)⟩ (fun H locs hw => ?_)
  refine lv_iload_n hx hb dX7_endsBasis_13 rfl (lv_at hl 3 rfl) ?_
  refine lv_iconst (v := (-1)) hx hb dX7_endsBasis_14 (by decide) ?_
  refine lv_icmp_ne (tgt := 22) hx hb dX7_endsBasis_15 (by decide) (fun hc => ?_) (fun hc => ?_)
  · rw [if_neg hc] at hf
    refine lv_sipush (v := 10007) hx hb dX7_endsBasis_22 (by decide) ?_
    refine lv_aload_n hx hb dX7_endsBasis_25 rfl (lv_at hl 0 rfl) ?_
    refine lv_iload_n hx hb dX7_endsBasis_26 rfl (lv_at hl 3 rfl) ?_
    refine lv_aload_n hx hb dX7_endsBasis_27 rfl (lv_at hl 0 rfl) ?_
    refine lv_iload_n hx hb dX7_endsBasis_28 rfl (lv_at hl 2 rfl) ?_
    obtain ⟨ho, hf⟩ := chk_inv hf
    obtain ⟨r5, σ4, hk, hf⟩ := bnd_inv hf
    refine z_callV (As := [.int a2]) (rest := [.int a3, .ref a0, .int 10007, .int r3]) (m_X7_many hC.2.2.2.2.2.2.2.2 hk) hC hw wd_X7_many lkM_X7_78 (isO_sh ho) rfl rfl ⟨rfl, rfl⟩ ⟨(Nat.le_of_ble_eq_true rfl), (Nat.le_of_ble_eq_true rfl)⟩ hl.1 rfl (Nat.le_of_ble_eq_true rfl) dX7_endsBasis_29 ⟨(Nat.le_of_ble_eq_true rfl), (Nat.le_of_ble_eq_true rfl)⟩ (fun H locs hw => ?_)
    obtain ⟨ho, hf⟩ := chk_inv hf
    obtain ⟨r7, σ6, hk, hf⟩ := bnd_inv hf
    refine z_callV (As := [.int a3, .int r5]) (rest := [.int 10007, .int r3]) (m_X7_ends hC.2.2.2.2.2.2.2.2 hk) hC hw wd_X7_ends lkM_X7_153 (isO_sh ho) rfl rfl ⟨rfl, rfl⟩ ⟨(Nat.le_of_ble_eq_true rfl), (Nat.le_of_ble_eq_true rfl)⟩ hl.1 rfl (Nat.le_of_ble_eq_true rfl) dX7_endsBasis_32 ⟨(Nat.le_of_ble_eq_true rfl), (Nat.le_of_ble_eq_true rfl)⟩ (fun H locs hw => ?_)
    refine lv_isub hx hb dX7_endsBasis_35 ?_
    exact t_X7_endsBasis_L36 hC hr hf hw (lv_sub hl [] rfl)
  · rw [if_pos hc] at hf
    refine lv_iconst (v := 0) hx hb dX7_endsBasis_18 (by decide) ?_
    refine lv_goto (tgt := 36) hx hb dX7_endsBasis_19 (by decide) ?_
    exact t_X7_endsBasis_L36 hC hr hf hw (lv_sub hl [] rfl)
end
