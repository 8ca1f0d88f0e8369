section
variable {p : Program} {l : Launch} {e : Env} {s : State} {m : MethodId} {args : Array Value} {below : List Frame} {meth : Method} {c : Code} {Q : State → Prop} {D : va_G} {cA : Nat → ClassId} {B0 : Nat} {Z : Nat → Prop}
set_option maxHeartbeats 4000000 in
set_option maxRecDepth 100000 in
theorem t_X6_collectTotals_B15 (hC : zC p l s m args meth c cX6_collectTotals 4 RX6 D cA B0) (hr : meth.sig.returnType = (Option.none : Option Jvm.ClassFile.FieldType)) {Γ : zSh} {x0 : Nat} {x1 : Int32} {x2 : Int32} {x3 : Int32} {σ : zSt} {out : ((Int32 × zSt) ⊕ (zSt))} (hf : f_X6_collectTotals_B15 Γ x0 x1 x2 x3 σ = some out) {H : Heap} {locs : List Loc} {ls : Array Slot} (hw : zO D cA B0 Γ σ Z s.heap H locs) (hl : lv_has ls 4 [(0, .ref x0), (1, .int x1), (2, .int x2), (3, .int x3)])
    (kI : ∀ (z3 : Int32) (σ2 : zSt), out = .inl (z3, σ2) → ∀ (H : Heap) (locs : List Loc) (ls : Array Slot), zO D cA B0 Γ σ2 Z s.heap H locs → lv_has ls 4 [(0, .ref x0), (1, .int x1), (2, .int x2), (3, .int z3)] → W p l e rm_X6_collectTotals s m args below meth c H locs 0 0 Q (F0 m 15 ls []))
    (kE : ∀ (σ2 : zSt), out = .inr σ2 → ∀ (H : Heap) (locs : List Loc) (ls : Array Slot), zO D cA B0 Γ σ2 Z s.heap H locs → lv_has ls 4 [] → W p l e rm_X6_collectTotals s m args below meth c H locs 0 0 Q (F0 m 58 ls [])) :
    W p l e rm_X6_collectTotals s m args below meth c H locs 0 0 Q (F0 m 15 ls []) := by
  have hx := hC.1
  have hb := hC.2.1
  unfold f_X6_collectTotals_B15 at hf
  refine lv_iload_n hx hb dX6_collectTotals_15 rfl (lv_at hl 3 rfl) ?_
  refine lv_iload_n hx hb dX6_collectTotals_16 rfl (lv_at hl 2 rfl) ?_
  refine lv_icmp_ge (tgt := 58) hx hb dX6_collectTotals_17 (by decide) (fun hc => ?_) (fun hc => ?_)
  · rw [if_pos hc] at hf
    exact kE  σ (Option.some.inj hf).symm _ _ _ hw (lv_sub hl [] rfl)
  · rw [if_neg hc] at hf
    refine lv_aload_n hx hb dX6_collectTotals_20 rfl (lv_at hl 0 rfl) ?_
    obtain ⟨v5, hg, hf⟩ := gfR_inv hf
    refine r_gfR hC hw hg clX6 (Nat.le_of_ble_eq_true rfl) lkF_X6_68 rfl dX6_collectTotals_21 ?_
    refine lv_iload_n hx hb dX6_collectTotals_24 rfl (lv_at hl 3 rfl) ?_
    refine lv_aload_n hx hb dX6_collectTotals_25 rfl (lv_at hl 0 rfl) ?_
    obtain ⟨v6, hg, hf⟩ := gfR_inv hf
    refine r_gfR hC hw hg clX6 (Nat.le_of_ble_eq_true rfl) lkF_X6_43 rfl dX6_collectTotals_26 ?_
    refine lv_aload_n hx hb dX6_collectTotals_29 rfl (lv_at hl 0 rfl) ?_
    obtain ⟨v7, hg, hf⟩ := gfR_inv hf
    refine r_gfR hC hw hg clX6 (Nat.le_of_ble_eq_true rfl) lkF_X6_13 rfl dX6_collectTotals_30 ?_
    refine lv_iload_n hx hb dX6_collectTotals_33 rfl (lv_at hl 1 rfl) ?_
    obtain ⟨v8, hg, hf⟩ := ldA_inv hf
    refine r_ldA hC hw hg dX6_collectTotals_34 ?_
    obtain ⟨ho, hf⟩ := chk_inv hf
    obtain ⟨r10, σ9, hk, hf⟩ := bnd_inv hf
    refine z_callV (As := [.ref v8]) (rest := [.int x3, .ref v5]) (m_X5_value hC.2.2.2.2.2.2.2.2 hk) hC hw wd_X5_value lkM_X6_127 (isO_sh ho) rfl rfl ⟨rfl, rfl⟩ ⟨(Nat.le_of_ble_eq_true rfl), (Nat.le_of_ble_eq_true rfl)⟩ hl.1 rfl (Nat.le_of_ble_eq_true rfl) dX6_collectTotals_35 ⟨(Nat.le_of_ble_eq_true rfl), (Nat.le_of_ble_eq_true rfl)⟩ (fun H locs hw => ?_)
    obtain ⟨σ11, hg, hf⟩ := stI_inv hf
    refine r_stI hC hw hg dX6_collectTotals_38 (fun H locs hw => ?_)
    refine lv_aload_n hx hb dX6_collectTotals_39 rfl (lv_at hl 0 rfl) ?_
    obtain ⟨v12, hg, hf⟩ := gfR_inv hf
    refine r_gfR hC hw hg clX6 (Nat.le_of_ble_eq_true rfl) lkF_X6_43 rfl dX6_collectTotals_40 ?_
    refine lv_aload_n hx hb dX6_collectTotals_43 rfl (lv_at hl 0 rfl) ?_
    obtain ⟨v13, hg, hf⟩ := gfR_inv hf
    refine r_gfR hC hw hg clX6 (Nat.le_of_ble_eq_true rfl) lkF_X6_13 rfl dX6_collectTotals_44 ?_
    refine lv_iload_n hx hb dX6_collectTotals_47 rfl (lv_at hl 1 rfl) ?_
    obtain ⟨v14, hg, hf⟩ := ldA_inv hf
    refine r_ldA hC hw hg dX6_collectTotals_48 ?_
    obtain ⟨ho, hf⟩ := chk_inv hf
    obtain ⟨_, σ15, hk, hf⟩ := bnd_inv hf
    refine z_callV (As := [.ref v14]) (rest := []) (m_X5_takeBoth hC.2.2.2.2.2.2.2.2 hk) hC hw wd_X5_takeBoth lkM_X6_131 (isO_sh ho) rfl rfl ⟨rfl, rfl⟩ ⟨(Nat.le_of_ble_eq_true rfl), (Nat.le_of_ble_eq_true rfl)⟩ hl.1 rfl (Nat.le_of_ble_eq_true rfl) dX6_collectTotals_49 ⟨(Nat.le_of_ble_eq_true rfl), (Nat.le_of_ble_eq_true rfl)⟩ (fun H locs hw => ?_)
    refine lv_iinc (v := (x3 + 1)) (lv' := [(3, .int (x3 + 1)), (0, .ref x0), (1, .int x1), (2, .int x2)]) hx hb dX6_collectTotals_52 hl (k := 3) rfl rfl (Nat.le_of_ble_eq_true rfl) rfl (fun ls hl => ?_)
    refine lv_goto (tgt := 15) hx hb dX6_collectTotals_55 (by decide) ?_
    exact kI (x3 + 1) σ15 (Option.some.inj hf).symm _ _ _ hw (lv_sub hl [1, 2, 3, 0] rfl)
set_option maxHeartbeats 4000000 in
theorem l_X6_collectTotals_B15 (hC : zC p l s m args meth c cX6_collectTotals 4 RX6 D cA B0) (hr : meth.sig.returnType = (Option.none : Option Jvm.ClassFile.FieldType)) {Γ : zSh} {x0 : Nat} {x1 : Int32} {x2 : Int32} {σ2 : zSt} (kE : ∀ (H : Heap) (locs : List Loc) (ls : Array Slot), zO D cA B0 Γ σ2 Z s.heap H locs → lv_has ls 4 [] → W p l e rm_X6_collectTotals s m args below meth c H locs 0 0 Q (F0 m 58 ls [])) :
    ∀ (n : Nat) (x3 : Int32) (σ : zSt), loopM (fun q => f_X6_collectTotals_B15 Γ x0 x1 x2 q.1 q.2) n (x3, σ) = some σ2 → ∀ (H : Heap) (locs : List Loc) (ls : Array Slot), zO D cA B0 Γ σ Z s.heap H locs → lv_has ls 4 [(0, .ref x0), (1, .int x1), (2, .int x2), (3, .int x3)] → W p l e rm_X6_collectTotals s m args below meth c H locs 0 0 Q (F0 m 15 ls []) := by
  intro n
  induction n with
  | zero => intro x3 σ h; exact absurd h (by simp [loopM])
  | succ n ih =>
    intro x3 σ h H locs ls hw hl
    obtain ⟨r, h1, h2, h3⟩ := loopM_inv h
    exact t_X6_collectTotals_B15 hC hr h1 hw hl (fun z3 s2 e H locs ls hw hl => ih z3 s2 (h2 _ e) H locs ls hw hl) (fun s2 e H locs ls hw hl => by cases h3 _ e; exact kE H locs ls hw hl)
set_option maxHeartbeats 4000000 in
set_option maxRecDepth 100000 in
theorem m_X6_collectTotals (h9 : l.stackTraces = false) {Γ : zSh} {a0 : Nat} {a1 : Int32} {a2 : Int32} {σ : zSt} {r : Unit} {σ2 : zSt} (hf : f_X6_collectTotals Γ a0 a1 a2 σ = some (r, σ2)) : Met l yX6_collectTotals (wq yX6_collectTotals cX6_collectTotals 4 (Option.none : Option Jvm.ClassFile.FieldType)) rm_X6_collectTotals (zQ0 D cA B0 [.ref a0, .int a1, .int a2] Γ σ Z) (zQ1 D cA B0 (none) Γ σ2 Z) 0 0 (FR B0) := by
  refine z_ofW h9 (by decide) (Nat.le_of_ble_eq_true rfl) ?_
  intro p e s m args below meth c ls hC hr _ hw hl
  have hx := hC.1
  have hb := hC.2.1
  have hl : lv_has ls 4 [(0, .ref a0), (1, .int a1), (2, .int a2)] := hl
  unfold f_X6_collectTotals at hf
  refine lv_aload_n hx hb dX6_collectTotals_0 rfl (lv_at hl 0 rfl) ?_
  obtain ⟨v1, hg, hf⟩ := gfR_inv hf
  refine r_gfR hC hw hg clX6 (Nat.le_of_ble_eq_true rfl) lkF_X6_43 rfl dX6_collectTotals_1 ?_
  refine lv_aload_n hx hb dX6_collectTotals_4 rfl (lv_at hl 0 rfl) ?_
  obtain ⟨v2, hg, hf⟩ := gfR_inv hf
  refine r_gfR hC hw hg clX6 (Nat.le_of_ble_eq_true rfl) lkF_X6_13 rfl dX6_collectTotals_5 ?_
  refine lv_iload_n hx hb dX6_collectTotals_8 rfl (lv_at hl 1 rfl) ?_
  obtain ⟨v3, hg, hf⟩ := ldA_inv hf
  refine r_ldA hC hw hg dX6_collectTotals_9 ?_
  obtain ⟨ho, hf⟩ := chk_inv hf
  obtain ⟨_, σ4, hk, hf⟩ := bnd_inv hf
  refine z_callV (As := [.ref v3]) (rest := []) (m_X5_start hC.2.2.2.2.2.2.2.2 hk) hC hw wd_X5_start lkM_X6_119 (isO_sh ho) rfl rfl ⟨rfl, rfl⟩ ⟨(Nat.le_of_ble_eq_true rfl), (Nat.le_of_ble_eq_true rfl)⟩ hl.1 rfl (Nat.le_of_ble_eq_true rfl) dX6_collectTotals_10 ⟨(Nat.le_of_ble_eq_true rfl), (Nat.le_of_ble_eq_true rfl)⟩ (fun H locs hw => ?_)
  refine lv_iconst (v := 0) hx hb dX6_collectTotals_13 (by decide) ?_
  refine lv_istore_n (lv' := [(3, .int 0), (0, .ref a0), (1, .int a1), (2, .int a2)]) hx hb dX6_collectTotals_14 rfl hl (Nat.le_of_ble_eq_true rfl) rfl (fun ls hl => ?_)
  obtain ⟨σ16, hk, hf⟩ := lb0_inv hf
  refine l_X6_collectTotals_B15 hC hr (fun H locs ls hw hl => ?_) FUEL 0 σ4 hk _ _ _ hw (lv_sub hl [1, 2, 3, 0] rfl)
  first | (obtain ⟨rfl, rfl⟩ := sp_inv hf) | (obtain rfl := Option.some.inj hf)
  exact W.vret hx hb hr (z_ret hw rfl) hw.2.2.2.2.2 dX6_collectTotals_58 hC.2.2.2.2.2.1
set_option maxHeartbeats 4000000 in
set_option maxRecDepth 100000 in
theorem t_X6_fillRecurrences_B10 (hC : zC p l s m args meth c cX6_fillRecurrences 4 RX6 D cA B0) (hr : meth.sig.returnType = (Option.none : Option Jvm.ClassFile.FieldType)) {Γ : zSh} {x0 : Nat} {x1 : Int32} {x2 : Int32} {x3 : Int32} {σ : zSt} {out : ((Int32 × zSt) ⊕ (zSt))} (hf : f_X6_fillRecurrences_B10 Γ x0 x1 x2 x3 σ = some out) {H : Heap} {locs : List Loc} {ls : Array Slot} (hw : zO D cA B0 Γ σ Z s.heap H locs) (hl : lv_has ls 4 [(0, .ref x0), (1, .int x1), (2, .int x2), (3, .int x3)])
    (kI : ∀ (z3 : Int32) (σ2 : zSt), out = .inl (z3, σ2) → ∀ (H : Heap) (locs : List Loc) (ls : Array Slot), zO D cA B0 Γ σ2 Z s.heap H locs → lv_has ls 4 [(0, .ref x0), (1, .int x1), (2, .int x2), (3, .int z3)] → W p l e rm_X6_fillRecurrences s m args below meth c H locs 0 0 Q (F0 m 10 ls []))
    (kE : ∀ (σ2 : zSt), out = .inr σ2 → ∀ (H : Heap) (locs : List Loc) (ls : Array Slot), zO D cA B0 Γ σ2 Z s.heap H locs → lv_has ls 4 [(0, .ref x0), (1, .int x1), (2, .int x2)] → W p l e rm_X6_fillRecurrences s m args below meth c H locs 0 0 Q (F0 m 40 ls [])) :
    W p l e rm_X6_fillRecurrences s m args below meth c H locs 0 0 Q (F0 m 10 ls []) := by
  have hx := hC.1
  have hb := hC.2.1
  unfold f_X6_fillRecurrences_B10 at hf
  refine lv_iload_n hx hb dX6_fillRecurrences_10 rfl (lv_at hl 3 rfl) ?_
  refine lv_iload_n hx hb dX6_fillRecurrences_11 rfl (lv_at hl 1 rfl) ?_
  refine lv_icmp_gt (tgt := 40) hx hb dX6_fillRecurrences_12 (by decide) (fun hc => ?_) (fun hc => ?_)
  · rw [if_pos hc] at hf
    exact kE  σ (Option.some.inj hf).symm _ _ _ hw (lv_sub hl [0, 1, 2] rfl)
  · rw [if_neg hc] at hf
    refine lv_aload_n hx hb dX6_fillRecurrences_15 rfl (lv_at hl 0 rfl) ?_
    obtain ⟨v1, hg, hf⟩ := gfR_inv hf
    refine r_gfR hC hw hg clX6 (Nat.le_of_ble_eq_true rfl) lkF_X6_64 rfl dX6_fillRecurrences_16 ?_
    obtain ⟨v2, hg, hf⟩ := gfR_inv hf
    refine r_gfR hC hw hg clX3 (Nat.le_of_ble_eq_true rfl) lkF_X6_215 rfl dX6_fillRecurrences_19 ?_
    refine lv_iload_n hx hb dX6_fillRecurrences_22 rfl (lv_at hl 2 rfl) ?_
    obtain ⟨v3, hg, hf⟩ := ldG_inv hf
    refine r_ldG hC hw hg dX6_fillRecurrences_23 ?_
    refine lv_iload_n hx hb dX6_fillRecurrences_24 rfl (lv_at hl 3 rfl) ?_
    refine lv_aload_n hx hb dX6_fillRecurrences_25 rfl (lv_at hl 0 rfl) ?_
    obtain ⟨v4, hg, hf⟩ := gfR_inv hf
    refine r_gfR hC hw hg clX6 (Nat.le_of_ble_eq_true rfl) lkF_X6_68 rfl dX6_fillRecurrences_26 ?_
    refine lv_iload_n hx hb dX6_fillRecurrences_29 rfl (lv_at hl 2 rfl) ?_
    refine lv_iload_n hx hb dX6_fillRecurrences_30 rfl (lv_at hl 3 rfl) ?_
    refine lv_iadd hx hb dX6_fillRecurrences_31 ?_
    obtain ⟨v5, hg, hf⟩ := ldI_inv hf
    refine r_ldI hC hw hg dX6_fillRecurrences_32 ?_
    obtain ⟨σ6, hg, hf⟩ := stI_inv hf
    refine r_stI hC hw hg dX6_fillRecurrences_33 (fun H locs hw => ?_)
    refine lv_iinc (v := (x3 + 1)) (lv' := [(3, .int (x3 + 1)), (0, .ref x0), (1, .int x1), (2, .int x2)]) hx hb dX6_fillRecurrences_34 hl (k := 3) rfl rfl (Nat.le_of_ble_eq_true rfl) rfl (fun ls hl => ?_)
    refine lv_goto (tgt := 10) hx hb dX6_fillRecurrences_37 (by decide) ?_
    exact kI (x3 + 1) σ6 (Option.some.inj hf).symm _ _ _ hw (lv_sub hl [1, 2, 3, 0] rfl)
set_option maxHeartbeats 4000000 in
theorem l_X6_fillRecurrences_B10 (hC : zC p l s m args meth c cX6_fillRecurrences 4 RX6 D cA B0) (hr : meth.sig.returnType = (Option.none : Option Jvm.ClassFile.FieldType)) {Γ : zSh} {x0 : Nat} {x1 : Int32} {x2 : Int32} {σ2 : zSt} (kE : ∀ (H : Heap) (locs : List Loc) (ls : Array Slot), zO D cA B0 Γ σ2 Z s.heap H locs → lv_has ls 4 [(0, .ref x0), (1, .int x1), (2, .int x2)] → W p l e rm_X6_fillRecurrences s m args below meth c H locs 0 0 Q (F0 m 40 ls [])) :
    ∀ (n : Nat) (x3 : Int32) (σ : zSt), loopM (fun q => f_X6_fillRecurrences_B10 Γ x0 x1 x2 q.1 q.2) n (x3, σ) = some σ2 → ∀ (H : Heap) (locs : List Loc) (ls : Array Slot), zO D cA B0 Γ σ Z s.heap H locs → lv_has ls 4 [(0, .ref x0), (1, .int x1), (2, .int x2), (3, .int x3)] → W p l e rm_X6_fillRecurrences s m args below meth c H locs 0 0 Q (F0 m 10 ls []) := by
  intro n
  induction n with
  | zero => intro x3 σ h; exact absurd h (by simp [loopM])
  | succ n ih =>
    intro x3 σ h H locs ls hw hl
    obtain ⟨r, h1, h2, h3⟩ := loopM_inv h
    exact t_X6_fillRecurrences_B10 hC hr h1 hw hl (fun z3 s2 e H locs ls hw hl => ih z3 s2 (h2 _ e) H locs ls hw hl) (fun s2 e H locs ls hw hl => by cases h3 _ e; exact kE H locs ls hw hl)
set_option maxHeartbeats 4000000 in
set_option maxRecDepth 100000 in
theorem t_X6_fillRecurrences_B2 (hC : zC p l s m args meth c cX6_fillRecurrences 4 RX6 D cA B0) (hr : meth.sig.returnType = (Option.none : Option Jvm.ClassFile.FieldType)) {Γ : zSh} {x0 : Nat} {x1 : Int32} {x2 : Int32} {σ : zSt} {out : ((Int32 × zSt) ⊕ (zSt))} (hf : f_X6_fillRecurrences_B2 Γ x0 x1 x2 σ = some out) {H : Heap} {locs : List Loc} {ls : Array Slot} (hw : zO D cA B0 Γ σ Z s.heap H locs) (hl : lv_has ls 4 [(0, .ref x0), (1, .int x1), (2, .int x2)])
    (kI : ∀ (z2 : Int32) (σ2 : zSt), out = .inl (z2, σ2) → ∀ (H : Heap) (locs : List Loc) (ls : Array Slot), zO D cA B0 Γ σ2 Z s.heap H locs → lv_has ls 4 [(0, .ref x0), (1, .int x1), (2, .int z2)] → W p l e rm_X6_fillRecurrences s m args below meth c H locs 0 0 Q (F0 m 2 ls []))
    (kE : ∀ (σ2 : zSt), out = .inr σ2 → ∀ (H : Heap) (locs : List Loc) (ls : Array Slot), zO D cA B0 Γ σ2 Z s.heap H locs → lv_has ls 4 [] → W p l e rm_X6_fillRecurrences s m args below meth c H locs 0 0 Q (F0 m 46 ls [])) :
    W p l e rm_X6_fillRecurrences s m args below meth c H locs 0 0 Q (F0 m 2 ls []) := by
  have hx := hC.1
  have hb := hC.2.1
  unfold f_X6_fillRecurrences_B2 at hf
  refine lv_iload_n hx hb dX6_fillRecurrences_2 rfl (lv_at hl 2 rfl) ?_
  refine lv_bipush (v := 31) hx hb dX6_fillRecurrences_3 (by decide) ?_
  refine lv_icmp_ge (tgt := 46) hx hb dX6_fillRecurrences_5 (by decide) (fun hc => ?_) (fun hc => ?_)
  · rw [if_pos hc] at hf
    exact kE  σ (Option.some.inj hf).symm _ _ _ hw (lv_sub hl [] rfl)
  · rw [if_neg hc] at hf
    refine lv_iconst (v := 0) hx hb dX6_fillRecurrences_8 (by decide) ?_
    refine lv_istore_n (lv' := [(3, .int 0), (0, .ref x0), (1, .int x1), (2, .int x2)]) hx hb dX6_fillRecurrences_9 rfl hl (Nat.le_of_ble_eq_true rfl) rfl (fun ls hl => ?_)
    obtain ⟨σ7, hk, hf⟩ := lb0_inv hf
    refine l_X6_fillRecurrences_B10 hC hr (fun H locs ls hw hl => ?_) FUEL 0 σ hk _ _ _ hw (lv_sub hl [1, 2, 3, 0] rfl)
    refine lv_iinc (v := (x2 + 1)) (lv' := [(2, .int (x2 + 1)), (0, .ref x0), (1, .int x1)]) hx hb dX6_fillRecurrences_40 hl (k := 2) rfl rfl (Nat.le_of_ble_eq_true rfl) rfl (fun ls hl => ?_)
    refine lv_goto (tgt := 2) hx hb dX6_fillRecurrences_43 (by decide) ?_
    exact kI (x2 + 1) σ7 (Option.some.inj hf).symm _ _ _ hw (lv_sub hl [1, 2, 0] rfl)
set_option maxHeartbeats 4000000 in
theorem l_X6_fillRecurrences_B2 (hC : zC p l s m args meth c cX6_fillRecurrences 4 RX6 D cA B0) (hr : meth.sig.returnType = (Option.none : Option Jvm.ClassFile.FieldType)) {Γ : zSh} {x0 : Nat} {x1 : Int32} {σ2 : zSt} (kE : ∀ (H : Heap) (locs : List Loc) (ls : Array Slot), zO D cA B0 Γ σ2 Z s.heap H locs → lv_has ls 4 [] → W p l e rm_X6_fillRecurrences s m args below meth c H locs 0 0 Q (F0 m 46 ls [])) :
    ∀ (n : Nat) (x2 : Int32) (σ : zSt), loopM (fun q => f_X6_fillRecurrences_B2 Γ x0 x1 q.1 q.2) n (x2, σ) = some σ2 → ∀ (H : Heap) (locs : List Loc) (ls : Array Slot), zO D cA B0 Γ σ Z s.heap H locs → lv_has ls 4 [(0, .ref x0), (1, .int x1), (2, .int x2)] → W p l e rm_X6_fillRecurrences s m args below meth c H locs 0 0 Q (F0 m 2 ls []) := by
  intro n
  induction n with
  | zero => intro x2 σ h; exact absurd h (by simp [loopM])
  | succ n ih =>
    intro x2 σ h H locs ls hw hl
    obtain ⟨r, h1, h2, h3⟩ := loopM_inv h
    exact t_X6_fillRecurrences_B2 hC hr h1 hw hl (fun z2 s2 e H locs ls hw hl => ih z2 s2 (h2 _ e) H locs ls hw hl) (fun s2 e H locs ls hw hl => by cases h3 _ e; exact kE H locs ls hw hl)
set_option maxHeartbeats 4000000 in
set_option maxRecDepth 100000 in
theorem m_X6_fillRecurrences (h9 : l.stackTraces = false) {Γ : zSh} {a0 : Nat} {a1 : Int32} {σ : zSt} {r : Unit} {σ2 : zSt} (hf : f_X6_fillRecurrences Γ a0 a1 σ = some (r, σ2)) : Met l yX6_fillRecurrences (wq yX6_fillRecurrences cX6_fillRecurrences 4 (Option.none : Option Jvm.ClassFile.FieldType)) rm_X6_fillRecurrences (zQ0 D cA B0 [.ref a0, .int a1] Γ σ Z) (zQ1 D cA B0 (none) Γ σ2 Z) 0 0 (FR B0) := by
  refine z_ofW h9 (by decide) (Nat.le_of_ble_eq_true rfl) ?_
  intro p e s m args below meth c ls hC hr _ hw hl
  have hx := hC.1
  have hb := hC.2.1
  have hl : lv_has ls 4 [(0, .ref a0), (1, .int a1)] := hl
  unfold f_X6_fillRecurrences at hf
  refine lv_iconst (v := 0) hx hb dX6_fillRecurrences_0 (by decide) ?_
  refine lv_istore_n (lv' := [(2, .int 0), (0, .ref a0), (1, .int a1)]) hx hb dX6_fillRecurrences_1 rfl hl (Nat.le_of_ble_eq_true rfl) rfl (fun ls hl => ?_)
  obtain ⟨σ8, hk, hf⟩ := lb0_inv hf
  refine l_X6_fillRecurrences_B2 hC hr (fun H locs ls hw hl => ?_) FUEL 0 σ hk _ _ _ hw (lv_sub hl [1, 2, 0] rfl)
  first | (obtain ⟨rfl, rfl⟩ := sp_inv hf) | (obtain rfl := Option.some.inj hf)
  exact W.vret hx hb hr (z_ret hw rfl) hw.2.2.2.2.2 dX6_fillRecurrences_46 hC.2.2.2.2.2.1
set_option maxHeartbeats 4000000 in
set_option maxRecDepth 100000 in
theorem t_X6_recurs_L62 (hC : zC p l s m args meth c cX6_recurs 4 RX6 D cA B0) (hr : meth.sig.returnType = (Option.some FieldType.boolean)) (htab : ∀ x ∈ c.exceptionTable.toList, False) {Γ : zSh} {s0 : Int32} {σ : zSt} {out : ((Int32 × zSt) ⊕ (Nat × zSt))} (hf : f_X6_recurs_L62 Γ s0 σ = some out) {H : Heap} {locs : List Loc} {ls : Array Slot} (hw : zO D cA B0 Γ σ (ZB B0) s.heap H locs) (hl : lv_has ls 4 []) :
    W p l e rm_X6_recurs s m args below meth c H locs 2 12 (vx_MQ below (zQx D cA B0 (fun r : Int32 => some (.int r)) Γ out (ZB B0)) (zXx D cA B0 Γ out (ZB B0)) args s 2 12 (FR B0)) (F0 m 62 ls [.int s0]) := by
  have hx := hC.1
  have hb := hC.2.1
  unfold f_X6_recurs_L62 at hf
  obtain ⟨hz, hf⟩ := chk_inv hf
  refine vx_ret ?_
  refine W.widen (k := 2) (n := 12) (Nat.le_of_ble_eq_true rfl) (Nat.le_of_ble_eq_true rfl) ?_
  exact W.zret hx hb hr (isB_n hz).1 (z_retx hw (Option.some.inj hf).symm rfl) hw.2.2.2.2.2 dX6_recurs_62 hC.2.2.2.2.2.1
set_option maxHeartbeats 4000000 in
set_option maxRecDepth 100000 in
theorem m_X6_recurs (h9 : l.stackTraces = false) {Γ : zSh} {a0 : Nat} {a1 : Int32} {a2 : Int32} {σ : zSt} {out : ((Int32 × zSt) ⊕ (Nat × zSt))} (hf : f_X6_recurs Γ a0 a1 a2 σ = some out) : vx_Met l yX6_recurs (wq yX6_recurs cX6_recurs 4 (Option.some FieldType.boolean)) rm_X6_recurs (zQ0 D cA B0 [.ref a0, .int a1, .int a2] Γ σ (ZB B0)) (zQx D cA B0 (fun r : Int32 => some (.int r)) Γ out (ZB B0)) (zXx D cA B0 Γ out (ZB B0)) 2 12 (FR B0) := by
  refine z_ofX h9 (by decide) (Nat.le_of_ble_eq_true rfl) ?_
  intro p e s m args below meth c ls hC hr htab hw hl
  have hx := hC.1
  have hb := hC.2.1
  have hl : lv_has ls 4 [(0, .ref a0), (1, .int a1), (2, .int a2)] := hl
  unfold f_X6_recurs at hf
  refine lv_iload_n hx hb dX6_recurs_0 rfl (lv_at hl 1 rfl) ?_
  obtain ⟨q, hk, hn, hxx⟩ := xbnd_inv hf
  refine z_xcallS (As := [.int a1]) (rest := []) (m_X6_checkSlot hC.2.2.2.2.2.2.2.2 hk) hC hw wd_X6_checkSlot lkM_X6_78 rfl ⟨rfl, rfl⟩ ⟨(Nat.le_of_ble_eq_true rfl), (Nat.le_of_ble_eq_true rfl)⟩ hl.1 rfl (Nat.le_of_ble_eq_true rfl) dX6_recurs_1 ⟨(Nat.le_of_ble_eq_true rfl), (Nat.le_of_ble_eq_true rfl)⟩ (fun u9 σ1 eq H locs hw => ?_) (fun k9 s9 eq H locs q9 ce9 hw e1 e2 e3 => z_xout hC hw (hxx _ _ eq) htab e1 e2 e3 (Nat.le_of_ble_eq_true rfl) (Nat.le_of_ble_eq_true rfl))
  have hf := hn _ _ eq
  refine lv_iload_n hx hb dX6_recurs_4 rfl (lv_at hl 2 rfl) ?_
  refine lv_iconst (v := 1) hx hb dX6_recurs_5 (by decide) ?_
  refine lv_bipush (v := 12) hx hb dX6_recurs_6 (by decide) ?_
  obtain ⟨q, hk, hn, hxx⟩ := xbnd_inv hf
  refine z_xcallS (As := [.int a2, .int 1, .int 12]) (rest := []) (m_X6_checkRange hC.2.2.2.2.2.2.2.2 hk) hC hw wd_X6_checkRange lkM_X6_81 rfl ⟨rfl, rfl⟩ ⟨(Nat.le_of_ble_eq_true rfl), (Nat.le_of_ble_eq_true rfl)⟩ hl.1 rfl (Nat.le_of_ble_eq_true rfl) dX6_recurs_8 ⟨(Nat.le_of_ble_eq_true rfl), (Nat.le_of_ble_eq_true rfl)⟩ (fun u9 σ2 eq H locs hw => ?_) (fun k9 s9 eq H locs q9 ce9 hw e1 e2 e3 => z_xout hC hw (hxx _ _ eq) htab e1 e2 e3 (Nat.le_of_ble_eq_true rfl) (Nat.le_of_ble_eq_true rfl))
  have hf := hn _ _ eq
  refine lv_aload_n hx hb dX6_recurs_11 rfl (lv_at hl 0 rfl) ?_
  refine lv_iload_n hx hb dX6_recurs_12 rfl (lv_at hl 1 rfl) ?_
  refine lv_bipush (v := 31) hx hb dX6_recurs_13 (by decide) ?_
  refine lv_iload_n hx hb dX6_recurs_15 rfl (lv_at hl 2 rfl) ?_
  refine lv_iadd hx hb dX6_recurs_16 ?_
  obtain ⟨ho, hf⟩ := chk_inv hf
  obtain ⟨_, σ3, hk, hf⟩ := bnd_inv hf
  refine z_callV (As := [.int a1, .int (31 + a2)]) (rest := []) (m_X6_collectTotals hC.2.2.2.2.2.2.2.2 hk) hC hw wd_X6_collectTotals lkM_X6_224 (isO_sh ho) rfl rfl ⟨rfl, rfl⟩ ⟨(Nat.le_of_ble_eq_true rfl), (Nat.le_of_ble_eq_true rfl)⟩ hl.1 rfl (Nat.le_of_ble_eq_true rfl) dX6_recurs_17 ⟨(Nat.le_of_ble_eq_true rfl), (Nat.le_of_ble_eq_true rfl)⟩ (fun H locs hw => ?_)
  refine lv_aload_n hx hb dX6_recurs_20 rfl (lv_at hl 0 rfl) ?_
  refine lv_iload_n hx hb dX6_recurs_21 rfl (lv_at hl 2 rfl) ?_
  obtain ⟨ho, hf⟩ := chk_inv hf
  obtain ⟨_, σ4, hk, hf⟩ := bnd_inv hf
  refine z_callV (As := [.int a2]) (rest := []) (m_X6_fillRecurrences hC.2.2.2.2.2.2.2.2 hk) hC hw wd_X6_fillRecurrences lkM_X6_227 (isO_sh ho) rfl rfl ⟨rfl, rfl⟩ ⟨(Nat.le_of_ble_eq_true rfl), (Nat.le_of_ble_eq_true rfl)⟩ hl.1 rfl (Nat.le_of_ble_eq_true rfl) dX6_recurs_22 ⟨(Nat.le_of_ble_eq_true rfl), (Nat.le_of_ble_eq_true rfl)⟩ (fun H locs hw => ?_)
  refine lv_aload_n hx hb dX6_recurs_25 rfl (lv_at hl 0 rfl) ?_
  obtain ⟨v5, hg, hf⟩ := gfR_inv hf
  refine r_gfR hC hw hg clX6 (Nat.le_of_ble_eq_true rfl) lkF_X6_64 rfl dX6_recurs_26 ?_
  refine lv_bipush (v := 31) hx hb dX6_recurs_29 (by decide) ?_
  refine lv_iload_n hx hb dX6_recurs_31 rfl (lv_at hl 2 rfl) ?_
  obtain ⟨ho, hf⟩ := chk_inv hf
  obtain ⟨r7, σ6, hk, hf⟩ := bnd_inv hf
  refine z_callV (As := [.int 31, .int a2]) (rest := []) (m_X3_rank hC.2.2.2.2.2.2.2.2 hk) hC hw wd_X3_rank lkM_X6_221 (isO_sh ho) rfl rfl ⟨rfl, rfl⟩ ⟨(Nat.le_of_ble_eq_true rfl), (Nat.le_of_ble_eq_true rfl)⟩ hl.1 rfl (Nat.le_of_ble_eq_true rfl) dX6_recurs_32 ⟨(Nat.le_of_ble_eq_true rfl), (Nat.le_of_ble_eq_true rfl)⟩ (fun H locs hw => ?_)
  refine lv_istore_n (lv' := [(3, .int r7), (0, .ref a0), (1, .int a1), (2, .int a2)]) hx hb dX6_recurs_35 rfl hl (Nat.le_of_ble_eq_true rfl) rfl (fun ls hl => ?_)
  refine lv_aload_n hx hb dX6_recurs_36 rfl (lv_at hl 1 rfl) ?_
  refine lv_iload_n hx hb dX6_recurs_37 rfl (lv_at hl 3 rfl) ?_
  obtain ⟨ho, hf⟩ := chk_inv hf
  obtain ⟨_, σ8, hk, hf⟩ := bnd_inv hf
  refine z_callV (As := [.int a2]) (rest := []) (m_X6_fillRecurrences hC.2.2.2.2.2.2.2.2 hk) hC hw wd_X6_fillRecurrences lkM_X6_227 (isO_sh ho) rfl rfl ⟨rfl, rfl⟩ ⟨(Nat.le_of_ble_eq_true rfl), (Nat.le_of_ble_eq_true rfl)⟩ hl.1 rfl (Nat.le_of_ble_eq_true rfl) dX6_recurs_38 ⟨(Nat.le_of_ble_eq_true rfl), (Nat.le_of_ble_eq_true rfl)⟩ (fun H locs hw => ?_)
  refine lv_aload_n hx hb dX6_recurs_41 rfl (lv_at hl 1 rfl) ?_
  obtain ⟨v9, hg, hf⟩ := gfR_inv hf
  refine r_gfR hC hw hg clX6 (Nat.le_of_ble_eq_true rfl) lkF_X6_64 rfl dX6_recurs_42 ?_
  refine lv_bipush (v := 31) hx hb dX6_recurs_45 (by decide) ?_
  refine lv_iload_n hx hb dX6_recurs_47 rfl (lv_at hl 3 rfl) ?_
  refine lv_iconst (v := 1) hx hb dX6_recurs_48 (by decide) ?_
  refine lv_iadd hx hb dX6_recurs_49 ?_
  obtain ⟨ho, hf⟩ := chk_inv hf
  obtain ⟨r11, σ10, hk, hf⟩ := bnd_inv hf
  refine z_callV (As := [.int 31, .int (a2 + 1)]) (rest := []) (m_X3_rank hC.2.2.2.2.2.2.2.2 hk) hC hw wd_X3_rank lkM_X6_221 (isO_sh ho) rfl rfl ⟨rfl, rfl⟩ ⟨(Nat.le_of_ble_eq_true rfl), (Nat.le_of_ble_eq_true rfl)⟩ hl.1 rfl (Nat.le_of_ble_eq_true rfl) dX6_recurs_50 ⟨(Nat.le_of_ble_eq_true rfl), (Nat.le_of_ble_eq_true rfl)⟩ (fun H locs hw => ?_)
  refine lv_iload_n hx hb dX6_recurs_53 rfl (lv_at hl 0 rfl) ?_
  refine lv_icmp_ne (tgt := 61) hx hb dX6_recurs_54 (by decide) (fun hc => ?_) (fun hc => ?_)
  · rw [if_neg hc] at hf
    refine lv_iconst (v := 0) hx hb dX6_recurs_61 (by decide) ?_
    exact t_X6_recurs_L62 hC hr htab hf hw (lv_sub hl [] rfl)
  · rw [if_pos hc] at hf
    refine lv_iconst (v := 1) hx hb dX6_recurs_57 (by decide) ?_
    refine lv_goto (tgt := 62) hx hb dX6_recurs_58 (by decide) ?_
    exact t_X6_recurs_L62 hC hr htab hf hw (lv_sub hl [] rfl)
set_option maxHeartbeats 4000000 in
set_option maxRecDepth 100000 in
theorem m_X6_inverse (h9 : l.stackTraces = false) {Γ : zSh} {a0 : Nat} {a1 : Int32} {σ : zSt} {out : ((Int32 × zSt) ⊕ (Nat × zSt))} (hf : f_X6_inverse Γ a0 a1 σ = some out) : vx_Met l yX6_inverse (wq yX6_inverse cX6_inverse 2 (Option.some FieldType.int)) rm_X6_inverse (zQ0 D cA B0 [.ref a0, .int a1] Γ σ (ZB B0)) (zQx D cA B0 (fun r : Int32 => some (.int r)) Γ out (ZB B0)) (zXx D cA B0 Γ out (ZB B0)) 1 6 (FR B0) := by
  refine z_ofX h9 (by decide) (Nat.le_of_ble_eq_true rfl) ?_
  intro p e s m args below meth c ls hC hr htab hw hl
  have hx := hC.1
  have hb := hC.2.1
  have hl : lv_has ls 2 [(0, .ref a0), (1, .int a1)] := hl
  unfold f_X6_inverse at hf
  refine lv_iload_n hx hb dX6_inverse_0 rfl (lv_at hl 1 rfl) ?_
  refine lv_iconst (v := 1) hx hb dX6_inverse_1 (by decide) ?_
  refine lv_sipush (v := 10006) hx hb dX6_inverse_2 (by decide) ?_
  obtain ⟨q, hk, hn, hxx⟩ := xbnd_inv hf
  refine z_xcallS (As := [.int a1, .int 1, .int 10006]) (rest := []) (m_X6_checkRange hC.2.2.2.2.2.2.2.2 hk) hC hw wd_X6_checkRange lkM_X6_81 rfl ⟨rfl, rfl⟩ ⟨(Nat.le_of_ble_eq_true rfl), (Nat.le_of_ble_eq_true rfl)⟩ hl.1 rfl (Nat.le_of_ble_eq_true rfl) dX6_inverse_5 ⟨(Nat.le_of_ble_eq_true rfl), (Nat.le_of_ble_eq_true rfl)⟩ (fun u9 σ1 eq H locs hw => ?_) (fun k9 s9 eq H locs q9 ce9 hw e1 e2 e3 => z_xout hC hw (hxx _ _ eq) htab e1 e2 e3 (Nat.le_of_ble_eq_true rfl) (Nat.le_of_ble_eq_true rfl))
  have hf := hn _ _ eq
  refine lv_iload_n hx hb dX6_inverse_8 rfl (lv_at hl 1 rfl) ?_
  obtain ⟨r3, σ2, hk, hf⟩ := bnd_inv hf
  refine z_callS (As := [.int a1]) (rest := []) (m_X6_reciprocal hC.2.2.2.2.2.2.2.2 hk) hC hw wd_X6_reciprocal lkM_X6_230 rfl ⟨rfl, rfl⟩ ⟨(Nat.le_of_ble_eq_true rfl), (Nat.le_of_ble_eq_true rfl)⟩ hl.1 rfl (Nat.le_of_ble_eq_true rfl) dX6_inverse_9 ⟨(Nat.le_of_ble_eq_true rfl), (Nat.le_of_ble_eq_true rfl)⟩ (fun H locs hw => ?_)
  refine vx_ret ?_
  refine W.widen (k := 1) (n := 6) (Nat.le_of_ble_eq_true rfl) (Nat.le_of_ble_eq_true rfl) ?_
  exact W.iret hx hb hr (z_retx hw (Option.some.inj hf).symm rfl) hw.2.2.2.2.2 dX6_inverse_12 hC.2.2.2.2.2.1
set_option maxHeartbeats 4000000 in
set_option maxRecDepth 100000 in
theorem m_X6_undo (h9 : l.stackTraces = false) {Γ : zSh} {a0 : Nat} {σ : zSt} {out : ((Int32 × zSt) ⊕ (Nat × zSt))} (hf : f_X6_undo Γ a0 σ = some out) : vx_Met l yX6_undo (wq yX6_undo cX6_undo 1 (Option.some FieldType.int)) rm_X6_undo (zQ0 D cA B0 [.ref a0] Γ σ (ZB B0)) (zQx D cA B0 (fun r : Int32 => some (.int r)) Γ out (ZB B0)) (zXx D cA B0 Γ out (ZB B0)) 1 6 (FR B0) := by
  refine z_ofX h9 (by decide) (Nat.le_of_ble_eq_true rfl) ?_
  intro p e s m args below meth c ls hC hr htab hw hl
  have hx := hC.1
  have hb := hC.2.1
  have hl : lv_has ls 1 [(0, .ref a0)] := hl
  unfold f_X6_undo at hf
  refine lv_aload_n hx hb dX6_undo_0 rfl (lv_at hl 0 rfl) ?_
  obtain ⟨v1, hg, hf⟩ := gfI_inv hf
  refine r_gfI hC hw hg clX6 (Nat.le_of_ble_eq_true rfl) lkF_X6_24 rfl dX6_undo_1 ?_
  refine lv_if_gt (tgt := 17) hx hb dX6_undo_4 (by decide) (fun hc => ?_) (fun hc => ?_)
  · rw [if_pos hc] at hf
    refine lv_aload_n hx hb dX6_undo_17 rfl (lv_at hl 0 rfl) ?_
    refine lv_dup hx hb dX6_undo_18 rfl ?_
    obtain ⟨v2, hg, hf⟩ := gfI_inv hf
    refine r_gfI hC hw hg clX6 (Nat.le_of_ble_eq_true rfl) lkF_X6_24 rfl dX6_undo_19 ?_
    refine lv_iconst (v := 1) hx hb dX6_undo_22 (by decide) ?_
    refine lv_isub hx hb dX6_undo_23 ?_
    obtain ⟨σ3, hg, hf⟩ := pfI_inv hf
    refine r_pfI hC hw hg clX6 (Nat.le_of_ble_eq_true rfl) lkF_X6_24 rfl rfl rfl dX6_undo_24 (fun H locs hw => ?_)
    refine lv_aload_n hx hb dX6_undo_27 rfl (lv_at hl 0 rfl) ?_
    obtain ⟨v4, hg, hf⟩ := gfR_inv hf
    refine r_gfR hC hw hg clX6 (Nat.le_of_ble_eq_true rfl) lkF_X6_13 rfl dX6_undo_28 ?_
    refine lv_aload_n hx hb dX6_undo_31 rfl (lv_at hl 0 rfl) ?_
    obtain ⟨v5, hg, hf⟩ := gfR_inv hf
    refine r_gfR hC hw hg clX6 (Nat.le_of_ble_eq_true rfl) lkF_X6_20 rfl dX6_undo_32 ?_
    refine lv_aload_n hx hb dX6_undo_35 rfl (lv_at hl 0 rfl) ?_
    obtain ⟨v6, hg, hf⟩ := gfI_inv hf
    refine r_gfI hC hw hg clX6 (Nat.le_of_ble_eq_true rfl) lkF_X6_24 rfl dX6_undo_36 ?_
    obtain ⟨v7, hg, hf⟩ := ldI_inv hf
    refine r_ldI hC hw hg dX6_undo_39 ?_
    obtain ⟨v8, hg, hf⟩ := ldA_inv hf
    refine r_ldA hC hw hg dX6_undo_40 ?_
    refine lv_aload_n hx hb dX6_undo_41 rfl (lv_at hl 0 rfl) ?_
    obtain ⟨v9, hg, hf⟩ := gfR_inv hf
    refine r_gfR hC hw hg clX6 (Nat.le_of_ble_eq_true rfl) lkF_X6_17 rfl dX6_undo_42 ?_
    refine lv_aload_n hx hb dX6_undo_45 rfl (lv_at hl 0 rfl) ?_
    obtain ⟨v10, hg, hf⟩ := gfI_inv hf
    refine r_gfI hC hw hg clX6 (Nat.le_of_ble_eq_true rfl) lkF_X6_24 rfl dX6_undo_46 ?_
    obtain ⟨v11, hg, hf⟩ := ldA_inv hf
    refine r_ldA hC hw hg dX6_undo_49 ?_
    obtain ⟨ho, hf⟩ := chk_inv hf
    obtain ⟨_, σ12, hk, hf⟩ := bnd_inv hf
    refine z_callV (As := [.ref v11]) (rest := []) (m_X0_copyFrom hC.2.2.2.2.2.2.2.2 hk) hC hw wd_X0_copyFrom lkM_X6_172 (isO_sh ho) rfl rfl ⟨rfl, rfl⟩ ⟨(Nat.le_of_ble_eq_true rfl), (Nat.le_of_ble_eq_true rfl)⟩ hl.1 rfl (Nat.le_of_ble_eq_true rfl) dX6_undo_50 ⟨(Nat.le_of_ble_eq_true rfl), (Nat.le_of_ble_eq_true rfl)⟩ (fun H locs hw => ?_)
    refine lv_aload_n hx hb dX6_undo_53 rfl (lv_at hl 0 rfl) ?_
    obtain ⟨v13, hg, hf⟩ := gfI_inv hf
    refine r_gfI hC hw hg clX6 (Nat.le_of_ble_eq_true rfl) lkF_X6_24 rfl dX6_undo_54 ?_
    refine vx_ret ?_
    refine W.widen (k := 1) (n := 6) (Nat.le_of_ble_eq_true rfl) (Nat.le_of_ble_eq_true rfl) ?_
    exact W.iret hx hb hr (z_retx hw (Option.some.inj hf).symm rfl) hw.2.2.2.2.2 dX6_undo_57 hC.2.2.2.2.2.1
  · rw [if_neg hc] at hf
    exact z_throwS (k := 2) hC hw zB_up (Option.some.inj hf).symm htab zt_145_149_2 zstr_251 hl.1 dX6_undo_7 dX6_undo_10 dX6_undo_11 dX6_undo_13 dX6_undo_16 (Nat.le_of_ble_eq_true rfl) (Nat.le_of_ble_eq_true rfl) (Nat.le_of_ble_eq_true rfl) (Nat.le_of_ble_eq_true rfl) (Nat.le_of_ble_eq_true rfl) (Nat.le_of_ble_eq_true rfl)
set_option maxHeartbeats 4000000 in
set_option maxRecDepth 100000 in
theorem t_X6_digest_B34 (hC : zC p l s m args meth c cX6_digest 5 RX6 D cA B0) (hr : meth.sig.returnType = (Option.some FieldType.long)) {Γ : zSh} {x0 : Nat} {x3 : Int32} {x1 : Int64} {x4 : Int32} {σ : zSt} {out : ((Int64 × Int32 × zSt) ⊕ (Int64 × zSt))} (hf : f_X6_digest_B34 Γ x0 x3 x1 x4 σ = some out) {H : Heap} {locs : List Loc} {ls : Array Slot} (hw : zO D cA B0 Γ σ Z s.heap H locs) (hl : lv_has ls 5 [(0, .ref x0), (1, .long x1), (3, .int x3), (4, .int x4)])
    (kI : ∀ (z1 : Int64) (z4 : Int32) (σ2 : zSt), out = .inl (z1, z4, σ2) → ∀ (H : Heap) (locs : List Loc) (ls : Array Slot), zO D cA B0 Γ σ2 Z s.heap H locs → lv_has ls 5 [(0, .ref x0), (1, .long z1), (3, .int x3), (4, .int z4)] → W p l e rm_X6_digest s m args below meth c H locs 0 0 Q (F0 m 34 ls []))
    (kE : ∀ (z1 : Int64) (σ2 : zSt), out = .inr (z1, σ2) → ∀ (H : Heap) (locs : List Loc) (ls : Array Slot), zO D cA B0 Γ σ2 Z s.heap H locs → lv_has ls 5 [(0, .ref x0), (1, .long z1), (3, .int x3)] → W p l e rm_X6_digest s m args below meth c H locs 0 0 Q (F0 m 61 ls [])) :
    W p l e rm_X6_digest s m args below meth c H locs 0 0 Q (F0 m 34 ls []) := by
  have hx := hC.1
  have hb := hC.2.1
  unfold f_X6_digest_B34 at hf
  refine lv_iload hx hb dX6_digest_34 (lv_at hl 3 rfl) ?_
  refine lv_iconst (v := 2) hx hb dX6_digest_36 (by decide) ?_
  refine lv_icmp_gt (tgt := 61) hx hb dX6_digest_37 (by decide) (fun hc => ?_) (fun hc => ?_)
  · rw [if_pos hc] at hf
    exact kE x1 σ (Option.some.inj hf).symm _ _ _ hw (lv_sub hl [0, 1, 2] rfl)
  · rw [if_neg hc] at hf
    refine lv_ldc2 (v := 31) hx hb hC.2.2.2.1 (hC.2.2.2.2.1 _ lkJ_X6_259) dX6_digest_40 ?_
    refine lv_lload_n hx hb dX6_digest_43 rfl (lv_at hl 1 rfl) ?_
    refine lv_lmul hx hb dX6_digest_44 ?_
    refine lv_aload_n hx hb dX6_digest_45 rfl (lv_at hl 0 rfl) ?_
    refine lv_iload_n hx hb dX6_digest_46 rfl (lv_at hl 2 rfl) ?_
    refine lv_iload hx hb dX6_digest_47 (lv_at hl 3 rfl) ?_
    obtain ⟨ho, hf⟩ := chk_inv hf
    obtain ⟨r8, σ7, hk, hf⟩ := bnd_inv hf
    refine z_callV (As := [.int x3, .int x4]) (rest := [.long (31 * x1)]) (m_X6_spaceSize hC.2.2.2.2.2.2.2.2 hk) hC hw wd_X6_spaceSize lkM_X6_197 (isO_sh ho) rfl rfl ⟨rfl, rfl⟩ ⟨(Nat.le_of_ble_eq_true rfl), (Nat.le_of_ble_eq_true rfl)⟩ hl.1 rfl (Nat.le_of_ble_eq_true rfl) dX6_digest_49 ⟨(Nat.le_of_ble_eq_true rfl), (Nat.le_of_ble_eq_true rfl)⟩ (fun H locs hw => ?_)
    refine lv_i2l hx hb dX6_digest_52 rfl ?_
    refine lv_ladd hx hb dX6_digest_53 ?_
    refine lv_lstore_n (lv' := [(1, .long ((31 * x1) + (r8.toInt64))), (0, .ref x0), (3, .int x3), (4, .int x4)]) hx hb dX6_digest_54 rfl hl (Nat.le_of_ble_eq_true rfl) rfl (fun ls hl => ?_)
    refine lv_iinc (v := (x4 + 1)) (lv' := [(4, .int (x4 + 1)), (1, .long ((31 * x1) + (r8.toInt64))), (0, .ref x0), (3, .int x3)]) hx hb dX6_digest_55 hl (k := 3) rfl rfl (Nat.le_of_ble_eq_true rfl) rfl (fun ls hl => ?_)
    refine lv_goto (tgt := 34) hx hb dX6_digest_58 (by decide) ?_
    exact kI ((31 * x1) + (r8.toInt64)) (x4 + 1) σ7 (Option.some.inj hf).symm _ _ _ hw (lv_sub hl [2, 1, 3, 0] rfl)
set_option maxHeartbeats 4000000 in
theorem l_X6_digest_B34 (hC : zC p l s m args meth c cX6_digest 5 RX6 D cA B0) (hr : meth.sig.returnType = (Option.some FieldType.long)) {Γ : zSh} {x0 : Nat} {x3 : Int32} {w1 : Int64} {σ2 : zSt} (kE : ∀ (H : Heap) (locs : List Loc) (ls : Array Slot), zO D cA B0 Γ σ2 Z s.heap H locs → lv_has ls 5 [(0, .ref x0), (1, .long w1), (3, .int x3)] → W p l e rm_X6_digest s m args below meth c H locs 0 0 Q (F0 m 61 ls [])) :
    ∀ (n : Nat) (x1 : Int64) (x4 : Int32) (σ : zSt), loopM (fun q => f_X6_digest_B34 Γ x0 x3 q.1 q.2.1 q.2.2) n (x1, x4, σ) = some (w1, σ2) → ∀ (H : Heap) (locs : List Loc) (ls : Array Slot), zO D cA B0 Γ σ Z s.heap H locs → lv_has ls 5 [(0, .ref x0), (1, .long x1), (3, .int x3), (4, .int x4)] → W p l e rm_X6_digest s m args below meth c H locs 0 0 Q (F0 m 34 ls []) := by
  intro n
  induction n with
  | zero => intro x1 x4 σ h; exact absurd h (by simp [loopM])
  | succ n ih =>
    intro x1 x4 σ h H locs ls hw hl
    obtain ⟨r, h1, h2, h3⟩ := loopM_inv h
    exact t_X6_digest_B34 hC hr h1 hw hl (fun z1 z4 s2 e H locs ls hw hl => ih z1 z4 s2 (h2 _ e) H locs ls hw hl) (fun z1 s2 e H locs ls hw hl => by cases h3 _ e; exact kE H locs ls hw hl)
set_option maxHeartbeats 4000000 in
set_option maxRecDepth 100000 in
theorem t_X6_digest_B15 (hC : zC p l s m args meth c cX6_digest 5 RX6 D cA B0) (hr : meth.sig.returnType = (Option.some FieldType.long)) {Γ : zSh} {x0 : Nat} {x1 : Int64} {x3 : Int32} {σ : zSt} {out : ((Int64 × Int32 × zSt) ⊕ (Int64 × zSt))} (hf : f_X6_digest_B15 Γ x0 x1 x3 σ = some out) {H : Heap} {locs : List Loc} {ls : Array Slot} (hw : zO D cA B0 Γ σ Z s.heap H locs) (hl : lv_has ls 5 [(0, .ref x0), (1, .long x1), (3, .int x3)])
    (kI : ∀ (z1 : Int64) (z3 : Int32) (σ2 : zSt), out = .inl (z1, z3, σ2) → ∀ (H : Heap) (locs : List Loc) (ls : Array Slot), zO D cA B0 Γ σ2 Z s.heap H locs → lv_has ls 5 [(0, .ref x0), (1, .long z1), (3, .int z3)] → W p l e rm_X6_digest s m args below meth c H locs 0 0 Q (F0 m 15 ls []))
    (kE : ∀ (z1 : Int64) (σ2 : zSt), out = .inr (z1, σ2) → ∀ (H : Heap) (locs : List Loc) (ls : Array Slot), zO D cA B0 Γ σ2 Z s.heap H locs → lv_has ls 5 [(0, .ref x0), (1, .long z1)] → W p l e rm_X6_digest s m args below meth c H locs 0 0 Q (F0 m 67 ls [])) :
    W p l e rm_X6_digest s m args below meth c H locs 0 0 Q (F0 m 15 ls []) := by
  have hx := hC.1
  have hb := hC.2.1
  unfold f_X6_digest_B15 at hf
  refine lv_iload_n hx hb dX6_digest_15 rfl (lv_at hl 2 rfl) ?_
  refine lv_iconst (v := 4) hx hb dX6_digest_16 (by decide) ?_
  refine lv_icmp_ge (tgt := 67) hx hb dX6_digest_17 (by decide) (fun hc => ?_) (fun hc => ?_)
  · rw [if_pos hc] at hf
    exact kE x1 σ (Option.some.inj hf).symm _ _ _ hw (lv_sub hl [0, 1] rfl)
  · rw [if_neg hc] at hf
    refine lv_aload_n hx hb dX6_digest_20 rfl (lv_at hl 0 rfl) ?_
    obtain ⟨v3, hg, hf⟩ := gfR_inv hf
    refine r_gfR hC hw hg clX6 (Nat.le_of_ble_eq_true rfl) lkF_X6_13 rfl dX6_digest_21 ?_
    refine lv_iload_n hx hb dX6_digest_24 rfl (lv_at hl 2 rfl) ?_
    obtain ⟨v4, hg, hf⟩ := ldA_inv hf
    refine r_ldA hC hw hg dX6_digest_25 ?_
    refine lv_lload_n hx hb dX6_digest_26 rfl (lv_at hl 1 rfl) ?_
    obtain ⟨ho, hf⟩ := chk_inv hf
    obtain ⟨r6, σ5, hk, hf⟩ := bnd_inv hf
    refine z_callV (As := [.long x1]) (rest := []) (m_X0_hash hC.2.2.2.2.2.2.2.2 hk) hC hw wd_X0_hash lkM_X6_255 (isO_sh ho) rfl rfl ⟨rfl, rfl⟩ ⟨(Nat.le_of_ble_eq_true rfl), (Nat.le_of_ble_eq_true rfl)⟩ hl.1 rfl (Nat.le_of_ble_eq_true rfl) dX6_digest_27 ⟨(Nat.le_of_ble_eq_true rfl), (Nat.le_of_ble_eq_true rfl)⟩ (fun H locs hw => ?_)
    refine lv_lstore_n (lv' := [(1, .long r6), (0, .ref x0), (3, .int x3)]) hx hb dX6_digest_30 rfl hl (Nat.le_of_ble_eq_true rfl) rfl (fun ls hl => ?_)
    refine lv_iconst (v := 0) hx hb dX6_digest_31 (by decide) ?_
    refine lv_istore (lv' := [(4, .int 0), (1, .long r6), (0, .ref x0), (3, .int x3)]) hx hb dX6_digest_32 hl (Nat.le_of_ble_eq_true rfl) rfl (fun ls hl => ?_)
    obtain ⟨w10, σ9, hk, hf⟩ := lb1_inv hf
    refine l_X6_digest_B34 hC hr (fun H locs ls hw hl => ?_) FUEL r6 0 σ5 hk _ _ _ hw (lv_sub hl [2, 1, 3, 0] rfl)
    refine lv_iinc (v := (x3 + 1)) (lv' := [(3, .int (x3 + 1)), (0, .ref x0), (1, .long w10)]) hx hb dX6_digest_61 hl (k := 2) rfl rfl (Nat.le_of_ble_eq_true rfl) rfl (fun ls hl => ?_)
    refine lv_goto (tgt := 15) hx hb dX6_digest_64 (by decide) ?_
    exact kI w10 (x3 + 1) σ9 (Option.some.inj hf).symm _ _ _ hw (lv_sub hl [1, 2, 0] rfl)
set_option maxHeartbeats 4000000 in
theorem l_X6_digest_B15 (hC : zC p l s m args meth c cX6_digest 5 RX6 D cA B0) (hr : meth.sig.returnType = (Option.some FieldType.long)) {Γ : zSh} {x0 : Nat} {w1 : Int64} {σ2 : zSt} (kE : ∀ (H : Heap) (locs : List Loc) (ls : Array Slot), zO D cA B0 Γ σ2 Z s.heap H locs → lv_has ls 5 [(0, .ref x0), (1, .long w1)] → W p l e rm_X6_digest s m args below meth c H locs 0 0 Q (F0 m 67 ls [])) :
    ∀ (n : Nat) (x1 : Int64) (x3 : Int32) (σ : zSt), loopM (fun q => f_X6_digest_B15 Γ x0 q.1 q.2.1 q.2.2) n (x1, x3, σ) = some (w1, σ2) → ∀ (H : Heap) (locs : List Loc) (ls : Array Slot), zO D cA B0 Γ σ Z s.heap H locs → lv_has ls 5 [(0, .ref x0), (1, .long x1), (3, .int x3)] → W p l e rm_X6_digest s m args below meth c H locs 0 0 Q (F0 m 15 ls []) := by
  intro n
  induction n with
  | zero => intro x1 x3 σ h; exact absurd h (by simp [loopM])
  | succ n ih =>
    intro x1 x3 σ h H locs ls hw hl
    obtain ⟨r, h1, h2, h3⟩ := loopM_inv h
    exact t_X6_digest_B15 hC hr h1 hw hl (fun z1 z3 s2 e H locs ls hw hl => ih z1 z3 s2 (h2 _ e) H locs ls hw hl) (fun z1 s2 e H locs ls hw hl => by cases h3 _ e; exact kE H locs ls hw hl)
set_option maxHeartbeats 4000000 in
set_option maxRecDepth 100000 in
theorem m_X6_digest (h9 : l.stackTraces = false) {Γ : zSh} {a0 : Nat} {σ : zSt} {r : Int64} {σ2 : zSt} (hf : f_X6_digest Γ a0 σ = some (r, σ2)) : Met l yX6_digest (wq yX6_digest cX6_digest 5 (Option.some FieldType.long)) rm_X6_digest (zQ0 D cA B0 [.ref a0] Γ σ Z) (zQ1 D cA B0 (some (.long r)) Γ σ2 Z) 0 0 (FR B0) := by
  refine z_ofW h9 (by decide) (Nat.le_of_ble_eq_true rfl) ?_
  intro p e s m args below meth c ls hC hr _ hw hl
  have hx := hC.1
  have hb := hC.2.1
  have hl : lv_has ls 5 [(0, .ref a0)] := hl
  unfold f_X6_digest at hf
  refine lv_ldc2 (v := 93589) hx hb hC.2.2.2.1 (hC.2.2.2.2.1 _ lkJ_X6_253) dX6_digest_0 ?_
  refine lv_aload_n hx hb dX6_digest_3 rfl (lv_at hl 0 rfl) ?_
  obtain ⟨v1, hg, hf⟩ := gfR_inv hf
  refine r_gfR hC hw hg clX6 (Nat.le_of_ble_eq_true rfl) lkF_X6_74 rfl dX6_digest_4 ?_
  obtain ⟨v2, hg, hf⟩ := gfI_inv hf
  refine r_gfI hC hw hg clX2 (Nat.le_of_ble_eq_true rfl) lkF_X6_233 rfl dX6_digest_7 ?_
  refine lv_i2l hx hb dX6_digest_10 rfl ?_
  refine lv_ladd hx hb dX6_digest_11 ?_
  refine lv_lstore_n (lv' := [(1, .long (93589 + (v2.toInt64))), (0, .ref a0)]) hx hb dX6_digest_12 rfl hl (Nat.le_of_ble_eq_true rfl) rfl (fun ls hl => ?_)
  refine lv_iconst (v := 0) hx hb dX6_digest_13 (by decide) ?_
  refine lv_istore_n (lv' := [(3, .int 0), (1, .long (93589 + (v2.toInt64))), (0, .ref a0)]) hx hb dX6_digest_14 rfl hl (Nat.le_of_ble_eq_true rfl) rfl (fun ls hl => ?_)
  obtain ⟨w12, σ11, hk, hf⟩ := lb1_inv hf
  refine l_X6_digest_B15 hC hr (fun H locs ls hw hl => ?_) FUEL (93589 + (v2.toInt64)) 0 σ hk _ _ _ hw (lv_sub hl [2, 1, 0] rfl)
  refine lv_ldc2 (v := 31) hx hb hC.2.2.2.1 (hC.2.2.2.2.1 _ lkJ_X6_259) dX6_digest_67 ?_
  refine lv_lload_n hx hb dX6_digest_70 rfl (lv_at hl 1 rfl) ?_
  refine lv_lmul hx hb dX6_digest_71 ?_
  refine lv_aload_n hx hb dX6_digest_72 rfl (lv_at hl 0 rfl) ?_
  obtain ⟨v13, hg, hf⟩ := gfI_inv hf
  refine r_gfI hC hw hg clX6 (Nat.le_of_ble_eq_true rfl) lkF_X6_24 rfl dX6_digest_73 ?_
  refine lv_i2l hx hb dX6_digest_76 rfl ?_
  refine lv_ladd hx hb dX6_digest_77 ?_
  first | (obtain ⟨rfl, rfl⟩ := sp_inv hf) | (obtain rfl := Option.some.inj hf)
  exact W.lret hx hb hr (z_ret hw rfl) hw.2.2.2.2.2 dX6_digest_78 hC.2.2.2.2.2.1
end
