section
variable {p : Program} {l : Launch} {e : Env} {s : State} {m : MethodId} {args : Array Value} {below : List Frame} {meth : Method} {c : Code} {Q : State → Prop} {D : va_G} {cA : Nat → ClassId} {B0 : Nat} {Z : Nat → Prop}
set_option maxHeartbeats 4000000 in
set_option maxRecDepth 100000 in
theorem t_X1_extend_B8 (hC : zC p l s m args meth c cX1_extend 5 RX1 D cA B0) (hr : meth.sig.returnType = (Option.none : Option Jvm.ClassFile.FieldType)) {Γ : zSh} {x0 : Nat} {x1 : Int32} {x2 : Int32} {x3 : Int32} {x4 : Int32} {σ : zSt} {out : ((Int32 × zSt) ⊕ (zSt))} (hf : f_X1_extend_B8 Γ x0 x1 x2 x3 x4 σ = some out) {H : Heap} {locs : List Loc} {ls : Array Slot} (hw : zO D cA B0 Γ σ Z s.heap H locs) (hl : lv_has ls 5 [(0, .ref x0), (1, .int x1), (2, .int x2), (3, .int x3), (4, .int x4)])
    (kI : ∀ (z4 : Int32) (σ2 : zSt), out = .inl (z4, σ2) → ∀ (H : Heap) (locs : List Loc) (ls : Array Slot), zO D cA B0 Γ σ2 Z s.heap H locs → lv_has ls 5 [(0, .ref x0), (1, .int x1), (2, .int x2), (3, .int x3), (4, .int z4)] → W p l e rm_X1_extend s m args below meth c H locs 0 0 Q (F0 m 8 ls []))
    (kE : ∀ (σ2 : zSt), out = .inr σ2 → ∀ (H : Heap) (locs : List Loc) (ls : Array Slot), zO D cA B0 Γ σ2 Z s.heap H locs → lv_has ls 5 [(0, .ref x0), (1, .int x1), (3, .int x3)] → W p l e rm_X1_extend s m args below meth c H locs 0 0 Q (F0 m 92 ls [])) :
    W p l e rm_X1_extend s m args below meth c H locs 0 0 Q (F0 m 8 ls []) := by
  have hx := hC.1
  have hb := hC.2.1
  unfold f_X1_extend_B8 at hf
  refine lv_iload hx hb dX1_extend_8 (lv_at hl 4 rfl) ?_
  refine lv_iload_n hx hb dX1_extend_10 rfl (lv_at hl 2 rfl) ?_
  refine lv_icmp_ge (tgt := 92) hx hb dX1_extend_11 (by decide) (fun hc => ?_) (fun hc => ?_)
  · rw [if_pos hc] at hf
    exact kE  σ (Option.some.inj hf).symm _ _ _ hw (lv_sub hl [0, 1, 3] rfl)
  · rw [if_neg hc] at hf
    refine lv_aload_n hx hb dX1_extend_14 rfl (lv_at hl 0 rfl) ?_
    obtain ⟨v2, hg, hf⟩ := gfR_inv hf
    refine r_gfR hC hw hg clX1 (Nat.le_of_ble_eq_true rfl) lkF_X1_20 rfl dX1_extend_15 ?_
    refine lv_iload_n hx hb dX1_extend_18 rfl (lv_at hl 3 rfl) ?_
    obtain ⟨v3, hg, hf⟩ := ldG_inv hf
    refine r_ldG hC hw hg dX1_extend_19 ?_
    refine lv_iload hx hb dX1_extend_20 (lv_at hl 4 rfl) ?_
    refine lv_aload_n hx hb dX1_extend_22 rfl (lv_at hl 0 rfl) ?_
    obtain ⟨v4, hg, hf⟩ := gfR_inv hf
    refine r_gfR hC hw hg clX1 (Nat.le_of_ble_eq_true rfl) lkF_X1_35 rfl dX1_extend_23 ?_
    refine lv_iload hx hb dX1_extend_26 (lv_at hl 4 rfl) ?_
    obtain ⟨v5, hg, hf⟩ := ldI_inv hf
    refine r_ldI hC hw hg dX1_extend_28 ?_
    obtain ⟨σ6, hg, hf⟩ := stI_inv hf
    refine r_stI hC hw hg dX1_extend_29 (fun H locs hw => ?_)
    refine lv_aload_n hx hb dX1_extend_30 rfl (lv_at hl 0 rfl) ?_
    obtain ⟨v7, hg, hf⟩ := gfR_inv hf
    refine r_gfR hC hw hg clX1 (Nat.le_of_ble_eq_true rfl) lkF_X1_23 rfl dX1_extend_31 ?_
    refine lv_iload_n hx hb dX1_extend_34 rfl (lv_at hl 3 rfl) ?_
    obtain ⟨v8, hg, hf⟩ := ldG_inv hf
    refine r_ldG hC hw hg dX1_extend_35 ?_
    refine lv_iload hx hb dX1_extend_36 (lv_at hl 4 rfl) ?_
    refine lv_aload_n hx hb dX1_extend_38 rfl (lv_at hl 0 rfl) ?_
    obtain ⟨v9, hg, hf⟩ := gfR_inv hf
    refine r_gfR hC hw hg clX1 (Nat.le_of_ble_eq_true rfl) lkF_X1_38 rfl dX1_extend_39 ?_
    refine lv_iload hx hb dX1_extend_42 (lv_at hl 4 rfl) ?_
    obtain ⟨v10, hg, hf⟩ := ldI_inv hf
    refine r_ldI hC hw hg dX1_extend_44 ?_
    refine lv_iload_n hx hb dX1_extend_45 rfl (lv_at hl 1 rfl) ?_
    refine lv_imul hx hb dX1_extend_46 ?_
    refine lv_sipush (v := 10007) hx hb dX1_extend_47 (by decide) ?_
    obtain ⟨v11, hg, hf⟩ := rmI_inv hf
    refine r_rmI hC hg dX1_extend_50 ?_
    obtain ⟨σ12, hg, hf⟩ := stI_inv hf
    refine r_stI hC hw hg dX1_extend_51 (fun H locs hw => ?_)
    refine lv_aload_n hx hb dX1_extend_52 rfl (lv_at hl 0 rfl) ?_
    obtain ⟨v13, hg, hf⟩ := gfR_inv hf
    refine r_gfR hC hw hg clX1 (Nat.le_of_ble_eq_true rfl) lkF_X1_26 rfl dX1_extend_53 ?_
    refine lv_iload_n hx hb dX1_extend_56 rfl (lv_at hl 3 rfl) ?_
    obtain ⟨v14, hg, hf⟩ := ldG_inv hf
    refine r_ldG hC hw hg dX1_extend_57 ?_
    refine lv_iload hx hb dX1_extend_58 (lv_at hl 4 rfl) ?_
    refine lv_aload_n hx hb dX1_extend_60 rfl (lv_at hl 0 rfl) ?_
    obtain ⟨v15, hg, hf⟩ := gfR_inv hf
    refine r_gfR hC hw hg clX1 (Nat.le_of_ble_eq_true rfl) lkF_X1_41 rfl dX1_extend_61 ?_
    refine lv_iload hx hb dX1_extend_64 (lv_at hl 4 rfl) ?_
    obtain ⟨v16, hg, hf⟩ := ldI_inv hf
    refine r_ldI hC hw hg dX1_extend_66 ?_
    refine lv_sipush (v := 10007) hx hb dX1_extend_67 (by decide) ?_
    refine lv_iload_n hx hb dX1_extend_70 rfl (lv_at hl 1 rfl) ?_
    refine lv_isub hx hb dX1_extend_71 ?_
    refine lv_imul hx hb dX1_extend_72 ?_
    refine lv_sipush (v := 10007) hx hb dX1_extend_73 (by decide) ?_
    obtain ⟨v17, hg, hf⟩ := rmI_inv hf
    refine r_rmI hC hg dX1_extend_76 ?_
    obtain ⟨σ18, hg, hf⟩ := stI_inv hf
    refine r_stI hC hw hg dX1_extend_77 (fun H locs hw => ?_)
    refine lv_aload_n hx hb dX1_extend_78 rfl (lv_at hl 0 rfl) ?_
    obtain ⟨v19, hg, hf⟩ := gfR_inv hf
    refine r_gfR hC hw hg clX1 (Nat.le_of_ble_eq_true rfl) lkF_X1_41 rfl dX1_extend_79 ?_
    refine lv_iload hx hb dX1_extend_82 (lv_at hl 4 rfl) ?_
    refine lv_iconst (v := 0) hx hb dX1_extend_84 (by decide) ?_
    obtain ⟨σ20, hg, hf⟩ := stI_inv hf
    refine r_stI hC hw hg dX1_extend_85 (fun H locs hw => ?_)
    refine lv_iinc (v := (x4 + 1)) (lv' := [(4, .int (x4 + 1)), (0, .ref x0), (1, .int x1), (2, .int x2), (3, .int x3)]) hx hb dX1_extend_86 hl (k := 4) rfl rfl (Nat.le_of_ble_eq_true rfl) rfl (fun ls hl => ?_)
    refine lv_goto (tgt := 8) hx hb dX1_extend_89 (by decide) ?_
    exact kI (x4 + 1) σ20 (Option.some.inj hf).symm _ _ _ hw (lv_sub hl [1, 2, 3, 4, 0] rfl)
set_option maxHeartbeats 4000000 in
theorem l_X1_extend_B8 (hC : zC p l s m args meth c cX1_extend 5 RX1 D cA B0) (hr : meth.sig.returnType = (Option.none : Option Jvm.ClassFile.FieldType)) {Γ : zSh} {x0 : Nat} {x1 : Int32} {x2 : Int32} {x3 : Int32} {σ2 : zSt} (kE : ∀ (H : Heap) (locs : List Loc) (ls : Array Slot), zO D cA B0 Γ σ2 Z s.heap H locs → lv_has ls 5 [(0, .ref x0), (1, .int x1), (3, .int x3)] → W p l e rm_X1_extend s m args below meth c H locs 0 0 Q (F0 m 92 ls [])) :
    ∀ (n : Nat) (x4 : Int32) (σ : zSt), loopM (fun q => f_X1_extend_B8 Γ x0 x1 x2 x3 q.1 q.2) n (x4, σ) = some σ2 → ∀ (H : Heap) (locs : List Loc) (ls : Array Slot), zO D cA B0 Γ σ Z s.heap H locs → lv_has ls 5 [(0, .ref x0), (1, .int x1), (2, .int x2), (3, .int x3), (4, .int x4)] → W p l e rm_X1_extend s m args below meth c H locs 0 0 Q (F0 m 8 ls []) := by
  intro n
  induction n with
  | zero => intro x4 σ h; exact absurd h (by simp [loopM])
  | succ n ih =>
    intro x4 σ h H locs ls hw hl
    obtain ⟨r, h1, h2, h3⟩ := loopM_inv h
    exact t_X1_extend_B8 hC hr h1 hw hl (fun z4 s2 e H locs ls hw hl => ih z4 s2 (h2 _ e) H locs ls hw hl) (fun s2 e H locs ls hw hl => by cases h3 _ e; exact kE H locs ls hw hl)
set_option maxHeartbeats 4000000 in
set_option maxRecDepth 100000 in
theorem m_X1_extend (h9 : l.stackTraces = false) {Γ : zSh} {a0 : Nat} {a1 : Int32} {a2 : Int32} {σ : zSt} {r : Unit} {σ2 : zSt} (hf : f_X1_extend Γ a0 a1 a2 σ = some (r, σ2)) : Met l yX1_extend (wq yX1_extend cX1_extend 5 (Option.none : Option Jvm.ClassFile.FieldType)) rm_X1_extend (zQ0 D cA B0 [.ref a0, .int a1, .int a2] Γ σ Z) (zQ1 D cA B0 (none) Γ σ2 Z) 0 0 (FR B0) := by
  refine z_ofW h9 (by decide) (Nat.le_of_ble_eq_true rfl) ?_
  intro p e s m args below meth c ls hC hr _ hw hl
  have hx := hC.1
  have hb := hC.2.1
  have hl : lv_has ls 5 [(0, .ref a0), (1, .int a1), (2, .int a2)] := hl
  unfold f_X1_extend at hf
  refine lv_aload_n hx hb dX1_extend_0 rfl (lv_at hl 0 rfl) ?_
  obtain ⟨v1, hg, hf⟩ := gfI_inv hf
  refine r_gfI hC hw hg clX1 (Nat.le_of_ble_eq_true rfl) lkF_X1_50 rfl dX1_extend_1 ?_
  refine lv_istore_n (lv' := [(3, .int v1), (0, .ref a0), (1, .int a1), (2, .int a2)]) hx hb dX1_extend_4 rfl hl (Nat.le_of_ble_eq_true rfl) rfl (fun ls hl => ?_)
  refine lv_iconst (v := 0) hx hb dX1_extend_5 (by decide) ?_
  refine lv_istore (lv' := [(4, .int 0), (3, .int v1), (0, .ref a0), (1, .int a1), (2, .int a2)]) hx hb dX1_extend_6 hl (Nat.le_of_ble_eq_true rfl) rfl (fun ls hl => ?_)
  obtain ⟨σ21, hk, hf⟩ := lb0_inv hf
  refine l_X1_extend_B8 hC hr (fun H locs ls hw hl => ?_) FUEL 0 σ hk _ _ _ hw (lv_sub hl [2, 3, 4, 1, 0] rfl)
  refine lv_aload_n hx hb dX1_extend_92 rfl (lv_at hl 0 rfl) ?_
  obtain ⟨v22, hg, hf⟩ := gfR_inv hf
  refine r_gfR hC hw hg clX1 (Nat.le_of_ble_eq_true rfl) lkF_X1_26 rfl dX1_extend_93 ?_
  refine lv_iload_n hx hb dX1_extend_96 rfl (lv_at hl 2 rfl) ?_
  obtain ⟨v23, hg, hf⟩ := ldG_inv hf
  refine r_ldG hC hw hg dX1_extend_97 ?_
  refine lv_iload_n hx hb dX1_extend_98 rfl (lv_at hl 2 rfl) ?_
  refine lv_iload_n hx hb dX1_extend_99 rfl (lv_at hl 1 rfl) ?_
  obtain ⟨σ24, hg, hf⟩ := stI_inv hf
  refine r_stI hC hw hg dX1_extend_100 (fun H locs hw => ?_)
  refine lv_aload_n hx hb dX1_extend_101 rfl (lv_at hl 0 rfl) ?_
  obtain ⟨v25, hg, hf⟩ := gfR_inv hf
  refine r_gfR hC hw hg clX1 (Nat.le_of_ble_eq_true rfl) lkF_X1_41 rfl dX1_extend_102 ?_
  refine lv_iload_n hx hb dX1_extend_105 rfl (lv_at hl 2 rfl) ?_
  refine lv_iconst (v := 1) hx hb dX1_extend_106 (by decide) ?_
  obtain ⟨σ26, hg, hf⟩ := stI_inv hf
  refine r_stI hC hw hg dX1_extend_107 (fun H locs hw => ?_)
  refine lv_aload_n hx hb dX1_extend_108 rfl (lv_at hl 0 rfl) ?_
  refine lv_dup hx hb dX1_extend_109 rfl ?_
  obtain ⟨v27, hg, hf⟩ := gfI_inv hf
  refine r_gfI hC hw hg clX1 (Nat.le_of_ble_eq_true rfl) lkF_X1_50 rfl dX1_extend_110 ?_
  refine lv_iconst (v := 1) hx hb dX1_extend_113 (by decide) ?_
  refine lv_iadd hx hb dX1_extend_114 ?_
  obtain ⟨σ28, hg, hf⟩ := pfI_inv hf
  refine r_pfI hC hw hg clX1 (Nat.le_of_ble_eq_true rfl) lkF_X1_50 rfl rfl rfl dX1_extend_115 (fun H locs hw => ?_)
  first | (obtain ⟨rfl, rfl⟩ := sp_inv hf) | (obtain rfl := Option.some.inj hf)
  exact W.vret hx hb hr (z_ret hw rfl) hw.2.2.2.2.2 dX1_extend_118 hC.2.2.2.2.2.1
set_option maxHeartbeats 4000000 in
set_option maxRecDepth 100000 in
theorem t_X1_place_B32_L98 (hC : zC p l s m args meth c cX1_place 6 RX1 D cA B0) (hr : meth.sig.returnType = (Option.none : Option Jvm.ClassFile.FieldType)) {Γ : zSh} {x0 : Nat} {x1 : Nat} {x2 : Int32} {x3 : Int32} {x4 : Int32}  {σ : zSt} {out : ((Int32 × zSt) ⊕ (zSt))} (hf : f_X1_place_B32_L98 Γ x0 x1 x2 x3 x4 σ = some out) {H : Heap} {locs : List Loc} {ls : Array Slot} (hw : zO D cA B0 Γ σ Z s.heap H locs) (hl : lv_has ls 6 [(0, .ref x0), (1, .ref x1), (2, .int x2), (3, .int x3), (4, .int x4)])
    (kI : ∀ (z4 : Int32) (σ2 : zSt), out = .inl (z4, σ2) → ∀ (H : Heap) (locs : List Loc) (ls : Array Slot), zO D cA B0 Γ σ2 Z s.heap H locs → lv_has ls 6 [(0, .ref x0), (1, .ref x1), (2, .int x2), (3, .int x3), (4, .int z4)] → W p l e rm_X1_place s m args below meth c H locs 0 0 Q (F0 m 32 ls []))
    (kE : ∀ (σ2 : zSt), out = .inr σ2 → ∀ (H : Heap) (locs : List Loc) (ls : Array Slot), zO D cA B0 Γ σ2 Z s.heap H locs → lv_has ls 6 [(0, .ref x0), (1, .ref x1), (2, .int x2), (3, .int x3)] → W p l e rm_X1_place s m args below meth c H locs 0 0 Q (F0 m 104 ls [])) :
    W p l e rm_X1_place s m args below meth c H locs 0 0 Q (F0 m 98 ls []) := by
  have hx := hC.1
  have hb := hC.2.1
  unfold f_X1_place_B32_L98 at hf
  refine lv_iinc (v := (x4 + 1)) (lv' := [(4, .int (x4 + 1)), (0, .ref x0), (1, .ref x1), (2, .int x2), (3, .int x3)]) hx hb dX1_place_98 hl (k := 4) rfl rfl (Nat.le_of_ble_eq_true rfl) rfl (fun ls hl => ?_)
  refine lv_goto (tgt := 32) hx hb dX1_place_101 (by decide) ?_
  exact kI (x4 + 1) σ (Option.some.inj hf).symm _ _ _ hw (lv_sub hl [1, 2, 3, 4, 0] rfl)
set_option maxHeartbeats 4000000 in
set_option maxRecDepth 100000 in
theorem t_X1_place_B32 (hC : zC p l s m args meth c cX1_place 6 RX1 D cA B0) (hr : meth.sig.returnType = (Option.none : Option Jvm.ClassFile.FieldType)) {Γ : zSh} {x0 : Nat} {x1 : Nat} {x2 : Int32} {x3 : Int32} {x4 : Int32} {σ : zSt} {out : ((Int32 × zSt) ⊕ (zSt))} (hf : f_X1_place_B32 Γ x0 x1 x2 x3 x4 σ = some out) {H : Heap} {locs : List Loc} {ls : Array Slot} (hw : zO D cA B0 Γ σ Z s.heap H locs) (hl : lv_has ls 6 [(0, .ref x0), (1, .ref x1), (2, .int x2), (3, .int x3), (4, .int x4)])
    (kI : ∀ (z4 : Int32) (σ2 : zSt), out = .inl (z4, σ2) → ∀ (H : Heap) (locs : List Loc) (ls : Array Slot), zO D cA B0 Γ σ2 Z s.heap H locs → lv_has ls 6 [(0, .ref x0), (1, .ref x1), (2, .int x2), (3, .int x3), (4, .int z4)] → W p l e rm_X1_place s m args below meth c H locs 0 0 Q (F0 m 32 ls []))
    (kE : ∀ (σ2 : zSt), out = .inr σ2 → ∀ (H : Heap) (locs : List Loc) (ls : Array Slot), zO D cA B0 Γ σ2 Z s.heap H locs → lv_has ls 6 [(0, .ref x0), (1, .ref x1), (2, .int x2), (3, .int x3)] → W p l e rm_X1_place s m args below meth c H locs 0 0 Q (F0 m 104 ls [])) :
    W p l e rm_X1_place s m args below meth c H locs 0 0 Q (F0 m 32 ls []) := by
  have hx := hC.1
  have hb := hC.2.1
  unfold f_X1_place_B32 at hf
  refine lv_iload hx hb dX1_place_32 (lv_at hl 4 rfl) ?_
  refine lv_aload_n hx hb dX1_place_34 rfl (lv_at hl 0 rfl) ?_
  obtain ⟨v7, hg, hf⟩ := gfI_inv hf
  refine r_gfI hC hw hg clX1 (Nat.le_of_ble_eq_true rfl) lkF_X1_50 rfl dX1_place_35 ?_
  refine lv_icmp_ge (tgt := 104) hx hb dX1_place_38 (by decide) (fun hc => ?_) (fun hc => ?_)
  · rw [if_pos hc] at hf
    exact kE  σ (Option.some.inj hf).symm _ _ _ hw (lv_sub hl [0, 1, 2, 3] rfl)
  · rw [if_neg hc] at hf
    refine lv_aload_n hx hb dX1_place_41 rfl (lv_at hl 0 rfl) ?_
    obtain ⟨v8, hg, hf⟩ := gfR_inv hf
    refine r_gfR hC hw hg clX1 (Nat.le_of_ble_eq_true rfl) lkF_X1_38 rfl dX1_place_42 ?_
    refine lv_aload_n hx hb dX1_place_45 rfl (lv_at hl 0 rfl) ?_
    obtain ⟨v9, hg, hf⟩ := gfR_inv hf
    refine r_gfR hC hw hg clX1 (Nat.le_of_ble_eq_true rfl) lkF_X1_29 rfl dX1_place_46 ?_
    refine lv_iload hx hb dX1_place_49 (lv_at hl 4 rfl) ?_
    obtain ⟨v10, hg, hf⟩ := ldI_inv hf
    refine r_ldI hC hw hg dX1_place_51 ?_
    obtain ⟨v11, hg, hf⟩ := ldI_inv hf
    refine r_ldI hC hw hg dX1_place_52 ?_
    refine lv_istore (lv' := [(5, .int v11), (0, .ref x0), (1, .ref x1), (2, .int x2), (3, .int x3), (4, .int x4)]) hx hb dX1_place_53 hl (Nat.le_of_ble_eq_true rfl) rfl (fun ls hl => ?_)
    refine lv_iload hx hb dX1_place_55 (lv_at hl 0 rfl) ?_
    refine lv_if_eq (tgt := 98) hx hb dX1_place_57 (by decide) (fun hc => ?_) (fun hc => ?_)
    · rw [if_pos hc] at hf
      exact t_X1_place_B32_L98 hC hr hf hw (lv_sub hl [1, 2, 3, 4, 5] rfl) kI kE
    · rw [if_neg hc] at hf
      refine lv_aload_n hx hb dX1_place_60 rfl (lv_at hl 1 rfl) ?_
      obtain ⟨v12, hg, hf⟩ := gfR_inv hf
      refine r_gfR hC hw hg clX1 (Nat.le_of_ble_eq_true rfl) lkF_X1_38 rfl dX1_place_61 ?_
      refine lv_sipush (v := 10007) hx hb dX1_place_64 (by decide) ?_
      refine lv_iload hx hb dX1_place_67 (lv_at hl 0 rfl) ?_
      refine lv_isub hx hb dX1_place_69 ?_
      refine lv_aload_n hx hb dX1_place_70 rfl (lv_at hl 1 rfl) ?_
      obtain ⟨v13, hg, hf⟩ := gfR_inv hf
      refine r_gfR hC hw hg clX1 (Nat.le_of_ble_eq_true rfl) lkF_X1_23 rfl dX1_place_71 ?_
      refine lv_iload hx hb dX1_place_74 (lv_at hl 5 rfl) ?_
      obtain ⟨v14, hg, hf⟩ := ldG_inv hf
      refine r_ldG hC hw hg dX1_place_76 ?_
      refine lv_iload_n hx hb dX1_place_77 rfl (lv_at hl 4 rfl) ?_
      obtain ⟨_, σ15, hk, hf⟩ := bnd_inv hf
      refine z_callSN (As := [.ref v12, .int (10007 - v11), .ref v14, .int x3]) (rest := []) (m_X6_addMultiple hC.2.2.2.2.2.2.2.2 hk) hC hw wd_X6_addMultiple lkN_X1_76 rfl ⟨rfl, rfl⟩ ⟨(Nat.le_of_ble_eq_true rfl), (Nat.le_of_ble_eq_true rfl)⟩ hl.1 rfl (Nat.le_of_ble_eq_true rfl) dX1_place_78 ⟨(Nat.le_of_ble_eq_true rfl), (Nat.le_of_ble_eq_true rfl)⟩ (fun H locs hw => ?_)
      refine lv_aload_n hx hb dX1_place_81 rfl (lv_at hl 1 rfl) ?_
      obtain ⟨v16, hg, hf⟩ := gfR_inv hf
      refine r_gfR hC hw hg clX1 (Nat.le_of_ble_eq_true rfl) lkF_X1_41 rfl dX1_place_82 ?_
      refine lv_iload hx hb dX1_place_85 (lv_at hl 0 rfl) ?_
      refine lv_aload_n hx hb dX1_place_87 rfl (lv_at hl 1 rfl) ?_
      obtain ⟨v17, hg, hf⟩ := gfR_inv hf
      refine r_gfR hC hw hg clX1 (Nat.le_of_ble_eq_true rfl) lkF_X1_26 rfl dX1_place_88 ?_
      refine lv_iload hx hb dX1_place_91 (lv_at hl 5 rfl) ?_
      obtain ⟨v18, hg, hf⟩ := ldG_inv hf
      refine r_ldG hC hw hg dX1_place_93 ?_
      refine lv_iload_n hx hb dX1_place_94 rfl (lv_at hl 4 rfl) ?_
      obtain ⟨_, σ19, hk, hf⟩ := bnd_inv hf
      refine z_callSN (As := [.ref v16, .int v11, .ref v18, .int x3]) (rest := []) (m_X6_addMultiple hC.2.2.2.2.2.2.2.2 hk) hC hw wd_X6_addMultiple lkN_X1_76 rfl ⟨rfl, rfl⟩ ⟨(Nat.le_of_ble_eq_true rfl), (Nat.le_of_ble_eq_true rfl)⟩ hl.1 rfl (Nat.le_of_ble_eq_true rfl) dX1_place_95 ⟨(Nat.le_of_ble_eq_true rfl), (Nat.le_of_ble_eq_true rfl)⟩ (fun H locs hw => ?_)
      exact t_X1_place_B32_L98 hC hr hf hw (lv_sub hl [1, 2, 3, 4, 5] rfl) kI kE
set_option maxHeartbeats 4000000 in
theorem l_X1_place_B32 (hC : zC p l s m args meth c cX1_place 6 RX1 D cA B0) (hr : meth.sig.returnType = (Option.none : Option Jvm.ClassFile.FieldType)) {Γ : zSh} {x0 : Nat} {x1 : Nat} {x2 : Int32} {x3 : Int32} {σ2 : zSt} (kE : ∀ (H : Heap) (locs : List Loc) (ls : Array Slot), zO D cA B0 Γ σ2 Z s.heap H locs → lv_has ls 6 [(0, .ref x0), (1, .ref x1), (2, .int x2), (3, .int x3)] → W p l e rm_X1_place s m args below meth c H locs 0 0 Q (F0 m 104 ls [])) :
    ∀ (n : Nat) (x4 : Int32) (σ : zSt), loopM (fun q => f_X1_place_B32 Γ x0 x1 x2 x3 q.1 q.2) n (x4, σ) = some σ2 → ∀ (H : Heap) (locs : List Loc) (ls : Array Slot), zO D cA B0 Γ σ Z s.heap H locs → lv_has ls 6 [(0, .ref x0), (1, .ref x1), (2, .int x2), (3, .int x3), (4, .int x4)] → W p l e rm_X1_place s m args below meth c H locs 0 0 Q (F0 m 32 ls []) := by
  intro n
  induction n with
  | zero => intro x4 σ h; exact absurd h (by simp [loopM])
  | succ n ih =>
    intro x4 σ h H locs ls hw hl
    obtain ⟨r, h1, h2, h3⟩ := loopM_inv h
    exact t_X1_place_B32 hC hr h1 hw hl (fun z4 s2 e H locs ls hw hl => ih z4 s2 (h2 _ e) H locs ls hw hl) (fun s2 e H locs ls hw hl => by cases h3 _ e; exact kE H locs ls hw hl)
set_option maxHeartbeats 4000000 in
set_option maxRecDepth 100000 in
theorem t_X1_place_L182 (hC : zC p l s m args meth c cX1_place 6 RX1 D cA B0) (hr : meth.sig.returnType = (Option.none : Option Jvm.ClassFile.FieldType)) {Γ : zSh}  {σ : zSt} {out : (Unit × zSt)} (hf : f_X1_place_L182 Γ  σ = some out) {H : Heap} {locs : List Loc} {ls : Array Slot} (hw : zO D cA B0 Γ σ Z s.heap H locs) (hl : lv_has ls 6 []) :
    W p l e rm_X1_place s m args below meth c H locs 0 0 (MQ below (zQ1 D cA B0 (none) Γ out.2 Z) args s 0 0 (FR B0)) (F0 m 182 ls []) := by
  have hx := hC.1
  have hb := hC.2.1
  unfold f_X1_place_L182 at hf
  first | (obtain ⟨rfl, rfl⟩ := sp_inv hf) | (obtain rfl := Option.some.inj hf)
  exact W.vret hx hb hr (z_ret hw rfl) hw.2.2.2.2.2 dX1_place_182 hC.2.2.2.2.2.1
set_option maxHeartbeats 4000000 in
set_option maxRecDepth 100000 in
theorem m_X1_place (h9 : l.stackTraces = false) {Γ : zSh} {a0 : Nat} {a1 : Nat} {a2 : Int32} {σ : zSt} {r : Unit} {σ2 : zSt} (hf : f_X1_place Γ a0 a1 a2 σ = some (r, σ2)) : Met l yX1_place (wq yX1_place cX1_place 6 (Option.none : Option Jvm.ClassFile.FieldType)) rm_X1_place (zQ0 D cA B0 [.ref a0, .ref a1, .int a2] Γ σ Z) (zQ1 D cA B0 (none) Γ σ2 Z) 0 0 (FR B0) := by
  refine z_ofW h9 (by decide) (Nat.le_of_ble_eq_true rfl) ?_
  intro p e s m args below meth c ls hC hr _ hw hl
  have hx := hC.1
  have hb := hC.2.1
  have hl : lv_has ls 6 [(0, .ref a0), (1, .ref a1), (2, .int a2)] := hl
  unfold f_X1_place at hf
  refine lv_aload_n hx hb dX1_place_0 rfl (lv_at hl 1 rfl) ?_
  obtain ⟨v1, hg, hf⟩ := gfI_inv hf
  refine r_gfI hC hw hg clX0 (Nat.le_of_ble_eq_true rfl) lkF_X1_44 rfl dX1_place_1 ?_
  refine lv_istore_n (lv' := [(3, .int v1), (0, .ref a0), (1, .ref a1), (2, .int a2)]) hx hb dX1_place_4 rfl hl (Nat.le_of_ble_eq_true rfl) rfl (fun ls hl => ?_)
  refine lv_aload_n hx hb dX1_place_5 rfl (lv_at hl 1 rfl) ?_
  obtain ⟨v2, hg, hf⟩ := gfR_inv hf
  refine r_gfR hC hw hg clX1 (Nat.le_of_ble_eq_true rfl) lkF_X1_35 rfl dX1_place_6 ?_
  refine lv_iconst (v := 0) hx hb dX1_place_9 (by decide) ?_
  refine lv_aload_n hx hb dX1_place_10 rfl (lv_at hl 1 rfl) ?_
  obtain ⟨v3, hg, hf⟩ := gfR_inv hf
  refine r_gfR hC hw hg clX1 (Nat.le_of_ble_eq_true rfl) lkF_X1_38 rfl dX1_place_11 ?_
  refine lv_iconst (v := 0) hx hb dX1_place_14 (by decide) ?_
  refine lv_iload_n hx hb dX1_place_15 rfl (lv_at hl 0 rfl) ?_
  obtain ⟨σ4, hg, hf⟩ := cpI_inv hf
  refine r_cpI hC hw hg hl.1 lkM_X1_56 (Nat.le_of_ble_eq_true rfl) (Nat.le_of_ble_eq_true rfl) dX1_place_16 (fun H locs hw => ?_)
  refine lv_aload_n hx hb dX1_place_19 rfl (lv_at hl 1 rfl) ?_
  obtain ⟨v5, hg, hf⟩ := gfR_inv hf
  refine r_gfR hC hw hg clX1 (Nat.le_of_ble_eq_true rfl) lkF_X1_41 rfl dX1_place_20 ?_
  refine lv_iconst (v := 0) hx hb dX1_place_23 (by decide) ?_
  refine lv_iload_n hx hb dX1_place_24 rfl (lv_at hl 0 rfl) ?_
  refine lv_iconst (v := 0) hx hb dX1_place_25 (by decide) ?_
  obtain ⟨_, σ6, hk, hf⟩ := bnd_inv hf
  refine z_callS (As := [.ref v5, .int 0, .int v1, .int 0]) (rest := []) (m_J7_fill_fda19 hC.2.2.2.2.2.2.2.2 hk) hC hw wd_J7_fill_fda19 lkM_X1_70 rfl ⟨rfl, rfl⟩ ⟨(Nat.le_of_ble_eq_true rfl), (Nat.le_of_ble_eq_true rfl)⟩ hl.1 rfl (Nat.le_of_ble_eq_true rfl) dX1_place_26 ⟨(Nat.le_of_ble_eq_true rfl), (Nat.le_of_ble_eq_true rfl)⟩ (fun H locs hw => ?_)
  refine lv_iconst (v := 0) hx hb dX1_place_29 (by decide) ?_
  refine lv_istore (lv' := [(4, .int 0), (3, .int v1), (0, .ref a0), (1, .ref a1), (2, .int a2)]) hx hb dX1_place_30 hl (Nat.le_of_ble_eq_true rfl) rfl (fun ls hl => ?_)
  obtain ⟨σ20, hk, hf⟩ := lb0_inv hf
  refine l_X1_place_B32 hC hr (fun H locs ls hw hl => ?_) FUEL 0 σ6 hk _ _ _ hw (lv_sub hl [2, 3, 4, 1, 0] rfl)
  refine lv_aload_n hx hb dX1_place_104 rfl (lv_at hl 0 rfl) ?_
  obtain ⟨v21, hg, hf⟩ := gfR_inv hf
  refine r_gfR hC hw hg clX1 (Nat.le_of_ble_eq_true rfl) lkF_X1_38 rfl dX1_place_105 ?_
  refine lv_iload_n hx hb dX1_place_108 rfl (lv_at hl 3 rfl) ?_
  obtain ⟨r23, σ22, hk, hf⟩ := bnd_inv hf
  refine z_callSN (As := [.ref v21, .int v1]) (rest := []) (m_X6_firstNonZero hC.2.2.2.2.2.2.2.2 hk) hC hw wd_X6_firstNonZero lkN_X1_80 rfl ⟨rfl, rfl⟩ ⟨(Nat.le_of_ble_eq_true rfl), (Nat.le_of_ble_eq_true rfl)⟩ hl.1 rfl (Nat.le_of_ble_eq_true rfl) dX1_place_109 ⟨(Nat.le_of_ble_eq_true rfl), (Nat.le_of_ble_eq_true rfl)⟩ (fun H locs hw => ?_)
  refine lv_istore (lv' := [(4, .int r23), (0, .ref a0), (1, .ref a1), (2, .int a2), (3, .int v1)]) hx hb dX1_place_112 hl (Nat.le_of_ble_eq_true rfl) rfl (fun ls hl => ?_)
  refine lv_iload hx hb dX1_place_114 (lv_at hl 0 rfl) ?_
  refine lv_iconst (v := (-1)) hx hb dX1_place_116 (by decide) ?_
  refine lv_icmp_eq (tgt := 182) hx hb dX1_place_117 (by decide) (fun hc => ?_) (fun hc => ?_)
  · rw [if_pos hc] at hf
    exact t_X1_place_L182 hC hr hf hw (lv_sub hl [] rfl)
  · rw [if_neg hc] at hf
    refine lv_aload_n hx hb dX1_place_120 rfl (lv_at hl 1 rfl) ?_
    obtain ⟨v24, hg, hf⟩ := gfI_inv hf
    refine r_gfI hC hw hg clX1 (Nat.le_of_ble_eq_true rfl) lkF_X1_50 rfl dX1_place_121 ?_
    refine lv_bipush (v := 24) hx hb dX1_place_124 (by decide) ?_
    refine lv_icmp_ge (tgt := 182) hx hb dX1_place_126 (by decide) (fun hc => ?_) (fun hc => ?_)
    · rw [if_pos hc] at hf
      exact t_X1_place_L182 hC hr hf hw (lv_sub hl [] rfl)
    · rw [if_neg hc] at hf
      refine lv_aload_n hx hb dX1_place_129 rfl (lv_at hl 1 rfl) ?_
      obtain ⟨v25, hg, hf⟩ := gfR_inv hf
      refine r_gfR hC hw hg clX1 (Nat.le_of_ble_eq_true rfl) lkF_X1_9 rfl dX1_place_130 ?_
      refine lv_aload_n hx hb dX1_place_133 rfl (lv_at hl 1 rfl) ?_
      obtain ⟨v26, hg, hf⟩ := gfI_inv hf
      refine r_gfI hC hw hg clX1 (Nat.le_of_ble_eq_true rfl) lkF_X1_50 rfl dX1_place_134 ?_
      refine lv_iload_n hx hb dX1_place_137 rfl (lv_at hl 3 rfl) ?_
      obtain ⟨σ27, hg, hf⟩ := stI_inv hf
      refine r_stI hC hw hg dX1_place_138 (fun H locs hw => ?_)
      refine lv_aload_n hx hb dX1_place_139 rfl (lv_at hl 1 rfl) ?_
      obtain ⟨v28, hg, hf⟩ := gfR_inv hf
      refine r_gfR hC hw hg clX1 (Nat.le_of_ble_eq_true rfl) lkF_X1_15 rfl dX1_place_140 ?_
      refine lv_aload_n hx hb dX1_place_143 rfl (lv_at hl 1 rfl) ?_
      obtain ⟨v29, hg, hf⟩ := gfI_inv hf
      refine r_gfI hC hw hg clX1 (Nat.le_of_ble_eq_true rfl) lkF_X1_50 rfl dX1_place_144 ?_
      refine lv_aload_n hx hb dX1_place_147 rfl (lv_at hl 2 rfl) ?_
      refine lv_aload_n hx hb dX1_place_148 rfl (lv_at hl 1 rfl) ?_
      obtain ⟨v30, hg, hf⟩ := gfR_inv hf
      refine r_gfR hC hw hg clX1 (Nat.le_of_ble_eq_true rfl) lkF_X1_35 rfl dX1_place_149 ?_
      obtain ⟨ho, hf⟩ := chk_inv hf
      obtain ⟨r32, σ31, hk, hf⟩ := bnd_inv hf
      refine z_callV (As := [.ref v30]) (rest := [.int v29, .ref v28]) (m_X0_weightFrom hC.2.2.2.2.2.2.2.2 hk) hC hw wd_X0_weightFrom lkM_X1_84 (isO_sh ho) rfl rfl ⟨rfl, rfl⟩ ⟨(Nat.le_of_ble_eq_true rfl), (Nat.le_of_ble_eq_true rfl)⟩ hl.1 rfl (Nat.le_of_ble_eq_true rfl) dX1_place_152 ⟨(Nat.le_of_ble_eq_true rfl), (Nat.le_of_ble_eq_true rfl)⟩ (fun H locs hw => ?_)
      obtain ⟨σ33, hg, hf⟩ := stI_inv hf
      refine r_stI hC hw hg dX1_place_155 (fun H locs hw => ?_)
      refine lv_aload_n hx hb dX1_place_156 rfl (lv_at hl 1 rfl) ?_
      obtain ⟨v34, hg, hf⟩ := gfR_inv hf
      refine r_gfR hC hw hg clX1 (Nat.le_of_ble_eq_true rfl) lkF_X1_29 rfl dX1_place_157 ?_
      refine lv_aload_n hx hb dX1_place_160 rfl (lv_at hl 1 rfl) ?_
      obtain ⟨v35, hg, hf⟩ := gfI_inv hf
      refine r_gfI hC hw hg clX1 (Nat.le_of_ble_eq_true rfl) lkF_X1_50 rfl dX1_place_161 ?_
      refine lv_iload hx hb dX1_place_164 (lv_at hl 0 rfl) ?_
      obtain ⟨σ36, hg, hf⟩ := stI_inv hf
      refine r_stI hC hw hg dX1_place_166 (fun H locs hw => ?_)
      refine lv_aload_n hx hb dX1_place_167 rfl (lv_at hl 1 rfl) ?_
      refine lv_aload_n hx hb dX1_place_168 rfl (lv_at hl 1 rfl) ?_
      obtain ⟨v37, hg, hf⟩ := gfR_inv hf
      refine r_gfR hC hw hg clX1 (Nat.le_of_ble_eq_true rfl) lkF_X1_38 rfl dX1_place_169 ?_
      refine lv_iload hx hb dX1_place_172 (lv_at hl 0 rfl) ?_
      obtain ⟨v38, hg, hf⟩ := ldI_inv hf
      refine r_ldI hC hw hg dX1_place_174 ?_
      obtain ⟨r40, σ39, hk, hf⟩ := bnd_inv hf
      refine z_callSN (As := [.int v38]) (rest := [.ref a0]) (m_X6_reciprocal hC.2.2.2.2.2.2.2.2 hk) hC hw wd_X6_reciprocal lkN_X1_88 rfl ⟨rfl, rfl⟩ ⟨(Nat.le_of_ble_eq_true rfl), (Nat.le_of_ble_eq_true rfl)⟩ hl.1 rfl (Nat.le_of_ble_eq_true rfl) dX1_place_175 ⟨(Nat.le_of_ble_eq_true rfl), (Nat.le_of_ble_eq_true rfl)⟩ (fun H locs hw => ?_)
      refine lv_iload_n hx hb dX1_place_178 rfl (lv_at hl 4 rfl) ?_
      obtain ⟨ho, hf⟩ := chk_inv hf
      obtain ⟨_, σ41, hk, hf⟩ := bnd_inv hf
      refine z_callV (As := [.int r40, .int v1]) (rest := []) (m_X1_extend hC.2.2.2.2.2.2.2.2 hk) hC hw wd_X1_extend lkM_X1_92 (isO_sh ho) rfl rfl ⟨rfl, rfl⟩ ⟨(Nat.le_of_ble_eq_true rfl), (Nat.le_of_ble_eq_true rfl)⟩ hl.1 rfl (Nat.le_of_ble_eq_true rfl) dX1_place_179 ⟨(Nat.le_of_ble_eq_true rfl), (Nat.le_of_ble_eq_true rfl)⟩ (fun H locs hw => ?_)
      exact t_X1_place_L182 hC hr hf hw (lv_sub hl [] rfl)
set_option maxHeartbeats 4000000 in
set_option maxRecDepth 100000 in
theorem t_X1_explore_B49 (hC : zC p l s m args meth c cX1_explore 5 RX1 D cA B0) (hr : meth.sig.returnType = (Option.none : Option Jvm.ClassFile.FieldType)) {Γ : zSh} {x0 : Nat} {x1 : Nat} {x2 : Int32} {x3 : Int32} {x4 : Int32} {σ : zSt} {out : ((Int32 × zSt) ⊕ (zSt))} (hf : f_X1_explore_B49 Γ x0 x1 x2 x3 x4 σ = some out) {H : Heap} {locs : List Loc} {ls : Array Slot} (hw : zO D cA B0 Γ σ Z s.heap H locs) (hl : lv_has ls 5 [(0, .ref x0), (1, .ref x1), (2, .int x2), (3, .int x3), (4, .int x4)])
    (kI : ∀ (z4 : Int32) (σ2 : zSt), out = .inl (z4, σ2) → ∀ (H : Heap) (locs : List Loc) (ls : Array Slot), zO D cA B0 Γ σ2 Z s.heap H locs → lv_has ls 5 [(0, .ref x0), (1, .ref x1), (2, .int x2), (3, .int x3), (4, .int z4)] → W p l e rm_X1_explore s m args below meth c H locs 0 0 Q (F0 m 49 ls []))
    (kE : ∀ (σ2 : zSt), out = .inr σ2 → ∀ (H : Heap) (locs : List Loc) (ls : Array Slot), zO D cA B0 Γ σ2 Z s.heap H locs → lv_has ls 5 [(0, .ref x0), (1, .ref x1), (2, .int x2), (3, .int x3)] → W p l e rm_X1_explore s m args below meth c H locs 0 0 Q (F0 m 116 ls [])) :
    W p l e rm_X1_explore s m args below meth c H locs 0 0 Q (F0 m 49 ls []) := by
  have hx := hC.1
  have hb := hC.2.1
  unfold f_X1_explore_B49 at hf
  refine lv_iload hx hb dX1_explore_49 (lv_at hl 4 rfl) ?_
  refine lv_iconst (v := 2) hx hb dX1_explore_51 (by decide) ?_
  refine lv_icmp_ge (tgt := 116) hx hb dX1_explore_52 (by decide) (fun hc => ?_) (fun hc => ?_)
  · rw [if_pos hc] at hf
    exact kE  σ (Option.some.inj hf).symm _ _ _ hw (lv_sub hl [0, 1, 2, 3] rfl)
  · rw [if_neg hc] at hf
    refine lv_aload_n hx hb dX1_explore_55 rfl (lv_at hl 1 rfl) ?_
    refine lv_aload_n hx hb dX1_explore_56 rfl (lv_at hl 0 rfl) ?_
    obtain ⟨v8, hg, hf⟩ := gfR_inv hf
    refine r_gfR hC hw hg clX1 (Nat.le_of_ble_eq_true rfl) lkF_X1_20 rfl dX1_explore_57 ?_
    refine lv_iload_n hx hb dX1_explore_60 rfl (lv_at hl 3 rfl) ?_
    obtain ⟨v9, hg, hf⟩ := ldG_inv hf
    refine r_ldG hC hw hg dX1_explore_61 ?_
    refine lv_iload hx hb dX1_explore_62 (lv_at hl 4 rfl) ?_
    refine lv_aload_n hx hb dX1_explore_64 rfl (lv_at hl 0 rfl) ?_
    obtain ⟨v10, hg, hf⟩ := gfR_inv hf
    refine r_gfR hC hw hg clX1 (Nat.le_of_ble_eq_true rfl) lkF_X1_35 rfl dX1_explore_65 ?_
    obtain ⟨ho, hf⟩ := chk_inv hf
    obtain ⟨_, σ11, hk, hf⟩ := bnd_inv hf
    refine z_callV (As := [.ref v9, .int x4, .ref v10]) (rest := []) (m_X0_takeStep hC.2.2.2.2.2.2.2.2 hk) hC hw wd_X0_takeStep lkM_X1_66 (isO_sh ho) rfl rfl ⟨rfl, rfl⟩ ⟨(Nat.le_of_ble_eq_true rfl), (Nat.le_of_ble_eq_true rfl)⟩ hl.1 rfl (Nat.le_of_ble_eq_true rfl) dX1_explore_68 ⟨(Nat.le_of_ble_eq_true rfl), (Nat.le_of_ble_eq_true rfl)⟩ (fun H locs hw => ?_)
    refine lv_aload_n hx hb dX1_explore_71 rfl (lv_at hl 0 rfl) ?_
    refine lv_aload_n hx hb dX1_explore_72 rfl (lv_at hl 1 rfl) ?_
    refine lv_iconst (v := 2) hx hb dX1_explore_73 (by decide) ?_
    refine lv_aload_n hx hb dX1_explore_74 rfl (lv_at hl 0 rfl) ?_
    obtain ⟨v12, hg, hf⟩ := gfR_inv hf
    refine r_gfR hC hw hg clX1 (Nat.le_of_ble_eq_true rfl) lkF_X1_9 rfl dX1_explore_75 ?_
    refine lv_iload_n hx hb dX1_explore_78 rfl (lv_at hl 3 rfl) ?_
    obtain ⟨v13, hg, hf⟩ := ldI_inv hf
    refine r_ldI hC hw hg dX1_explore_79 ?_
    refine lv_imul hx hb dX1_explore_80 ?_
    refine lv_iconst (v := 1) hx hb dX1_explore_81 (by decide) ?_
    refine lv_iadd hx hb dX1_explore_82 ?_
    refine lv_iload hx hb dX1_explore_83 (lv_at hl 4 rfl) ?_
    refine lv_iadd hx hb dX1_explore_85 ?_
    obtain ⟨ho, hf⟩ := chk_inv hf
    obtain ⟨_, σ14, hk, hf⟩ := bnd_inv hf
    refine z_callV (As := [.ref x1, .int (((2 * v13) + 1) + x4)]) (rest := []) (m_X1_place hC.2.2.2.2.2.2.2.2 hk) hC hw wd_X1_place lkM_X1_62 (isO_sh ho) rfl rfl ⟨rfl, rfl⟩ ⟨(Nat.le_of_ble_eq_true rfl), (Nat.le_of_ble_eq_true rfl)⟩ hl.1 rfl (Nat.le_of_ble_eq_true rfl) dX1_explore_86 ⟨(Nat.le_of_ble_eq_true rfl), (Nat.le_of_ble_eq_true rfl)⟩ (fun H locs hw => ?_)
    refine lv_aload_n hx hb dX1_explore_89 rfl (lv_at hl 0 rfl) ?_
    obtain ⟨v15, hg, hf⟩ := gfR_inv hf
    refine r_gfR hC hw hg clX1 (Nat.le_of_ble_eq_true rfl) lkF_X1_41 rfl dX1_explore_90 ?_
    refine lv_iconst (v := 0) hx hb dX1_explore_93 (by decide) ?_
    refine lv_aload_n hx hb dX1_explore_94 rfl (lv_at hl 0 rfl) ?_
    obtain ⟨v16, hg, hf⟩ := gfR_inv hf
    refine r_gfR hC hw hg clX1 (Nat.le_of_ble_eq_true rfl) lkF_X1_32 rfl dX1_explore_95 ?_
    refine lv_iconst (v := 2) hx hb dX1_explore_98 (by decide) ?_
    refine lv_iload_n hx hb dX1_explore_99 rfl (lv_at hl 3 rfl) ?_
    refine lv_imul hx hb dX1_explore_100 ?_
    refine lv_iload hx hb dX1_explore_101 (lv_at hl 4 rfl) ?_
    refine lv_iadd hx hb dX1_explore_103 ?_
    obtain ⟨v17, hg, hf⟩ := ldG_inv hf
    refine r_ldG hC hw hg dX1_explore_104 ?_
    refine lv_iconst (v := 0) hx hb dX1_explore_105 (by decide) ?_
    refine lv_iload_n hx hb dX1_explore_106 rfl (lv_at hl 2 rfl) ?_
    obtain ⟨σ18, hg, hf⟩ := cpI_inv hf
    refine r_cpI hC hw hg hl.1 lkM_X1_56 (Nat.le_of_ble_eq_true rfl) (Nat.le_of_ble_eq_true rfl) dX1_explore_107 (fun H locs hw => ?_)
    refine lv_iinc (v := (x4 + 1)) (lv' := [(4, .int (x4 + 1)), (0, .ref x0), (1, .ref x1), (2, .int x2), (3, .int x3)]) hx hb dX1_explore_110 hl (k := 4) rfl rfl (Nat.le_of_ble_eq_true rfl) rfl (fun ls hl => ?_)
    refine lv_goto (tgt := 49) hx hb dX1_explore_113 (by decide) ?_
    exact kI (x4 + 1) σ18 (Option.some.inj hf).symm _ _ _ hw (lv_sub hl [1, 2, 3, 4, 0] rfl)
set_option maxHeartbeats 4000000 in
theorem l_X1_explore_B49 (hC : zC p l s m args meth c cX1_explore 5 RX1 D cA B0) (hr : meth.sig.returnType = (Option.none : Option Jvm.ClassFile.FieldType)) {Γ : zSh} {x0 : Nat} {x1 : Nat} {x2 : Int32} {x3 : Int32} {σ2 : zSt} (kE : ∀ (H : Heap) (locs : List Loc) (ls : Array Slot), zO D cA B0 Γ σ2 Z s.heap H locs → lv_has ls 5 [(0, .ref x0), (1, .ref x1), (2, .int x2), (3, .int x3)] → W p l e rm_X1_explore s m args below meth c H locs 0 0 Q (F0 m 116 ls [])) :
    ∀ (n : Nat) (x4 : Int32) (σ : zSt), loopM (fun q => f_X1_explore_B49 Γ x0 x1 x2 x3 q.1 q.2) n (x4, σ) = some σ2 → ∀ (H : Heap) (locs : List Loc) (ls : Array Slot), zO D cA B0 Γ σ Z s.heap H locs → lv_has ls 5 [(0, .ref x0), (1, .ref x1), (2, .int x2), (3, .int x3), (4, .int x4)] → W p l e rm_X1_explore s m args below meth c H locs 0 0 Q (F0 m 49 ls []) := by
  intro n
  induction n with
  | zero => intro x4 σ h; exact absurd h (by simp [loopM])
  | succ n ih =>
    intro x4 σ h H locs ls hw hl
    obtain ⟨r, h1, h2, h3⟩ := loopM_inv h
    exact t_X1_explore_B49 hC hr h1 hw hl (fun z4 s2 e H locs ls hw hl => ih z4 s2 (h2 _ e) H locs ls hw hl) (fun s2 e H locs ls hw hl => by cases h3 _ e; exact kE H locs ls hw hl)
set_option maxHeartbeats 4000000 in
set_option maxRecDepth 100000 in
theorem t_X1_explore_B32 (hC : zC p l s m args meth c cX1_explore 5 RX1 D cA B0) (hr : meth.sig.returnType = (Option.none : Option Jvm.ClassFile.FieldType)) {Γ : zSh} {x0 : Nat} {x1 : Nat} {x2 : Int32} {x3 : Int32} {σ : zSt} {out : ((Int32 × zSt) ⊕ (zSt))} (hf : f_X1_explore_B32 Γ x0 x1 x2 x3 σ = some out) {H : Heap} {locs : List Loc} {ls : Array Slot} (hw : zO D cA B0 Γ σ Z s.heap H locs) (hl : lv_has ls 5 [(0, .ref x0), (1, .ref x1), (2, .int x2), (3, .int x3)])
    (kI : ∀ (z3 : Int32) (σ2 : zSt), out = .inl (z3, σ2) → ∀ (H : Heap) (locs : List Loc) (ls : Array Slot), zO D cA B0 Γ σ2 Z s.heap H locs → lv_has ls 5 [(0, .ref x0), (1, .ref x1), (2, .int x2), (3, .int z3)] → W p l e rm_X1_explore s m args below meth c H locs 0 0 Q (F0 m 32 ls []))
    (kE : ∀ (σ2 : zSt), out = .inr σ2 → ∀ (H : Heap) (locs : List Loc) (ls : Array Slot), zO D cA B0 Γ σ2 Z s.heap H locs → lv_has ls 5 [] → W p l e rm_X1_explore s m args below meth c H locs 0 0 Q (F0 m 122 ls [])) :
    W p l e rm_X1_explore s m args below meth c H locs 0 0 Q (F0 m 32 ls []) := by
  have hx := hC.1
  have hb := hC.2.1
  unfold f_X1_explore_B32 at hf
  refine lv_iload_n hx hb dX1_explore_32 rfl (lv_at hl 3 rfl) ?_
  refine lv_aload_n hx hb dX1_explore_33 rfl (lv_at hl 0 rfl) ?_
  obtain ⟨v7, hg, hf⟩ := gfI_inv hf
  refine r_gfI hC hw hg clX1 (Nat.le_of_ble_eq_true rfl) lkF_X1_50 rfl dX1_explore_34 ?_
  refine lv_icmp_ge (tgt := 122) hx hb dX1_explore_37 (by decide) (fun hc => ?_) (fun hc => ?_)
  · rw [if_pos hc] at hf
    exact kE  σ (Option.some.inj hf).symm _ _ _ hw (lv_sub hl [] rfl)
  · rw [if_neg hc] at hf
    refine lv_iload_n hx hb dX1_explore_40 rfl (lv_at hl 3 rfl) ?_
    refine lv_bipush (v := 24) hx hb dX1_explore_41 (by decide) ?_
    refine lv_icmp_ge (tgt := 122) hx hb dX1_explore_43 (by decide) (fun hc => ?_) (fun hc => ?_)
    · rw [if_pos hc] at hf
      exact kE  σ (Option.some.inj hf).symm _ _ _ hw (lv_sub hl [] rfl)
    · rw [if_neg hc] at hf
      refine lv_iconst (v := 0) hx hb dX1_explore_46 (by decide) ?_
      refine lv_istore (lv' := [(4, .int 0), (0, .ref x0), (1, .ref x1), (2, .int x2), (3, .int x3)]) hx hb dX1_explore_47 hl (Nat.le_of_ble_eq_true rfl) rfl (fun ls hl => ?_)
      obtain ⟨σ19, hk, hf⟩ := lb0_inv hf
      refine l_X1_explore_B49 hC hr (fun H locs ls hw hl => ?_) FUEL 0 σ hk _ _ _ hw (lv_sub hl [1, 2, 3, 4, 0] rfl)
      refine lv_iinc (v := (x3 + 1)) (lv' := [(3, .int (x3 + 1)), (0, .ref x0), (1, .ref x1), (2, .int x2)]) hx hb dX1_explore_116 hl (k := 3) rfl rfl (Nat.le_of_ble_eq_true rfl) rfl (fun ls hl => ?_)
      refine lv_goto (tgt := 32) hx hb dX1_explore_119 (by decide) ?_
      exact kI (x3 + 1) σ19 (Option.some.inj hf).symm _ _ _ hw (lv_sub hl [1, 2, 3, 0] rfl)
set_option maxHeartbeats 4000000 in
theorem l_X1_explore_B32 (hC : zC p l s m args meth c cX1_explore 5 RX1 D cA B0) (hr : meth.sig.returnType = (Option.none : Option Jvm.ClassFile.FieldType)) {Γ : zSh} {x0 : Nat} {x1 : Nat} {x2 : Int32} {σ2 : zSt} (kE : ∀ (H : Heap) (locs : List Loc) (ls : Array Slot), zO D cA B0 Γ σ2 Z s.heap H locs → lv_has ls 5 [] → W p l e rm_X1_explore s m args below meth c H locs 0 0 Q (F0 m 122 ls [])) :
    ∀ (n : Nat) (x3 : Int32) (σ : zSt), loopM (fun q => f_X1_explore_B32 Γ x0 x1 x2 q.1 q.2) n (x3, σ) = some σ2 → ∀ (H : Heap) (locs : List Loc) (ls : Array Slot), zO D cA B0 Γ σ Z s.heap H locs → lv_has ls 5 [(0, .ref x0), (1, .ref x1), (2, .int x2), (3, .int x3)] → W p l e rm_X1_explore s m args below meth c H locs 0 0 Q (F0 m 32 ls []) := by
  intro n
  induction n with
  | zero => intro x3 σ h; exact absurd h (by simp [loopM])
  | succ n ih =>
    intro x3 σ h H locs ls hw hl
    obtain ⟨r, h1, h2, h3⟩ := loopM_inv h
    exact t_X1_explore_B32 hC hr h1 hw hl (fun z3 s2 e H locs ls hw hl => ih z3 s2 (h2 _ e) H locs ls hw hl) (fun s2 e H locs ls hw hl => by cases h3 _ e; exact kE H locs ls hw hl)
set_option maxHeartbeats 4000000 in
set_option maxRecDepth 100000 in
theorem m_X1_explore (h9 : l.stackTraces = false) {Γ : zSh} {a0 : Nat} {a1 : Nat} {σ : zSt} {r : Unit} {σ2 : zSt} (hf : f_X1_explore Γ a0 a1 σ = some (r, σ2)) : Met l yX1_explore (wq yX1_explore cX1_explore 5 (Option.none : Option Jvm.ClassFile.FieldType)) rm_X1_explore (zQ0 D cA B0 [.ref a0, .ref a1] Γ σ Z) (zQ1 D cA B0 (none) Γ σ2 Z) 0 0 (FR B0) := by
  refine z_ofW h9 (by decide) (Nat.le_of_ble_eq_true rfl) ?_
  intro p e s m args below meth c ls hC hr _ hw hl
  have hx := hC.1
  have hb := hC.2.1
  have hl : lv_has ls 5 [(0, .ref a0), (1, .ref a1)] := hl
  unfold f_X1_explore at hf
  refine lv_aload_n hx hb dX1_explore_0 rfl (lv_at hl 1 rfl) ?_
  obtain ⟨v1, hg, hf⟩ := gfI_inv hf
  refine r_gfI hC hw hg clX0 (Nat.le_of_ble_eq_true rfl) lkF_X1_44 rfl dX1_explore_1 ?_
  refine lv_istore_n (lv' := [(2, .int v1), (0, .ref a0), (1, .ref a1)]) hx hb dX1_explore_4 rfl hl (Nat.le_of_ble_eq_true rfl) rfl (fun ls hl => ?_)
  refine lv_aload_n hx hb dX1_explore_5 rfl (lv_at hl 1 rfl) ?_
  refine lv_iconst (v := 0) hx hb dX1_explore_6 (by decide) ?_
  obtain ⟨σ2, hg, hf⟩ := pfI_inv hf
  refine r_pfI hC hw hg clX1 (Nat.le_of_ble_eq_true rfl) lkF_X1_50 rfl rfl rfl dX1_explore_7 (fun H locs hw => ?_)
  refine lv_aload_n hx hb dX1_explore_10 rfl (lv_at hl 2 rfl) ?_
  obtain ⟨v3, hg, hf⟩ := gfR_inv hf
  refine r_gfR hC hw hg clX0 (Nat.le_of_ble_eq_true rfl) lkF_X1_53 rfl dX1_explore_11 ?_
  refine lv_iconst (v := 0) hx hb dX1_explore_14 (by decide) ?_
  refine lv_aload_n hx hb dX1_explore_15 rfl (lv_at hl 1 rfl) ?_
  obtain ⟨v4, hg, hf⟩ := gfR_inv hf
  refine r_gfR hC hw hg clX1 (Nat.le_of_ble_eq_true rfl) lkF_X1_35 rfl dX1_explore_16 ?_
  refine lv_iconst (v := 0) hx hb dX1_explore_19 (by decide) ?_
  refine lv_iload_n hx hb dX1_explore_20 rfl (lv_at hl 0 rfl) ?_
  obtain ⟨σ5, hg, hf⟩ := cpI_inv hf
  refine r_cpI hC hw hg hl.1 lkM_X1_56 (Nat.le_of_ble_eq_true rfl) (Nat.le_of_ble_eq_true rfl) dX1_explore_21 (fun H locs hw => ?_)
  refine lv_aload_n hx hb dX1_explore_24 rfl (lv_at hl 1 rfl) ?_
  refine lv_aload_n hx hb dX1_explore_25 rfl (lv_at hl 2 rfl) ?_
  refine lv_iconst (v := 0) hx hb dX1_explore_26 (by decide) ?_
  obtain ⟨ho, hf⟩ := chk_inv hf
  obtain ⟨_, σ6, hk, hf⟩ := bnd_inv hf
  refine z_callV (As := [.ref a1, .int 0]) (rest := []) (m_X1_place hC.2.2.2.2.2.2.2.2 hk) hC hw wd_X1_place lkM_X1_62 (isO_sh ho) rfl rfl ⟨rfl, rfl⟩ ⟨(Nat.le_of_ble_eq_true rfl), (Nat.le_of_ble_eq_true rfl)⟩ hl.1 rfl (Nat.le_of_ble_eq_true rfl) dX1_explore_27 ⟨(Nat.le_of_ble_eq_true rfl), (Nat.le_of_ble_eq_true rfl)⟩ (fun H locs hw => ?_)
  refine lv_iconst (v := 0) hx hb dX1_explore_30 (by decide) ?_
  refine lv_istore_n (lv' := [(3, .int 0), (2, .int v1), (0, .ref a0), (1, .ref a1)]) hx hb dX1_explore_31 rfl hl (Nat.le_of_ble_eq_true rfl) rfl (fun ls hl => ?_)
  obtain ⟨σ20, hk, hf⟩ := lb0_inv hf
  refine l_X1_explore_B32 hC hr (fun H locs ls hw hl => ?_) FUEL 0 σ6 hk _ _ _ hw (lv_sub hl [2, 3, 1, 0] rfl)
  first | (obtain ⟨rfl, rfl⟩ := sp_inv hf) | (obtain rfl := Option.some.inj hf)
  exact W.vret hx hb hr (z_ret hw rfl) hw.2.2.2.2.2 dX1_explore_122 hC.2.2.2.2.2.1
set_option maxHeartbeats 4000000 in
set_option maxRecDepth 100000 in
theorem t_X1_firstWeighted_L27 (hC : zC p l s m args meth c cX1_firstWeighted 2 RX1 D cA B0) (hr : meth.sig.returnType = (Option.some FieldType.int)) {Γ : zSh} {s0 : Int32} {σ : zSt} {out : (Int32 × zSt)} (hf : f_X1_firstWeighted_L27 Γ s0 σ = some out) {H : Heap} {locs : List Loc} {ls : Array Slot} (hw : zO D cA B0 Γ σ Z s.heap H locs) (hl : lv_has ls 2 []) :
    W p l e rm_X1_firstWeighted s m args below meth c H locs 0 0 (MQ below (zQ1 D cA B0 (some (.int out.1)) Γ out.2 Z) args s 0 0 (FR B0)) (F0 m 27 ls [.int s0]) := by
  have hx := hC.1
  have hb := hC.2.1
  unfold f_X1_firstWeighted_L27 at hf
  first | (obtain ⟨rfl, rfl⟩ := sp_inv hf) | (obtain rfl := Option.some.inj hf)
  exact W.iret hx hb hr (z_ret hw rfl) hw.2.2.2.2.2 dX1_firstWeighted_27 hC.2.2.2.2.2.1
set_option maxHeartbeats 4000000 in
set_option maxRecDepth 100000 in
theorem m_X1_firstWeighted (h9 : l.stackTraces = false) {Γ : zSh} {a0 : Nat} {σ : zSt} {r : Int32} {σ2 : zSt} (hf : f_X1_firstWeighted Γ a0 σ = some (r, σ2)) : Met l yX1_firstWeighted (wq yX1_firstWeighted cX1_firstWeighted 2 (Option.some FieldType.int)) rm_X1_firstWeighted (zQ0 D cA B0 [.ref a0] Γ σ Z) (zQ1 D cA B0 (some (.int r)) Γ σ2 Z) 0 0 (FR B0) := by
  refine z_ofW h9 (by decide) (Nat.le_of_ble_eq_true rfl) ?_
  intro p e s m args below meth c ls hC hr _ hw hl
  have hx := hC.1
  have hb := hC.2.1
  have hl : lv_has ls 2 [(0, .ref a0)] := hl
  unfold f_X1_firstWeighted at hf
  refine lv_aload_n hx hb dX1_firstWeighted_0 rfl (lv_at hl 0 rfl) ?_
  obtain ⟨v1, hg, hf⟩ := gfR_inv hf
  refine r_gfR hC hw hg clX1 (Nat.le_of_ble_eq_true rfl) lkF_X1_15 rfl dX1_firstWeighted_1 ?_
  refine lv_aload_n hx hb dX1_firstWeighted_4 rfl (lv_at hl 0 rfl) ?_
  obtain ⟨v2, hg, hf⟩ := gfI_inv hf
  refine r_gfI hC hw hg clX1 (Nat.le_of_ble_eq_true rfl) lkF_X1_50 rfl dX1_firstWeighted_5 ?_
  obtain ⟨r4, σ3, hk, hf⟩ := bnd_inv hf
  refine z_callSN (As := [.ref v1, .int v2]) (rest := []) (m_X6_firstNonZero hC.2.2.2.2.2.2.2.2 hk) hC hw wd_X6_firstNonZero lkN_X1_80 rfl ⟨rfl, rfl⟩ ⟨(Nat.le_of_ble_eq_true rfl), (Nat.le_of_ble_eq_true rfl)⟩ hl.1 rfl (Nat.le_of_ble_eq_true rfl) dX1_firstWeighted_8 ⟨(Nat.le_of_ble_eq_true rfl), (Nat.le_of_ble_eq_true rfl)⟩ (fun H locs hw => ?_)
  refine lv_istore_n (lv' := [(1, .int r4), (0, .ref a0)]) hx hb dX1_firstWeighted_11 rfl hl (Nat.le_of_ble_eq_true rfl) rfl (fun ls hl => ?_)
  refine lv_iload_n hx hb dX1_firstWeighted_12 rfl (lv_at hl 0 rfl) ?_
  refine lv_iconst (v := (-1)) hx hb dX1_firstWeighted_13 (by decide) ?_
  refine lv_icmp_ne (tgt := 21) hx hb dX1_firstWeighted_14 (by decide) (fun hc => ?_) (fun hc => ?_)
  · rw [if_neg hc] at hf
    refine lv_aload_n hx hb dX1_firstWeighted_21 rfl (lv_at hl 1 rfl) ?_
    obtain ⟨v5, hg, hf⟩ := gfR_inv hf
    refine r_gfR hC hw hg clX1 (Nat.le_of_ble_eq_true rfl) lkF_X1_9 rfl dX1_firstWeighted_22 ?_
    refine lv_iload_n hx hb dX1_firstWeighted_25 rfl (lv_at hl 0 rfl) ?_
    obtain ⟨v6, hg, hf⟩ := ldI_inv hf
    refine r_ldI hC hw hg dX1_firstWeighted_26 ?_
    exact t_X1_firstWeighted_L27 hC hr hf hw (lv_sub hl [] rfl)
  · rw [if_pos hc] at hf
    refine lv_iconst (v := (-1)) hx hb dX1_firstWeighted_17 (by decide) ?_
    refine lv_goto (tgt := 27) hx hb dX1_firstWeighted_18 (by decide) ?_
    exact t_X1_firstWeighted_L27 hC hr hf hw (lv_sub hl [] rfl)
set_option maxHeartbeats 4000000 in
set_option maxRecDepth 100000 in
theorem t_X1_build_B52 (hC : zC p l s m args meth c cX1_build 4 RX1 D cA B0) (hr : meth.sig.returnType = (Option.none : Option Jvm.ClassFile.FieldType)) {Γ : zSh} {x0 : Nat} {x1 : Nat} {x2 : Int32} {x3 : Int32} {σ : zSt} {out : ((Int32 × zSt) ⊕ (zSt))} (hf : f_X1_build_B52 Γ x0 x1 x2 x3 σ = some out) {H : Heap} {locs : List Loc} {ls : Array Slot} (hw : zO D cA B0 Γ σ Z s.heap H locs) (hl : lv_has ls 4 [(0, .ref x0), (1, .ref x1), (2, .int x2), (3, .int x3)])
    (kI : ∀ (z3 : Int32) (σ2 : zSt), out = .inl (z3, σ2) → ∀ (H : Heap) (locs : List Loc) (ls : Array Slot), zO D cA B0 Γ σ2 Z s.heap H locs → lv_has ls 4 [(0, .ref x0), (1, .ref x1), (2, .int x2), (3, .int z3)] → W p l e rm_X1_build s m args below meth c H locs 0 0 Q (F0 m 52 ls []))
    (kE : ∀ (σ2 : zSt), out = .inr σ2 → ∀ (H : Heap) (locs : List Loc) (ls : Array Slot), zO D cA B0 Γ σ2 Z s.heap H locs → lv_has ls 4 [(0, .ref x0), (1, .ref x1), (2, .int x2)] → W p l e rm_X1_build s m args below meth c H locs 0 0 Q (F0 m 93 ls [])) :
    W p l e rm_X1_build s m args below meth c H locs 0 0 Q (F0 m 52 ls []) := by
  have hx := hC.1
  have hb := hC.2.1
  unfold f_X1_build_B52 at hf
  refine lv_iload_n hx hb dX1_build_52 rfl (lv_at hl 3 rfl) ?_
  refine lv_iconst (v := 2) hx hb dX1_build_53 (by decide) ?_
  refine lv_icmp_ge (tgt := 93) hx hb dX1_build_54 (by decide) (fun hc => ?_) (fun hc => ?_)
  · rw [if_pos hc] at hf
    exact kE  σ (Option.some.inj hf).symm _ _ _ hw (lv_sub hl [0, 1, 2] rfl)
  · rw [if_neg hc] at hf
    refine lv_aload_n hx hb dX1_build_57 rfl (lv_at hl 0 rfl) ?_
    obtain ⟨v10, hg, hf⟩ := gfR_inv hf
    refine r_gfR hC hw hg clX1 (Nat.le_of_ble_eq_true rfl) lkF_X1_32 rfl dX1_build_58 ?_
    refine lv_iconst (v := 2) hx hb dX1_build_61 (by decide) ?_
    refine lv_iload_n hx hb dX1_build_62 rfl (lv_at hl 2 rfl) ?_
    refine lv_imul hx hb dX1_build_63 ?_
    refine lv_iload_n hx hb dX1_build_64 rfl (lv_at hl 3 rfl) ?_
    refine lv_iadd hx hb dX1_build_65 ?_
    obtain ⟨v11, hg, hf⟩ := ldG_inv hf
    refine r_ldG hC hw hg dX1_build_66 ?_
    refine lv_iconst (v := 0) hx hb dX1_build_67 (by decide) ?_
    refine lv_aload_n hx hb dX1_build_68 rfl (lv_at hl 1 rfl) ?_
    obtain ⟨v12, hg, hf⟩ := gfR_inv hf
    refine r_gfR hC hw hg clX0 (Nat.le_of_ble_eq_true rfl) lkF_X1_103 rfl dX1_build_69 ?_
    refine lv_iload_n hx hb dX1_build_72 rfl (lv_at hl 3 rfl) ?_
    obtain ⟨v13, hg, hf⟩ := ldG_inv hf
    refine r_ldG hC hw hg dX1_build_73 ?_
    refine lv_iload_n hx hb dX1_build_74 rfl (lv_at hl 2 rfl) ?_
    refine lv_aload_n hx hb dX1_build_75 rfl (lv_at hl 0 rfl) ?_
    obtain ⟨v14, hg, hf⟩ := gfI_inv hf
    refine r_gfI hC hw hg clX1 (Nat.le_of_ble_eq_true rfl) lkF_X1_50 rfl dX1_build_76 ?_
    refine lv_imul hx hb dX1_build_79 ?_
    refine lv_aload_n hx hb dX1_build_80 rfl (lv_at hl 0 rfl) ?_
    obtain ⟨v15, hg, hf⟩ := gfI_inv hf
    refine r_gfI hC hw hg clX1 (Nat.le_of_ble_eq_true rfl) lkF_X1_50 rfl dX1_build_81 ?_
    obtain ⟨σ16, hg, hf⟩ := cpI_inv hf
    refine r_cpI hC hw hg hl.1 lkM_X1_56 (Nat.le_of_ble_eq_true rfl) (Nat.le_of_ble_eq_true rfl) dX1_build_84 (fun H locs hw => ?_)
    refine lv_iinc (v := (x3 + 1)) (lv' := [(3, .int (x3 + 1)), (0, .ref x0), (1, .ref x1), (2, .int x2)]) hx hb dX1_build_87 hl (k := 3) rfl rfl (Nat.le_of_ble_eq_true rfl) rfl (fun ls hl => ?_)
    refine lv_goto (tgt := 52) hx hb dX1_build_90 (by decide) ?_
    exact kI (x3 + 1) σ16 (Option.some.inj hf).symm _ _ _ hw (lv_sub hl [1, 2, 3, 0] rfl)
set_option maxHeartbeats 4000000 in
theorem l_X1_build_B52 (hC : zC p l s m args meth c cX1_build 4 RX1 D cA B0) (hr : meth.sig.returnType = (Option.none : Option Jvm.ClassFile.FieldType)) {Γ : zSh} {x0 : Nat} {x1 : Nat} {x2 : Int32} {σ2 : zSt} (kE : ∀ (H : Heap) (locs : List Loc) (ls : Array Slot), zO D cA B0 Γ σ2 Z s.heap H locs → lv_has ls 4 [(0, .ref x0), (1, .ref x1), (2, .int x2)] → W p l e rm_X1_build s m args below meth c H locs 0 0 Q (F0 m 93 ls [])) :
    ∀ (n : Nat) (x3 : Int32) (σ : zSt), loopM (fun q => f_X1_build_B52 Γ x0 x1 x2 q.1 q.2) n (x3, σ) = some σ2 → ∀ (H : Heap) (locs : List Loc) (ls : Array Slot), zO D cA B0 Γ σ Z s.heap H locs → lv_has ls 4 [(0, .ref x0), (1, .ref x1), (2, .int x2), (3, .int x3)] → W p l e rm_X1_build s m args below meth c H locs 0 0 Q (F0 m 52 ls []) := by
  intro n
  induction n with
  | zero => intro x3 σ h; exact absurd h (by simp [loopM])
  | succ n ih =>
    intro x3 σ h H locs ls hw hl
    obtain ⟨r, h1, h2, h3⟩ := loopM_inv h
    exact t_X1_build_B52 hC hr h1 hw hl (fun z3 s2 e H locs ls hw hl => ih z3 s2 (h2 _ e) H locs ls hw hl) (fun s2 e H locs ls hw hl => by cases h3 _ e; exact kE H locs ls hw hl)
set_option maxHeartbeats 4000000 in
set_option maxRecDepth 100000 in
theorem t_X1_build_B27_L49 (hC : zC p l s m args meth c cX1_build 4 RX1 D cA B0) (hr : meth.sig.returnType = (Option.none : Option Jvm.ClassFile.FieldType)) {Γ : zSh} {x0 : Nat} {x1 : Nat} {x2 : Int32} {s0 : Int32} {s1 : Int32} {s2 : Nat}  {σ : zSt} {out : ((Int32 × zSt) ⊕ (zSt))} (hf : f_X1_build_B27_L49 Γ x0 x1 x2 s0 s1 s2 σ = some out) {H : Heap} {locs : List Loc} {ls : Array Slot} (hw : zO D cA B0 Γ σ Z s.heap H locs) (hl : lv_has ls 4 [(0, .ref x0), (1, .ref x1), (2, .int x2)])
    (kI : ∀ (z2 : Int32) (σ2 : zSt), out = .inl (z2, σ2) → ∀ (H : Heap) (locs : List Loc) (ls : Array Slot), zO D cA B0 Γ σ2 Z s.heap H locs → lv_has ls 4 [(0, .ref x0), (1, .ref x1), (2, .int z2)] → W p l e rm_X1_build s m args below meth c H locs 0 0 Q (F0 m 27 ls []))
    (kE : ∀ (σ2 : zSt), out = .inr σ2 → ∀ (H : Heap) (locs : List Loc) (ls : Array Slot), zO D cA B0 Γ σ2 Z s.heap H locs → lv_has ls 4 [] → W p l e rm_X1_build s m args below meth c H locs 0 0 Q (F0 m 99 ls [])) :
    W p l e rm_X1_build s m args below meth c H locs 0 0 Q (F0 m 49 ls [.int s0, .int s1, .ref s2]) := by
  have hx := hC.1
  have hb := hC.2.1
  unfold f_X1_build_B27_L49 at hf
  obtain ⟨σ9, hg, hf⟩ := stI_inv hf
  refine r_stI hC hw hg dX1_build_49 (fun H locs hw => ?_)
  refine lv_iconst (v := 0) hx hb dX1_build_50 (by decide) ?_
  refine lv_istore_n (lv' := [(3, .int 0), (0, .ref x0), (1, .ref x1), (2, .int x2)]) hx hb dX1_build_51 rfl hl (Nat.le_of_ble_eq_true rfl) rfl (fun ls hl => ?_)
  obtain ⟨σ17, hk, hf⟩ := lb0_inv hf
  refine l_X1_build_B52 hC hr (fun H locs ls hw hl => ?_) FUEL 0 σ9 hk _ _ _ hw (lv_sub hl [1, 2, 3, 0] rfl)
  refine lv_iinc (v := (x2 + 1)) (lv' := [(2, .int (x2 + 1)), (0, .ref x0), (1, .ref x1)]) hx hb dX1_build_93 hl (k := 2) rfl rfl (Nat.le_of_ble_eq_true rfl) rfl (fun ls hl => ?_)
  refine lv_goto (tgt := 27) hx hb dX1_build_96 (by decide) ?_
  exact kI (x2 + 1) σ17 (Option.some.inj hf).symm _ _ _ hw (lv_sub hl [1, 2, 0] rfl)
set_option maxHeartbeats 4000000 in
set_option maxRecDepth 100000 in
theorem t_X1_build_B27 (hC : zC p l s m args meth c cX1_build 4 RX1 D cA B0) (hr : meth.sig.returnType = (Option.none : Option Jvm.ClassFile.FieldType)) {Γ : zSh} {x0 : Nat} {x1 : Nat} {x2 : Int32} {σ : zSt} {out : ((Int32 × zSt) ⊕ (zSt))} (hf : f_X1_build_B27 Γ x0 x1 x2 σ = some out) {H : Heap} {locs : List Loc} {ls : Array Slot} (hw : zO D cA B0 Γ σ Z s.heap H locs) (hl : lv_has ls 4 [(0, .ref x0), (1, .ref x1), (2, .int x2)])
    (kI : ∀ (z2 : Int32) (σ2 : zSt), out = .inl (z2, σ2) → ∀ (H : Heap) (locs : List Loc) (ls : Array Slot), zO D cA B0 Γ σ2 Z s.heap H locs → lv_has ls 4 [(0, .ref x0), (1, .ref x1), (2, .int z2)] → W p l e rm_X1_build s m args below meth c H locs 0 0 Q (F0 m 27 ls []))
    (kE : ∀ (σ2 : zSt), out = .inr σ2 → ∀ (H : Heap) (locs : List Loc) (ls : Array Slot), zO D cA B0 Γ σ2 Z s.heap H locs → lv_has ls 4 [] → W p l e rm_X1_build s m args below meth c H locs 0 0 Q (F0 m 99 ls [])) :
    W p l e rm_X1_build s m args below meth c H locs 0 0 Q (F0 m 27 ls []) := by
  have hx := hC.1
  have hb := hC.2.1
  unfold f_X1_build_B27 at hf
  refine lv_iload_n hx hb dX1_build_27 rfl (lv_at hl 2 rfl) ?_
  refine lv_aload_n hx hb dX1_build_28 rfl (lv_at hl 0 rfl) ?_
  obtain ⟨v7, hg, hf⟩ := gfI_inv hf
  refine r_gfI hC hw hg clX1 (Nat.le_of_ble_eq_true rfl) lkF_X1_50 rfl dX1_build_29 ?_
  refine lv_icmp_ge (tgt := 99) hx hb dX1_build_32 (by decide) (fun hc => ?_) (fun hc => ?_)
  · rw [if_pos hc] at hf
    exact kE  σ (Option.some.inj hf).symm _ _ _ hw (lv_sub hl [] rfl)
  · rw [if_neg hc] at hf
    refine lv_aload_n hx hb dX1_build_35 rfl (lv_at hl 1 rfl) ?_
    obtain ⟨v8, hg, hf⟩ := gfR_inv hf
    refine r_gfR hC hw hg clX0 (Nat.le_of_ble_eq_true rfl) lkF_X1_53 rfl dX1_build_36 ?_
    refine lv_iload_n hx hb dX1_build_39 rfl (lv_at hl 2 rfl) ?_
    refine lv_iload_n hx hb dX1_build_40 rfl (lv_at hl 2 rfl) ?_
    refine lv_if_ne (tgt := 48) hx hb dX1_build_41 (by decide) (fun hc => ?_) (fun hc => ?_)
    · rw [if_neg hc] at hf
      refine lv_iconst (v := 0) hx hb dX1_build_48 (by decide) ?_
      exact t_X1_build_B27_L49 hC hr hf hw (lv_sub hl [0, 1, 2] rfl) kI kE
    · rw [if_pos hc] at hf
      refine lv_iconst (v := 1) hx hb dX1_build_44 (by decide) ?_
      refine lv_goto (tgt := 49) hx hb dX1_build_45 (by decide) ?_
      exact t_X1_build_B27_L49 hC hr hf hw (lv_sub hl [0, 1, 2] rfl) kI kE
set_option maxHeartbeats 4000000 in
theorem l_X1_build_B27 (hC : zC p l s m args meth c cX1_build 4 RX1 D cA B0) (hr : meth.sig.returnType = (Option.none : Option Jvm.ClassFile.FieldType)) {Γ : zSh} {x0 : Nat} {x1 : Nat} {σ2 : zSt} (kE : ∀ (H : Heap) (locs : List Loc) (ls : Array Slot), zO D cA B0 Γ σ2 Z s.heap H locs → lv_has ls 4 [] → W p l e rm_X1_build s m args below meth c H locs 0 0 Q (F0 m 99 ls [])) :
    ∀ (n : Nat) (x2 : Int32) (σ : zSt), loopM (fun q => f_X1_build_B27 Γ x0 x1 q.1 q.2) n (x2, σ) = some σ2 → ∀ (H : Heap) (locs : List Loc) (ls : Array Slot), zO D cA B0 Γ σ Z s.heap H locs → lv_has ls 4 [(0, .ref x0), (1, .ref x1), (2, .int x2)] → W p l e rm_X1_build s m args below meth c H locs 0 0 Q (F0 m 27 ls []) := by
  intro n
  induction n with
  | zero => intro x2 σ h; exact absurd h (by simp [loopM])
  | succ n ih =>
    intro x2 σ h H locs ls hw hl
    obtain ⟨r, h1, h2, h3⟩ := loopM_inv h
    exact t_X1_build_B27 hC hr h1 hw hl (fun z2 s2 e H locs ls hw hl => ih z2 s2 (h2 _ e) H locs ls hw hl) (fun s2 e H locs ls hw hl => by cases h3 _ e; exact kE H locs ls hw hl)
set_option maxHeartbeats 4000000 in
set_option maxRecDepth 100000 in
theorem m_X1_build (h9 : l.stackTraces = false) {Γ : zSh} {a0 : Nat} {a1 : Nat} {σ : zSt} {r : Unit} {σ2 : zSt} (hf : f_X1_build Γ a0 a1 σ = some (r, σ2)) : Met l yX1_build (wq yX1_build cX1_build 4 (Option.none : Option Jvm.ClassFile.FieldType)) rm_X1_build (zQ0 D cA B0 [.ref a0, .ref a1] Γ σ Z) (zQ1 D cA B0 (none) Γ σ2 Z) 0 0 (FR B0) := by
  refine z_ofW h9 (by decide) (Nat.le_of_ble_eq_true rfl) ?_
  intro p e s m args below meth c ls hC hr _ hw hl
  have hx := hC.1
  have hb := hC.2.1
  have hl : lv_has ls 4 [(0, .ref a0), (1, .ref a1)] := hl
  unfold f_X1_build at hf
  refine lv_aload_n hx hb dX1_build_0 rfl (lv_at hl 1 rfl) ?_
  refine lv_aload_n hx hb dX1_build_1 rfl (lv_at hl 0 rfl) ?_
  obtain ⟨v1, hg, hf⟩ := gfI_inv hf
  refine r_gfI hC hw hg clX1 (Nat.le_of_ble_eq_true rfl) lkF_X1_50 rfl dX1_build_2 ?_
  obtain ⟨ho, hf⟩ := chk_inv hf
  obtain ⟨_, σ2, hk, hf⟩ := bnd_inv hf
  refine z_callV (As := [.int v1]) (rest := []) (m_X0_clear hC.2.2.2.2.2.2.2.2 hk) hC hw wd_X0_clear lkM_X1_96 (isO_sh ho) rfl rfl ⟨rfl, rfl⟩ ⟨(Nat.le_of_ble_eq_true rfl), (Nat.le_of_ble_eq_true rfl)⟩ hl.1 rfl (Nat.le_of_ble_eq_true rfl) dX1_build_5 ⟨(Nat.le_of_ble_eq_true rfl), (Nat.le_of_ble_eq_true rfl)⟩ (fun H locs hw => ?_)
  refine lv_aload_n hx hb dX1_build_8 rfl (lv_at hl 0 rfl) ?_
  obtain ⟨v3, hg, hf⟩ := gfR_inv hf
  refine r_gfR hC hw hg clX1 (Nat.le_of_ble_eq_true rfl) lkF_X1_15 rfl dX1_build_9 ?_
  refine lv_iconst (v := 0) hx hb dX1_build_12 (by decide) ?_
  refine lv_aload_n hx hb dX1_build_13 rfl (lv_at hl 1 rfl) ?_
  obtain ⟨v4, hg, hf⟩ := gfR_inv hf
  refine r_gfR hC hw hg clX0 (Nat.le_of_ble_eq_true rfl) lkF_X1_100 rfl dX1_build_14 ?_
  refine lv_iconst (v := 0) hx hb dX1_build_17 (by decide) ?_
  refine lv_aload_n hx hb dX1_build_18 rfl (lv_at hl 0 rfl) ?_
  obtain ⟨v5, hg, hf⟩ := gfI_inv hf
  refine r_gfI hC hw hg clX1 (Nat.le_of_ble_eq_true rfl) lkF_X1_50 rfl dX1_build_19 ?_
  obtain ⟨σ6, hg, hf⟩ := cpI_inv hf
  refine r_cpI hC hw hg hl.1 lkM_X1_56 (Nat.le_of_ble_eq_true rfl) (Nat.le_of_ble_eq_true rfl) dX1_build_22 (fun H locs hw => ?_)
  refine lv_iconst (v := 0) hx hb dX1_build_25 (by decide) ?_
  refine lv_istore_n (lv' := [(2, .int 0), (0, .ref a0), (1, .ref a1)]) hx hb dX1_build_26 rfl hl (Nat.le_of_ble_eq_true rfl) rfl (fun ls hl => ?_)
  obtain ⟨σ18, hk, hf⟩ := lb0_inv hf
  refine l_X1_build_B27 hC hr (fun H locs ls hw hl => ?_) FUEL 0 σ6 hk _ _ _ hw (lv_sub hl [1, 2, 0] rfl)
  first | (obtain ⟨rfl, rfl⟩ := sp_inv hf) | (obtain rfl := Option.some.inj hf)
  exact W.vret hx hb hr (z_ret hw rfl) hw.2.2.2.2.2 dX1_build_99 hC.2.2.2.2.2.1
set_option maxHeartbeats 4000000 in
set_option maxRecDepth 100000 in
theorem m_X1_reduce (h9 : l.stackTraces = false) {Γ : zSh} {a0 : Nat} {a1 : Nat} {σ : zSt} {r : Unit} {σ2 : zSt} (hf : f_X1_reduce Γ a0 a1 σ = some (r, σ2)) : Met l yX1_reduce (wq yX1_reduce cX1_reduce 2 (Option.none : Option Jvm.ClassFile.FieldType)) rm_X1_reduce (zQ0 D cA B0 [.ref a0, .ref a1] Γ σ Z) (zQ1 D cA B0 (none) Γ σ2 Z) 0 0 (FR B0) := by
  refine z_ofW h9 (by decide) (Nat.le_of_ble_eq_true rfl) ?_
  intro p e s m args below meth c ls hC hr _ hw hl
  have hx := hC.1
  have hb := hC.2.1
  have hl : lv_has ls 2 [(0, .ref a0), (1, .ref a1)] := hl
  unfold f_X1_reduce at hf
  refine lv_aload_n hx hb dX1_reduce_0 rfl (lv_at hl 0 rfl) ?_
  refine lv_aload_n hx hb dX1_reduce_1 rfl (lv_at hl 1 rfl) ?_
  obtain ⟨ho, hf⟩ := chk_inv hf
  obtain ⟨_, σ1, hk, hf⟩ := bnd_inv hf
  refine z_callV (As := [.ref a1]) (rest := []) (m_X1_explore hC.2.2.2.2.2.2.2.2 hk) hC hw wd_X1_explore lkM_X1_106 (isO_sh ho) rfl rfl ⟨rfl, rfl⟩ ⟨(Nat.le_of_ble_eq_true rfl), (Nat.le_of_ble_eq_true rfl)⟩ hl.1 rfl (Nat.le_of_ble_eq_true rfl) dX1_reduce_2 ⟨(Nat.le_of_ble_eq_true rfl), (Nat.le_of_ble_eq_true rfl)⟩ (fun H locs hw => ?_)
  refine lv_aload_n hx hb dX1_reduce_5 rfl (lv_at hl 0 rfl) ?_
  refine lv_aload_n hx hb dX1_reduce_6 rfl (lv_at hl 1 rfl) ?_
  obtain ⟨ho, hf⟩ := chk_inv hf
  obtain ⟨_, σ2, hk, hf⟩ := bnd_inv hf
  refine z_callV (As := [.ref a1]) (rest := []) (m_X1_build hC.2.2.2.2.2.2.2.2 hk) hC hw wd_X1_build lkM_X1_110 (isO_sh ho) rfl rfl ⟨rfl, rfl⟩ ⟨(Nat.le_of_ble_eq_true rfl), (Nat.le_of_ble_eq_true rfl)⟩ hl.1 rfl (Nat.le_of_ble_eq_true rfl) dX1_reduce_7 ⟨(Nat.le_of_ble_eq_true rfl), (Nat.le_of_ble_eq_true rfl)⟩ (fun H locs hw => ?_)
  first | (obtain ⟨rfl, rfl⟩ := sp_inv hf) | (obtain rfl := Option.some.inj hf)
  exact W.vret hx hb hr (z_ret hw rfl) hw.2.2.2.2.2 dX1_reduce_10 hC.2.2.2.2.2.1
set_option maxHeartbeats 4000000 in
set_option maxRecDepth 100000 in
theorem t_X1_minimize_B2 (hC : zC p l s m args meth c cX1_minimize 3 RX1 D cA B0) (hr : meth.sig.returnType = (Option.none : Option Jvm.ClassFile.FieldType)) {Γ : zSh} {x0 : Nat} {x1 : Nat} {x2 : Int32} {σ : zSt} {out : ((Int32 × zSt) ⊕ (zSt))} (hf : f_X1_minimize_B2 Γ x0 x1 x2 σ = some out) {H : Heap} {locs : List Loc} {ls : Array Slot} (hw : zO D cA B0 Γ σ Z s.heap H locs) (hl : lv_has ls 3 [(0, .ref x0), (1, .ref x1), (2, .int x2)])
    (kI : ∀ (z2 : Int32) (σ2 : zSt), out = .inl (z2, σ2) → ∀ (H : Heap) (locs : List Loc) (ls : Array Slot), zO D cA B0 Γ σ2 Z s.heap H locs → lv_has ls 3 [(0, .ref x0), (1, .ref x1), (2, .int z2)] → W p l e rm_X1_minimize s m args below meth c H locs 0 0 Q (F0 m 2 ls []))
    (kE : ∀ (σ2 : zSt), out = .inr σ2 → ∀ (H : Heap) (locs : List Loc) (ls : Array Slot), zO D cA B0 Γ σ2 Z s.heap H locs → lv_has ls 3 [] → W p l e rm_X1_minimize s m args below meth c H locs 0 0 Q (F0 m 27 ls [])) :
    W p l e rm_X1_minimize s m args below meth c H locs 0 0 Q (F0 m 2 ls []) := by
  have hx := hC.1
  have hb := hC.2.1
  unfold f_X1_minimize_B2 at hf
  refine lv_iload_n hx hb dX1_minimize_2 rfl (lv_at hl 2 rfl) ?_
  refine lv_iconst (v := 2) hx hb dX1_minimize_3 (by decide) ?_
  refine lv_icmp_ge (tgt := 27) hx hb dX1_minimize_4 (by decide) (fun hc => ?_) (fun hc => ?_)
  · rw [if_pos hc] at hf
    exact kE  σ (Option.some.inj hf).symm _ _ _ hw (lv_sub hl [] rfl)
  · rw [if_neg hc] at hf
    refine lv_aload_n hx hb dX1_minimize_7 rfl (lv_at hl 0 rfl) ?_
    refine lv_aload_n hx hb dX1_minimize_8 rfl (lv_at hl 1 rfl) ?_
    obtain ⟨ho, hf⟩ := chk_inv hf
    obtain ⟨_, σ1, hk, hf⟩ := bnd_inv hf
    refine z_callV (As := [.ref x1]) (rest := []) (m_X1_explore hC.2.2.2.2.2.2.2.2 hk) hC hw wd_X1_explore lkM_X1_106 (isO_sh ho) rfl rfl ⟨rfl, rfl⟩ ⟨(Nat.le_of_ble_eq_true rfl), (Nat.le_of_ble_eq_true rfl)⟩ hl.1 rfl (Nat.le_of_ble_eq_true rfl) dX1_minimize_9 ⟨(Nat.le_of_ble_eq_true rfl), (Nat.le_of_ble_eq_true rfl)⟩ (fun H locs hw => ?_)
    refine lv_aload_n hx hb dX1_minimize_12 rfl (lv_at hl 0 rfl) ?_
    refine lv_aload_n hx hb dX1_minimize_13 rfl (lv_at hl 1 rfl) ?_
    obtain ⟨ho, hf⟩ := chk_inv hf
    obtain ⟨_, σ2, hk, hf⟩ := bnd_inv hf
    refine z_callV (As := [.ref x1]) (rest := []) (m_X1_build hC.2.2.2.2.2.2.2.2 hk) hC hw wd_X1_build lkM_X1_110 (isO_sh ho) rfl rfl ⟨rfl, rfl⟩ ⟨(Nat.le_of_ble_eq_true rfl), (Nat.le_of_ble_eq_true rfl)⟩ hl.1 rfl (Nat.le_of_ble_eq_true rfl) dX1_minimize_14 ⟨(Nat.le_of_ble_eq_true rfl), (Nat.le_of_ble_eq_true rfl)⟩ (fun H locs hw => ?_)
    refine lv_aload_n hx hb dX1_minimize_17 rfl (lv_at hl 1 rfl) ?_
    obtain ⟨ho, hf⟩ := chk_inv hf
    obtain ⟨_, σ3, hk, hf⟩ := bnd_inv hf
    refine z_callV (As := []) (rest := []) (m_X0_reverse hC.2.2.2.2.2.2.2.2 hk) hC hw wd_X0_reverse lkM_X1_113 (isO_sh ho) rfl rfl ⟨rfl, rfl⟩ ⟨(Nat.le_of_ble_eq_true rfl), (Nat.le_of_ble_eq_true rfl)⟩ hl.1 rfl (Nat.le_of_ble_eq_true rfl) dX1_minimize_18 ⟨(Nat.le_of_ble_eq_true rfl), (Nat.le_of_ble_eq_true rfl)⟩ (fun H locs hw => ?_)
    refine lv_iinc (v := (x2 + 1)) (lv' := [(2, .int (x2 + 1)), (0, .ref x0), (1, .ref x1)]) hx hb dX1_minimize_21 hl (k := 2) rfl rfl (Nat.le_of_ble_eq_true rfl) rfl (fun ls hl => ?_)
    refine lv_goto (tgt := 2) hx hb dX1_minimize_24 (by decide) ?_
    exact kI (x2 + 1) σ3 (Option.some.inj hf).symm _ _ _ hw (lv_sub hl [1, 2, 0] rfl)
set_option maxHeartbeats 4000000 in
theorem l_X1_minimize_B2 (hC : zC p l s m args meth c cX1_minimize 3 RX1 D cA B0) (hr : meth.sig.returnType = (Option.none : Option Jvm.ClassFile.FieldType)) {Γ : zSh} {x0 : Nat} {x1 : Nat} {σ2 : zSt} (kE : ∀ (H : Heap) (locs : List Loc) (ls : Array Slot), zO D cA B0 Γ σ2 Z s.heap H locs → lv_has ls 3 [] → W p l e rm_X1_minimize s m args below meth c H locs 0 0 Q (F0 m 27 ls [])) :
    ∀ (n : Nat) (x2 : Int32) (σ : zSt), loopM (fun q => f_X1_minimize_B2 Γ x0 x1 q.1 q.2) n (x2, σ) = some σ2 → ∀ (H : Heap) (locs : List Loc) (ls : Array Slot), zO D cA B0 Γ σ Z s.heap H locs → lv_has ls 3 [(0, .ref x0), (1, .ref x1), (2, .int x2)] → W p l e rm_X1_minimize s m args below meth c H locs 0 0 Q (F0 m 2 ls []) := by
  intro n
  induction n with
  | zero => intro x2 σ h; exact absurd h (by simp [loopM])
  | succ n ih =>
    intro x2 σ h H locs ls hw hl
    obtain ⟨r, h1, h2, h3⟩ := loopM_inv h
    exact t_X1_minimize_B2 hC hr h1 hw hl (fun z2 s2 e H locs ls hw hl => ih z2 s2 (h2 _ e) H locs ls hw hl) (fun s2 e H locs ls hw hl => by cases h3 _ e; exact kE H locs ls hw hl)
set_option maxHeartbeats 4000000 in
set_option maxRecDepth 100000 in
theorem m_X1_minimize (h9 : l.stackTraces = false) {Γ : zSh} {a0 : Nat} {a1 : Nat} {σ : zSt} {r : Unit} {σ2 : zSt} (hf : f_X1_minimize Γ a0 a1 σ = some (r, σ2)) : Met l yX1_minimize (wq yX1_minimize cX1_minimize 3 (Option.none : Option Jvm.ClassFile.FieldType)) rm_X1_minimize (zQ0 D cA B0 [.ref a0, .ref a1] Γ σ Z) (zQ1 D cA B0 (none) Γ σ2 Z) 0 0 (FR B0) := by
  refine z_ofW h9 (by decide) (Nat.le_of_ble_eq_true rfl) ?_
  intro p e s m args below meth c ls hC hr _ hw hl
  have hx := hC.1
  have hb := hC.2.1
  have hl : lv_has ls 3 [(0, .ref a0), (1, .ref a1)] := hl
  unfold f_X1_minimize at hf
  refine lv_iconst (v := 0) hx hb dX1_minimize_0 (by decide) ?_
  refine lv_istore_n (lv' := [(2, .int 0), (0, .ref a0), (1, .ref a1)]) hx hb dX1_minimize_1 rfl hl (Nat.le_of_ble_eq_true rfl) rfl (fun ls hl => ?_)
  obtain ⟨σ4, hk, hf⟩ := lb0_inv hf
  refine l_X1_minimize_B2 hC hr (fun H locs ls hw hl => ?_) FUEL 0 σ hk _ _ _ hw (lv_sub hl [1, 2, 0] rfl)
  first | (obtain ⟨rfl, rfl⟩ := sp_inv hf) | (obtain rfl := Option.some.inj hf)
  exact W.vret hx hb hr (z_ret hw rfl) hw.2.2.2.2.2 dX1_minimize_27 hC.2.2.2.2.2.1
set_option maxHeartbeats 4000000 in
set_option maxRecDepth 100000 in
theorem t_X2_isDigit_L17 (hC : zC p l s m args meth c cX2_isDigit 1 RX2 D cA B0) (hr : meth.sig.returnType = (Option.some FieldType.boolean)) {Γ : zSh} {s0 : Int32} {σ : zSt} {out : (Int32 × zSt)} (hf : f_X2_isDigit_L17 Γ s0 σ = some out) {H : Heap} {locs : List Loc} {ls : Array Slot} (hw : zO D cA B0 Γ σ Z s.heap H locs) (hl : lv_has ls 1 []) :
    W p l e rm_X2_isDigit s m args below meth c H locs 0 0 (MQ below (zQ1 D cA B0 (some (.int out.1)) Γ out.2 Z) args s 0 0 (FR B0)) (F0 m 17 ls [.int s0]) := by
  have hx := hC.1
  have hb := hC.2.1
  unfold f_X2_isDigit_L17 at hf
  obtain ⟨hz, hf⟩ := chk_inv hf
  first | (obtain ⟨rfl, rfl⟩ := sp_inv hf) | (obtain rfl := Option.some.inj hf)
  exact W.zret hx hb hr (isB_n hz).1 (z_ret hw rfl) hw.2.2.2.2.2 dX2_isDigit_17 hC.2.2.2.2.2.1
set_option maxHeartbeats 4000000 in
set_option maxRecDepth 100000 in
theorem t_X2_isDigit_L16 (hC : zC p l s m args meth c cX2_isDigit 1 RX2 D cA B0) (hr : meth.sig.returnType = (Option.some FieldType.boolean)) {Γ : zSh}  {σ : zSt} {out : (Int32 × zSt)} (hf : f_X2_isDigit_L16 Γ  σ = some out) {H : Heap} {locs : List Loc} {ls : Array Slot} (hw : zO D cA B0 Γ σ Z s.heap H locs) (hl : lv_has ls 1 []) :
    W p l e rm_X2_isDigit s m args below meth c H locs 0 0 (MQ below (zQ1 D cA B0 (some (.int out.1)) Γ out.2 Z) args s 0 0 (FR B0)) (F0 m 16 ls []) := by
  have hx := hC.1
  have hb := hC.2.1
  unfold f_X2_isDigit_L16 at hf
  refine lv_iconst (v := 0) hx hb dX2_isDigit_16 (by decide) ?_
  exact t_X2_isDigit_L17 hC hr hf hw (lv_sub hl [] rfl)
set_option maxHeartbeats 4000000 in
set_option maxRecDepth 100000 in
theorem m_X2_isDigit (h9 : l.stackTraces = false) {Γ : zSh} {a0 : Int32} {σ : zSt} {r : Int32} {σ2 : zSt} (hf : f_X2_isDigit Γ a0 σ = some (r, σ2)) : Met l yX2_isDigit (wq yX2_isDigit cX2_isDigit 1 (Option.some FieldType.boolean)) rm_X2_isDigit (zQ0 D cA B0 [.int a0] Γ σ Z) (zQ1 D cA B0 (some (.int r)) Γ σ2 Z) 0 0 (FR B0) := by
  refine z_ofW h9 (by decide) (Nat.le_of_ble_eq_true rfl) ?_
  intro p e s m args below meth c ls hC hr _ hw hl
  have hx := hC.1
  have hb := hC.2.1
  have hl : lv_has ls 1 [(0, .int a0)] := hl
  unfold f_X2_isDigit at hf
  refine lv_iload_n hx hb dX2_isDigit_0 rfl (lv_at hl 0 rfl) ?_
  refine lv_bipush (v := 48) hx hb dX2_isDigit_1 (by decide) ?_
  refine lv_icmp_lt (tgt := 16) hx hb dX2_isDigit_3 (by decide) (fun hc => ?_) (fun hc => ?_)
  · rw [if_pos hc] at hf
    exact t_X2_isDigit_L16 hC hr hf hw (lv_sub hl [] rfl)
  · rw [if_neg hc] at hf
    refine lv_iload_n hx hb dX2_isDigit_6 rfl (lv_at hl 0 rfl) ?_
    refine lv_bipush (v := 57) hx hb dX2_isDigit_7 (by decide) ?_
    refine lv_icmp_gt (tgt := 16) hx hb dX2_isDigit_9 (by decide) (fun hc => ?_) (fun hc => ?_)
    · rw [if_pos hc] at hf
      exact t_X2_isDigit_L16 hC hr hf hw (lv_sub hl [] rfl)
    · rw [if_neg hc] at hf
      refine lv_iconst (v := 1) hx hb dX2_isDigit_12 (by decide) ?_
      refine lv_goto (tgt := 17) hx hb dX2_isDigit_13 (by decide) ?_
      exact t_X2_isDigit_L17 hC hr hf hw (lv_sub hl [] rfl)
set_option maxHeartbeats 4000000 in
set_option maxRecDepth 100000 in
theorem t_X2_canStand_L73 (hC : zC p l s m args meth c cX2_canStand 3 RX2 D cA B0) (hr : meth.sig.returnType = (Option.some FieldType.boolean)) {Γ : zSh} {s0 : Int32} {σ : zSt} {out : (Int32 × zSt)} (hf : f_X2_canStand_L73 Γ s0 σ = some out) {H : Heap} {locs : List Loc} {ls : Array Slot} (hw : zO D cA B0 Γ σ Z s.heap H locs) (hl : lv_has ls 3 []) :
    W p l e rm_X2_canStand s m args below meth c H locs 0 0 (MQ below (zQ1 D cA B0 (some (.int out.1)) Γ out.2 Z) args s 0 0 (FR B0)) (F0 m 73 ls [.int s0]) := by
  have hx := hC.1
  have hb := hC.2.1
  unfold f_X2_canStand_L73 at hf
  obtain ⟨hz, hf⟩ := chk_inv hf
  first | (obtain ⟨rfl, rfl⟩ := sp_inv hf) | (obtain rfl := Option.some.inj hf)
  exact W.zret hx hb hr (isB_n hz).1 (z_ret hw rfl) hw.2.2.2.2.2 dX2_canStand_73 hC.2.2.2.2.2.1
set_option maxHeartbeats 4000000 in
set_option maxRecDepth 100000 in
theorem t_X2_canStand_L87 (hC : zC p l s m args meth c cX2_canStand 3 RX2 D cA B0) (hr : meth.sig.returnType = (Option.some FieldType.boolean)) {Γ : zSh} {s0 : Int32} {σ : zSt} {out : (Int32 × zSt)} (hf : f_X2_canStand_L87 Γ s0 σ = some out) {H : Heap} {locs : List Loc} {ls : Array Slot} (hw : zO D cA B0 Γ σ Z s.heap H locs) (hl : lv_has ls 3 []) :
    W p l e rm_X2_canStand s m args below meth c H locs 0 0 (MQ below (zQ1 D cA B0 (some (.int out.1)) Γ out.2 Z) args s 0 0 (FR B0)) (F0 m 87 ls [.int s0]) := by
  have hx := hC.1
  have hb := hC.2.1
  unfold f_X2_canStand_L87 at hf
  obtain ⟨hz, hf⟩ := chk_inv hf
  first | (obtain ⟨rfl, rfl⟩ := sp_inv hf) | (obtain rfl := Option.some.inj hf)
  exact W.zret hx hb hr (isB_n hz).1 (z_ret hw rfl) hw.2.2.2.2.2 dX2_canStand_87 hC.2.2.2.2.2.1
set_option maxHeartbeats 4000000 in
set_option maxRecDepth 100000 in
theorem t_X2_canStand_L86 (hC : zC p l s m args meth c cX2_canStand 3 RX2 D cA B0) (hr : meth.sig.returnType = (Option.some FieldType.boolean)) {Γ : zSh}  {σ : zSt} {out : (Int32 × zSt)} (hf : f_X2_canStand_L86 Γ  σ = some out) {H : Heap} {locs : List Loc} {ls : Array Slot} (hw : zO D cA B0 Γ σ Z s.heap H locs) (hl : lv_has ls 3 []) :
    W p l e rm_X2_canStand s m args below meth c H locs 0 0 (MQ below (zQ1 D cA B0 (some (.int out.1)) Γ out.2 Z) args s 0 0 (FR B0)) (F0 m 86 ls []) := by
  have hx := hC.1
  have hb := hC.2.1
  unfold f_X2_canStand_L86 at hf
  refine lv_iconst (v := 0) hx hb dX2_canStand_86 (by decide) ?_
  exact t_X2_canStand_L87 hC hr hf hw (lv_sub hl [] rfl)
set_option maxHeartbeats 4000000 in
set_option maxRecDepth 100000 in
theorem t_X2_canStand_L97 (hC : zC p l s m args meth c cX2_canStand 3 RX2 D cA B0) (hr : meth.sig.returnType = (Option.some FieldType.boolean)) {Γ : zSh} {s0 : Int32} {σ : zSt} {out : (Int32 × zSt)} (hf : f_X2_canStand_L97 Γ s0 σ = some out) {H : Heap} {locs : List Loc} {ls : Array Slot} (hw : zO D cA B0 Γ σ Z s.heap H locs) (hl : lv_has ls 3 []) :
    W p l e rm_X2_canStand s m args below meth c H locs 0 0 (MQ below (zQ1 D cA B0 (some (.int out.1)) Γ out.2 Z) args s 0 0 (FR B0)) (F0 m 97 ls [.int s0]) := by
  have hx := hC.1
  have hb := hC.2.1
  unfold f_X2_canStand_L97 at hf
  obtain ⟨hz, hf⟩ := chk_inv hf
  first | (obtain ⟨rfl, rfl⟩ := sp_inv hf) | (obtain rfl := Option.some.inj hf)
  exact W.zret hx hb hr (isB_n hz).1 (z_ret hw rfl) hw.2.2.2.2.2 dX2_canStand_97 hC.2.2.2.2.2.1
set_option maxHeartbeats 4000000 in
set_option maxRecDepth 100000 in
theorem m_X2_canStand (h9 : l.stackTraces = false) {Γ : zSh} {a0 : Int32} {a1 : Int32} {a2 : Int32} {σ : zSt} {r : Int32} {σ2 : zSt} (hf : f_X2_canStand Γ a0 a1 a2 σ = some (r, σ2)) : Met l yX2_canStand (wq yX2_canStand cX2_canStand 3 (Option.some FieldType.boolean)) rm_X2_canStand (zQ0 D cA B0 [.int a0, .int a1, .int a2] Γ σ Z) (zQ1 D cA B0 (some (.int r)) Γ σ2 Z) 0 0 (FR B0) := by
  refine z_ofW h9 (by decide) (Nat.le_of_ble_eq_true rfl) ?_
  intro p e s m args below meth c ls hC hr _ hw hl
  have hx := hC.1
  have hb := hC.2.1
  have hl : lv_has ls 3 [(0, .int a0), (1, .int a1), (2, .int a2)] := hl
  unfold f_X2_canStand at hf
  refine lv_iload_n hx hb dX2_canStand_0 rfl (lv_at hl 0 rfl) ?_
  by_cases h1_40 : a0 = 40
  · rw [if_pos h1_40] at hf
    refine lv_lookup (tgt := 62) (off := 61) hx hb dX2_canStand_1 (by decide) (by rw [h1_40]; decide) (by decide) ?_
    refine lv_iload_n hx hb dX2_canStand_62 rfl (lv_at hl 2 rfl) ?_
    refine lv_bipush (v := 8) hx hb dX2_canStand_63 (by decide) ?_
    refine lv_icmp_ge (tgt := 72) hx hb dX2_canStand_65 (by decide) (fun hc => ?_) (fun hc => ?_)
    · rw [if_pos hc] at hf
      refine lv_iconst (v := 0) hx hb dX2_canStand_72 (by decide) ?_
      exact t_X2_canStand_L73 hC hr hf hw (lv_sub hl [] rfl)
    · rw [if_neg hc] at hf
      refine lv_iconst (v := 1) hx hb dX2_canStand_68 (by decide) ?_
      refine lv_goto (tgt := 73) hx hb dX2_canStand_69 (by decide) ?_
      exact t_X2_canStand_L73 hC hr hf hw (lv_sub hl [] rfl)
  · rw [if_neg h1_40] at hf
    by_cases h1_41 : a0 = 41
    · rw [if_pos h1_41] at hf
      refine lv_lookup (tgt := 74) (off := 73) hx hb dX2_canStand_1 (by decide) (by rw [h1_41]; decide) (by decide) ?_
      refine lv_iload_n hx hb dX2_canStand_74 rfl (lv_at hl 1 rfl) ?_
      refine lv_if_ne (tgt := 86) hx hb dX2_canStand_75 (by decide) (fun hc => ?_) (fun hc => ?_)
      · rw [if_neg hc] at hf
        exact t_X2_canStand_L86 hC hr hf hw (lv_sub hl [] rfl)
      · rw [if_pos hc] at hf
        refine lv_iload_n hx hb dX2_canStand_78 rfl (lv_at hl 2 rfl) ?_
        refine lv_if_le (tgt := 86) hx hb dX2_canStand_79 (by decide) (fun hc => ?_) (fun hc => ?_)
        · rw [if_pos hc] at hf
          exact t_X2_canStand_L86 hC hr hf hw (lv_sub hl [] rfl)
        · rw [if_neg hc] at hf
          refine lv_iconst (v := 1) hx hb dX2_canStand_82 (by decide) ?_
          refine lv_goto (tgt := 87) hx hb dX2_canStand_83 (by decide) ?_
          exact t_X2_canStand_L87 hC hr hf hw (lv_sub hl [] rfl)
    · rw [if_neg h1_41] at hf
      by_cases h1_42 : a0 = 42
      · rw [if_pos h1_42] at hf
        refine lv_lookup (tgt := 88) (off := 87) hx hb dX2_canStand_1 (by decide) (by rw [h1_42]; decide) (by decide) ?_
        refine lv_iload_n hx hb dX2_canStand_88 rfl (lv_at hl 1 rfl) ?_
        refine lv_if_ne (tgt := 96) hx hb dX2_canStand_89 (by decide) (fun hc => ?_) (fun hc => ?_)
        · rw [if_neg hc] at hf
          refine lv_iconst (v := 0) hx hb dX2_canStand_96 (by decide) ?_
          exact t_X2_canStand_L97 hC hr hf hw (lv_sub hl [] rfl)
        · rw [if_pos hc] at hf
          refine lv_iconst (v := 1) hx hb dX2_canStand_92 (by decide) ?_
          refine lv_goto (tgt := 97) hx hb dX2_canStand_93 (by decide) ?_
          exact t_X2_canStand_L97 hC hr hf hw (lv_sub hl [] rfl)
      · rw [if_neg h1_42] at hf
        by_cases h1_43 : a0 = 43
        · rw [if_pos h1_43] at hf
          refine lv_lookup (tgt := 88) (off := 87) hx hb dX2_canStand_1 (by decide) (by rw [h1_43]; decide) (by decide) ?_
          refine lv_iload_n hx hb dX2_canStand_88 rfl (lv_at hl 1 rfl) ?_
          refine lv_if_ne (tgt := 96) hx hb dX2_canStand_89 (by decide) (fun hc => ?_) (fun hc => ?_)
          · rw [if_neg hc] at hf
            refine lv_iconst (v := 0) hx hb dX2_canStand_96 (by decide) ?_
            exact t_X2_canStand_L97 hC hr hf hw (lv_sub hl [] rfl)
          · rw [if_pos hc] at hf
            refine lv_iconst (v := 1) hx hb dX2_canStand_92 (by decide) ?_
            refine lv_goto (tgt := 97) hx hb dX2_canStand_93 (by decide) ?_
            exact t_X2_canStand_L97 hC hr hf hw (lv_sub hl [] rfl)
        · rw [if_neg h1_43] at hf
          by_cases h1_97 : a0 = 97
          · rw [if_pos h1_97] at hf
            refine lv_lookup (tgt := 60) (off := 59) hx hb dX2_canStand_1 (by decide) (by rw [h1_97]; decide) (by decide) ?_
            refine lv_iconst (v := 1) hx hb dX2_canStand_60 (by decide) ?_
            obtain ⟨hz, hf⟩ := chk_inv hf
            first | (obtain ⟨rfl, rfl⟩ := sp_inv hf) | (obtain rfl := Option.some.inj hf)
            exact W.zret hx hb hr (isB_n hz).1 (z_ret hw rfl) hw.2.2.2.2.2 dX2_canStand_61 hC.2.2.2.2.2.1
          · rw [if_neg h1_97] at hf
            by_cases h1_98 : a0 = 98
            · rw [if_pos h1_98] at hf
              refine lv_lookup (tgt := 60) (off := 59) hx hb dX2_canStand_1 (by decide) (by rw [h1_98]; decide) (by decide) ?_
              refine lv_iconst (v := 1) hx hb dX2_canStand_60 (by decide) ?_
              obtain ⟨hz, hf⟩ := chk_inv hf
              first | (obtain ⟨rfl, rfl⟩ := sp_inv hf) | (obtain rfl := Option.some.inj hf)
              exact W.zret hx hb hr (isB_n hz).1 (z_ret hw rfl) hw.2.2.2.2.2 dX2_canStand_61 hC.2.2.2.2.2.1
            · rw [if_neg h1_98] at hf
              refine lv_lookup (tgt := 98) (off := 97) hx hb dX2_canStand_1 (by decide) (lsw_X2_canStand h1_40 h1_41 h1_42 h1_43 h1_97 h1_98 rfl) (by decide) ?_
              refine lv_iload_n hx hb dX2_canStand_98 rfl (lv_at hl 0 rfl) ?_
              obtain ⟨r2, σ1, hk, hf⟩ := bnd_inv hf
              refine z_callS (As := [.int a0]) (rest := []) (m_X2_isDigit hC.2.2.2.2.2.2.2.2 hk) hC hw wd_X2_isDigit lkM_X2_49 rfl ⟨rfl, rfl⟩ ⟨(Nat.le_of_ble_eq_true rfl), (Nat.le_of_ble_eq_true rfl)⟩ hl.1 rfl (Nat.le_of_ble_eq_true rfl) dX2_canStand_99 ⟨(Nat.le_of_ble_eq_true rfl), (Nat.le_of_ble_eq_true rfl)⟩ (fun H locs hw => ?_)
              obtain ⟨hz, hf⟩ := chk_inv hf
              first | (obtain ⟨rfl, rfl⟩ := sp_inv hf) | (obtain rfl := Option.some.inj hf)
              exact W.zret hx hb hr (isB_n hz).1 (z_ret hw rfl) hw.2.2.2.2.2 dX2_canStand_102 hC.2.2.2.2.2.1
set_option maxHeartbeats 4000000 in
set_option maxRecDepth 100000 in
theorem t_X2_syntaxError_B9_L58 (hC : zC p l s m args meth c cX2_syntaxError 6 RX2 D cA B0) (hr : meth.sig.returnType = (Option.some FieldType.int)) {Γ : zSh} {x4 : Int32} {x0 : Nat} {σ : zSt} {out : ((Int32 × Int32 × Int32 × Int32 × zSt) ⊕ ((Int32 × Int32 × zSt) ⊕ (Int32 × zSt)))} (hf : f_X2_syntaxError_B9_L58 Γ x4 σ = some out) {H : Heap} {locs : List Loc} {ls : Array Slot} (hw : zO D cA B0 Γ σ Z s.heap H locs) (hl : lv_has ls 6 [(4, .int x4)])
    (kI : ∀ (z1 : Int32) (z2 : Int32) (z3 : Int32) (z4 : Int32) (σ2 : zSt), out = .inl (z1, z2, z3, z4, σ2) → ∀ (H : Heap) (locs : List Loc) (ls : Array Slot), zO D cA B0 Γ σ2 Z s.heap H locs → lv_has ls 6 [(0, .ref x0), (1, .int z1), (2, .int z2), (3, .int z3), (4, .int z4)] → W p l e rm_X2_syntaxError s m args below meth c H locs 0 0 Q (F0 m 9 ls []))
    (kE : ∀ (z1 : Int32) (z3 : Int32) (σ2 : zSt), out = .inr (.inl (z1, z3, σ2)) → ∀ (H : Heap) (locs : List Loc) (ls : Array Slot), zO D cA B0 Γ σ2 Z s.heap H locs → lv_has ls 6 [(0, .ref x0), (1, .int z1), (3, .int z3)] → W p l e rm_X2_syntaxError s m args below meth c H locs 0 0 Q (F0 m 110 ls []))
    (kR : ∀ (v : Int32) (σ2 : zSt), out = .inr (.inr (v, σ2)) → ∀ (H : Heap) (locs : List Loc) (ls : Array Slot) (pr : Nat), zO D cA B0 Γ σ2 Z s.heap H locs → decode cX2_syntaxError pr = .ok (.ireturn, 1) → W p l e rm_X2_syntaxError s m args below meth c H locs 0 0 Q (F0 m pr ls [.int v])) :
    W p l e rm_X2_syntaxError s m args below meth c H locs 0 0 Q (F0 m 58 ls []) := by
  have hx := hC.1
  have hb := hC.2.1
  unfold f_X2_syntaxError_B9_L58 at hf
  refine lv_iload hx hb dX2_syntaxError_58 (lv_at hl 0 rfl) ?_
  exact kR x4 σ (Option.some.inj hf).symm _ _ _ 60 hw dX2_syntaxError_60
set_option maxHeartbeats 4000000 in
set_option maxRecDepth 100000 in
theorem t_X2_syntaxError_B9_L103 (hC : zC p l s m args meth c cX2_syntaxError 6 RX2 D cA B0) (hr : meth.sig.returnType = (Option.some FieldType.int)) {Γ : zSh} {x0 : Nat} {x1 : Int32} {x2 : Int32} {x4 : Int32} {s0 : Int32}  {σ : zSt} {out : ((Int32 × Int32 × Int32 × Int32 × zSt) ⊕ ((Int32 × Int32 × zSt) ⊕ (Int32 × zSt)))} (hf : f_X2_syntaxError_B9_L103 Γ x0 x1 x2 x4 s0 σ = some out) {H : Heap} {locs : List Loc} {ls : Array Slot} (hw : zO D cA B0 Γ σ Z s.heap H locs) (hl : lv_has ls 6 [(0, .ref x0), (1, .int x1), (2, .int x2), (4, .int x4)])
    (kI : ∀ (z1 : Int32) (z2 : Int32) (z3 : Int32) (z4 : Int32) (σ2 : zSt), out = .inl (z1, z2, z3, z4, σ2) → ∀ (H : Heap) (locs : List Loc) (ls : Array Slot), zO D cA B0 Γ σ2 Z s.heap H locs → lv_has ls 6 [(0, .ref x0), (1, .int z1), (2, .int z2), (3, .int z3), (4, .int z4)] → W p l e rm_X2_syntaxError s m args below meth c H locs 0 0 Q (F0 m 9 ls []))
    (kE : ∀ (z1 : Int32) (z3 : Int32) (σ2 : zSt), out = .inr (.inl (z1, z3, σ2)) → ∀ (H : Heap) (locs : List Loc) (ls : Array Slot), zO D cA B0 Γ σ2 Z s.heap H locs → lv_has ls 6 [(0, .ref x0), (1, .int z1), (3, .int z3)] → W p l e rm_X2_syntaxError s m args below meth c H locs 0 0 Q (F0 m 110 ls []))
    (kR : ∀ (v : Int32) (σ2 : zSt), out = .inr (.inr (v, σ2)) → ∀ (H : Heap) (locs : List Loc) (ls : Array Slot) (pr : Nat), zO D cA B0 Γ σ2 Z s.heap H locs → decode cX2_syntaxError pr = .ok (.ireturn, 1) → W p l e rm_X2_syntaxError s m args below meth c H locs 0 0 Q (F0 m pr ls [.int v])) :
    W p l e rm_X2_syntaxError s m args below meth c H locs 0 0 Q (F0 m 103 ls [.int s0]) := by
  have hx := hC.1
  have hb := hC.2.1
  unfold f_X2_syntaxError_B9_L103 at hf
  refine lv_istore_n (lv' := [(3, .int s0), (0, .ref x0), (1, .int x1), (2, .int x2), (4, .int x4)]) hx hb dX2_syntaxError_103 rfl hl (Nat.le_of_ble_eq_true rfl) rfl (fun ls hl => ?_)
  refine lv_iinc (v := (x4 + 1)) (lv' := [(4, .int (x4 + 1)), (3, .int s0), (0, .ref x0), (1, .int x1), (2, .int x2)]) hx hb dX2_syntaxError_104 hl (k := 4) rfl rfl (Nat.le_of_ble_eq_true rfl) rfl (fun ls hl => ?_)
  refine lv_goto (tgt := 9) hx hb dX2_syntaxError_107 (by decide) ?_
  exact kI x1 x2 s0 (x4 + 1) σ (Option.some.inj hf).symm _ _ _ hw (lv_sub hl [2, 3, 4, 1, 0] rfl)
set_option maxHeartbeats 4000000 in
set_option maxRecDepth 100000 in
theorem t_X2_syntaxError_B9_L98 (hC : zC p l s m args meth c cX2_syntaxError 6 RX2 D cA B0) (hr : meth.sig.returnType = (Option.some FieldType.int)) {Γ : zSh} {x0 : Nat} {x1 : Int32} {x2 : Int32} {x4 : Int32}  {σ : zSt} {out : ((Int32 × Int32 × Int32 × Int32 × zSt) ⊕ ((Int32 × Int32 × zSt) ⊕ (Int32 × zSt)))} (hf : f_X2_syntaxError_B9_L98 Γ x0 x1 x2 x4 σ = some out) {H : Heap} {locs : List Loc} {ls : Array Slot} (hw : zO D cA B0 Γ σ Z s.heap H locs) (hl : lv_has ls 6 [(0, .ref x0), (1, .int x1), (2, .int x2), (4, .int x4)])
    (kI : ∀ (z1 : Int32) (z2 : Int32) (z3 : Int32) (z4 : Int32) (σ2 : zSt), out = .inl (z1, z2, z3, z4, σ2) → ∀ (H : Heap) (locs : List Loc) (ls : Array Slot), zO D cA B0 Γ σ2 Z s.heap H locs → lv_has ls 6 [(0, .ref x0), (1, .int z1), (2, .int z2), (3, .int z3), (4, .int z4)] → W p l e rm_X2_syntaxError s m args below meth c H locs 0 0 Q (F0 m 9 ls []))
    (kE : ∀ (z1 : Int32) (z3 : Int32) (σ2 : zSt), out = .inr (.inl (z1, z3, σ2)) → ∀ (H : Heap) (locs : List Loc) (ls : Array Slot), zO D cA B0 Γ σ2 Z s.heap H locs → lv_has ls 6 [(0, .ref x0), (1, .int z1), (3, .int z3)] → W p l e rm_X2_syntaxError s m args below meth c H locs 0 0 Q (F0 m 110 ls []))
    (kR : ∀ (v : Int32) (σ2 : zSt), out = .inr (.inr (v, σ2)) → ∀ (H : Heap) (locs : List Loc) (ls : Array Slot) (pr : Nat), zO D cA B0 Γ σ2 Z s.heap H locs → decode cX2_syntaxError pr = .ok (.ireturn, 1) → W p l e rm_X2_syntaxError s m args below meth c H locs 0 0 Q (F0 m pr ls [.int v])) :
    W p l e rm_X2_syntaxError s m args below meth c H locs 0 0 Q (F0 m 98 ls []) := by
  have hx := hC.1
  have hb := hC.2.1
  unfold f_X2_syntaxError_B9_L98 at hf
  refine lv_iconst (v := 1) hx hb dX2_syntaxError_98 (by decide) ?_
  refine lv_goto (tgt := 103) hx hb dX2_syntaxError_99 (by decide) ?_
  exact t_X2_syntaxError_B9_L103 hC hr hf hw (lv_sub hl [0, 1, 2, 3] rfl) kI kE kR
set_option maxHeartbeats 4000000 in
set_option maxRecDepth 100000 in
theorem t_X2_syntaxError_B9_L84 (hC : zC p l s m args meth c cX2_syntaxError 6 RX2 D cA B0) (hr : meth.sig.returnType = (Option.some FieldType.int)) {Γ : zSh} {x0 : Nat} {x1 : Int32} {x2 : Int32} {x4 : Int32} {x5 : Int32}  {σ : zSt} {out : ((Int32 × Int32 × Int32 × Int32 × zSt) ⊕ ((Int32 × Int32 × zSt) ⊕ (Int32 × zSt)))} (hf : f_X2_syntaxError_B9_L84 Γ x0 x1 x2 x4 x5 σ = some out) {H : Heap} {locs : List Loc} {ls : Array Slot} (hw : zO D cA B0 Γ σ Z s.heap H locs) (hl : lv_has ls 6 [(0, .ref x0), (1, .int x1), (2, .int x2), (4, .int x4), (5, .int x5)])
    (kI : ∀ (z1 : Int32) (z2 : Int32) (z3 : Int32) (z4 : Int32) (σ2 : zSt), out = .inl (z1, z2, z3, z4, σ2) → ∀ (H : Heap) (locs : List Loc) (ls : Array Slot), zO D cA B0 Γ σ2 Z s.heap H locs → lv_has ls 6 [(0, .ref x0), (1, .int z1), (2, .int z2), (3, .int z3), (4, .int z4)] → W p l e rm_X2_syntaxError s m args below meth c H locs 0 0 Q (F0 m 9 ls []))
    (kE : ∀ (z1 : Int32) (z3 : Int32) (σ2 : zSt), out = .inr (.inl (z1, z3, σ2)) → ∀ (H : Heap) (locs : List Loc) (ls : Array Slot), zO D cA B0 Γ σ2 Z s.heap H locs → lv_has ls 6 [(0, .ref x0), (1, .int z1), (3, .int z3)] → W p l e rm_X2_syntaxError s m args below meth c H locs 0 0 Q (F0 m 110 ls []))
    (kR : ∀ (v : Int32) (σ2 : zSt), out = .inr (.inr (v, σ2)) → ∀ (H : Heap) (locs : List Loc) (ls : Array Slot) (pr : Nat), zO D cA B0 Γ σ2 Z s.heap H locs → decode cX2_syntaxError pr = .ok (.ireturn, 1) → W p l e rm_X2_syntaxError s m args below meth c H locs 0 0 Q (F0 m pr ls [.int v])) :
    W p l e rm_X2_syntaxError s m args below meth c H locs 0 0 Q (F0 m 84 ls []) := by
  have hx := hC.1
  have hb := hC.2.1
  unfold f_X2_syntaxError_B9_L84 at hf
  refine lv_iload hx hb dX2_syntaxError_84 (lv_at hl 4 rfl) ?_
  refine lv_bipush (v := 40) hx hb dX2_syntaxError_86 (by decide) ?_
  refine lv_icmp_eq (tgt := 98) hx hb dX2_syntaxError_88 (by decide) (fun hc => ?_) (fun hc => ?_)
  · rw [if_pos hc] at hf
    exact t_X2_syntaxError_B9_L98 hC hr hf hw (lv_sub hl [0, 1, 2, 3] rfl) kI kE kR
  · rw [if_neg hc] at hf
    refine lv_iload hx hb dX2_syntaxError_91 (lv_at hl 4 rfl) ?_
    refine lv_bipush (v := 43) hx hb dX2_syntaxError_93 (by decide) ?_
    refine lv_icmp_ne (tgt := 102) hx hb dX2_syntaxError_95 (by decide) (fun hc => ?_) (fun hc => ?_)
    · rw [if_neg hc] at hf
      refine lv_iconst (v := 0) hx hb dX2_syntaxError_102 (by decide) ?_
      exact t_X2_syntaxError_B9_L103 hC hr hf hw (lv_sub hl [0, 1, 2, 3] rfl) kI kE kR
    · rw [if_pos hc] at hf
      exact t_X2_syntaxError_B9_L98 hC hr hf hw (lv_sub hl [0, 1, 2, 3] rfl) kI kE kR
set_option maxHeartbeats 4000000 in
set_option maxRecDepth 100000 in
theorem t_X2_syntaxError_B9_L42 (hC : zC p l s m args meth c cX2_syntaxError 6 RX2 D cA B0) (hr : meth.sig.returnType = (Option.some FieldType.int)) {Γ : zSh} {x0 : Nat} {x1 : Int32} {x3 : Int32} {x4 : Int32} {x5 : Int32} {s0 : Int32}  {σ : zSt} {out : ((Int32 × Int32 × Int32 × Int32 × zSt) ⊕ ((Int32 × Int32 × zSt) ⊕ (Int32 × zSt)))} (hf : f_X2_syntaxError_B9_L42 Γ x0 x1 x3 x4 x5 s0 σ = some out) {H : Heap} {locs : List Loc} {ls : Array Slot} (hw : zO D cA B0 Γ σ Z s.heap H locs) (hl : lv_has ls 6 [(0, .ref x0), (1, .int x1), (3, .int x3), (4, .int x4), (5, .int x5)])
    (kI : ∀ (z1 : Int32) (z2 : Int32) (z3 : Int32) (z4 : Int32) (σ2 : zSt), out = .inl (z1, z2, z3, z4, σ2) → ∀ (H : Heap) (locs : List Loc) (ls : Array Slot), zO D cA B0 Γ σ2 Z s.heap H locs → lv_has ls 6 [(0, .ref x0), (1, .int z1), (2, .int z2), (3, .int z3), (4, .int z4)] → W p l e rm_X2_syntaxError s m args below meth c H locs 0 0 Q (F0 m 9 ls []))
    (kE : ∀ (z1 : Int32) (z3 : Int32) (σ2 : zSt), out = .inr (.inl (z1, z3, σ2)) → ∀ (H : Heap) (locs : List Loc) (ls : Array Slot), zO D cA B0 Γ σ2 Z s.heap H locs → lv_has ls 6 [(0, .ref x0), (1, .int z1), (3, .int z3)] → W p l e rm_X2_syntaxError s m args below meth c H locs 0 0 Q (F0 m 110 ls []))
    (kR : ∀ (v : Int32) (σ2 : zSt), out = .inr (.inr (v, σ2)) → ∀ (H : Heap) (locs : List Loc) (ls : Array Slot) (pr : Nat), zO D cA B0 Γ σ2 Z s.heap H locs → decode cX2_syntaxError pr = .ok (.ireturn, 1) → W p l e rm_X2_syntaxError s m args below meth c H locs 0 0 Q (F0 m pr ls [.int v])) :
    W p l e rm_X2_syntaxError s m args below meth c H locs 0 0 Q (F0 m 42 ls [.int s0]) := by
  have hx := hC.1
  have hb := hC.2.1
  unfold f_X2_syntaxError_B9_L42 at hf
  refine lv_istore_n (lv' := [(2, .int s0), (0, .ref x0), (1, .int x1), (3, .int x3), (4, .int x4), (5, .int x5)]) hx hb dX2_syntaxError_42 rfl hl (Nat.le_of_ble_eq_true rfl) rfl (fun ls hl => ?_)
  refine lv_iload_n hx hb dX2_syntaxError_43 rfl (lv_at hl 0 rfl) ?_
  refine lv_iconst (v := 4) hx hb dX2_syntaxError_44 (by decide) ?_
  refine lv_icmp_gt (tgt := 58) hx hb dX2_syntaxError_45 (by decide) (fun hc => ?_) (fun hc => ?_)
  · rw [if_pos hc] at hf
    exact t_X2_syntaxError_B9_L58 hC hr hf hw (lv_sub hl [4] rfl) kI kE kR
  · rw [if_neg hc] at hf
    refine lv_iload hx hb dX2_syntaxError_48 (lv_at hl 5 rfl) ?_
    refine lv_iload_n hx hb dX2_syntaxError_50 rfl (lv_at hl 3 rfl) ?_
    refine lv_iload_n hx hb dX2_syntaxError_51 rfl (lv_at hl 2 rfl) ?_
    obtain ⟨r7, σ6, hk, hf⟩ := bnd_inv hf
    refine z_callS (As := [.int x5, .int x3, .int x1]) (rest := []) (m_X2_canStand hC.2.2.2.2.2.2.2.2 hk) hC hw wd_X2_canStand lkM_X2_53 rfl ⟨rfl, rfl⟩ ⟨(Nat.le_of_ble_eq_true rfl), (Nat.le_of_ble_eq_true rfl)⟩ hl.1 rfl (Nat.le_of_ble_eq_true rfl) dX2_syntaxError_52 ⟨(Nat.le_of_ble_eq_true rfl), (Nat.le_of_ble_eq_true rfl)⟩ (fun H locs hw => ?_)
    refine lv_if_ne (tgt := 61) hx hb dX2_syntaxError_55 (by decide) (fun hc => ?_) (fun hc => ?_)
    · rw [if_neg hc] at hf
      refine lv_iload hx hb dX2_syntaxError_61 (lv_at hl 5 rfl) ?_
      refine lv_bipush (v := 40) hx hb dX2_syntaxError_63 (by decide) ?_
      refine lv_icmp_ne (tgt := 74) hx hb dX2_syntaxError_65 (by decide) (fun hc => ?_) (fun hc => ?_)
      · rw [if_neg hc] at hf
        refine lv_iload hx hb dX2_syntaxError_74 (lv_at hl 5 rfl) ?_
        refine lv_bipush (v := 41) hx hb dX2_syntaxError_76 (by decide) ?_
        refine lv_icmp_ne (tgt := 84) hx hb dX2_syntaxError_78 (by decide) (fun hc => ?_) (fun hc => ?_)
        · rw [if_neg hc] at hf
          exact t_X2_syntaxError_B9_L84 hC hr hf hw (lv_sub hl [1, 2, 0, 4, 5] rfl) kI kE kR
        · rw [if_pos hc] at hf
          refine lv_iinc (v := (x1 + (-1))) (lv' := [(1, .int (x1 + (-1))), (2, .int s0), (0, .ref x0), (3, .int x3), (4, .int x4), (5, .int x5)]) hx hb dX2_syntaxError_81 hl (k := 2) rfl rfl (Nat.le_of_ble_eq_true rfl) rfl (fun ls hl => ?_)
          exact t_X2_syntaxError_B9_L84 hC hr hf hw (lv_sub hl [2, 0, 1, 4, 5] rfl) kI kE kR
      · rw [if_pos hc] at hf
        refine lv_iinc (v := (x1 + 1)) (lv' := [(1, .int (x1 + 1)), (2, .int s0), (0, .ref x0), (3, .int x3), (4, .int x4), (5, .int x5)]) hx hb dX2_syntaxError_68 hl (k := 2) rfl rfl (Nat.le_of_ble_eq_true rfl) rfl (fun ls hl => ?_)
        refine lv_goto (tgt := 84) hx hb dX2_syntaxError_71 (by decide) ?_
        exact t_X2_syntaxError_B9_L84 hC hr hf hw (lv_sub hl [2, 0, 1, 4, 5] rfl) kI kE kR
    · rw [if_pos hc] at hf
      exact t_X2_syntaxError_B9_L58 hC hr hf hw (lv_sub hl [4] rfl) kI kE kR
set_option maxHeartbeats 4000000 in
set_option maxRecDepth 100000 in
theorem t_X2_syntaxError_B9 (hC : zC p l s m args meth c cX2_syntaxError 6 RX2 D cA B0) (hr : meth.sig.returnType = (Option.some FieldType.int)) {Γ : zSh} {x0 : Nat} {x1 : Int32} {x2 : Int32} {x3 : Int32} {x4 : Int32} {σ : zSt} {out : ((Int32 × Int32 × Int32 × Int32 × zSt) ⊕ ((Int32 × Int32 × zSt) ⊕ (Int32 × zSt)))} (hf : f_X2_syntaxError_B9 Γ x0 x1 x2 x3 x4 σ = some out) {H : Heap} {locs : List Loc} {ls : Array Slot} (hw : zO D cA B0 Γ σ Z s.heap H locs) (hl : lv_has ls 6 [(0, .ref x0), (1, .int x1), (2, .int x2), (3, .int x3), (4, .int x4)])
    (kI : ∀ (z1 : Int32) (z2 : Int32) (z3 : Int32) (z4 : Int32) (σ2 : zSt), out = .inl (z1, z2, z3, z4, σ2) → ∀ (H : Heap) (locs : List Loc) (ls : Array Slot), zO D cA B0 Γ σ2 Z s.heap H locs → lv_has ls 6 [(0, .ref x0), (1, .int z1), (2, .int z2), (3, .int z3), (4, .int z4)] → W p l e rm_X2_syntaxError s m args below meth c H locs 0 0 Q (F0 m 9 ls []))
    (kE : ∀ (z1 : Int32) (z3 : Int32) (σ2 : zSt), out = .inr (.inl (z1, z3, σ2)) → ∀ (H : Heap) (locs : List Loc) (ls : Array Slot), zO D cA B0 Γ σ2 Z s.heap H locs → lv_has ls 6 [(0, .ref x0), (1, .int z1), (3, .int z3)] → W p l e rm_X2_syntaxError s m args below meth c H locs 0 0 Q (F0 m 110 ls []))
    (kR : ∀ (v : Int32) (σ2 : zSt), out = .inr (.inr (v, σ2)) → ∀ (H : Heap) (locs : List Loc) (ls : Array Slot) (pr : Nat), zO D cA B0 Γ σ2 Z s.heap H locs → decode cX2_syntaxError pr = .ok (.ireturn, 1) → W p l e rm_X2_syntaxError s m args below meth c H locs 0 0 Q (F0 m pr ls [.int v])) :
    W p l e rm_X2_syntaxError s m args below meth c H locs 0 0 Q (F0 m 9 ls []) := by
  have hx := hC.1
  have hb := hC.2.1
  unfold f_X2_syntaxError_B9 at hf
  refine lv_iload hx hb dX2_syntaxError_9 (lv_at hl 4 rfl) ?_
  refine lv_aload_n hx hb dX2_syntaxError_11 rfl (lv_at hl 0 rfl) ?_
  obtain ⟨v1, hg, hf⟩ := gfI_inv hf
  refine r_gfI hC hw hg clX2 (Nat.le_of_ble_eq_true rfl) lkF_X2_45 rfl dX2_syntaxError_12 ?_
  refine lv_icmp_ge (tgt := 110) hx hb dX2_syntaxError_15 (by decide) (fun hc => ?_) (fun hc => ?_)
  · rw [if_pos hc] at hf
    exact kE x1 x3 σ (Option.some.inj hf).symm _ _ _ hw (lv_sub hl [0, 1, 3] rfl)
  · rw [if_neg hc] at hf
    refine lv_aload_n hx hb dX2_syntaxError_18 rfl (lv_at hl 0 rfl) ?_
    obtain ⟨v2, hg, hf⟩ := gfR_inv hf
    refine r_gfR hC hw hg clX2 (Nat.le_of_ble_eq_true rfl) lkF_X2_9 rfl dX2_syntaxError_19 ?_
    refine lv_iload hx hb dX2_syntaxError_22 (lv_at hl 4 rfl) ?_
    obtain ⟨v3, hg, hf⟩ := ldI_inv hf
    refine r_ldI hC hw hg dX2_syntaxError_24 ?_
    refine lv_istore (lv' := [(5, .int v3), (0, .ref x0), (1, .int x1), (2, .int x2), (3, .int x3), (4, .int x4)]) hx hb dX2_syntaxError_25 hl (Nat.le_of_ble_eq_true rfl) rfl (fun ls hl => ?_)
    refine lv_iload hx hb dX2_syntaxError_27 (lv_at hl 0 rfl) ?_
    obtain ⟨r5, σ4, hk, hf⟩ := bnd_inv hf
    refine z_callS (As := [.int v3]) (rest := []) (m_X2_isDigit hC.2.2.2.2.2.2.2.2 hk) hC hw wd_X2_isDigit lkM_X2_49 rfl ⟨rfl, rfl⟩ ⟨(Nat.le_of_ble_eq_true rfl), (Nat.le_of_ble_eq_true rfl)⟩ hl.1 rfl (Nat.le_of_ble_eq_true rfl) dX2_syntaxError_29 ⟨(Nat.le_of_ble_eq_true rfl), (Nat.le_of_ble_eq_true rfl)⟩ (fun H locs hw => ?_)
    refine lv_if_eq (tgt := 41) hx hb dX2_syntaxError_32 (by decide) (fun hc => ?_) (fun hc => ?_)
    · rw [if_pos hc] at hf
      refine lv_iconst (v := 0) hx hb dX2_syntaxError_41 (by decide) ?_
      exact t_X2_syntaxError_B9_L42 hC hr hf hw (lv_sub hl [1, 2, 4, 5, 0] rfl) kI kE kR
    · rw [if_neg hc] at hf
      refine lv_iload_n hx hb dX2_syntaxError_35 rfl (lv_at hl 3 rfl) ?_
      refine lv_iconst (v := 1) hx hb dX2_syntaxError_36 (by decide) ?_
      refine lv_iadd hx hb dX2_syntaxError_37 ?_
      refine lv_goto (tgt := 42) hx hb dX2_syntaxError_38 (by decide) ?_
      exact t_X2_syntaxError_B9_L42 hC hr hf hw (lv_sub hl [1, 2, 4, 5, 0] rfl) kI kE kR
set_option maxHeartbeats 4000000 in
theorem l_X2_syntaxError_B9 (hC : zC p l s m args meth c cX2_syntaxError 6 RX2 D cA B0) (hr : meth.sig.returnType = (Option.some FieldType.int)) {Γ : zSh} {x0 : Nat} {out : (Int32 × Int32 × zSt) ⊕ (Int32 × zSt)} (kE : ∀ (w1 : Int32) (w3 : Int32) (σ2 : zSt), out = .inl (w1, w3, σ2) → ∀ (H : Heap) (locs : List Loc) (ls : Array Slot), zO D cA B0 Γ σ2 Z s.heap H locs → lv_has ls 6 [(0, .ref x0), (1, .int w1), (3, .int w3)] → W p l e rm_X2_syntaxError s m args below meth c H locs 0 0 Q (F0 m 110 ls []))(kR : ∀ (v : Int32) (σ2 : zSt), out = .inr (v, σ2) → ∀ (H : Heap) (locs : List Loc) (ls : Array Slot) (pr : Nat), zO D cA B0 Γ σ2 Z s.heap H locs → decode cX2_syntaxError pr = .ok (.ireturn, 1) → W p l e rm_X2_syntaxError s m args below meth c H locs 0 0 Q (F0 m pr ls [.int v])) :
    ∀ (n : Nat) (x1 : Int32) (x2 : Int32) (x3 : Int32) (x4 : Int32) (σ : zSt), loopM (fun q => f_X2_syntaxError_B9 Γ x0 q.1 q.2.1 q.2.2.1 q.2.2.2.1 q.2.2.2.2) n (x1, x2, x3, x4, σ) = some out → ∀ (H : Heap) (locs : List Loc) (ls : Array Slot), zO D cA B0 Γ σ Z s.heap H locs → lv_has ls 6 [(0, .ref x0), (1, .int x1), (2, .int x2), (3, .int x3), (4, .int x4)] → W p l e rm_X2_syntaxError s m args below meth c H locs 0 0 Q (F0 m 9 ls []) := by
  intro n
  induction n with
  | zero => intro x1 x2 x3 x4 σ h; exact absurd h (by simp [loopM])
  | succ n ih =>
    intro x1 x2 x3 x4 σ h H locs ls hw hl
    obtain ⟨r, h1, h2, h3⟩ := loopM_inv h
    exact t_X2_syntaxError_B9 hC hr h1 hw hl (fun z1 z2 z3 z4 s2 e H locs ls hw hl => ih z1 z2 z3 z4 s2 (h2 _ e) H locs ls hw hl) (fun z1 z3 s2 e => kE z1 z3 s2 (h3 _ e).symm) (fun v s2 e => kR v s2 (h3 _ e).symm)
set_option maxHeartbeats 4000000 in
set_option maxRecDepth 100000 in
theorem t_X2_syntaxError_L126 (hC : zC p l s m args meth c cX2_syntaxError 6 RX2 D cA B0) (hr : meth.sig.returnType = (Option.some FieldType.int)) {Γ : zSh} {s0 : Int32} {σ : zSt} {out : (Int32 × zSt)} (hf : f_X2_syntaxError_L126 Γ s0 σ = some out) {H : Heap} {locs : List Loc} {ls : Array Slot} (hw : zO D cA B0 Γ σ Z s.heap H locs) (hl : lv_has ls 6 []) :
    W p l e rm_X2_syntaxError s m args below meth c H locs 0 0 (MQ below (zQ1 D cA B0 (some (.int out.1)) Γ out.2 Z) args s 0 0 (FR B0)) (F0 m 126 ls [.int s0]) := by
  have hx := hC.1
  have hb := hC.2.1
  unfold f_X2_syntaxError_L126 at hf
  first | (obtain ⟨rfl, rfl⟩ := sp_inv hf) | (obtain rfl := Option.some.inj hf)
  exact W.iret hx hb hr (z_ret hw rfl) hw.2.2.2.2.2 dX2_syntaxError_126 hC.2.2.2.2.2.1
set_option maxHeartbeats 4000000 in
set_option maxRecDepth 100000 in
theorem t_X2_syntaxError_L118 (hC : zC p l s m args meth c cX2_syntaxError 6 RX2 D cA B0) (hr : meth.sig.returnType = (Option.some FieldType.int)) {Γ : zSh} {x0 : Nat} {σ : zSt} {out : (Int32 × zSt)} (hf : f_X2_syntaxError_L118 Γ x0 σ = some out) {H : Heap} {locs : List Loc} {ls : Array Slot} (hw : zO D cA B0 Γ σ Z s.heap H locs) (hl : lv_has ls 6 [(0, .ref x0)]) :
    W p l e rm_X2_syntaxError s m args below meth c H locs 0 0 (MQ below (zQ1 D cA B0 (some (.int out.1)) Γ out.2 Z) args s 0 0 (FR B0)) (F0 m 118 ls []) := by
  have hx := hC.1
  have hb := hC.2.1
  unfold f_X2_syntaxError_L118 at hf
  refine lv_aload_n hx hb dX2_syntaxError_118 rfl (lv_at hl 0 rfl) ?_
  obtain ⟨v11, hg, hf⟩ := gfI_inv hf
  refine r_gfI hC hw hg clX2 (Nat.le_of_ble_eq_true rfl) lkF_X2_45 rfl dX2_syntaxError_119 ?_
  refine lv_goto (tgt := 126) hx hb dX2_syntaxError_122 (by decide) ?_
  exact t_X2_syntaxError_L126 hC hr hf hw (lv_sub hl [] rfl)
set_option maxHeartbeats 4000000 in
set_option maxRecDepth 100000 in
theorem m_X2_syntaxError (h9 : l.stackTraces = false) {Γ : zSh} {a0 : Nat} {σ : zSt} {r : Int32} {σ2 : zSt} (hf : f_X2_syntaxError Γ a0 σ = some (r, σ2)) : Met l yX2_syntaxError (wq yX2_syntaxError cX2_syntaxError 6 (Option.some FieldType.int)) rm_X2_syntaxError (zQ0 D cA B0 [.ref a0] Γ σ Z) (zQ1 D cA B0 (some (.int r)) Γ σ2 Z) 0 0 (FR B0) := by
  refine z_ofW h9 (by decide) (Nat.le_of_ble_eq_true rfl) ?_
  intro p e s m args below meth c ls hC hr _ hw hl
  have hx := hC.1
  have hb := hC.2.1
  have hl : lv_has ls 6 [(0, .ref a0)] := hl
  unfold f_X2_syntaxError at hf
  refine lv_iconst (v := 0) hx hb dX2_syntaxError_0 (by decide) ?_
  refine lv_istore_n (lv' := [(1, .int 0), (0, .ref a0)]) hx hb dX2_syntaxError_1 rfl hl (Nat.le_of_ble_eq_true rfl) rfl (fun ls hl => ?_)
  refine lv_iconst (v := 0) hx hb dX2_syntaxError_2 (by decide) ?_
  refine lv_istore_n (lv' := [(2, .int 0), (1, .int 0), (0, .ref a0)]) hx hb dX2_syntaxError_3 rfl hl (Nat.le_of_ble_eq_true rfl) rfl (fun ls hl => ?_)
  refine lv_iconst (v := 1) hx hb dX2_syntaxError_4 (by decide) ?_
  refine lv_istore_n (lv' := [(3, .int 1), (2, .int 0), (1, .int 0), (0, .ref a0)]) hx hb dX2_syntaxError_5 rfl hl (Nat.le_of_ble_eq_true rfl) rfl (fun ls hl => ?_)
  refine lv_iconst (v := 0) hx hb dX2_syntaxError_6 (by decide) ?_
  refine lv_istore (lv' := [(4, .int 0), (3, .int 1), (2, .int 0), (1, .int 0), (0, .ref a0)]) hx hb dX2_syntaxError_7 hl (Nat.le_of_ble_eq_true rfl) rfl (fun ls hl => ?_)
  obtain ⟨q, hk, hE, hR⟩ := lbr_inv hf
  refine l_X2_syntaxError_B9 hC hr (fun w9 w10 σ8 e H locs ls hw hl => ?_) (fun v s9 e H locs ls pr hw hd => ?_) FUEL 0 0 1 0 σ hk _ _ _ hw (lv_sub hl [4, 3, 2, 1, 0] rfl)
  · obtain ⟨q0, q1, s8, e2, hf⟩ := lb2_inv (hE _ e)
    cases e2
    refine lv_iload_n hx hb dX2_syntaxError_110 rfl (lv_at hl 2 rfl) ?_
    refine lv_if_ne (tgt := 118) hx hb dX2_syntaxError_111 (by decide) (fun hc => ?_) (fun hc => ?_)
    · rw [if_neg hc] at hf
      exact t_X2_syntaxError_L118 hC hr hf hw (lv_sub hl [0] rfl)
    · rw [if_pos hc] at hf
      refine lv_iload_n hx hb dX2_syntaxError_114 rfl (lv_at hl 1 rfl) ?_
      refine lv_if_le (tgt := 125) hx hb dX2_syntaxError_115 (by decide) (fun hc => ?_) (fun hc => ?_)
      · rw [if_pos hc] at hf
        refine lv_iconst (v := (-1)) hx hb dX2_syntaxError_125 (by decide) ?_
        exact t_X2_syntaxError_L126 hC hr hf hw (lv_sub hl [] rfl)
      · rw [if_neg hc] at hf
        exact t_X2_syntaxError_L118 hC hr hf hw (lv_sub hl [0] rfl)
  · have hf := hR _ _ e
    first | (obtain ⟨rfl, rfl⟩ := sp_inv hf) | (obtain rfl := Option.some.inj hf)
    exact W.iret hx hb hr (z_ret hw rfl) hw.2.2.2.2.2 hd hC.2.2.2.2.2.1
set_option maxHeartbeats 4000000 in
set_option maxRecDepth 100000 in
theorem m_X2_open (h9 : l.stackTraces = false) {Γ : zSh} {a0 : Nat} {a1 : Int32} {σ : zSt} {r : Unit} {σ2 : zSt} (hf : f_X2_open Γ a0 a1 σ = some (r, σ2)) : Met l yX2_open (wq yX2_open cX2_open 2 (Option.none : Option Jvm.ClassFile.FieldType)) rm_X2_open (zQ0 D cA B0 [.ref a0, .int a1] Γ σ Z) (zQ1 D cA B0 (none) Γ σ2 Z) 0 0 (FR B0) := by
  refine z_ofW h9 (by decide) (Nat.le_of_ble_eq_true rfl) ?_
  intro p e s m args below meth c ls hC hr _ hw hl
  have hx := hC.1
  have hb := hC.2.1
  have hl : lv_has ls 2 [(0, .ref a0), (1, .int a1)] := hl
  unfold f_X2_open at hf
  refine lv_aload_n hx hb dX2_open_0 rfl (lv_at hl 0 rfl) ?_
  obtain ⟨v1, hg, hf⟩ := gfR_inv hf
  refine r_gfR hC hw hg clX2 (Nat.le_of_ble_eq_true rfl) lkF_X2_23 rfl dX2_open_1 ?_
  refine lv_iload_n hx hb dX2_open_4 rfl (lv_at hl 1 rfl) ?_
  refine lv_iconst (v := 0) hx hb dX2_open_5 (by decide) ?_
  obtain ⟨σ2, hg, hf⟩ := stZ_inv hf
  refine r_stZ hC hw hg dX2_open_6 (fun H locs hw => ?_)
  refine lv_aload_n hx hb dX2_open_7 rfl (lv_at hl 0 rfl) ?_
  obtain ⟨v3, hg, hf⟩ := gfR_inv hf
  refine r_gfR hC hw hg clX2 (Nat.le_of_ble_eq_true rfl) lkF_X2_30 rfl dX2_open_8 ?_
  refine lv_iload_n hx hb dX2_open_11 rfl (lv_at hl 1 rfl) ?_
  refine lv_iconst (v := 0) hx hb dX2_open_12 (by decide) ?_
  obtain ⟨σ4, hg, hf⟩ := stZ_inv hf
  refine r_stZ hC hw hg dX2_open_13 (fun H locs hw => ?_)
  first | (obtain ⟨rfl, rfl⟩ := sp_inv hf) | (obtain rfl := Option.some.inj hf)
  exact W.vret hx hb hr (z_ret hw rfl) hw.2.2.2.2.2 dX2_open_14 hC.2.2.2.2.2.1
set_option maxHeartbeats 4000000 in
set_option maxRecDepth 100000 in
theorem m_X2_repeatFactor (h9 : l.stackTraces = false) {Γ : zSh} {a0 : Nat} {a1 : Nat} {σ : zSt} {r : Int32} {σ2 : zSt} (hf : f_X2_repeatFactor Γ a0 a1 σ = some (r, σ2)) : Met l yX2_repeatFactor (wq yX2_repeatFactor cX2_repeatFactor 2 (Option.some FieldType.boolean)) rm_X2_repeatFactor (zQ0 D cA B0 [.ref a0, .ref a1] Γ σ Z) (zQ1 D cA B0 (some (.int r)) Γ σ2 Z) 0 0 (FR B0) := by
  refine z_ofW h9 (by decide) (Nat.le_of_ble_eq_true rfl) ?_
  intro p e s m args below meth c ls hC hr _ hw hl
  have hx := hC.1
  have hb := hC.2.1
  have hl : lv_has ls 2 [(0, .ref a0), (1, .ref a1)] := hl
  unfold f_X2_repeatFactor at hf
  refine lv_aload_n hx hb dX2_repeatFactor_0 rfl (lv_at hl 0 rfl) ?_
  obtain ⟨v1, hg, hf⟩ := gfR_inv hf
  refine r_gfR hC hw hg clX2 (Nat.le_of_ble_eq_true rfl) lkF_X2_38 rfl dX2_repeatFactor_1 ?_
  obtain ⟨ho, hf⟩ := chk_inv hf
  obtain ⟨r3, σ2, hk, hf⟩ := bnd_inv hf
  refine z_callV (As := []) (rest := []) (m_X0_hasStar hC.2.2.2.2.2.2.2.2 hk) hC hw wd_X0_hasStar lkM_X2_100 (isO_sh ho) rfl rfl ⟨rfl, rfl⟩ ⟨(Nat.le_of_ble_eq_true rfl), (Nat.le_of_ble_eq_true rfl)⟩ hl.1 rfl (Nat.le_of_ble_eq_true rfl) dX2_repeatFactor_4 ⟨(Nat.le_of_ble_eq_true rfl), (Nat.le_of_ble_eq_true rfl)⟩ (fun H locs hw => ?_)
  refine lv_if_ne (tgt := 12) hx hb dX2_repeatFactor_7 (by decide) (fun hc => ?_) (fun hc => ?_)
  · rw [if_neg hc] at hf
    refine lv_aload_n hx hb dX2_repeatFactor_12 rfl (lv_at hl 0 rfl) ?_
    obtain ⟨v4, hg, hf⟩ := gfR_inv hf
    refine r_gfR hC hw hg clX2 (Nat.le_of_ble_eq_true rfl) lkF_X2_42 rfl dX2_repeatFactor_13 ?_
    refine lv_aload_n hx hb dX2_repeatFactor_16 rfl (lv_at hl 0 rfl) ?_
    obtain ⟨v5, hg, hf⟩ := gfR_inv hf
    refine r_gfR hC hw hg clX2 (Nat.le_of_ble_eq_true rfl) lkF_X2_38 rfl dX2_repeatFactor_17 ?_
    obtain ⟨ho, hf⟩ := chk_inv hf
    obtain ⟨_, σ6, hk, hf⟩ := bnd_inv hf
    refine z_callV (As := [.ref v5]) (rest := []) (m_X0_becomeStar hC.2.2.2.2.2.2.2.2 hk) hC hw wd_X0_becomeStar lkM_X2_104 (isO_sh ho) rfl rfl ⟨rfl, rfl⟩ ⟨(Nat.le_of_ble_eq_true rfl), (Nat.le_of_ble_eq_true rfl)⟩ hl.1 rfl (Nat.le_of_ble_eq_true rfl) dX2_repeatFactor_20 ⟨(Nat.le_of_ble_eq_true rfl), (Nat.le_of_ble_eq_true rfl)⟩ (fun H locs hw => ?_)
    refine lv_aload_n hx hb dX2_repeatFactor_23 rfl (lv_at hl 1 rfl) ?_
    refine lv_aload_n hx hb dX2_repeatFactor_24 rfl (lv_at hl 0 rfl) ?_
    obtain ⟨v7, hg, hf⟩ := gfR_inv hf
    refine r_gfR hC hw hg clX2 (Nat.le_of_ble_eq_true rfl) lkF_X2_42 rfl dX2_repeatFactor_25 ?_
    obtain ⟨ho, hf⟩ := chk_inv hf
    obtain ⟨_, σ8, hk, hf⟩ := bnd_inv hf
    refine z_callV (As := [.ref v7]) (rest := []) (m_X1_minimize hC.2.2.2.2.2.2.2.2 hk) hC hw wd_X1_minimize lkM_X2_107 (isO_sh ho) rfl rfl ⟨rfl, rfl⟩ ⟨(Nat.le_of_ble_eq_true rfl), (Nat.le_of_ble_eq_true rfl)⟩ hl.1 rfl (Nat.le_of_ble_eq_true rfl) dX2_repeatFactor_28 ⟨(Nat.le_of_ble_eq_true rfl), (Nat.le_of_ble_eq_true rfl)⟩ (fun H locs hw => ?_)
    refine lv_aload_n hx hb dX2_repeatFactor_31 rfl (lv_at hl 0 rfl) ?_
    obtain ⟨v9, hg, hf⟩ := gfR_inv hf
    refine r_gfR hC hw hg clX2 (Nat.le_of_ble_eq_true rfl) lkF_X2_38 rfl dX2_repeatFactor_32 ?_
    refine lv_aload_n hx hb dX2_repeatFactor_35 rfl (lv_at hl 0 rfl) ?_
    obtain ⟨v10, hg, hf⟩ := gfR_inv hf
    refine r_gfR hC hw hg clX2 (Nat.le_of_ble_eq_true rfl) lkF_X2_42 rfl dX2_repeatFactor_36 ?_
    obtain ⟨ho, hf⟩ := chk_inv hf
    obtain ⟨_, σ11, hk, hf⟩ := bnd_inv hf
    refine z_callV (As := [.ref v10]) (rest := []) (m_X0_copyFrom hC.2.2.2.2.2.2.2.2 hk) hC hw wd_X0_copyFrom lkM_X2_75 (isO_sh ho) rfl rfl ⟨rfl, rfl⟩ ⟨(Nat.le_of_ble_eq_true rfl), (Nat.le_of_ble_eq_true rfl)⟩ hl.1 rfl (Nat.le_of_ble_eq_true rfl) dX2_repeatFactor_39 ⟨(Nat.le_of_ble_eq_true rfl), (Nat.le_of_ble_eq_true rfl)⟩ (fun H locs hw => ?_)
    refine lv_iconst (v := 1) hx hb dX2_repeatFactor_42 (by decide) ?_
    obtain ⟨hz, hf⟩ := chk_inv hf
    first | (obtain ⟨rfl, rfl⟩ := sp_inv hf) | (obtain rfl := Option.some.inj hf)
    exact W.zret hx hb hr (isB_n hz).1 (z_ret hw rfl) hw.2.2.2.2.2 dX2_repeatFactor_43 hC.2.2.2.2.2.1
  · rw [if_pos hc] at hf
    refine lv_iconst (v := 0) hx hb dX2_repeatFactor_10 (by decide) ?_
    obtain ⟨hz, hf⟩ := chk_inv hf
    first | (obtain ⟨rfl, rfl⟩ := sp_inv hf) | (obtain rfl := Option.some.inj hf)
    exact W.zret hx hb hr (isB_n hz).1 (z_ret hw rfl) hw.2.2.2.2.2 dX2_repeatFactor_11 hC.2.2.2.2.2.1
set_option maxHeartbeats 4000000 in
set_option maxRecDepth 100000 in
theorem m_X2_closeFactor (h9 : l.stackTraces = false) {Γ : zSh} {a0 : Nat} {a1 : Int32} {a2 : Nat} {σ : zSt} {r : Int32} {σ2 : zSt} (hf : f_X2_closeFactor Γ a0 a1 a2 σ = some (r, σ2)) : Met l yX2_closeFactor (wq yX2_closeFactor cX2_closeFactor 4 (Option.some FieldType.boolean)) rm_X2_closeFactor (zQ0 D cA B0 [.ref a0, .int a1, .ref a2] Γ σ Z) (zQ1 D cA B0 (some (.int r)) Γ σ2 Z) 0 0 (FR B0) := by
  refine z_ofW h9 (by decide) (Nat.le_of_ble_eq_true rfl) ?_
  intro p e s m args below meth c ls hC hr _ hw hl
  have hx := hC.1
  have hb := hC.2.1
  have hl : lv_has ls 4 [(0, .ref a0), (1, .int a1), (2, .ref a2)] := hl
  unfold f_X2_closeFactor at hf
  refine lv_aload_n hx hb dX2_closeFactor_0 rfl (lv_at hl 0 rfl) ?_
  obtain ⟨v1, hg, hf⟩ := gfI_inv hf
  refine r_gfI hC hw hg clX2 (Nat.le_of_ble_eq_true rfl) lkF_X2_57 rfl dX2_closeFactor_1 ?_
  refine lv_if_ne (tgt := 9) hx hb dX2_closeFactor_4 (by decide) (fun hc => ?_) (fun hc => ?_)
  · rw [if_neg hc] at hf
    refine lv_aload_n hx hb dX2_closeFactor_9 rfl (lv_at hl 0 rfl) ?_
    refine lv_iconst (v := 0) hx hb dX2_closeFactor_10 (by decide) ?_
    obtain ⟨σ2, hg, hf⟩ := pfZ_inv hf
    refine r_pfZ hC hw hg clX2 (Nat.le_of_ble_eq_true rfl) lkF_X2_57 rfl rfl rfl dX2_closeFactor_11 (fun H locs hw => ?_)
    refine lv_aload_n hx hb dX2_closeFactor_14 rfl (lv_at hl 0 rfl) ?_
    obtain ⟨v3, hg, hf⟩ := gfR_inv hf
    refine r_gfR hC hw hg clX2 (Nat.le_of_ble_eq_true rfl) lkF_X2_27 rfl dX2_closeFactor_15 ?_
    refine lv_iload_n hx hb dX2_closeFactor_18 rfl (lv_at hl 1 rfl) ?_
    obtain ⟨v4, hg, hf⟩ := ldA_inv hf
    refine r_ldA hC hw hg dX2_closeFactor_19 ?_
    refine lv_astore_n (lv' := [(3, .ref v4), (0, .ref a0), (1, .int a1), (2, .ref a2)]) hx hb dX2_closeFactor_20 rfl hl (Nat.le_of_ble_eq_true rfl) rfl (fun ls hl => ?_)
    refine lv_aload_n hx hb dX2_closeFactor_21 rfl (lv_at hl 1 rfl) ?_
    obtain ⟨v5, hg, hf⟩ := gfR_inv hf
    refine r_gfR hC hw hg clX2 (Nat.le_of_ble_eq_true rfl) lkF_X2_30 rfl dX2_closeFactor_22 ?_
    refine lv_iload_n hx hb dX2_closeFactor_25 rfl (lv_at hl 2 rfl) ?_
    obtain ⟨v6, hg, hf⟩ := ldZ_inv hf
    refine r_ldZ hC hw hg dX2_closeFactor_26 ?_
    refine lv_if_ne (tgt := 47) hx hb dX2_closeFactor_27 (by decide) (fun hc => ?_) (fun hc => ?_)
    · rw [if_neg hc] at hf
      refine lv_aload_n hx hb dX2_closeFactor_47 rfl (lv_at hl 0 rfl) ?_
      obtain ⟨v7, hg, hf⟩ := gfI_inv hf
      refine r_gfI hC hw hg clX0 (Nat.le_of_ble_eq_true rfl) lkF_X2_112 rfl dX2_closeFactor_48 ?_
      refine lv_aload_n hx hb dX2_closeFactor_51 rfl (lv_at hl 1 rfl) ?_
      obtain ⟨v8, hg, hf⟩ := gfR_inv hf
      refine r_gfR hC hw hg clX2 (Nat.le_of_ble_eq_true rfl) lkF_X2_38 rfl dX2_closeFactor_52 ?_
      obtain ⟨v9, hg, hf⟩ := gfI_inv hf
      refine r_gfI hC hw hg clX0 (Nat.le_of_ble_eq_true rfl) lkF_X2_112 rfl dX2_closeFactor_55 ?_
      refine lv_iadd hx hb dX2_closeFactor_58 ?_
      refine lv_bipush (v := 12) hx hb dX2_closeFactor_59 (by decide) ?_
      refine lv_icmp_le (tgt := 66) hx hb dX2_closeFactor_61 (by decide) (fun hc => ?_) (fun hc => ?_)
      · rw [if_pos hc] at hf
        refine lv_aload_n hx hb dX2_closeFactor_66 rfl (lv_at hl 1 rfl) ?_
        obtain ⟨v10, hg, hf⟩ := gfR_inv hf
        refine r_gfR hC hw hg clX2 (Nat.le_of_ble_eq_true rfl) lkF_X2_42 rfl dX2_closeFactor_67 ?_
        refine lv_aload_n hx hb dX2_closeFactor_70 rfl (lv_at hl 0 rfl) ?_
        refine lv_aload_n hx hb dX2_closeFactor_71 rfl (lv_at hl 1 rfl) ?_
        obtain ⟨v11, hg, hf⟩ := gfR_inv hf
        refine r_gfR hC hw hg clX2 (Nat.le_of_ble_eq_true rfl) lkF_X2_38 rfl dX2_closeFactor_72 ?_
        obtain ⟨ho, hf⟩ := chk_inv hf
        obtain ⟨_, σ12, hk, hf⟩ := bnd_inv hf
        refine z_callV (As := [.ref v4, .ref v11]) (rest := []) (m_X0_becomeCauchy hC.2.2.2.2.2.2.2.2 hk) hC hw wd_X0_becomeCauchy lkM_X2_115 (isO_sh ho) rfl rfl ⟨rfl, rfl⟩ ⟨(Nat.le_of_ble_eq_true rfl), (Nat.le_of_ble_eq_true rfl)⟩ hl.1 rfl (Nat.le_of_ble_eq_true rfl) dX2_closeFactor_75 ⟨(Nat.le_of_ble_eq_true rfl), (Nat.le_of_ble_eq_true rfl)⟩ (fun H locs hw => ?_)
        refine lv_aload_n hx hb dX2_closeFactor_78 rfl (lv_at hl 3 rfl) ?_
        refine lv_aload_n hx hb dX2_closeFactor_79 rfl (lv_at hl 1 rfl) ?_
        obtain ⟨v13, hg, hf⟩ := gfR_inv hf
        refine r_gfR hC hw hg clX2 (Nat.le_of_ble_eq_true rfl) lkF_X2_42 rfl dX2_closeFactor_80 ?_
        obtain ⟨ho, hf⟩ := chk_inv hf
        obtain ⟨_, σ14, hk, hf⟩ := bnd_inv hf
        refine z_callV (As := [.ref v13]) (rest := []) (m_X1_minimize hC.2.2.2.2.2.2.2.2 hk) hC hw wd_X1_minimize lkM_X2_107 (isO_sh ho) rfl rfl ⟨rfl, rfl⟩ ⟨(Nat.le_of_ble_eq_true rfl), (Nat.le_of_ble_eq_true rfl)⟩ hl.1 rfl (Nat.le_of_ble_eq_true rfl) dX2_closeFactor_83 ⟨(Nat.le_of_ble_eq_true rfl), (Nat.le_of_ble_eq_true rfl)⟩ (fun H locs hw => ?_)
        refine lv_aload_n hx hb dX2_closeFactor_86 rfl (lv_at hl 0 rfl) ?_
        refine lv_aload_n hx hb dX2_closeFactor_87 rfl (lv_at hl 1 rfl) ?_
        obtain ⟨v15, hg, hf⟩ := gfR_inv hf
        refine r_gfR hC hw hg clX2 (Nat.le_of_ble_eq_true rfl) lkF_X2_42 rfl dX2_closeFactor_88 ?_
        obtain ⟨ho, hf⟩ := chk_inv hf
        obtain ⟨_, σ16, hk, hf⟩ := bnd_inv hf
        refine z_callV (As := [.ref v15]) (rest := []) (m_X0_copyFrom hC.2.2.2.2.2.2.2.2 hk) hC hw wd_X0_copyFrom lkM_X2_75 (isO_sh ho) rfl rfl ⟨rfl, rfl⟩ ⟨(Nat.le_of_ble_eq_true rfl), (Nat.le_of_ble_eq_true rfl)⟩ hl.1 rfl (Nat.le_of_ble_eq_true rfl) dX2_closeFactor_91 ⟨(Nat.le_of_ble_eq_true rfl), (Nat.le_of_ble_eq_true rfl)⟩ (fun H locs hw => ?_)
        refine lv_iconst (v := 1) hx hb dX2_closeFactor_94 (by decide) ?_
        obtain ⟨hz, hf⟩ := chk_inv hf
        first | (obtain ⟨rfl, rfl⟩ := sp_inv hf) | (obtain rfl := Option.some.inj hf)
        exact W.zret hx hb hr (isB_n hz).1 (z_ret hw rfl) hw.2.2.2.2.2 dX2_closeFactor_95 hC.2.2.2.2.2.1
      · rw [if_neg hc] at hf
        refine lv_iconst (v := 0) hx hb dX2_closeFactor_64 (by decide) ?_
        obtain ⟨hz, hf⟩ := chk_inv hf
        first | (obtain ⟨rfl, rfl⟩ := sp_inv hf) | (obtain rfl := Option.some.inj hf)
        exact W.zret hx hb hr (isB_n hz).1 (z_ret hw rfl) hw.2.2.2.2.2 dX2_closeFactor_65 hC.2.2.2.2.2.1
    · rw [if_pos hc] at hf
      refine lv_aload_n hx hb dX2_closeFactor_30 rfl (lv_at hl 1 rfl) ?_
      obtain ⟨v17, hg, hf⟩ := gfR_inv hf
      refine r_gfR hC hw hg clX2 (Nat.le_of_ble_eq_true rfl) lkF_X2_30 rfl dX2_closeFactor_31 ?_
      refine lv_iload_n hx hb dX2_closeFactor_34 rfl (lv_at hl 2 rfl) ?_
      refine lv_iconst (v := 1) hx hb dX2_closeFactor_35 (by decide) ?_
      obtain ⟨σ18, hg, hf⟩ := stZ_inv hf
      refine r_stZ hC hw hg dX2_closeFactor_36 (fun H locs hw => ?_)
      refine lv_aload_n hx hb dX2_closeFactor_37 rfl (lv_at hl 0 rfl) ?_
      refine lv_aload_n hx hb dX2_closeFactor_38 rfl (lv_at hl 1 rfl) ?_
      obtain ⟨v19, hg, hf⟩ := gfR_inv hf
      refine r_gfR hC hw hg clX2 (Nat.le_of_ble_eq_true rfl) lkF_X2_38 rfl dX2_closeFactor_39 ?_
      obtain ⟨ho, hf⟩ := chk_inv hf
      obtain ⟨_, σ20, hk, hf⟩ := bnd_inv hf
      refine z_callV (As := [.ref v19]) (rest := []) (m_X0_copyFrom hC.2.2.2.2.2.2.2.2 hk) hC hw wd_X0_copyFrom lkM_X2_75 (isO_sh ho) rfl rfl ⟨rfl, rfl⟩ ⟨(Nat.le_of_ble_eq_true rfl), (Nat.le_of_ble_eq_true rfl)⟩ hl.1 rfl (Nat.le_of_ble_eq_true rfl) dX2_closeFactor_42 ⟨(Nat.le_of_ble_eq_true rfl), (Nat.le_of_ble_eq_true rfl)⟩ (fun H locs hw => ?_)
      refine lv_iconst (v := 1) hx hb dX2_closeFactor_45 (by decide) ?_
      obtain ⟨hz, hf⟩ := chk_inv hf
      first | (obtain ⟨rfl, rfl⟩ := sp_inv hf) | (obtain rfl := Option.some.inj hf)
      exact W.zret hx hb hr (isB_n hz).1 (z_ret hw rfl) hw.2.2.2.2.2 dX2_closeFactor_46 hC.2.2.2.2.2.1
  · rw [if_pos hc] at hf
    refine lv_iconst (v := 1) hx hb dX2_closeFactor_7 (by decide) ?_
    obtain ⟨hz, hf⟩ := chk_inv hf
    first | (obtain ⟨rfl, rfl⟩ := sp_inv hf) | (obtain rfl := Option.some.inj hf)
    exact W.zret hx hb hr (isB_n hz).1 (z_ret hw rfl) hw.2.2.2.2.2 dX2_closeFactor_8 hC.2.2.2.2.2.1
set_option maxHeartbeats 4000000 in
set_option maxRecDepth 100000 in
theorem m_X2_closeProduct (h9 : l.stackTraces = false) {Γ : zSh} {a0 : Nat} {a1 : Int32} {a2 : Nat} {σ : zSt} {r : Int32} {σ2 : zSt} (hf : f_X2_closeProduct Γ a0 a1 a2 σ = some (r, σ2)) : Met l yX2_closeProduct (wq yX2_closeProduct cX2_closeProduct 5 (Option.some FieldType.boolean)) rm_X2_closeProduct (zQ0 D cA B0 [.ref a0, .int a1, .ref a2] Γ σ Z) (zQ1 D cA B0 (some (.int r)) Γ σ2 Z) 0 0 (FR B0) := by
  refine z_ofW h9 (by decide) (Nat.le_of_ble_eq_true rfl) ?_
  intro p e s m args below meth c ls hC hr _ hw hl
  have hx := hC.1
  have hb := hC.2.1
  have hl : lv_has ls 5 [(0, .ref a0), (1, .int a1), (2, .ref a2)] := hl
  unfold f_X2_closeProduct at hf
  refine lv_aload_n hx hb dX2_closeProduct_0 rfl (lv_at hl 0 rfl) ?_
  obtain ⟨v1, hg, hf⟩ := gfR_inv hf
  refine r_gfR hC hw hg clX2 (Nat.le_of_ble_eq_true rfl) lkF_X2_27 rfl dX2_closeProduct_1 ?_
  refine lv_iload_n hx hb dX2_closeProduct_4 rfl (lv_at hl 1 rfl) ?_
  obtain ⟨v2, hg, hf⟩ := ldA_inv hf
  refine r_ldA hC hw hg dX2_closeProduct_5 ?_
  refine lv_astore_n (lv' := [(3, .ref v2), (0, .ref a0), (1, .int a1), (2, .ref a2)]) hx hb dX2_closeProduct_6 rfl hl (Nat.le_of_ble_eq_true rfl) rfl (fun ls hl => ?_)
  refine lv_aload_n hx hb dX2_closeProduct_7 rfl (lv_at hl 1 rfl) ?_
  obtain ⟨v3, hg, hf⟩ := gfR_inv hf
  refine r_gfR hC hw hg clX2 (Nat.le_of_ble_eq_true rfl) lkF_X2_19 rfl dX2_closeProduct_8 ?_
  refine lv_iload_n hx hb dX2_closeProduct_11 rfl (lv_at hl 2 rfl) ?_
  obtain ⟨v4, hg, hf⟩ := ldA_inv hf
  refine r_ldA hC hw hg dX2_closeProduct_12 ?_
  refine lv_astore (lv' := [(4, .ref v4), (3, .ref v2), (0, .ref a0), (1, .int a1), (2, .ref a2)]) hx hb dX2_closeProduct_13 hl (Nat.le_of_ble_eq_true rfl) rfl (fun ls hl => ?_)
  refine lv_aload_n hx hb dX2_closeProduct_15 rfl (lv_at hl 2 rfl) ?_
  obtain ⟨v5, hg, hf⟩ := gfR_inv hf
  refine r_gfR hC hw hg clX2 (Nat.le_of_ble_eq_true rfl) lkF_X2_30 rfl dX2_closeProduct_16 ?_
  refine lv_iload_n hx hb dX2_closeProduct_19 rfl (lv_at hl 3 rfl) ?_
  refine lv_iconst (v := 0) hx hb dX2_closeProduct_20 (by decide) ?_
  obtain ⟨σ6, hg, hf⟩ := stZ_inv hf
  refine r_stZ hC hw hg dX2_closeProduct_21 (fun H locs hw => ?_)
  refine lv_aload_n hx hb dX2_closeProduct_22 rfl (lv_at hl 2 rfl) ?_
  obtain ⟨v7, hg, hf⟩ := gfR_inv hf
  refine r_gfR hC hw hg clX2 (Nat.le_of_ble_eq_true rfl) lkF_X2_23 rfl dX2_closeProduct_23 ?_
  refine lv_iload_n hx hb dX2_closeProduct_26 rfl (lv_at hl 3 rfl) ?_
  obtain ⟨v8, hg, hf⟩ := ldZ_inv hf
  refine r_ldZ hC hw hg dX2_closeProduct_27 ?_
  refine lv_if_ne (tgt := 46) hx hb dX2_closeProduct_28 (by decide) (fun hc => ?_) (fun hc => ?_)
  · rw [if_neg hc] at hf
    refine lv_aload hx hb dX2_closeProduct_46 (lv_at hl 0 rfl) ?_
    obtain ⟨v9, hg, hf⟩ := gfI_inv hf
    refine r_gfI hC hw hg clX0 (Nat.le_of_ble_eq_true rfl) lkF_X2_112 rfl dX2_closeProduct_48 ?_
    refine lv_aload_n hx hb dX2_closeProduct_51 rfl (lv_at hl 1 rfl) ?_
    obtain ⟨v10, hg, hf⟩ := gfI_inv hf
    refine r_gfI hC hw hg clX0 (Nat.le_of_ble_eq_true rfl) lkF_X2_112 rfl dX2_closeProduct_52 ?_
    refine lv_iadd hx hb dX2_closeProduct_55 ?_
    refine lv_bipush (v := 12) hx hb dX2_closeProduct_56 (by decide) ?_
    refine lv_icmp_le (tgt := 63) hx hb dX2_closeProduct_58 (by decide) (fun hc => ?_) (fun hc => ?_)
    · rw [if_pos hc] at hf
      refine lv_aload_n hx hb dX2_closeProduct_63 rfl (lv_at hl 2 rfl) ?_
      obtain ⟨v11, hg, hf⟩ := gfR_inv hf
      refine r_gfR hC hw hg clX2 (Nat.le_of_ble_eq_true rfl) lkF_X2_42 rfl dX2_closeProduct_64 ?_
      refine lv_aload hx hb dX2_closeProduct_67 (lv_at hl 0 rfl) ?_
      refine lv_aload_n hx hb dX2_closeProduct_69 rfl (lv_at hl 1 rfl) ?_
      obtain ⟨ho, hf⟩ := chk_inv hf
      obtain ⟨_, σ12, hk, hf⟩ := bnd_inv hf
      refine z_callV (As := [.ref v4, .ref v2]) (rest := []) (m_X0_becomeSum hC.2.2.2.2.2.2.2.2 hk) hC hw wd_X0_becomeSum lkM_X2_119 (isO_sh ho) rfl rfl ⟨rfl, rfl⟩ ⟨(Nat.le_of_ble_eq_true rfl), (Nat.le_of_ble_eq_true rfl)⟩ hl.1 rfl (Nat.le_of_ble_eq_true rfl) dX2_closeProduct_70 ⟨(Nat.le_of_ble_eq_true rfl), (Nat.le_of_ble_eq_true rfl)⟩ (fun H locs hw => ?_)
      refine lv_aload_n hx hb dX2_closeProduct_73 rfl (lv_at hl 4 rfl) ?_
      refine lv_aload_n hx hb dX2_closeProduct_74 rfl (lv_at hl 2 rfl) ?_
      obtain ⟨v13, hg, hf⟩ := gfR_inv hf
      refine r_gfR hC hw hg clX2 (Nat.le_of_ble_eq_true rfl) lkF_X2_42 rfl dX2_closeProduct_75 ?_
      obtain ⟨ho, hf⟩ := chk_inv hf
      obtain ⟨_, σ14, hk, hf⟩ := bnd_inv hf
      refine z_callV (As := [.ref v13]) (rest := []) (m_X1_minimize hC.2.2.2.2.2.2.2.2 hk) hC hw wd_X1_minimize lkM_X2_107 (isO_sh ho) rfl rfl ⟨rfl, rfl⟩ ⟨(Nat.le_of_ble_eq_true rfl), (Nat.le_of_ble_eq_true rfl)⟩ hl.1 rfl (Nat.le_of_ble_eq_true rfl) dX2_closeProduct_78 ⟨(Nat.le_of_ble_eq_true rfl), (Nat.le_of_ble_eq_true rfl)⟩ (fun H locs hw => ?_)
      refine lv_aload hx hb dX2_closeProduct_81 (lv_at hl 0 rfl) ?_
      refine lv_aload_n hx hb dX2_closeProduct_83 rfl (lv_at hl 2 rfl) ?_
      obtain ⟨v15, hg, hf⟩ := gfR_inv hf
      refine r_gfR hC hw hg clX2 (Nat.le_of_ble_eq_true rfl) lkF_X2_42 rfl dX2_closeProduct_84 ?_
      obtain ⟨ho, hf⟩ := chk_inv hf
      obtain ⟨_, σ16, hk, hf⟩ := bnd_inv hf
      refine z_callV (As := [.ref v15]) (rest := []) (m_X0_copyFrom hC.2.2.2.2.2.2.2.2 hk) hC hw wd_X0_copyFrom lkM_X2_75 (isO_sh ho) rfl rfl ⟨rfl, rfl⟩ ⟨(Nat.le_of_ble_eq_true rfl), (Nat.le_of_ble_eq_true rfl)⟩ hl.1 rfl (Nat.le_of_ble_eq_true rfl) dX2_closeProduct_87 ⟨(Nat.le_of_ble_eq_true rfl), (Nat.le_of_ble_eq_true rfl)⟩ (fun H locs hw => ?_)
      refine lv_iconst (v := 1) hx hb dX2_closeProduct_90 (by decide) ?_
      obtain ⟨hz, hf⟩ := chk_inv hf
      first | (obtain ⟨rfl, rfl⟩ := sp_inv hf) | (obtain rfl := Option.some.inj hf)
      exact W.zret hx hb hr (isB_n hz).1 (z_ret hw rfl) hw.2.2.2.2.2 dX2_closeProduct_91 hC.2.2.2.2.2.1
    · rw [if_neg hc] at hf
      refine lv_iconst (v := 0) hx hb dX2_closeProduct_61 (by decide) ?_
      obtain ⟨hz, hf⟩ := chk_inv hf
      first | (obtain ⟨rfl, rfl⟩ := sp_inv hf) | (obtain rfl := Option.some.inj hf)
      exact W.zret hx hb hr (isB_n hz).1 (z_ret hw rfl) hw.2.2.2.2.2 dX2_closeProduct_62 hC.2.2.2.2.2.1
  · rw [if_pos hc] at hf
    refine lv_aload_n hx hb dX2_closeProduct_31 rfl (lv_at hl 2 rfl) ?_
    obtain ⟨v17, hg, hf⟩ := gfR_inv hf
    refine r_gfR hC hw hg clX2 (Nat.le_of_ble_eq_true rfl) lkF_X2_23 rfl dX2_closeProduct_32 ?_
    refine lv_iload_n hx hb dX2_closeProduct_35 rfl (lv_at hl 3 rfl) ?_
    refine lv_iconst (v := 1) hx hb dX2_closeProduct_36 (by decide) ?_
    obtain ⟨σ18, hg, hf⟩ := stZ_inv hf
    refine r_stZ hC hw hg dX2_closeProduct_37 (fun H locs hw => ?_)
    refine lv_aload hx hb dX2_closeProduct_38 (lv_at hl 0 rfl) ?_
    refine lv_aload_n hx hb dX2_closeProduct_40 rfl (lv_at hl 1 rfl) ?_
    obtain ⟨ho, hf⟩ := chk_inv hf
    obtain ⟨_, σ19, hk, hf⟩ := bnd_inv hf
    refine z_callV (As := [.ref v2]) (rest := []) (m_X0_copyFrom hC.2.2.2.2.2.2.2.2 hk) hC hw wd_X0_copyFrom lkM_X2_75 (isO_sh ho) rfl rfl ⟨rfl, rfl⟩ ⟨(Nat.le_of_ble_eq_true rfl), (Nat.le_of_ble_eq_true rfl)⟩ hl.1 rfl (Nat.le_of_ble_eq_true rfl) dX2_closeProduct_41 ⟨(Nat.le_of_ble_eq_true rfl), (Nat.le_of_ble_eq_true rfl)⟩ (fun H locs hw => ?_)
    refine lv_iconst (v := 1) hx hb dX2_closeProduct_44 (by decide) ?_
    obtain ⟨hz, hf⟩ := chk_inv hf
    first | (obtain ⟨rfl, rfl⟩ := sp_inv hf) | (obtain rfl := Option.some.inj hf)
    exact W.zret hx hb hr (isB_n hz).1 (z_ret hw rfl) hw.2.2.2.2.2 dX2_closeProduct_45 hC.2.2.2.2.2.1
set_option maxHeartbeats 4000000 in
set_option maxRecDepth 100000 in
theorem t_X2_beginFactor_L39 (hC : zC p l s m args meth c cX2_beginFactor 2 RX2 D cA B0) (hr : meth.sig.returnType = (Option.none : Option Jvm.ClassFile.FieldType)) {Γ : zSh} {x0 : Nat} {σ : zSt} {out : (Unit × zSt)} (hf : f_X2_beginFactor_L39 Γ x0 σ = some out) {H : Heap} {locs : List Loc} {ls : Array Slot} (hw : zO D cA B0 Γ σ Z s.heap H locs) (hl : lv_has ls 2 [(0, .ref x0)]) :
    W p l e rm_X2_beginFactor s m args below meth c H locs 0 0 (MQ below (zQ1 D cA B0 (none) Γ out.2 Z) args s 0 0 (FR B0)) (F0 m 39 ls []) := by
  have hx := hC.1
  have hb := hC.2.1
  unfold f_X2_beginFactor_L39 at hf
  refine lv_aload_n hx hb dX2_beginFactor_39 rfl (lv_at hl 0 rfl) ?_
  refine lv_iconst (v := 1) hx hb dX2_beginFactor_40 (by decide) ?_
  obtain ⟨σ5, hg, hf⟩ := pfZ_inv hf
  refine r_pfZ hC hw hg clX2 (Nat.le_of_ble_eq_true rfl) lkF_X2_57 rfl rfl rfl dX2_beginFactor_41 (fun H locs hw => ?_)
  first | (obtain ⟨rfl, rfl⟩ := sp_inv hf) | (obtain rfl := Option.some.inj hf)
  exact W.vret hx hb hr (z_ret hw rfl) hw.2.2.2.2.2 dX2_beginFactor_44 hC.2.2.2.2.2.1
set_option maxHeartbeats 4000000 in
set_option maxRecDepth 100000 in
theorem t_X2_beginFactor_L36 (hC : zC p l s m args meth c cX2_beginFactor 2 RX2 D cA B0) (hr : meth.sig.returnType = (Option.none : Option Jvm.ClassFile.FieldType)) {Γ : zSh} {x0 : Nat} {s0 : Int32} {s1 : Nat} {σ : zSt} {out : (Unit × zSt)} (hf : f_X2_beginFactor_L36 Γ x0 s0 s1 σ = some out) {H : Heap} {locs : List Loc} {ls : Array Slot} (hw : zO D cA B0 Γ σ Z s.heap H locs) (hl : lv_has ls 2 [(0, .ref x0)]) :
    W p l e rm_X2_beginFactor s m args below meth c H locs 0 0 (MQ below (zQ1 D cA B0 (none) Γ out.2 Z) args s 0 0 (FR B0)) (F0 m 36 ls [.int s0, .ref s1]) := by
  have hx := hC.1
  have hb := hC.2.1
  unfold f_X2_beginFactor_L36 at hf
  obtain ⟨ho, hf⟩ := chk_inv hf
  obtain ⟨_, σ4, hk, hf⟩ := bnd_inv hf
  refine z_callV (As := [.int s0]) (rest := []) (m_X0_becomeLetter hC.2.2.2.2.2.2.2.2 hk) hC hw wd_X0_becomeLetter lkM_X2_97 (isO_sh ho) rfl rfl ⟨rfl, rfl⟩ ⟨(Nat.le_of_ble_eq_true rfl), (Nat.le_of_ble_eq_true rfl)⟩ hl.1 rfl (Nat.le_of_ble_eq_true rfl) dX2_beginFactor_36 ⟨(Nat.le_of_ble_eq_true rfl), (Nat.le_of_ble_eq_true rfl)⟩ (fun H locs hw => ?_)
  exact t_X2_beginFactor_L39 hC hr hf hw (lv_sub hl [0] rfl)
set_option maxHeartbeats 4000000 in
set_option maxRecDepth 100000 in
theorem m_X2_beginFactor (h9 : l.stackTraces = false) {Γ : zSh} {a0 : Nat} {a1 : Int32} {σ : zSt} {r : Unit} {σ2 : zSt} (hf : f_X2_beginFactor Γ a0 a1 σ = some (r, σ2)) : Met l yX2_beginFactor (wq yX2_beginFactor cX2_beginFactor 2 (Option.none : Option Jvm.ClassFile.FieldType)) rm_X2_beginFactor (zQ0 D cA B0 [.ref a0, .int a1] Γ σ Z) (zQ1 D cA B0 (none) Γ σ2 Z) 0 0 (FR B0) := by
  refine z_ofW h9 (by decide) (Nat.le_of_ble_eq_true rfl) ?_
  intro p e s m args below meth c ls hC hr _ hw hl
  have hx := hC.1
  have hb := hC.2.1
  have hl : lv_has ls 2 [(0, .ref a0), (1, .int a1)] := hl
  unfold f_X2_beginFactor at hf
  refine lv_iload_n hx hb dX2_beginFactor_0 rfl (lv_at hl 1 rfl) ?_
  obtain ⟨r2, σ1, hk, hf⟩ := bnd_inv hf
  refine z_callS (As := [.int a1]) (rest := []) (m_X2_isDigit hC.2.2.2.2.2.2.2.2 hk) hC hw wd_X2_isDigit lkM_X2_49 rfl ⟨rfl, rfl⟩ ⟨(Nat.le_of_ble_eq_true rfl), (Nat.le_of_ble_eq_true rfl)⟩ hl.1 rfl (Nat.le_of_ble_eq_true rfl) dX2_beginFactor_1 ⟨(Nat.le_of_ble_eq_true rfl), (Nat.le_of_ble_eq_true rfl)⟩ (fun H locs hw => ?_)
  refine lv_if_eq (tgt := 21) hx hb dX2_beginFactor_4 (by decide) (fun hc => ?_) (fun hc => ?_)
  · rw [if_pos hc] at hf
    refine lv_aload_n hx hb dX2_beginFactor_21 rfl (lv_at hl 0 rfl) ?_
    obtain ⟨v3, hg, hf⟩ := gfR_inv hf
    refine r_gfR hC hw hg clX2 (Nat.le_of_ble_eq_true rfl) lkF_X2_38 rfl dX2_beginFactor_22 ?_
    refine lv_iload_n hx hb dX2_beginFactor_25 rfl (lv_at hl 1 rfl) ?_
    refine lv_bipush (v := 98) hx hb dX2_beginFactor_26 (by decide) ?_
    refine lv_icmp_ne (tgt := 35) hx hb dX2_beginFactor_28 (by decide) (fun hc => ?_) (fun hc => ?_)
    · rw [if_neg hc] at hf
      refine lv_iconst (v := 0) hx hb dX2_beginFactor_35 (by decide) ?_
      exact t_X2_beginFactor_L36 hC hr hf hw (lv_sub hl [0] rfl)
    · rw [if_pos hc] at hf
      refine lv_iconst (v := 1) hx hb dX2_beginFactor_31 (by decide) ?_
      refine lv_goto (tgt := 36) hx hb dX2_beginFactor_32 (by decide) ?_
      exact t_X2_beginFactor_L36 hC hr hf hw (lv_sub hl [0] rfl)
  · rw [if_neg hc] at hf
    refine lv_aload_n hx hb dX2_beginFactor_7 rfl (lv_at hl 0 rfl) ?_
    obtain ⟨v6, hg, hf⟩ := gfR_inv hf
    refine r_gfR hC hw hg clX2 (Nat.le_of_ble_eq_true rfl) lkF_X2_38 rfl dX2_beginFactor_8 ?_
    refine lv_iload_n hx hb dX2_beginFactor_11 rfl (lv_at hl 1 rfl) ?_
    refine lv_bipush (v := 48) hx hb dX2_beginFactor_12 (by decide) ?_
    refine lv_isub hx hb dX2_beginFactor_14 ?_
    obtain ⟨ho, hf⟩ := chk_inv hf
    obtain ⟨_, σ7, hk, hf⟩ := bnd_inv hf
    refine z_callV (As := [.int (a1 - 48)]) (rest := []) (m_X0_becomeNumber hC.2.2.2.2.2.2.2.2 hk) hC hw wd_X0_becomeNumber lkM_X2_94 (isO_sh ho) rfl rfl ⟨rfl, rfl⟩ ⟨(Nat.le_of_ble_eq_true rfl), (Nat.le_of_ble_eq_true rfl)⟩ hl.1 rfl (Nat.le_of_ble_eq_true rfl) dX2_beginFactor_15 ⟨(Nat.le_of_ble_eq_true rfl), (Nat.le_of_ble_eq_true rfl)⟩ (fun H locs hw => ?_)
    refine lv_goto (tgt := 39) hx hb dX2_beginFactor_18 (by decide) ?_
    exact t_X2_beginFactor_L39 hC hr hf hw (lv_sub hl [0] rfl)
set_option maxHeartbeats 4000000 in
set_option maxRecDepth 100000 in
theorem t_X2_evaluate_B17_L248 (hC : zC p l s m args meth c cX2_evaluate 6 RX2 D cA B0) (hr : meth.sig.returnType = (Option.some FieldType.boolean)) {Γ : zSh} {x0 : Nat} {x1 : Nat} {x2 : Int32} {x3 : Int32} {x4 : Int32}  {σ : zSt} {out : ((Int32 × Int32 × Int32 × zSt) ⊕ (Int32 × Int32 × zSt))} (hf : f_X2_evaluate_B17_L248 Γ x0 x1 x2 x3 x4 σ = some out) {H : Heap} {locs : List Loc} {ls : Array Slot} (hw : zO D cA B0 Γ σ Z s.heap H locs) (hl : lv_has ls 6 [(0, .ref x0), (1, .ref x1), (2, .int x2), (3, .int x3), (4, .int x4)])
    (kI : ∀ (z2 : Int32) (z3 : Int32) (z4 : Int32) (σ2 : zSt), out = .inl (z2, z3, z4, σ2) → ∀ (H : Heap) (locs : List Loc) (ls : Array Slot), zO D cA B0 Γ σ2 Z s.heap H locs → lv_has ls 6 [(0, .ref x0), (1, .ref x1), (2, .int z2), (3, .int z3), (4, .int z4)] → W p l e rm_X2_evaluate s m args below meth c H locs 0 0 Q (F0 m 17 ls []))
    (kE : ∀ (z2 : Int32) (z3 : Int32) (σ2 : zSt), out = .inr (z2, z3, σ2) → ∀ (H : Heap) (locs : List Loc) (ls : Array Slot), zO D cA B0 Γ σ2 Z s.heap H locs → lv_has ls 6 [(0, .ref x0), (1, .ref x1), (2, .int z2), (3, .int z3)] → W p l e rm_X2_evaluate s m args below meth c H locs 0 0 Q (F0 m 254 ls [])) :
    W p l e rm_X2_evaluate s m args below meth c H locs 0 0 Q (F0 m 248 ls []) := by
  have hx := hC.1
  have hb := hC.2.1
  unfold f_X2_evaluate_B17_L248 at hf
  refine lv_iinc (v := (x4 + 1)) (lv' := [(4, .int (x4 + 1)), (0, .ref x0), (1, .ref x1), (2, .int x2), (3, .int x3)]) hx hb dX2_evaluate_248 hl (k := 4) rfl rfl (Nat.le_of_ble_eq_true rfl) rfl (fun ls hl => ?_)
  refine lv_goto (tgt := 17) hx hb dX2_evaluate_251 (by decide) ?_
  exact kI x2 x3 (x4 + 1) σ (Option.some.inj hf).symm _ _ _ hw (lv_sub hl [1, 2, 3, 4, 0] rfl)
set_option maxHeartbeats 4000000 in
set_option maxRecDepth 100000 in
theorem t_X2_evaluate_B17_L211 (hC : zC p l s m args meth c cX2_evaluate 6 RX2 D cA B0) (hr : meth.sig.returnType = (Option.some FieldType.boolean)) {Γ : zSh} {x0 : Nat} {x1 : Nat} {x2 : Int32} {x4 : Int32} {x5 : Int32}  {σ : zSt} {out : ((Int32 × Int32 × Int32 × zSt) ⊕ (Int32 × Int32 × zSt))} (hf : f_X2_evaluate_B17_L211 Γ x0 x1 x2 x4 x5 σ = some out) {H : Heap} {locs : List Loc} {ls : Array Slot} (hw : zO D cA B0 Γ σ Z s.heap H locs) (hl : lv_has ls 6 [(0, .ref x0), (1, .ref x1), (2, .int x2), (4, .int x4), (5, .int x5)])
    (kI : ∀ (z2 : Int32) (z3 : Int32) (z4 : Int32) (σ2 : zSt), out = .inl (z2, z3, z4, σ2) → ∀ (H : Heap) (locs : List Loc) (ls : Array Slot), zO D cA B0 Γ σ2 Z s.heap H locs → lv_has ls 6 [(0, .ref x0), (1, .ref x1), (2, .int z2), (3, .int z3), (4, .int z4)] → W p l e rm_X2_evaluate s m args below meth c H locs 0 0 Q (F0 m 17 ls []))
    (kE : ∀ (z2 : Int32) (z3 : Int32) (σ2 : zSt), out = .inr (z2, z3, σ2) → ∀ (H : Heap) (locs : List Loc) (ls : Array Slot), zO D cA B0 Γ σ2 Z s.heap H locs → lv_has ls 6 [(0, .ref x0), (1, .ref x1), (2, .int z2), (3, .int z3)] → W p l e rm_X2_evaluate s m args below meth c H locs 0 0 Q (F0 m 254 ls [])) :
    W p l e rm_X2_evaluate s m args below meth c H locs 0 0 Q (F0 m 211 ls []) := by
  have hx := hC.1
  have hb := hC.2.1
  unfold f_X2_evaluate_B17_L211 at hf
  refine lv_aload_n hx hb dX2_evaluate_211 rfl (lv_at hl 0 rfl) ?_
  refine lv_iload_n hx hb dX2_evaluate_212 rfl (lv_at hl 2 rfl) ?_
  refine lv_aload_n hx hb dX2_evaluate_213 rfl (lv_at hl 1 rfl) ?_
  obtain ⟨ho, hf⟩ := chk_inv hf
  obtain ⟨r9, σ8, hk, hf⟩ := bnd_inv hf
  refine z_callV (As := [.int x2, .ref x1]) (rest := []) (m_X2_closeFactor hC.2.2.2.2.2.2.2.2 hk) hC hw wd_X2_closeFactor lkM_X2_68 (isO_sh ho) rfl rfl ⟨rfl, rfl⟩ ⟨(Nat.le_of_ble_eq_true rfl), (Nat.le_of_ble_eq_true rfl)⟩ hl.1 rfl (Nat.le_of_ble_eq_true rfl) dX2_evaluate_214 ⟨(Nat.le_of_ble_eq_true rfl), (Nat.le_of_ble_eq_true rfl)⟩ (fun H locs hw => ?_)
  refine lv_istore_n (lv' := [(3, .int r9), (0, .ref x0), (1, .ref x1), (2, .int x2), (4, .int x4), (5, .int x5)]) hx hb dX2_evaluate_217 rfl hl (Nat.le_of_ble_eq_true rfl) rfl (fun ls hl => ?_)
  refine lv_iload hx hb dX2_evaluate_218 (lv_at hl 5 rfl) ?_
  refine lv_bipush (v := 40) hx hb dX2_evaluate_220 (by decide) ?_
  refine lv_icmp_ne (tgt := 242) hx hb dX2_evaluate_222 (by decide) (fun hc => ?_) (fun hc => ?_)
  · rw [if_neg hc] at hf
    refine lv_aload_n hx hb dX2_evaluate_242 rfl (lv_at hl 1 rfl) ?_
    refine lv_iload hx hb dX2_evaluate_243 (lv_at hl 5 rfl) ?_
    obtain ⟨ho, hf⟩ := chk_inv hf
    obtain ⟨_, σ10, hk, hf⟩ := bnd_inv hf
    refine z_callV (As := [.int x5]) (rest := []) (m_X2_beginFactor hC.2.2.2.2.2.2.2.2 hk) hC hw wd_X2_beginFactor lkM_X2_91 (isO_sh ho) rfl rfl ⟨rfl, rfl⟩ ⟨(Nat.le_of_ble_eq_true rfl), (Nat.le_of_ble_eq_true rfl)⟩ hl.1 rfl (Nat.le_of_ble_eq_true rfl) dX2_evaluate_245 ⟨(Nat.le_of_ble_eq_true rfl), (Nat.le_of_ble_eq_true rfl)⟩ (fun H locs hw => ?_)
    exact t_X2_evaluate_B17_L248 hC hr hf hw (lv_sub hl [1, 2, 3, 0, 4] rfl) kI kE
  · rw [if_pos hc] at hf
    refine lv_iload_n hx hb dX2_evaluate_225 rfl (lv_at hl 3 rfl) ?_
    refine lv_iconst (v := 1) hx hb dX2_evaluate_226 (by decide) ?_
    refine lv_iadd hx hb dX2_evaluate_227 ?_
    refine lv_bipush (v := 8) hx hb dX2_evaluate_228 (by decide) ?_
    refine r_min hC hl.1 lkM_X2_88 (Nat.le_of_ble_eq_true rfl) (Nat.le_of_ble_eq_true rfl) (Nat.le_of_ble_eq_true rfl) (Nat.le_of_ble_eq_true rfl) dX2_evaluate_230 ?_
    refine lv_istore_n (lv' := [(2, .int (if 8 < (x2 + 1) then 8 else (x2 + 1))), (3, .int r9), (0, .ref x0), (1, .ref x1), (4, .int x4), (5, .int x5)]) hx hb dX2_evaluate_233 rfl hl (Nat.le_of_ble_eq_true rfl) rfl (fun ls hl => ?_)
    refine lv_aload_n hx hb dX2_evaluate_234 rfl (lv_at hl 2 rfl) ?_
    refine lv_iload_n hx hb dX2_evaluate_235 rfl (lv_at hl 0 rfl) ?_
    obtain ⟨ho, hf⟩ := chk_inv hf
    obtain ⟨_, σ11, hk, hf⟩ := bnd_inv hf
    refine z_callV (As := [.int (if 8 < (x2 + 1) then 8 else (x2 + 1))]) (rest := []) (m_X2_open hC.2.2.2.2.2.2.2.2 hk) hC hw wd_X2_open lkM_X2_61 (isO_sh ho) rfl rfl ⟨rfl, rfl⟩ ⟨(Nat.le_of_ble_eq_true rfl), (Nat.le_of_ble_eq_true rfl)⟩ hl.1 rfl (Nat.le_of_ble_eq_true rfl) dX2_evaluate_236 ⟨(Nat.le_of_ble_eq_true rfl), (Nat.le_of_ble_eq_true rfl)⟩ (fun H locs hw => ?_)
    refine lv_goto (tgt := 248) hx hb dX2_evaluate_239 (by decide) ?_
    exact t_X2_evaluate_B17_L248 hC hr hf hw (lv_sub hl [2, 3, 0, 1, 4] rfl) kI kE
set_option maxHeartbeats 4000000 in
set_option maxRecDepth 100000 in
theorem t_X2_evaluate_B17_L119 (hC : zC p l s m args meth c cX2_evaluate 6 RX2 D cA B0) (hr : meth.sig.returnType = (Option.some FieldType.boolean)) {Γ : zSh} {x0 : Nat} {x1 : Nat} {x2 : Int32} {x4 : Int32} {s0 : Int32}  {σ : zSt} {out : ((Int32 × Int32 × Int32 × zSt) ⊕ (Int32 × Int32 × zSt))} (hf : f_X2_evaluate_B17_L119 Γ x0 x1 x2 x4 s0 σ = some out) {H : Heap} {locs : List Loc} {ls : Array Slot} (hw : zO D cA B0 Γ σ Z s.heap H locs) (hl : lv_has ls 6 [(0, .ref x0), (1, .ref x1), (2, .int x2), (4, .int x4)])
    (kI : ∀ (z2 : Int32) (z3 : Int32) (z4 : Int32) (σ2 : zSt), out = .inl (z2, z3, z4, σ2) → ∀ (H : Heap) (locs : List Loc) (ls : Array Slot), zO D cA B0 Γ σ2 Z s.heap H locs → lv_has ls 6 [(0, .ref x0), (1, .ref x1), (2, .int z2), (3, .int z3), (4, .int z4)] → W p l e rm_X2_evaluate s m args below meth c H locs 0 0 Q (F0 m 17 ls []))
    (kE : ∀ (z2 : Int32) (z3 : Int32) (σ2 : zSt), out = .inr (z2, z3, σ2) → ∀ (H : Heap) (locs : List Loc) (ls : Array Slot), zO D cA B0 Γ σ2 Z s.heap H locs → lv_has ls 6 [(0, .ref x0), (1, .ref x1), (2, .int z2), (3, .int z3)] → W p l e rm_X2_evaluate s m args below meth c H locs 0 0 Q (F0 m 254 ls [])) :
    W p l e rm_X2_evaluate s m args below meth c H locs 0 0 Q (F0 m 119 ls [.int s0]) := by
  have hx := hC.1
  have hb := hC.2.1
  unfold f_X2_evaluate_B17_L119 at hf
  refine lv_istore_n (lv' := [(3, .int s0), (0, .ref x0), (1, .ref x1), (2, .int x2), (4, .int x4)]) hx hb dX2_evaluate_119 rfl hl (Nat.le_of_ble_eq_true rfl) rfl (fun ls hl => ?_)
  refine lv_aload_n hx hb dX2_evaluate_120 rfl (lv_at hl 1 rfl) ?_
  obtain ⟨v25, hg, hf⟩ := gfR_inv hf
  refine r_gfR hC hw hg clX2 (Nat.le_of_ble_eq_true rfl) lkF_X2_38 rfl dX2_evaluate_121 ?_
  refine lv_aload_n hx hb dX2_evaluate_124 rfl (lv_at hl 1 rfl) ?_
  obtain ⟨v26, hg, hf⟩ := gfR_inv hf
  refine r_gfR hC hw hg clX2 (Nat.le_of_ble_eq_true rfl) lkF_X2_19 rfl dX2_evaluate_125 ?_
  refine lv_iload_n hx hb dX2_evaluate_128 rfl (lv_at hl 3 rfl) ?_
  obtain ⟨v27, hg, hf⟩ := ldA_inv hf
  refine r_ldA hC hw hg dX2_evaluate_129 ?_
  obtain ⟨ho, hf⟩ := chk_inv hf
  obtain ⟨_, σ28, hk, hf⟩ := bnd_inv hf
  refine z_callV (As := [.ref v27]) (rest := []) (m_X0_copyFrom hC.2.2.2.2.2.2.2.2 hk) hC hw wd_X0_copyFrom lkM_X2_75 (isO_sh ho) rfl rfl ⟨rfl, rfl⟩ ⟨(Nat.le_of_ble_eq_true rfl), (Nat.le_of_ble_eq_true rfl)⟩ hl.1 rfl (Nat.le_of_ble_eq_true rfl) dX2_evaluate_130 ⟨(Nat.le_of_ble_eq_true rfl), (Nat.le_of_ble_eq_true rfl)⟩ (fun H locs hw => ?_)
  refine lv_aload_n hx hb dX2_evaluate_133 rfl (lv_at hl 1 rfl) ?_
  refine lv_iconst (v := 1) hx hb dX2_evaluate_134 (by decide) ?_
  obtain ⟨σ29, hg, hf⟩ := pfZ_inv hf
  refine r_pfZ hC hw hg clX2 (Nat.le_of_ble_eq_true rfl) lkF_X2_57 rfl rfl rfl dX2_evaluate_135 (fun H locs hw => ?_)
  refine lv_iload_n hx hb dX2_evaluate_138 rfl (lv_at hl 3 rfl) ?_
  refine lv_iconst (v := 1) hx hb dX2_evaluate_139 (by decide) ?_
  refine lv_isub hx hb dX2_evaluate_140 ?_
  refine lv_iconst (v := 0) hx hb dX2_evaluate_141 (by decide) ?_
  refine r_max hC hl.1 lkM_X2_79 (Nat.le_of_ble_eq_true rfl) (Nat.le_of_ble_eq_true rfl) (Nat.le_of_ble_eq_true rfl) (Nat.le_of_ble_eq_true rfl) dX2_evaluate_142 ?_
  refine lv_istore_n (lv' := [(2, .int (if (x2 - 1) < 0 then 0 else (x2 - 1))), (3, .int s0), (0, .ref x0), (1, .ref x1), (4, .int x4)]) hx hb dX2_evaluate_145 rfl hl (Nat.le_of_ble_eq_true rfl) rfl (fun ls hl => ?_)
  refine lv_goto (tgt := 248) hx hb dX2_evaluate_146 (by decide) ?_
  exact t_X2_evaluate_B17_L248 hC hr hf hw (lv_sub hl [2, 3, 0, 1, 4] rfl) kI kE
set_option maxHeartbeats 4000000 in
set_option maxRecDepth 100000 in
theorem t_X2_evaluate_B17_L118 (hC : zC p l s m args meth c cX2_evaluate 6 RX2 D cA B0) (hr : meth.sig.returnType = (Option.some FieldType.boolean)) {Γ : zSh} {x0 : Nat} {x1 : Nat} {x2 : Int32} {x4 : Int32}  {σ : zSt} {out : ((Int32 × Int32 × Int32 × zSt) ⊕ (Int32 × Int32 × zSt))} (hf : f_X2_evaluate_B17_L118 Γ x0 x1 x2 x4 σ = some out) {H : Heap} {locs : List Loc} {ls : Array Slot} (hw : zO D cA B0 Γ σ Z s.heap H locs) (hl : lv_has ls 6 [(0, .ref x0), (1, .ref x1), (2, .int x2), (4, .int x4)])
    (kI : ∀ (z2 : Int32) (z3 : Int32) (z4 : Int32) (σ2 : zSt), out = .inl (z2, z3, z4, σ2) → ∀ (H : Heap) (locs : List Loc) (ls : Array Slot), zO D cA B0 Γ σ2 Z s.heap H locs → lv_has ls 6 [(0, .ref x0), (1, .ref x1), (2, .int z2), (3, .int z3), (4, .int z4)] → W p l e rm_X2_evaluate s m args below meth c H locs 0 0 Q (F0 m 17 ls []))
    (kE : ∀ (z2 : Int32) (z3 : Int32) (σ2 : zSt), out = .inr (z2, z3, σ2) → ∀ (H : Heap) (locs : List Loc) (ls : Array Slot), zO D cA B0 Γ σ2 Z s.heap H locs → lv_has ls 6 [(0, .ref x0), (1, .ref x1), (2, .int z2), (3, .int z3)] → W p l e rm_X2_evaluate s m args below meth c H locs 0 0 Q (F0 m 254 ls [])) :
    W p l e rm_X2_evaluate s m args below meth c H locs 0 0 Q (F0 m 118 ls []) := by
  have hx := hC.1
  have hb := hC.2.1
  unfold f_X2_evaluate_B17_L118 at hf
  refine lv_iconst (v := 0) hx hb dX2_evaluate_118 (by decide) ?_
  exact t_X2_evaluate_B17_L119 hC hr hf hw (lv_sub hl [0, 1, 2, 3] rfl) kI kE
set_option maxHeartbeats 4000000 in
set_option maxRecDepth 100000 in
theorem t_X2_evaluate_B17_L85 (hC : zC p l s m args meth c cX2_evaluate 6 RX2 D cA B0) (hr : meth.sig.returnType = (Option.some FieldType.boolean)) {Γ : zSh} {x0 : Nat} {x1 : Nat} {x2 : Int32} {x4 : Int32} {s0 : Int32}  {σ : zSt} {out : ((Int32 × Int32 × Int32 × zSt) ⊕ (Int32 × Int32 × zSt))} (hf : f_X2_evaluate_B17_L85 Γ x0 x1 x2 x4 s0 σ = some out) {H : Heap} {locs : List Loc} {ls : Array Slot} (hw : zO D cA B0 Γ σ Z s.heap H locs) (hl : lv_has ls 6 [(0, .ref x0), (1, .ref x1), (2, .int x2), (4, .int x4)])
    (kI : ∀ (z2 : Int32) (z3 : Int32) (z4 : Int32) (σ2 : zSt), out = .inl (z2, z3, z4, σ2) → ∀ (H : Heap) (locs : List Loc) (ls : Array Slot), zO D cA B0 Γ σ2 Z s.heap H locs → lv_has ls 6 [(0, .ref x0), (1, .ref x1), (2, .int z2), (3, .int z3), (4, .int z4)] → W p l e rm_X2_evaluate s m args below meth c H locs 0 0 Q (F0 m 17 ls []))
    (kE : ∀ (z2 : Int32) (z3 : Int32) (σ2 : zSt), out = .inr (z2, z3, σ2) → ∀ (H : Heap) (locs : List Loc) (ls : Array Slot), zO D cA B0 Γ σ2 Z s.heap H locs → lv_has ls 6 [(0, .ref x0), (1, .ref x1), (2, .int z2), (3, .int z3)] → W p l e rm_X2_evaluate s m args below meth c H locs 0 0 Q (F0 m 254 ls [])) :
    W p l e rm_X2_evaluate s m args below meth c H locs 0 0 Q (F0 m 85 ls [.int s0]) := by
  have hx := hC.1
  have hb := hC.2.1
  unfold f_X2_evaluate_B17_L85 at hf
  refine lv_istore_n (lv' := [(3, .int s0), (0, .ref x0), (1, .ref x1), (2, .int x2), (4, .int x4)]) hx hb dX2_evaluate_85 rfl hl (Nat.le_of_ble_eq_true rfl) rfl (fun ls hl => ?_)
  refine lv_goto (tgt := 248) hx hb dX2_evaluate_86 (by decide) ?_
  exact t_X2_evaluate_B17_L248 hC hr hf hw (lv_sub hl [1, 2, 3, 0, 4] rfl) kI kE
set_option maxHeartbeats 4000000 in
set_option maxRecDepth 100000 in
theorem t_X2_evaluate_B17_L84 (hC : zC p l s m args meth c cX2_evaluate 6 RX2 D cA B0) (hr : meth.sig.returnType = (Option.some FieldType.boolean)) {Γ : zSh} {x0 : Nat} {x1 : Nat} {x2 : Int32} {x4 : Int32}  {σ : zSt} {out : ((Int32 × Int32 × Int32 × zSt) ⊕ (Int32 × Int32 × zSt))} (hf : f_X2_evaluate_B17_L84 Γ x0 x1 x2 x4 σ = some out) {H : Heap} {locs : List Loc} {ls : Array Slot} (hw : zO D cA B0 Γ σ Z s.heap H locs) (hl : lv_has ls 6 [(0, .ref x0), (1, .ref x1), (2, .int x2), (4, .int x4)])
    (kI : ∀ (z2 : Int32) (z3 : Int32) (z4 : Int32) (σ2 : zSt), out = .inl (z2, z3, z4, σ2) → ∀ (H : Heap) (locs : List Loc) (ls : Array Slot), zO D cA B0 Γ σ2 Z s.heap H locs → lv_has ls 6 [(0, .ref x0), (1, .ref x1), (2, .int z2), (3, .int z3), (4, .int z4)] → W p l e rm_X2_evaluate s m args below meth c H locs 0 0 Q (F0 m 17 ls []))
    (kE : ∀ (z2 : Int32) (z3 : Int32) (σ2 : zSt), out = .inr (z2, z3, σ2) → ∀ (H : Heap) (locs : List Loc) (ls : Array Slot), zO D cA B0 Γ σ2 Z s.heap H locs → lv_has ls 6 [(0, .ref x0), (1, .ref x1), (2, .int z2), (3, .int z3)] → W p l e rm_X2_evaluate s m args below meth c H locs 0 0 Q (F0 m 254 ls [])) :
    W p l e rm_X2_evaluate s m args below meth c H locs 0 0 Q (F0 m 84 ls []) := by
  have hx := hC.1
  have hb := hC.2.1
  unfold f_X2_evaluate_B17_L84 at hf
  refine lv_iconst (v := 0) hx hb dX2_evaluate_84 (by decide) ?_
  exact t_X2_evaluate_B17_L85 hC hr hf hw (lv_sub hl [0, 1, 2, 3] rfl) kI kE
set_option maxHeartbeats 4000000 in
set_option maxRecDepth 100000 in
theorem t_X2_evaluate_B17 (hC : zC p l s m args meth c cX2_evaluate 6 RX2 D cA B0) (hr : meth.sig.returnType = (Option.some FieldType.boolean)) {Γ : zSh} {x0 : Nat} {x1 : Nat} {x2 : Int32} {x3 : Int32} {x4 : Int32} {σ : zSt} {out : ((Int32 × Int32 × Int32 × zSt) ⊕ (Int32 × Int32 × zSt))} (hf : f_X2_evaluate_B17 Γ x0 x1 x2 x3 x4 σ = some out) {H : Heap} {locs : List Loc} {ls : Array Slot} (hw : zO D cA B0 Γ σ Z s.heap H locs) (hl : lv_has ls 6 [(0, .ref x0), (1, .ref x1), (2, .int x2), (3, .int x3), (4, .int x4)])
    (kI : ∀ (z2 : Int32) (z3 : Int32) (z4 : Int32) (σ2 : zSt), out = .inl (z2, z3, z4, σ2) → ∀ (H : Heap) (locs : List Loc) (ls : Array Slot), zO D cA B0 Γ σ2 Z s.heap H locs → lv_has ls 6 [(0, .ref x0), (1, .ref x1), (2, .int z2), (3, .int z3), (4, .int z4)] → W p l e rm_X2_evaluate s m args below meth c H locs 0 0 Q (F0 m 17 ls []))
    (kE : ∀ (z2 : Int32) (z3 : Int32) (σ2 : zSt), out = .inr (z2, z3, σ2) → ∀ (H : Heap) (locs : List Loc) (ls : Array Slot), zO D cA B0 Γ σ2 Z s.heap H locs → lv_has ls 6 [(0, .ref x0), (1, .ref x1), (2, .int z2), (3, .int z3)] → W p l e rm_X2_evaluate s m args below meth c H locs 0 0 Q (F0 m 254 ls [])) :
    W p l e rm_X2_evaluate s m args below meth c H locs 0 0 Q (F0 m 17 ls []) := by
  have hx := hC.1
  have hb := hC.2.1
  unfold f_X2_evaluate_B17 at hf
  refine lv_iload hx hb dX2_evaluate_17 (lv_at hl 4 rfl) ?_
  refine lv_aload_n hx hb dX2_evaluate_19 rfl (lv_at hl 0 rfl) ?_
  obtain ⟨v3, hg, hf⟩ := gfI_inv hf
  refine r_gfI hC hw hg clX2 (Nat.le_of_ble_eq_true rfl) lkF_X2_45 rfl dX2_evaluate_20 ?_
  refine lv_icmp_ge (tgt := 254) hx hb dX2_evaluate_23 (by decide) (fun hc => ?_) (fun hc => ?_)
  · rw [if_pos hc] at hf
    exact kE x2 x3 σ (Option.some.inj hf).symm _ _ _ hw (lv_sub hl [0, 1, 2, 3] rfl)
  · rw [if_neg hc] at hf
    refine lv_iload_n hx hb dX2_evaluate_26 rfl (lv_at hl 3 rfl) ?_
    refine lv_if_eq (tgt := 254) hx hb dX2_evaluate_27 (by decide) (fun hc => ?_) (fun hc => ?_)
    · rw [if_pos hc] at hf
      exact kE x2 x3 σ (Option.some.inj hf).symm _ _ _ hw (lv_sub hl [0, 1, 2, 3] rfl)
    · rw [if_neg hc] at hf
      refine lv_aload_n hx hb dX2_evaluate_30 rfl (lv_at hl 0 rfl) ?_
      obtain ⟨v4, hg, hf⟩ := gfR_inv hf
      refine r_gfR hC hw hg clX2 (Nat.le_of_ble_eq_true rfl) lkF_X2_9 rfl dX2_evaluate_31 ?_
      refine lv_iload hx hb dX2_evaluate_34 (lv_at hl 4 rfl) ?_
      obtain ⟨v5, hg, hf⟩ := ldI_inv hf
      refine r_ldI hC hw hg dX2_evaluate_36 ?_
      refine lv_istore (lv' := [(5, .int v5), (0, .ref x0), (1, .ref x1), (2, .int x2), (3, .int x3), (4, .int x4)]) hx hb dX2_evaluate_37 hl (Nat.le_of_ble_eq_true rfl) rfl (fun ls hl => ?_)
      refine lv_iload hx hb dX2_evaluate_39 (lv_at hl 0 rfl) ?_
      refine lv_bipush (v := 42) hx hb dX2_evaluate_41 (by decide) ?_
      refine lv_icmp_ne (tgt := 55) hx hb dX2_evaluate_43 (by decide) (fun hc => ?_) (fun hc => ?_)
      · rw [if_neg hc] at hf
        refine lv_iload hx hb dX2_evaluate_55 (lv_at hl 0 rfl) ?_
        refine lv_bipush (v := 43) hx hb dX2_evaluate_57 (by decide) ?_
        refine lv_icmp_ne (tgt := 89) hx hb dX2_evaluate_59 (by decide) (fun hc => ?_) (fun hc => ?_)
        · rw [if_neg hc] at hf
          refine lv_iload hx hb dX2_evaluate_89 (lv_at hl 0 rfl) ?_
          refine lv_bipush (v := 41) hx hb dX2_evaluate_91 (by decide) ?_
          refine lv_icmp_ne (tgt := 149) hx hb dX2_evaluate_93 (by decide) (fun hc => ?_) (fun hc => ?_)
          · rw [if_neg hc] at hf
            refine lv_iload hx hb dX2_evaluate_149 (lv_at hl 0 rfl) ?_
            obtain ⟨r7, σ6, hk, hf⟩ := bnd_inv hf
            refine z_callS (As := [.int v5]) (rest := []) (m_X2_isDigit hC.2.2.2.2.2.2.2.2 hk) hC hw wd_X2_isDigit lkM_X2_49 rfl ⟨rfl, rfl⟩ ⟨(Nat.le_of_ble_eq_true rfl), (Nat.le_of_ble_eq_true rfl)⟩ hl.1 rfl (Nat.le_of_ble_eq_true rfl) dX2_evaluate_151 ⟨(Nat.le_of_ble_eq_true rfl), (Nat.le_of_ble_eq_true rfl)⟩ (fun H locs hw => ?_)
            refine lv_if_eq (tgt := 211) hx hb dX2_evaluate_154 (by decide) (fun hc => ?_) (fun hc => ?_)
            · rw [if_pos hc] at hf
              exact t_X2_evaluate_B17_L211 hC hr hf hw (lv_sub hl [1, 2, 3, 5, 0] rfl) kI kE
            · rw [if_neg hc] at hf
              refine lv_iload hx hb dX2_evaluate_157 (lv_at hl 5 rfl) ?_
              refine lv_if_le (tgt := 211) hx hb dX2_evaluate_159 (by decide) (fun hc => ?_) (fun hc => ?_)
              · rw [if_pos hc] at hf
                exact t_X2_evaluate_B17_L211 hC hr hf hw (lv_sub hl [1, 2, 3, 5, 0] rfl) kI kE
              · rw [if_neg hc] at hf
                refine lv_aload_n hx hb dX2_evaluate_162 rfl (lv_at hl 1 rfl) ?_
                obtain ⟨v12, hg, hf⟩ := gfR_inv hf
                refine r_gfR hC hw hg clX2 (Nat.le_of_ble_eq_true rfl) lkF_X2_9 rfl dX2_evaluate_163 ?_
                refine lv_iload hx hb dX2_evaluate_166 (lv_at hl 5 rfl) ?_
                refine lv_iconst (v := 1) hx hb dX2_evaluate_168 (by decide) ?_
                refine lv_isub hx hb dX2_evaluate_169 ?_
                obtain ⟨v13, hg, hf⟩ := ldI_inv hf
                refine r_ldI hC hw hg dX2_evaluate_170 ?_
                obtain ⟨r15, σ14, hk, hf⟩ := bnd_inv hf
                refine z_callS (As := [.int v13]) (rest := []) (m_X2_isDigit hC.2.2.2.2.2.2.2.2 hk) hC hw wd_X2_isDigit lkM_X2_49 rfl ⟨rfl, rfl⟩ ⟨(Nat.le_of_ble_eq_true rfl), (Nat.le_of_ble_eq_true rfl)⟩ hl.1 rfl (Nat.le_of_ble_eq_true rfl) dX2_evaluate_171 ⟨(Nat.le_of_ble_eq_true rfl), (Nat.le_of_ble_eq_true rfl)⟩ (fun H locs hw => ?_)
                refine lv_if_eq (tgt := 211) hx hb dX2_evaluate_174 (by decide) (fun hc => ?_) (fun hc => ?_)
                · rw [if_pos hc] at hf
                  exact t_X2_evaluate_B17_L211 hC hr hf hw (lv_sub hl [1, 2, 3, 5, 0] rfl) kI kE
                · rw [if_neg hc] at hf
                  refine lv_aload_n hx hb dX2_evaluate_177 rfl (lv_at hl 1 rfl) ?_
                  obtain ⟨v16, hg, hf⟩ := gfR_inv hf
                  refine r_gfR hC hw hg clX2 (Nat.le_of_ble_eq_true rfl) lkF_X2_38 rfl dX2_evaluate_178 ?_
                  obtain ⟨v17, hg, hf⟩ := gfR_inv hf
                  refine r_gfR hC hw hg clX0 (Nat.le_of_ble_eq_true rfl) lkF_X2_85 rfl dX2_evaluate_181 ?_
                  refine lv_iconst (v := 0) hx hb dX2_evaluate_184 (by decide) ?_
                  refine lv_bipush (v := 10) hx hb dX2_evaluate_185 (by decide) ?_
                  refine lv_aload_n hx hb dX2_evaluate_187 rfl (lv_at hl 1 rfl) ?_
                  obtain ⟨v18, hg, hf⟩ := gfR_inv hf
                  refine r_gfR hC hw hg clX2 (Nat.le_of_ble_eq_true rfl) lkF_X2_38 rfl dX2_evaluate_188 ?_
                  obtain ⟨v19, hg, hf⟩ := gfR_inv hf
                  refine r_gfR hC hw hg clX0 (Nat.le_of_ble_eq_true rfl) lkF_X2_85 rfl dX2_evaluate_191 ?_
                  refine lv_iconst (v := 0) hx hb dX2_evaluate_194 (by decide) ?_
                  obtain ⟨v20, hg, hf⟩ := ldI_inv hf
                  refine r_ldI hC hw hg dX2_evaluate_195 ?_
                  refine lv_imul hx hb dX2_evaluate_196 ?_
                  refine lv_iload hx hb dX2_evaluate_197 (lv_at hl 0 rfl) ?_
                  refine lv_iadd hx hb dX2_evaluate_199 ?_
                  refine lv_bipush (v := 48) hx hb dX2_evaluate_200 (by decide) ?_
                  refine lv_isub hx hb dX2_evaluate_202 ?_
                  refine lv_sipush (v := 10007) hx hb dX2_evaluate_203 (by decide) ?_
                  obtain ⟨v21, hg, hf⟩ := rmI_inv hf
                  refine r_rmI hC hg dX2_evaluate_206 ?_
                  obtain ⟨σ22, hg, hf⟩ := stI_inv hf
                  refine r_stI hC hw hg dX2_evaluate_207 (fun H locs hw => ?_)
                  refine lv_goto (tgt := 248) hx hb dX2_evaluate_208 (by decide) ?_
                  exact t_X2_evaluate_B17_L248 hC hr hf hw (lv_sub hl [1, 2, 3, 4, 5] rfl) kI kE
          · rw [if_pos hc] at hf
            refine lv_aload_n hx hb dX2_evaluate_96 rfl (lv_at hl 1 rfl) ?_
            refine lv_iload_n hx hb dX2_evaluate_97 rfl (lv_at hl 3 rfl) ?_
            refine lv_aload_n hx hb dX2_evaluate_98 rfl (lv_at hl 2 rfl) ?_
            obtain ⟨ho, hf⟩ := chk_inv hf
            obtain ⟨r24, σ23, hk, hf⟩ := bnd_inv hf
            refine z_callV (As := [.int x2, .ref x1]) (rest := []) (m_X2_closeFactor hC.2.2.2.2.2.2.2.2 hk) hC hw wd_X2_closeFactor lkM_X2_68 (isO_sh ho) rfl rfl ⟨rfl, rfl⟩ ⟨(Nat.le_of_ble_eq_true rfl), (Nat.le_of_ble_eq_true rfl)⟩ hl.1 rfl (Nat.le_of_ble_eq_true rfl) dX2_evaluate_99 ⟨(Nat.le_of_ble_eq_true rfl), (Nat.le_of_ble_eq_true rfl)⟩ (fun H locs hw => ?_)
            refine lv_if_eq (tgt := 118) hx hb dX2_evaluate_102 (by decide) (fun hc => ?_) (fun hc => ?_)
            · rw [if_pos hc] at hf
              exact t_X2_evaluate_B17_L118 hC hr hf hw (lv_sub hl [1, 2, 3, 5] rfl) kI kE
            · rw [if_neg hc] at hf
              refine lv_aload_n hx hb dX2_evaluate_105 rfl (lv_at hl 1 rfl) ?_
              refine lv_iload_n hx hb dX2_evaluate_106 rfl (lv_at hl 3 rfl) ?_
              refine lv_aload_n hx hb dX2_evaluate_107 rfl (lv_at hl 2 rfl) ?_
              obtain ⟨ho, hf⟩ := chk_inv hf
              obtain ⟨r31, σ30, hk, hf⟩ := bnd_inv hf
              refine z_callV (As := [.int x2, .ref x1]) (rest := []) (m_X2_closeProduct hC.2.2.2.2.2.2.2.2 hk) hC hw wd_X2_closeProduct lkM_X2_72 (isO_sh ho) rfl rfl ⟨rfl, rfl⟩ ⟨(Nat.le_of_ble_eq_true rfl), (Nat.le_of_ble_eq_true rfl)⟩ hl.1 rfl (Nat.le_of_ble_eq_true rfl) dX2_evaluate_108 ⟨(Nat.le_of_ble_eq_true rfl), (Nat.le_of_ble_eq_true rfl)⟩ (fun H locs hw => ?_)
              refine lv_if_eq (tgt := 118) hx hb dX2_evaluate_111 (by decide) (fun hc => ?_) (fun hc => ?_)
              · rw [if_pos hc] at hf
                exact t_X2_evaluate_B17_L118 hC hr hf hw (lv_sub hl [1, 2, 3, 5] rfl) kI kE
              · rw [if_neg hc] at hf
                refine lv_iconst (v := 1) hx hb dX2_evaluate_114 (by decide) ?_
                refine lv_goto (tgt := 119) hx hb dX2_evaluate_115 (by decide) ?_
                exact t_X2_evaluate_B17_L119 hC hr hf hw (lv_sub hl [1, 2, 3, 5] rfl) kI kE
        · rw [if_pos hc] at hf
          refine lv_aload_n hx hb dX2_evaluate_62 rfl (lv_at hl 1 rfl) ?_
          refine lv_iload_n hx hb dX2_evaluate_63 rfl (lv_at hl 3 rfl) ?_
          refine lv_aload_n hx hb dX2_evaluate_64 rfl (lv_at hl 2 rfl) ?_
          obtain ⟨ho, hf⟩ := chk_inv hf
          obtain ⟨r33, σ32, hk, hf⟩ := bnd_inv hf
          refine z_callV (As := [.int x2, .ref x1]) (rest := []) (m_X2_closeFactor hC.2.2.2.2.2.2.2.2 hk) hC hw wd_X2_closeFactor lkM_X2_68 (isO_sh ho) rfl rfl ⟨rfl, rfl⟩ ⟨(Nat.le_of_ble_eq_true rfl), (Nat.le_of_ble_eq_true rfl)⟩ hl.1 rfl (Nat.le_of_ble_eq_true rfl) dX2_evaluate_65 ⟨(Nat.le_of_ble_eq_true rfl), (Nat.le_of_ble_eq_true rfl)⟩ (fun H locs hw => ?_)
          refine lv_if_eq (tgt := 84) hx hb dX2_evaluate_68 (by decide) (fun hc => ?_) (fun hc => ?_)
          · rw [if_pos hc] at hf
            exact t_X2_evaluate_B17_L84 hC hr hf hw (lv_sub hl [1, 2, 3, 5] rfl) kI kE
          · rw [if_neg hc] at hf
            refine lv_aload_n hx hb dX2_evaluate_71 rfl (lv_at hl 1 rfl) ?_
            refine lv_iload_n hx hb dX2_evaluate_72 rfl (lv_at hl 3 rfl) ?_
            refine lv_aload_n hx hb dX2_evaluate_73 rfl (lv_at hl 2 rfl) ?_
            obtain ⟨ho, hf⟩ := chk_inv hf
            obtain ⟨r35, σ34, hk, hf⟩ := bnd_inv hf
            refine z_callV (As := [.int x2, .ref x1]) (rest := []) (m_X2_closeProduct hC.2.2.2.2.2.2.2.2 hk) hC hw wd_X2_closeProduct lkM_X2_72 (isO_sh ho) rfl rfl ⟨rfl, rfl⟩ ⟨(Nat.le_of_ble_eq_true rfl), (Nat.le_of_ble_eq_true rfl)⟩ hl.1 rfl (Nat.le_of_ble_eq_true rfl) dX2_evaluate_74 ⟨(Nat.le_of_ble_eq_true rfl), (Nat.le_of_ble_eq_true rfl)⟩ (fun H locs hw => ?_)
            refine lv_if_eq (tgt := 84) hx hb dX2_evaluate_77 (by decide) (fun hc => ?_) (fun hc => ?_)
            · rw [if_pos hc] at hf
              exact t_X2_evaluate_B17_L84 hC hr hf hw (lv_sub hl [1, 2, 3, 5] rfl) kI kE
            · rw [if_neg hc] at hf
              refine lv_iconst (v := 1) hx hb dX2_evaluate_80 (by decide) ?_
              refine lv_goto (tgt := 85) hx hb dX2_evaluate_81 (by decide) ?_
              exact t_X2_evaluate_B17_L85 hC hr hf hw (lv_sub hl [1, 2, 3, 5] rfl) kI kE
      · rw [if_pos hc] at hf
        refine lv_aload_n hx hb dX2_evaluate_46 rfl (lv_at hl 1 rfl) ?_
        refine lv_aload_n hx hb dX2_evaluate_47 rfl (lv_at hl 2 rfl) ?_
        obtain ⟨ho, hf⟩ := chk_inv hf
        obtain ⟨r37, σ36, hk, hf⟩ := bnd_inv hf
        refine z_callV (As := [.ref x1]) (rest := []) (m_X2_repeatFactor hC.2.2.2.2.2.2.2.2 hk) hC hw wd_X2_repeatFactor lkM_X2_64 (isO_sh ho) rfl rfl ⟨rfl, rfl⟩ ⟨(Nat.le_of_ble_eq_true rfl), (Nat.le_of_ble_eq_true rfl)⟩ hl.1 rfl (Nat.le_of_ble_eq_true rfl) dX2_evaluate_48 ⟨(Nat.le_of_ble_eq_true rfl), (Nat.le_of_ble_eq_true rfl)⟩ (fun H locs hw => ?_)
        refine lv_istore_n (lv' := [(3, .int r37), (5, .int v5), (0, .ref x0), (1, .ref x1), (2, .int x2), (4, .int x4)]) hx hb dX2_evaluate_51 rfl hl (Nat.le_of_ble_eq_true rfl) rfl (fun ls hl => ?_)
        refine lv_goto (tgt := 248) hx hb dX2_evaluate_52 (by decide) ?_
        exact t_X2_evaluate_B17_L248 hC hr hf hw (lv_sub hl [2, 3, 4, 0, 5] rfl) kI kE
set_option maxHeartbeats 4000000 in
theorem l_X2_evaluate_B17 (hC : zC p l s m args meth c cX2_evaluate 6 RX2 D cA B0) (hr : meth.sig.returnType = (Option.some FieldType.boolean)) {Γ : zSh} {x0 : Nat} {x1 : Nat} {w2 : Int32} {w3 : Int32} {σ2 : zSt} (kE : ∀ (H : Heap) (locs : List Loc) (ls : Array Slot), zO D cA B0 Γ σ2 Z s.heap H locs → lv_has ls 6 [(0, .ref x0), (1, .ref x1), (2, .int w2), (3, .int w3)] → W p l e rm_X2_evaluate s m args below meth c H locs 0 0 Q (F0 m 254 ls [])) :
    ∀ (n : Nat) (x2 : Int32) (x3 : Int32) (x4 : Int32) (σ : zSt), loopM (fun q => f_X2_evaluate_B17 Γ x0 x1 q.1 q.2.1 q.2.2.1 q.2.2.2) n (x2, x3, x4, σ) = some (w2, w3, σ2) → ∀ (H : Heap) (locs : List Loc) (ls : Array Slot), zO D cA B0 Γ σ Z s.heap H locs → lv_has ls 6 [(0, .ref x0), (1, .ref x1), (2, .int x2), (3, .int x3), (4, .int x4)] → W p l e rm_X2_evaluate s m args below meth c H locs 0 0 Q (F0 m 17 ls []) := by
  intro n
  induction n with
  | zero => intro x2 x3 x4 σ h; exact absurd h (by simp [loopM])
  | succ n ih =>
    intro x2 x3 x4 σ h H locs ls hw hl
    obtain ⟨r, h1, h2, h3⟩ := loopM_inv h
    exact t_X2_evaluate_B17 hC hr h1 hw hl (fun z2 z3 z4 s2 e H locs ls hw hl => ih z2 z3 z4 s2 (h2 _ e) H locs ls hw hl) (fun z2 z3 s2 e H locs ls hw hl => by cases h3 _ e; exact kE H locs ls hw hl)
set_option maxHeartbeats 4000000 in
set_option maxRecDepth 100000 in
theorem t_X2_evaluate_L281 (hC : zC p l s m args meth c cX2_evaluate 6 RX2 D cA B0) (hr : meth.sig.returnType = (Option.some FieldType.boolean)) {Γ : zSh} {s0 : Int32} {σ : zSt} {out : (Int32 × zSt)} (hf : f_X2_evaluate_L281 Γ s0 σ = some out) {H : Heap} {locs : List Loc} {ls : Array Slot} (hw : zO D cA B0 Γ σ Z s.heap H locs) (hl : lv_has ls 6 []) :
    W p l e rm_X2_evaluate s m args below meth c H locs 0 0 (MQ below (zQ1 D cA B0 (some (.int out.1)) Γ out.2 Z) args s 0 0 (FR B0)) (F0 m 281 ls [.int s0]) := by
  have hx := hC.1
  have hb := hC.2.1
  unfold f_X2_evaluate_L281 at hf
  obtain ⟨hz, hf⟩ := chk_inv hf
  first | (obtain ⟨rfl, rfl⟩ := sp_inv hf) | (obtain rfl := Option.some.inj hf)
  exact W.zret hx hb hr (isB_n hz).1 (z_ret hw rfl) hw.2.2.2.2.2 dX2_evaluate_281 hC.2.2.2.2.2.1
set_option maxHeartbeats 4000000 in
set_option maxRecDepth 100000 in
theorem t_X2_evaluate_L280 (hC : zC p l s m args meth c cX2_evaluate 6 RX2 D cA B0) (hr : meth.sig.returnType = (Option.some FieldType.boolean)) {Γ : zSh}  {σ : zSt} {out : (Int32 × zSt)} (hf : f_X2_evaluate_L280 Γ  σ = some out) {H : Heap} {locs : List Loc} {ls : Array Slot} (hw : zO D cA B0 Γ σ Z s.heap H locs) (hl : lv_has ls 6 []) :
    W p l e rm_X2_evaluate s m args below meth c H locs 0 0 (MQ below (zQ1 D cA B0 (some (.int out.1)) Γ out.2 Z) args s 0 0 (FR B0)) (F0 m 280 ls []) := by
  have hx := hC.1
  have hb := hC.2.1
  unfold f_X2_evaluate_L280 at hf
  refine lv_iconst (v := 0) hx hb dX2_evaluate_280 (by decide) ?_
  exact t_X2_evaluate_L281 hC hr hf hw (lv_sub hl [] rfl)
set_option maxHeartbeats 4000000 in
set_option maxRecDepth 100000 in
theorem m_X2_evaluate (h9 : l.stackTraces = false) {Γ : zSh} {a0 : Nat} {a1 : Nat} {σ : zSt} {r : Int32} {σ2 : zSt} (hf : f_X2_evaluate Γ a0 a1 σ = some (r, σ2)) : Met l yX2_evaluate (wq yX2_evaluate cX2_evaluate 6 (Option.some FieldType.boolean)) rm_X2_evaluate (zQ0 D cA B0 [.ref a0, .ref a1] Γ σ Z) (zQ1 D cA B0 (some (.int r)) Γ σ2 Z) 0 0 (FR B0) := by
  refine z_ofW h9 (by decide) (Nat.le_of_ble_eq_true rfl) ?_
  intro p e s m args below meth c ls hC hr _ hw hl
  have hx := hC.1
  have hb := hC.2.1
  have hl : lv_has ls 6 [(0, .ref a0), (1, .ref a1)] := hl
  unfold f_X2_evaluate at hf
  refine lv_iconst (v := 0) hx hb dX2_evaluate_0 (by decide) ?_
  refine lv_istore_n (lv' := [(2, .int 0), (0, .ref a0), (1, .ref a1)]) hx hb dX2_evaluate_1 rfl hl (Nat.le_of_ble_eq_true rfl) rfl (fun ls hl => ?_)
  refine lv_aload_n hx hb dX2_evaluate_2 rfl (lv_at hl 1 rfl) ?_
  refine lv_iconst (v := 0) hx hb dX2_evaluate_3 (by decide) ?_
  obtain ⟨σ1, hg, hf⟩ := pfZ_inv hf
  refine r_pfZ hC hw hg clX2 (Nat.le_of_ble_eq_true rfl) lkF_X2_57 rfl rfl rfl dX2_evaluate_4 (fun H locs hw => ?_)
  refine lv_aload_n hx hb dX2_evaluate_7 rfl (lv_at hl 1 rfl) ?_
  refine lv_iload_n hx hb dX2_evaluate_8 rfl (lv_at hl 0 rfl) ?_
  obtain ⟨ho, hf⟩ := chk_inv hf
  obtain ⟨_, σ2, hk, hf⟩ := bnd_inv hf
  refine z_callV (As := [.int 0]) (rest := []) (m_X2_open hC.2.2.2.2.2.2.2.2 hk) hC hw wd_X2_open lkM_X2_61 (isO_sh ho) rfl rfl ⟨rfl, rfl⟩ ⟨(Nat.le_of_ble_eq_true rfl), (Nat.le_of_ble_eq_true rfl)⟩ hl.1 rfl (Nat.le_of_ble_eq_true rfl) dX2_evaluate_9 ⟨(Nat.le_of_ble_eq_true rfl), (Nat.le_of_ble_eq_true rfl)⟩ (fun H locs hw => ?_)
  refine lv_iconst (v := 1) hx hb dX2_evaluate_12 (by decide) ?_
  refine lv_istore_n (lv' := [(3, .int 1), (2, .int 0), (0, .ref a0), (1, .ref a1)]) hx hb dX2_evaluate_13 rfl hl (Nat.le_of_ble_eq_true rfl) rfl (fun ls hl => ?_)
  refine lv_iconst (v := 0) hx hb dX2_evaluate_14 (by decide) ?_
  refine lv_istore (lv' := [(4, .int 0), (3, .int 1), (2, .int 0), (0, .ref a0), (1, .ref a1)]) hx hb dX2_evaluate_15 hl (Nat.le_of_ble_eq_true rfl) rfl (fun ls hl => ?_)
  obtain ⟨w39, w40, σ38, hk, hf⟩ := lb2_inv hf
  refine l_X2_evaluate_B17 hC hr (fun H locs ls hw hl => ?_) FUEL 0 1 0 σ2 hk _ _ _ hw (lv_sub hl [3, 4, 2, 1, 0] rfl)
  refine lv_iload_n hx hb dX2_evaluate_254 rfl (lv_at hl 3 rfl) ?_
  refine lv_if_eq (tgt := 280) hx hb dX2_evaluate_255 (by decide) (fun hc => ?_) (fun hc => ?_)
  · rw [if_pos hc] at hf
    exact t_X2_evaluate_L280 hC hr hf hw (lv_sub hl [] rfl)
  · rw [if_neg hc] at hf
    refine lv_aload_n hx hb dX2_evaluate_258 rfl (lv_at hl 0 rfl) ?_
    refine lv_iload_n hx hb dX2_evaluate_259 rfl (lv_at hl 2 rfl) ?_
    refine lv_aload_n hx hb dX2_evaluate_260 rfl (lv_at hl 1 rfl) ?_
    obtain ⟨ho, hf⟩ := chk_inv hf
    obtain ⟨r42, σ41, hk, hf⟩ := bnd_inv hf
    refine z_callV (As := [.int w39, .ref a1]) (rest := []) (m_X2_closeFactor hC.2.2.2.2.2.2.2.2 hk) hC hw wd_X2_closeFactor lkM_X2_68 (isO_sh ho) rfl rfl ⟨rfl, rfl⟩ ⟨(Nat.le_of_ble_eq_true rfl), (Nat.le_of_ble_eq_true rfl)⟩ hl.1 rfl (Nat.le_of_ble_eq_true rfl) dX2_evaluate_261 ⟨(Nat.le_of_ble_eq_true rfl), (Nat.le_of_ble_eq_true rfl)⟩ (fun H locs hw => ?_)
    refine lv_if_eq (tgt := 280) hx hb dX2_evaluate_264 (by decide) (fun hc => ?_) (fun hc => ?_)
    · rw [if_pos hc] at hf
      exact t_X2_evaluate_L280 hC hr hf hw (lv_sub hl [] rfl)
    · rw [if_neg hc] at hf
      refine lv_aload_n hx hb dX2_evaluate_267 rfl (lv_at hl 0 rfl) ?_
      refine lv_iload_n hx hb dX2_evaluate_268 rfl (lv_at hl 2 rfl) ?_
      refine lv_aload_n hx hb dX2_evaluate_269 rfl (lv_at hl 1 rfl) ?_
      obtain ⟨ho, hf⟩ := chk_inv hf
      obtain ⟨r44, σ43, hk, hf⟩ := bnd_inv hf
      refine z_callV (As := [.int w39, .ref a1]) (rest := []) (m_X2_closeProduct hC.2.2.2.2.2.2.2.2 hk) hC hw wd_X2_closeProduct lkM_X2_72 (isO_sh ho) rfl rfl ⟨rfl, rfl⟩ ⟨(Nat.le_of_ble_eq_true rfl), (Nat.le_of_ble_eq_true rfl)⟩ hl.1 rfl (Nat.le_of_ble_eq_true rfl) dX2_evaluate_270 ⟨(Nat.le_of_ble_eq_true rfl), (Nat.le_of_ble_eq_true rfl)⟩ (fun H locs hw => ?_)
      refine lv_if_eq (tgt := 280) hx hb dX2_evaluate_273 (by decide) (fun hc => ?_) (fun hc => ?_)
      · rw [if_pos hc] at hf
        exact t_X2_evaluate_L280 hC hr hf hw (lv_sub hl [] rfl)
      · rw [if_neg hc] at hf
        refine lv_iconst (v := 1) hx hb dX2_evaluate_276 (by decide) ?_
        refine lv_goto (tgt := 281) hx hb dX2_evaluate_277 (by decide) ?_
        exact t_X2_evaluate_L281 hC hr hf hw (lv_sub hl [] rfl)
set_option maxHeartbeats 4000000 in
set_option maxRecDepth 100000 in
theorem t_X3_raisePivot_B3 (hC : zC p l s m args meth c cX3_raisePivot 6 RX3 D cA B0) (hr : meth.sig.returnType = (Option.some FieldType.boolean)) {Γ : zSh} {x0 : Nat} {x1 : Int32} {x2 : Int32} {x3 : Int32} {x4 : Int32} {σ : zSt} {out : ((Int32 × zSt) ⊕ ((zSt) ⊕ (Int32 × zSt)))} (hf : f_X3_raisePivot_B3 Γ x0 x1 x2 x3 x4 σ = some out) {H : Heap} {locs : List Loc} {ls : Array Slot} (hw : zO D cA B0 Γ σ Z s.heap H locs) (hl : lv_has ls 6 [(0, .ref x0), (1, .int x1), (2, .int x2), (3, .int x3), (4, .int x4)])
    (kI : ∀ (z4 : Int32) (σ2 : zSt), out = .inl (z4, σ2) → ∀ (H : Heap) (locs : List Loc) (ls : Array Slot), zO D cA B0 Γ σ2 Z s.heap H locs → lv_has ls 6 [(0, .ref x0), (1, .int x1), (2, .int x2), (3, .int x3), (4, .int z4)] → W p l e rm_X3_raisePivot s m args below meth c H locs 0 0 Q (F0 m 3 ls []))
    (kE : ∀ (σ2 : zSt), out = .inr (.inl σ2) → ∀ (H : Heap) (locs : List Loc) (ls : Array Slot), zO D cA B0 Γ σ2 Z s.heap H locs → lv_has ls 6 [] → W p l e rm_X3_raisePivot s m args below meth c H locs 0 0 Q (F0 m 59 ls []))
    (kR : ∀ (v : Int32) (σ2 : zSt), out = .inr (.inr (v, σ2)) → isB v = true → ∀ (H : Heap) (locs : List Loc) (ls : Array Slot) (pr : Nat), zO D cA B0 Γ σ2 Z s.heap H locs → decode cX3_raisePivot pr = .ok (.ireturn, 1) → W p l e rm_X3_raisePivot s m args below meth c H locs 0 0 Q (F0 m pr ls [.int v])) :
    W p l e rm_X3_raisePivot s m args below meth c H locs 0 0 Q (F0 m 3 ls []) := by
  have hx := hC.1
  have hb := hC.2.1
  unfold f_X3_raisePivot_B3 at hf
  refine lv_iload hx hb dX3_raisePivot_3 (lv_at hl 4 rfl) ?_
  refine lv_iload_n hx hb dX3_raisePivot_5 rfl (lv_at hl 2 rfl) ?_
  refine lv_icmp_ge (tgt := 59) hx hb dX3_raisePivot_6 (by decide) (fun hc => ?_) (fun hc => ?_)
  · rw [if_pos hc] at hf
    exact kE  σ (Option.some.inj hf).symm _ _ _ hw (lv_sub hl [] rfl)
  · rw [if_neg hc] at hf
    refine lv_aload_n hx hb dX3_raisePivot_9 rfl (lv_at hl 0 rfl) ?_
    obtain ⟨v1, hg, hf⟩ := gfR_inv hf
    refine r_gfR hC hw hg clX3 (Nat.le_of_ble_eq_true rfl) lkF_X3_11 rfl dX3_raisePivot_10 ?_
    refine lv_iload hx hb dX3_raisePivot_13 (lv_at hl 4 rfl) ?_
    obtain ⟨v2, hg, hf⟩ := ldG_inv hf
    refine r_ldG hC hw hg dX3_raisePivot_15 ?_
    refine lv_iload_n hx hb dX3_raisePivot_16 rfl (lv_at hl 3 rfl) ?_
    obtain ⟨v3, hg, hf⟩ := ldI_inv hf
    refine r_ldI hC hw hg dX3_raisePivot_17 ?_
    refine lv_if_eq (tgt := 53) hx hb dX3_raisePivot_18 (by decide) (fun hc => ?_) (fun hc => ?_)
    · rw [if_pos hc] at hf
      refine lv_iinc (v := (x4 + 1)) (lv' := [(4, .int (x4 + 1)), (0, .ref x0), (1, .int x1), (2, .int x2), (3, .int x3)]) hx hb dX3_raisePivot_53 hl (k := 4) rfl rfl (Nat.le_of_ble_eq_true rfl) rfl (fun ls hl => ?_)
      refine lv_goto (tgt := 3) hx hb dX3_raisePivot_56 (by decide) ?_
      exact kI (x4 + 1) σ (Option.some.inj hf).symm _ _ _ hw (lv_sub hl [1, 2, 3, 4, 0] rfl)
    · rw [if_neg hc] at hf
      refine lv_aload_n hx hb dX3_raisePivot_21 rfl (lv_at hl 0 rfl) ?_
      obtain ⟨v4, hg, hf⟩ := gfR_inv hf
      refine r_gfR hC hw hg clX3 (Nat.le_of_ble_eq_true rfl) lkF_X3_11 rfl dX3_raisePivot_22 ?_
      refine lv_iload hx hb dX3_raisePivot_25 (lv_at hl 4 rfl) ?_
      obtain ⟨v5, hg, hf⟩ := ldG_inv hf
      refine r_ldG hC hw hg dX3_raisePivot_27 ?_
      refine lv_astore (lv' := [(5, .ref v5), (0, .ref x0), (1, .int x1), (2, .int x2), (3, .int x3), (4, .int x4)]) hx hb dX3_raisePivot_28 hl (Nat.le_of_ble_eq_true rfl) rfl (fun ls hl => ?_)
      refine lv_aload_n hx hb dX3_raisePivot_30 rfl (lv_at hl 1 rfl) ?_
      obtain ⟨v6, hg, hf⟩ := gfR_inv hf
      refine r_gfR hC hw hg clX3 (Nat.le_of_ble_eq_true rfl) lkF_X3_11 rfl dX3_raisePivot_31 ?_
      refine lv_iload hx hb dX3_raisePivot_34 (lv_at hl 5 rfl) ?_
      refine lv_aload_n hx hb dX3_raisePivot_36 rfl (lv_at hl 1 rfl) ?_
      obtain ⟨v7, hg, hf⟩ := gfR_inv hf
      refine r_gfR hC hw hg clX3 (Nat.le_of_ble_eq_true rfl) lkF_X3_11 rfl dX3_raisePivot_37 ?_
      refine lv_iload_n hx hb dX3_raisePivot_40 rfl (lv_at hl 2 rfl) ?_
      obtain ⟨v8, hg, hf⟩ := ldG_inv hf
      refine r_ldG hC hw hg dX3_raisePivot_41 ?_
      obtain ⟨hz, hf⟩ := chk_inv hf
      obtain ⟨σ9, hg, hf⟩ := stG_inv hf
      refine r_stG hC hw (of_decide_eq_true hz) hg dX3_raisePivot_42 (fun H locs hw => ?_)
      refine lv_aload_n hx hb dX3_raisePivot_43 rfl (lv_at hl 1 rfl) ?_
      obtain ⟨v10, hg, hf⟩ := gfR_inv hf
      refine r_gfR hC hw hg clX3 (Nat.le_of_ble_eq_true rfl) lkF_X3_11 rfl dX3_raisePivot_44 ?_
      refine lv_iload_n hx hb dX3_raisePivot_47 rfl (lv_at hl 2 rfl) ?_
      refine lv_aload hx hb dX3_raisePivot_48 (lv_at hl 0 rfl) ?_
      obtain ⟨hz, hf⟩ := chk_inv hf
      obtain ⟨σ11, hg, hf⟩ := stG_inv hf
      refine r_stG hC hw (of_decide_eq_true hz) hg dX3_raisePivot_50 (fun H locs hw => ?_)
      refine lv_iconst (v := 1) hx hb dX3_raisePivot_51 (by decide) ?_
      obtain ⟨hz, hf⟩ := chk_inv hf
      exact kR 1 σ11 (Option.some.inj hf).symm hz _ _ _ 52 hw dX3_raisePivot_52
set_option maxHeartbeats 4000000 in
theorem l_X3_raisePivot_B3 (hC : zC p l s m args meth c cX3_raisePivot 6 RX3 D cA B0) (hr : meth.sig.returnType = (Option.some FieldType.boolean)) {Γ : zSh} {x0 : Nat} {x1 : Int32} {x2 : Int32} {x3 : Int32} {out : (zSt) ⊕ (Int32 × zSt)} (kE : ∀ (σ2 : zSt), out = .inl σ2 → ∀ (H : Heap) (locs : List Loc) (ls : Array Slot), zO D cA B0 Γ σ2 Z s.heap H locs → lv_has ls 6 [] → W p l e rm_X3_raisePivot s m args below meth c H locs 0 0 Q (F0 m 59 ls []))(kR : ∀ (v : Int32) (σ2 : zSt), out = .inr (v, σ2) → isB v = true → ∀ (H : Heap) (locs : List Loc) (ls : Array Slot) (pr : Nat), zO D cA B0 Γ σ2 Z s.heap H locs → decode cX3_raisePivot pr = .ok (.ireturn, 1) → W p l e rm_X3_raisePivot s m args below meth c H locs 0 0 Q (F0 m pr ls [.int v])) :
    ∀ (n : Nat) (x4 : Int32) (σ : zSt), loopM (fun q => f_X3_raisePivot_B3 Γ x0 x1 x2 x3 q.1 q.2) n (x4, σ) = some out → ∀ (H : Heap) (locs : List Loc) (ls : Array Slot), zO D cA B0 Γ σ Z s.heap H locs → lv_has ls 6 [(0, .ref x0), (1, .int x1), (2, .int x2), (3, .int x3), (4, .int x4)] → W p l e rm_X3_raisePivot s m args below meth c H locs 0 0 Q (F0 m 3 ls []) := by
  intro n
  induction n with
  | zero => intro x4 σ h; exact absurd h (by simp [loopM])
  | succ n ih =>
    intro x4 σ h H locs ls hw hl
    obtain ⟨r, h1, h2, h3⟩ := loopM_inv h
    exact t_X3_raisePivot_B3 hC hr h1 hw hl (fun z4 s2 e H locs ls hw hl => ih z4 s2 (h2 _ e) H locs ls hw hl) (fun s2 e => kE s2 (h3 _ e).symm) (fun v s2 e => kR v s2 (h3 _ e).symm)
set_option maxHeartbeats 4000000 in
set_option maxRecDepth 100000 in
theorem m_X3_raisePivot (h9 : l.stackTraces = false) {Γ : zSh} {a0 : Nat} {a1 : Int32} {a2 : Int32} {a3 : Int32} {σ : zSt} {r : Int32} {σ2 : zSt} (hf : f_X3_raisePivot Γ a0 a1 a2 a3 σ = some (r, σ2)) : Met l yX3_raisePivot (wq yX3_raisePivot cX3_raisePivot 6 (Option.some FieldType.boolean)) rm_X3_raisePivot (zQ0 D cA B0 [.ref a0, .int a1, .int a2, .int a3] Γ σ Z) (zQ1 D cA B0 (some (.int r)) Γ σ2 Z) 0 0 (FR B0) := by
  refine z_ofW h9 (by decide) (Nat.le_of_ble_eq_true rfl) ?_
  intro p e s m args below meth c ls hC hr _ hw hl
  have hx := hC.1
  have hb := hC.2.1
  have hl : lv_has ls 6 [(0, .ref a0), (1, .int a1), (2, .int a2), (3, .int a3)] := hl
  unfold f_X3_raisePivot at hf
  refine lv_iload_n hx hb dX3_raisePivot_0 rfl (lv_at hl 1 rfl) ?_
  refine lv_istore (lv' := [(4, .int a1), (0, .ref a0), (1, .int a1), (2, .int a2), (3, .int a3)]) hx hb dX3_raisePivot_1 hl (Nat.le_of_ble_eq_true rfl) rfl (fun ls hl => ?_)
  obtain ⟨q, hk, hE, hR⟩ := lbr_inv hf
  refine l_X3_raisePivot_B3 hC hr (fun σ12 e H locs ls hw hl => ?_) (fun v s9 e hz H locs ls pr hw hd => ?_) FUEL a1 σ hk _ _ _ hw (lv_sub hl [1, 2, 3, 4, 0] rfl)
  · obtain ⟨s8, e2, hf⟩ := lb0_inv (hE _ e)
    cases e2
    refine lv_iconst (v := 0) hx hb dX3_raisePivot_59 (by decide) ?_
    obtain ⟨hz, hf⟩ := chk_inv hf
    first | (obtain ⟨rfl, rfl⟩ := sp_inv hf) | (obtain rfl := Option.some.inj hf)
    exact W.zret hx hb hr (isB_n hz).1 (z_ret hw rfl) hw.2.2.2.2.2 dX3_raisePivot_60 hC.2.2.2.2.2.1
  · have hf := hR _ _ e
    first | (obtain ⟨rfl, rfl⟩ := sp_inv hf) | (obtain rfl := Option.some.inj hf)
    exact W.zret hx hb hr (isB_n hz).1 (z_ret hw rfl) hw.2.2.2.2.2 hd hC.2.2.2.2.2.1
set_option maxHeartbeats 4000000 in
set_option maxRecDepth 100000 in
theorem t_X3_clearBelow_B22_L71 (hC : zC p l s m args meth c cX3_clearBelow 8 RX3 D cA B0) (hr : meth.sig.returnType = (Option.none : Option Jvm.ClassFile.FieldType)) {Γ : zSh} {x0 : Nat} {x1 : Int32} {x2 : Int32} {x3 : Int32} {x4 : Int32} {x5 : Int32} {x6 : Int32}  {σ : zSt} {out : ((Int32 × zSt) ⊕ (zSt))} (hf : f_X3_clearBelow_B22_L71 Γ x0 x1 x2 x3 x4 x5 x6 σ = some out) {H : Heap} {locs : List Loc} {ls : Array Slot} (hw : zO D cA B0 Γ σ Z s.heap H locs) (hl : lv_has ls 8 [(0, .ref x0), (1, .int x1), (2, .int x2), (3, .int x3), (4, .int x4), (5, .int x5), (6, .int x6)])
    (kI : ∀ (z6 : Int32) (σ2 : zSt), out = .inl (z6, σ2) → ∀ (H : Heap) (locs : List Loc) (ls : Array Slot), zO D cA B0 Γ σ2 Z s.heap H locs → lv_has ls 8 [(0, .ref x0), (1, .int x1), (2, .int x2), (3, .int x3), (4, .int x4), (5, .int x5), (6, .int z6)] → W p l e rm_X3_clearBelow s m args below meth c H locs 0 0 Q (F0 m 22 ls []))
    (kE : ∀ (σ2 : zSt), out = .inr σ2 → ∀ (H : Heap) (locs : List Loc) (ls : Array Slot), zO D cA B0 Γ σ2 Z s.heap H locs → lv_has ls 8 [] → W p l e rm_X3_clearBelow s m args below meth c H locs 0 0 Q (F0 m 77 ls [])) :
    W p l e rm_X3_clearBelow s m args below meth c H locs 0 0 Q (F0 m 71 ls []) := by
  have hx := hC.1
  have hb := hC.2.1
  unfold f_X3_clearBelow_B22_L71 at hf
  refine lv_iinc (v := (x6 + 1)) (lv' := [(6, .int (x6 + 1)), (0, .ref x0), (1, .int x1), (2, .int x2), (3, .int x3), (4, .int x4), (5, .int x5)]) hx hb dX3_clearBelow_71 hl (k := 6) rfl rfl (Nat.le_of_ble_eq_true rfl) rfl (fun ls hl => ?_)
  refine lv_goto (tgt := 22) hx hb dX3_clearBelow_74 (by decide) ?_
  exact kI (x6 + 1) σ (Option.some.inj hf).symm _ _ _ hw (lv_sub hl [1, 2, 3, 4, 5, 6, 0] rfl)
set_option maxHeartbeats 4000000 in
set_option maxRecDepth 100000 in
theorem t_X3_clearBelow_B22 (hC : zC p l s m args meth c cX3_clearBelow 8 RX3 D cA B0) (hr : meth.sig.returnType = (Option.none : Option Jvm.ClassFile.FieldType)) {Γ : zSh} {x0 : Nat} {x1 : Int32} {x2 : Int32} {x3 : Int32} {x4 : Int32} {x5 : Int32} {x6 : Int32} {σ : zSt} {out : ((Int32 × zSt) ⊕ (zSt))} (hf : f_X3_clearBelow_B22 Γ x0 x1 x2 x3 x4 x5 x6 σ = some out) {H : Heap} {locs : List Loc} {ls : Array Slot} (hw : zO D cA B0 Γ σ Z s.heap H locs) (hl : lv_has ls 8 [(0, .ref x0), (1, .int x1), (2, .int x2), (3, .int x3), (4, .int x4), (5, .int x5), (6, .int x6)])
    (kI : ∀ (z6 : Int32) (σ2 : zSt), out = .inl (z6, σ2) → ∀ (H : Heap) (locs : List Loc) (ls : Array Slot), zO D cA B0 Γ σ2 Z s.heap H locs → lv_has ls 8 [(0, .ref x0), (1, .int x1), (2, .int x2), (3, .int x3), (4, .int x4), (5, .int x5), (6, .int z6)] → W p l e rm_X3_clearBelow s m args below meth c H locs 0 0 Q (F0 m 22 ls []))
    (kE : ∀ (σ2 : zSt), out = .inr σ2 → ∀ (H : Heap) (locs : List Loc) (ls : Array Slot), zO D cA B0 Γ σ2 Z s.heap H locs → lv_has ls 8 [] → W p l e rm_X3_clearBelow s m args below meth c H locs 0 0 Q (F0 m 77 ls [])) :
    W p l e rm_X3_clearBelow s m args below meth c H locs 0 0 Q (F0 m 22 ls []) := by
  have hx := hC.1
  have hb := hC.2.1
  unfold f_X3_clearBelow_B22 at hf
  refine lv_iload hx hb dX3_clearBelow_22 (lv_at hl 6 rfl) ?_
  refine lv_iload_n hx hb dX3_clearBelow_24 rfl (lv_at hl 2 rfl) ?_
  refine lv_icmp_ge (tgt := 77) hx hb dX3_clearBelow_25 (by decide) (fun hc => ?_) (fun hc => ?_)
  · rw [if_pos hc] at hf
    exact kE  σ (Option.some.inj hf).symm _ _ _ hw (lv_sub hl [] rfl)
  · rw [if_neg hc] at hf
    refine lv_aload_n hx hb dX3_clearBelow_28 rfl (lv_at hl 0 rfl) ?_
    obtain ⟨v6, hg, hf⟩ := gfR_inv hf
    refine r_gfR hC hw hg clX3 (Nat.le_of_ble_eq_true rfl) lkF_X3_11 rfl dX3_clearBelow_29 ?_
    refine lv_iload hx hb dX3_clearBelow_32 (lv_at hl 6 rfl) ?_
    obtain ⟨v7, hg, hf⟩ := ldG_inv hf
    refine r_ldG hC hw hg dX3_clearBelow_34 ?_
    refine lv_iload_n hx hb dX3_clearBelow_35 rfl (lv_at hl 3 rfl) ?_
    obtain ⟨v8, hg, hf⟩ := ldI_inv hf
    refine r_ldI hC hw hg dX3_clearBelow_36 ?_
    refine lv_iload hx hb dX3_clearBelow_37 (lv_at hl 5 rfl) ?_
    refine lv_imul hx hb dX3_clearBelow_39 ?_
    refine lv_sipush (v := 10007) hx hb dX3_clearBelow_40 (by decide) ?_
    obtain ⟨v9, hg, hf⟩ := rmI_inv hf
    refine r_rmI hC hg dX3_clearBelow_43 ?_
    refine lv_istore (lv' := [(7, .int v9), (0, .ref x0), (1, .int x1), (2, .int x2), (3, .int x3), (4, .int x4), (5, .int x5), (6, .int x6)]) hx hb dX3_clearBelow_44 hl (Nat.le_of_ble_eq_true rfl) rfl (fun ls hl => ?_)
    refine lv_iload hx hb dX3_clearBelow_46 (lv_at hl 0 rfl) ?_
    refine lv_if_eq (tgt := 71) hx hb dX3_clearBelow_48 (by decide) (fun hc => ?_) (fun hc => ?_)
    · rw [if_pos hc] at hf
      exact t_X3_clearBelow_B22_L71 hC hr hf hw (lv_sub hl [1, 2, 3, 4, 5, 6, 7] rfl) kI kE
    · rw [if_neg hc] at hf
      refine lv_aload_n hx hb dX3_clearBelow_51 rfl (lv_at hl 1 rfl) ?_
      obtain ⟨v10, hg, hf⟩ := gfR_inv hf
      refine r_gfR hC hw hg clX3 (Nat.le_of_ble_eq_true rfl) lkF_X3_11 rfl dX3_clearBelow_52 ?_
      refine lv_iload hx hb dX3_clearBelow_55 (lv_at hl 7 rfl) ?_
      obtain ⟨v11, hg, hf⟩ := ldG_inv hf
      refine r_ldG hC hw hg dX3_clearBelow_57 ?_
      refine lv_iload hx hb dX3_clearBelow_58 (lv_at hl 0 rfl) ?_
      refine lv_aload_n hx hb dX3_clearBelow_60 rfl (lv_at hl 1 rfl) ?_
      obtain ⟨v12, hg, hf⟩ := gfR_inv hf
      refine r_gfR hC hw hg clX3 (Nat.le_of_ble_eq_true rfl) lkF_X3_11 rfl dX3_clearBelow_61 ?_
      refine lv_iload_n hx hb dX3_clearBelow_64 rfl (lv_at hl 2 rfl) ?_
      obtain ⟨v13, hg, hf⟩ := ldG_inv hf
      refine r_ldG hC hw hg dX3_clearBelow_65 ?_
      refine lv_iload hx hb dX3_clearBelow_66 (lv_at hl 5 rfl) ?_
      obtain ⟨_, σ14, hk, hf⟩ := bnd_inv hf
      refine z_callSN (As := [.ref v11, .int v9, .ref v13, .int x4]) (rest := []) (m_X6_addMultiple hC.2.2.2.2.2.2.2.2 hk) hC hw wd_X6_addMultiple lkN_X3_28 rfl ⟨rfl, rfl⟩ ⟨(Nat.le_of_ble_eq_true rfl), (Nat.le_of_ble_eq_true rfl)⟩ hl.1 rfl (Nat.le_of_ble_eq_true rfl) dX3_clearBelow_68 ⟨(Nat.le_of_ble_eq_true rfl), (Nat.le_of_ble_eq_true rfl)⟩ (fun H locs hw => ?_)
      exact t_X3_clearBelow_B22_L71 hC hr hf hw (lv_sub hl [1, 2, 3, 4, 5, 6, 7] rfl) kI kE
set_option maxHeartbeats 4000000 in
theorem l_X3_clearBelow_B22 (hC : zC p l s m args meth c cX3_clearBelow 8 RX3 D cA B0) (hr : meth.sig.returnType = (Option.none : Option Jvm.ClassFile.FieldType)) {Γ : zSh} {x0 : Nat} {x1 : Int32} {x2 : Int32} {x3 : Int32} {x4 : Int32} {x5 : Int32} {σ2 : zSt} (kE : ∀ (H : Heap) (locs : List Loc) (ls : Array Slot), zO D cA B0 Γ σ2 Z s.heap H locs → lv_has ls 8 [] → W p l e rm_X3_clearBelow s m args below meth c H locs 0 0 Q (F0 m 77 ls [])) :
    ∀ (n : Nat) (x6 : Int32) (σ : zSt), loopM (fun q => f_X3_clearBelow_B22 Γ x0 x1 x2 x3 x4 x5 q.1 q.2) n (x6, σ) = some σ2 → ∀ (H : Heap) (locs : List Loc) (ls : Array Slot), zO D cA B0 Γ σ Z s.heap H locs → lv_has ls 8 [(0, .ref x0), (1, .int x1), (2, .int x2), (3, .int x3), (4, .int x4), (5, .int x5), (6, .int x6)] → W p l e rm_X3_clearBelow s m args below meth c H locs 0 0 Q (F0 m 22 ls []) := by
  intro n
  induction n with
  | zero => intro x6 σ h; exact absurd h (by simp [loopM])
  | succ n ih =>
    intro x6 σ h H locs ls hw hl
    obtain ⟨r, h1, h2, h3⟩ := loopM_inv h
    exact t_X3_clearBelow_B22 hC hr h1 hw hl (fun z6 s2 e H locs ls hw hl => ih z6 s2 (h2 _ e) H locs ls hw hl) (fun s2 e H locs ls hw hl => by cases h3 _ e; exact kE H locs ls hw hl)
set_option maxHeartbeats 4000000 in
set_option maxRecDepth 100000 in
theorem m_X3_clearBelow (h9 : l.stackTraces = false) {Γ : zSh} {a0 : Nat} {a1 : Int32} {a2 : Int32} {a3 : Int32} {a4 : Int32} {σ : zSt} {r : Unit} {σ2 : zSt} (hf : f_X3_clearBelow Γ a0 a1 a2 a3 a4 σ = some (r, σ2)) : Met l yX3_clearBelow (wq yX3_clearBelow cX3_clearBelow 8 (Option.none : Option Jvm.ClassFile.FieldType)) rm_X3_clearBelow (zQ0 D cA B0 [.ref a0, .int a1, .int a2, .int a3, .int a4] Γ σ Z) (zQ1 D cA B0 (none) Γ σ2 Z) 0 0 (FR B0) := by
  refine z_ofW h9 (by decide) (Nat.le_of_ble_eq_true rfl) ?_
  intro p e s m args below meth c ls hC hr _ hw hl
  have hx := hC.1
  have hb := hC.2.1
  have hl : lv_has ls 8 [(0, .ref a0), (1, .int a1), (2, .int a2), (3, .int a3), (4, .int a4)] := hl
  unfold f_X3_clearBelow at hf
  refine lv_sipush (v := 10007) hx hb dX3_clearBelow_0 (by decide) ?_
  refine lv_aload_n hx hb dX3_clearBelow_3 rfl (lv_at hl 0 rfl) ?_
  obtain ⟨v1, hg, hf⟩ := gfR_inv hf
  refine r_gfR hC hw hg clX3 (Nat.le_of_ble_eq_true rfl) lkF_X3_11 rfl dX3_clearBelow_4 ?_
  refine lv_iload_n hx hb dX3_clearBelow_7 rfl (lv_at hl 1 rfl) ?_
  obtain ⟨v2, hg, hf⟩ := ldG_inv hf
  refine r_ldG hC hw hg dX3_clearBelow_8 ?_
  refine lv_iload_n hx hb dX3_clearBelow_9 rfl (lv_at hl 3 rfl) ?_
  obtain ⟨v3, hg, hf⟩ := ldI_inv hf
  refine r_ldI hC hw hg dX3_clearBelow_10 ?_
  obtain ⟨r5, σ4, hk, hf⟩ := bnd_inv hf
  refine z_callSN (As := [.int v3]) (rest := [.int 10007]) (m_X6_reciprocal hC.2.2.2.2.2.2.2.2 hk) hC hw wd_X6_reciprocal lkN_X3_24 rfl ⟨rfl, rfl⟩ ⟨(Nat.le_of_ble_eq_true rfl), (Nat.le_of_ble_eq_true rfl)⟩ hl.1 rfl (Nat.le_of_ble_eq_true rfl) dX3_clearBelow_11 ⟨(Nat.le_of_ble_eq_true rfl), (Nat.le_of_ble_eq_true rfl)⟩ (fun H locs hw => ?_)
  refine lv_isub hx hb dX3_clearBelow_14 ?_
  refine lv_istore (lv' := [(5, .int (10007 - r5)), (0, .ref a0), (1, .int a1), (2, .int a2), (3, .int a3), (4, .int a4)]) hx hb dX3_clearBelow_15 hl (Nat.le_of_ble_eq_true rfl) rfl (fun ls hl => ?_)
  refine lv_iload_n hx hb dX3_clearBelow_17 rfl (lv_at hl 2 rfl) ?_
  refine lv_iconst (v := 1) hx hb dX3_clearBelow_18 (by decide) ?_
  refine lv_iadd hx hb dX3_clearBelow_19 ?_
  refine lv_istore (lv' := [(6, .int (a1 + 1)), (5, .int (10007 - r5)), (0, .ref a0), (1, .int a1), (2, .int a2), (3, .int a3), (4, .int a4)]) hx hb dX3_clearBelow_20 hl (Nat.le_of_ble_eq_true rfl) rfl (fun ls hl => ?_)
  obtain ⟨σ15, hk, hf⟩ := lb0_inv hf
  refine l_X3_clearBelow_B22 hC hr (fun H locs ls hw hl => ?_) FUEL (a1 + 1) σ4 hk _ _ _ hw (lv_sub hl [2, 3, 4, 5, 6, 1, 0] rfl)
  first | (obtain ⟨rfl, rfl⟩ := sp_inv hf) | (obtain rfl := Option.some.inj hf)
  exact W.vret hx hb hr (z_ret hw rfl) hw.2.2.2.2.2 dX3_clearBelow_77 hC.2.2.2.2.2.1
set_option maxHeartbeats 4000000 in
set_option maxRecDepth 100000 in
theorem t_X3_rank_B5_L39 (hC : zC p l s m args meth c cX3_rank 5 RX3 D cA B0) (hr : meth.sig.returnType = (Option.some FieldType.int)) {Γ : zSh} {x0 : Nat} {x1 : Int32} {x2 : Int32} {x3 : Int32} {x4 : Int32}  {σ : zSt} {out : ((Int32 × Int32 × zSt) ⊕ (Int32 × zSt))} (hf : f_X3_rank_B5_L39 Γ x0 x1 x2 x3 x4 σ = some out) {H : Heap} {locs : List Loc} {ls : Array Slot} (hw : zO D cA B0 Γ σ Z s.heap H locs) (hl : lv_has ls 5 [(0, .ref x0), (1, .int x1), (2, .int x2), (3, .int x3), (4, .int x4)])
    (kI : ∀ (z3 : Int32) (z4 : Int32) (σ2 : zSt), out = .inl (z3, z4, σ2) → ∀ (H : Heap) (locs : List Loc) (ls : Array Slot), zO D cA B0 Γ σ2 Z s.heap H locs → lv_has ls 5 [(0, .ref x0), (1, .int x1), (2, .int x2), (3, .int z3), (4, .int z4)] → W p l e rm_X3_rank s m args below meth c H locs 0 0 Q (F0 m 5 ls []))
    (kE : ∀ (z3 : Int32) (σ2 : zSt), out = .inr (z3, σ2) → ∀ (H : Heap) (locs : List Loc) (ls : Array Slot), zO D cA B0 Γ σ2 Z s.heap H locs → lv_has ls 5 [(3, .int z3)] → W p l e rm_X3_rank s m args below meth c H locs 0 0 Q (F0 m 45 ls [])) :
    W p l e rm_X3_rank s m args below meth c H locs 0 0 Q (F0 m 39 ls []) := by
  have hx := hC.1
  have hb := hC.2.1
  unfold f_X3_rank_B5_L39 at hf
  refine lv_iinc (v := (x4 + 1)) (lv' := [(4, .int (x4 + 1)), (0, .ref x0), (1, .int x1), (2, .int x2), (3, .int x3)]) hx hb dX3_rank_39 hl (k := 4) rfl rfl (Nat.le_of_ble_eq_true rfl) rfl (fun ls hl => ?_)
  refine lv_goto (tgt := 5) hx hb dX3_rank_42 (by decide) ?_
  exact kI x3 (x4 + 1) σ (Option.some.inj hf).symm _ _ _ hw (lv_sub hl [1, 2, 3, 4, 0] rfl)
set_option maxHeartbeats 4000000 in
set_option maxRecDepth 100000 in
theorem t_X3_rank_B5 (hC : zC p l s m args meth c cX3_rank 5 RX3 D cA B0) (hr : meth.sig.returnType = (Option.some FieldType.int)) {Γ : zSh} {x0 : Nat} {x1 : Int32} {x2 : Int32} {x3 : Int32} {x4 : Int32} {σ : zSt} {out : ((Int32 × Int32 × zSt) ⊕ (Int32 × zSt))} (hf : f_X3_rank_B5 Γ x0 x1 x2 x3 x4 σ = some out) {H : Heap} {locs : List Loc} {ls : Array Slot} (hw : zO D cA B0 Γ σ Z s.heap H locs) (hl : lv_has ls 5 [(0, .ref x0), (1, .int x1), (2, .int x2), (3, .int x3), (4, .int x4)])
    (kI : ∀ (z3 : Int32) (z4 : Int32) (σ2 : zSt), out = .inl (z3, z4, σ2) → ∀ (H : Heap) (locs : List Loc) (ls : Array Slot), zO D cA B0 Γ σ2 Z s.heap H locs → lv_has ls 5 [(0, .ref x0), (1, .int x1), (2, .int x2), (3, .int z3), (4, .int z4)] → W p l e rm_X3_rank s m args below meth c H locs 0 0 Q (F0 m 5 ls []))
    (kE : ∀ (z3 : Int32) (σ2 : zSt), out = .inr (z3, σ2) → ∀ (H : Heap) (locs : List Loc) (ls : Array Slot), zO D cA B0 Γ σ2 Z s.heap H locs → lv_has ls 5 [(3, .int z3)] → W p l e rm_X3_rank s m args below meth c H locs 0 0 Q (F0 m 45 ls [])) :
    W p l e rm_X3_rank s m args below meth c H locs 0 0 Q (F0 m 5 ls []) := by
  have hx := hC.1
  have hb := hC.2.1
  unfold f_X3_rank_B5 at hf
  refine lv_iload hx hb dX3_rank_5 (lv_at hl 4 rfl) ?_
  refine lv_iload_n hx hb dX3_rank_7 rfl (lv_at hl 2 rfl) ?_
  refine lv_icmp_ge (tgt := 45) hx hb dX3_rank_8 (by decide) (fun hc => ?_) (fun hc => ?_)
  · rw [if_pos hc] at hf
    exact kE x3 σ (Option.some.inj hf).symm _ _ _ hw (lv_sub hl [3] rfl)
  · rw [if_neg hc] at hf
    refine lv_iload_n hx hb dX3_rank_11 rfl (lv_at hl 3 rfl) ?_
    refine lv_iload_n hx hb dX3_rank_12 rfl (lv_at hl 1 rfl) ?_
    refine lv_icmp_ge (tgt := 45) hx hb dX3_rank_13 (by decide) (fun hc => ?_) (fun hc => ?_)
    · rw [if_pos hc] at hf
      exact kE x3 σ (Option.some.inj hf).symm _ _ _ hw (lv_sub hl [3] rfl)
    · rw [if_neg hc] at hf
      refine lv_aload_n hx hb dX3_rank_16 rfl (lv_at hl 0 rfl) ?_
      refine lv_iload_n hx hb dX3_rank_17 rfl (lv_at hl 3 rfl) ?_
      refine lv_iload_n hx hb dX3_rank_18 rfl (lv_at hl 1 rfl) ?_
      refine lv_iload hx hb dX3_rank_19 (lv_at hl 4 rfl) ?_
      obtain ⟨ho, hf⟩ := chk_inv hf
      obtain ⟨r2, σ1, hk, hf⟩ := bnd_inv hf
      refine z_callV (As := [.int x3, .int x1, .int x4]) (rest := []) (m_X3_raisePivot hC.2.2.2.2.2.2.2.2 hk) hC hw wd_X3_raisePivot lkM_X3_16 (isO_sh ho) rfl rfl ⟨rfl, rfl⟩ ⟨(Nat.le_of_ble_eq_true rfl), (Nat.le_of_ble_eq_true rfl)⟩ hl.1 rfl (Nat.le_of_ble_eq_true rfl) dX3_rank_21 ⟨(Nat.le_of_ble_eq_true rfl), (Nat.le_of_ble_eq_true rfl)⟩ (fun H locs hw => ?_)
      refine lv_if_eq (tgt := 39) hx hb dX3_rank_24 (by decide) (fun hc => ?_) (fun hc => ?_)
      · rw [if_pos hc] at hf
        exact t_X3_rank_B5_L39 hC hr hf hw (lv_sub hl [0, 1, 2, 3, 4] rfl) kI kE
      · rw [if_neg hc] at hf
        refine lv_aload_n hx hb dX3_rank_27 rfl (lv_at hl 0 rfl) ?_
        refine lv_iload_n hx hb dX3_rank_28 rfl (lv_at hl 3 rfl) ?_
        refine lv_iload_n hx hb dX3_rank_29 rfl (lv_at hl 1 rfl) ?_
        refine lv_iload hx hb dX3_rank_30 (lv_at hl 4 rfl) ?_
        refine lv_iload_n hx hb dX3_rank_32 rfl (lv_at hl 2 rfl) ?_
        obtain ⟨ho, hf⟩ := chk_inv hf
        obtain ⟨_, σ3, hk, hf⟩ := bnd_inv hf
        refine z_callV (As := [.int x3, .int x1, .int x4, .int x2]) (rest := []) (m_X3_clearBelow hC.2.2.2.2.2.2.2.2 hk) hC hw wd_X3_clearBelow lkM_X3_20 (isO_sh ho) rfl rfl ⟨rfl, rfl⟩ ⟨(Nat.le_of_ble_eq_true rfl), (Nat.le_of_ble_eq_true rfl)⟩ hl.1 rfl (Nat.le_of_ble_eq_true rfl) dX3_rank_33 ⟨(Nat.le_of_ble_eq_true rfl), (Nat.le_of_ble_eq_true rfl)⟩ (fun H locs hw => ?_)
        refine lv_iinc (v := (x3 + 1)) (lv' := [(3, .int (x3 + 1)), (0, .ref x0), (1, .int x1), (2, .int x2), (4, .int x4)]) hx hb dX3_rank_36 hl (k := 3) rfl rfl (Nat.le_of_ble_eq_true rfl) rfl (fun ls hl => ?_)
        exact t_X3_rank_B5_L39 hC hr hf hw (lv_sub hl [1, 2, 3, 0, 4] rfl) kI kE
set_option maxHeartbeats 4000000 in
theorem l_X3_rank_B5 (hC : zC p l s m args meth c cX3_rank 5 RX3 D cA B0) (hr : meth.sig.returnType = (Option.some FieldType.int)) {Γ : zSh} {x0 : Nat} {x1 : Int32} {x2 : Int32} {w3 : Int32} {σ2 : zSt} (kE : ∀ (H : Heap) (locs : List Loc) (ls : Array Slot), zO D cA B0 Γ σ2 Z s.heap H locs → lv_has ls 5 [(3, .int w3)] → W p l e rm_X3_rank s m args below meth c H locs 0 0 Q (F0 m 45 ls [])) :
    ∀ (n : Nat) (x3 : Int32) (x4 : Int32) (σ : zSt), loopM (fun q => f_X3_rank_B5 Γ x0 x1 x2 q.1 q.2.1 q.2.2) n (x3, x4, σ) = some (w3, σ2) → ∀ (H : Heap) (locs : List Loc) (ls : Array Slot), zO D cA B0 Γ σ Z s.heap H locs → lv_has ls 5 [(0, .ref x0), (1, .int x1), (2, .int x2), (3, .int x3), (4, .int x4)] → W p l e rm_X3_rank s m args below meth c H locs 0 0 Q (F0 m 5 ls []) := by
  intro n
  induction n with
  | zero => intro x3 x4 σ h; exact absurd h (by simp [loopM])
  | succ n ih =>
    intro x3 x4 σ h H locs ls hw hl
    obtain ⟨r, h1, h2, h3⟩ := loopM_inv h
    exact t_X3_rank_B5 hC hr h1 hw hl (fun z3 z4 s2 e H locs ls hw hl => ih z3 z4 s2 (h2 _ e) H locs ls hw hl) (fun z3 s2 e H locs ls hw hl => by cases h3 _ e; exact kE H locs ls hw hl)
set_option maxHeartbeats 4000000 in
set_option maxRecDepth 100000 in
theorem m_X3_rank (h9 : l.stackTraces = false) {Γ : zSh} {a0 : Nat} {a1 : Int32} {a2 : Int32} {σ : zSt} {r : Int32} {σ2 : zSt} (hf : f_X3_rank Γ a0 a1 a2 σ = some (r, σ2)) : Met l yX3_rank (wq yX3_rank cX3_rank 5 (Option.some FieldType.int)) rm_X3_rank (zQ0 D cA B0 [.ref a0, .int a1, .int a2] Γ σ Z) (zQ1 D cA B0 (some (.int r)) Γ σ2 Z) 0 0 (FR B0) := by
  refine z_ofW h9 (by decide) (Nat.le_of_ble_eq_true rfl) ?_
  intro p e s m args below meth c ls hC hr _ hw hl
  have hx := hC.1
  have hb := hC.2.1
  have hl : lv_has ls 5 [(0, .ref a0), (1, .int a1), (2, .int a2)] := hl
  unfold f_X3_rank at hf
  refine lv_iconst (v := 0) hx hb dX3_rank_0 (by decide) ?_
  refine lv_istore_n (lv' := [(3, .int 0), (0, .ref a0), (1, .int a1), (2, .int a2)]) hx hb dX3_rank_1 rfl hl (Nat.le_of_ble_eq_true rfl) rfl (fun ls hl => ?_)
  refine lv_iconst (v := 0) hx hb dX3_rank_2 (by decide) ?_
  refine lv_istore (lv' := [(4, .int 0), (3, .int 0), (0, .ref a0), (1, .int a1), (2, .int a2)]) hx hb dX3_rank_3 hl (Nat.le_of_ble_eq_true rfl) rfl (fun ls hl => ?_)
  obtain ⟨w5, σ4, hk, hf⟩ := lb1_inv hf
  refine l_X3_rank_B5 hC hr (fun H locs ls hw hl => ?_) FUEL 0 0 σ hk _ _ _ hw (lv_sub hl [2, 3, 4, 1, 0] rfl)
  refine lv_iload_n hx hb dX3_rank_45 rfl (lv_at hl 0 rfl) ?_
  first | (obtain ⟨rfl, rfl⟩ := sp_inv hf) | (obtain rfl := Option.some.inj hf)
  exact W.iret hx hb hr (z_ret hw rfl) hw.2.2.2.2.2 dX3_rank_46 hC.2.2.2.2.2.1
set_option maxHeartbeats 4000000 in
set_option maxRecDepth 100000 in
theorem t_J7_fill_53178_B5 (hC : zC p l s m args meth c cJ7_fill_53178 4 RJ7 D cA B0) (hr : meth.sig.returnType = (Option.none : Option Jvm.ClassFile.FieldType)) {Γ : zSh} {x0 : Nat} {x1 : Int32} {x3 : Int32} {x2 : Int32} {σ : zSt} {out : ((Int32 × zSt) ⊕ (zSt))} (hf : f_J7_fill_53178_B5 Γ x0 x1 x3 x2 σ = some out) {H : Heap} {locs : List Loc} {ls : Array Slot} (hw : zO D cA B0 Γ σ Z s.heap H locs) (hl : lv_has ls 4 [(0, .ref x0), (1, .int x1), (2, .int x2), (3, .int x3)])
    (kI : ∀ (z2 : Int32) (σ2 : zSt), out = .inl (z2, σ2) → ∀ (H : Heap) (locs : List Loc) (ls : Array Slot), zO D cA B0 Γ σ2 Z s.heap H locs → lv_has ls 4 [(0, .ref x0), (1, .int x1), (2, .int z2), (3, .int x3)] → W p l e rm_J7_fill_53178 s m args below meth c H locs 0 0 Q (F0 m 5 ls []))
    (kE : ∀ (σ2 : zSt), out = .inr σ2 → ∀ (H : Heap) (locs : List Loc) (ls : Array Slot), zO D cA B0 Γ σ2 Z s.heap H locs → lv_has ls 4 [] → W p l e rm_J7_fill_53178 s m args below meth c H locs 0 0 Q (F0 m 20 ls [])) :
    W p l e rm_J7_fill_53178 s m args below meth c H locs 0 0 Q (F0 m 5 ls []) := by
  have hx := hC.1
  have hb := hC.2.1
  unfold f_J7_fill_53178_B5 at hf
  refine lv_iload_n hx hb dJ7_fill_53178_5 rfl (lv_at hl 2 rfl) ?_
  refine lv_iload_n hx hb dJ7_fill_53178_6 rfl (lv_at hl 3 rfl) ?_
  refine lv_icmp_ge (tgt := 20) hx hb dJ7_fill_53178_7 (by decide) (fun hc => ?_) (fun hc => ?_)
  · rw [if_pos hc] at hf
    exact kE  σ (Option.some.inj hf).symm _ _ _ hw (lv_sub hl [] rfl)
  · rw [if_neg hc] at hf
    refine lv_aload_n hx hb dJ7_fill_53178_10 rfl (lv_at hl 0 rfl) ?_
    refine lv_iload_n hx hb dJ7_fill_53178_11 rfl (lv_at hl 2 rfl) ?_
    refine lv_iload_n hx hb dJ7_fill_53178_12 rfl (lv_at hl 1 rfl) ?_
    obtain ⟨σ2, hg, hf⟩ := stI_inv hf
    refine r_stI hC hw hg dJ7_fill_53178_13 (fun H locs hw => ?_)
    refine lv_iinc (v := (x2 + 1)) (lv' := [(2, .int (x2 + 1)), (0, .ref x0), (1, .int x1), (3, .int x3)]) hx hb dJ7_fill_53178_14 hl (k := 2) rfl rfl (Nat.le_of_ble_eq_true rfl) rfl (fun ls hl => ?_)
    refine lv_goto (tgt := 5) hx hb dJ7_fill_53178_17 (by decide) ?_
    exact kI (x2 + 1) σ2 (Option.some.inj hf).symm _ _ _ hw (lv_sub hl [1, 2, 0, 3] rfl)
set_option maxHeartbeats 4000000 in
theorem l_J7_fill_53178_B5 (hC : zC p l s m args meth c cJ7_fill_53178 4 RJ7 D cA B0) (hr : meth.sig.returnType = (Option.none : Option Jvm.ClassFile.FieldType)) {Γ : zSh} {x0 : Nat} {x1 : Int32} {x3 : Int32} {σ2 : zSt} (kE : ∀ (H : Heap) (locs : List Loc) (ls : Array Slot), zO D cA B0 Γ σ2 Z s.heap H locs → lv_has ls 4 [] → W p l e rm_J7_fill_53178 s m args below meth c H locs 0 0 Q (F0 m 20 ls [])) :
    ∀ (n : Nat) (x2 : Int32) (σ : zSt), loopM (fun q => f_J7_fill_53178_B5 Γ x0 x1 x3 q.1 q.2) n (x2, σ) = some σ2 → ∀ (H : Heap) (locs : List Loc) (ls : Array Slot), zO D cA B0 Γ σ Z s.heap H locs → lv_has ls 4 [(0, .ref x0), (1, .int x1), (2, .int x2), (3, .int x3)] → W p l e rm_J7_fill_53178 s m args below meth c H locs 0 0 Q (F0 m 5 ls []) := by
  intro n
  induction n with
  | zero => intro x2 σ h; exact absurd h (by simp [loopM])
  | succ n ih =>
    intro x2 σ h H locs ls hw hl
    obtain ⟨r, h1, h2, h3⟩ := loopM_inv h
    exact t_J7_fill_53178_B5 hC hr h1 hw hl (fun z2 s2 e H locs ls hw hl => ih z2 s2 (h2 _ e) H locs ls hw hl) (fun s2 e H locs ls hw hl => by cases h3 _ e; exact kE H locs ls hw hl)
set_option maxHeartbeats 4000000 in
set_option maxRecDepth 100000 in
theorem m_J7_fill_53178 (h9 : l.stackTraces = false) {Γ : zSh} {a0 : Nat} {a1 : Int32} {σ : zSt} {r : Unit} {σ2 : zSt} (hf : f_J7_fill_53178 Γ a0 a1 σ = some (r, σ2)) : Met l yJ7_fill_53178 (wq yJ7_fill_53178 cJ7_fill_53178 4 (Option.none : Option Jvm.ClassFile.FieldType)) rm_J7_fill_53178 (zQ0 D cA B0 [.ref a0, .int a1] Γ σ Z) (zQ1 D cA B0 (none) Γ σ2 Z) 0 0 (FR B0) := by
  refine z_ofW h9 (by decide) (Nat.le_of_ble_eq_true rfl) ?_
  intro p e s m args below meth c ls hC hr _ hw hl
  have hx := hC.1
  have hb := hC.2.1
  have hl : lv_has ls 4 [(0, .ref a0), (1, .int a1)] := hl
  unfold f_J7_fill_53178 at hf
  refine lv_iconst (v := 0) hx hb dJ7_fill_53178_0 (by decide) ?_
  refine lv_istore_n (lv' := [(2, .int 0), (0, .ref a0), (1, .int a1)]) hx hb dJ7_fill_53178_1 rfl hl (Nat.le_of_ble_eq_true rfl) rfl (fun ls hl => ?_)
  refine lv_aload_n hx hb dJ7_fill_53178_2 rfl (lv_at hl 1 rfl) ?_
  obtain ⟨v1, hg, hf⟩ := alI_inv hf
  refine r_alI hC hw hg dJ7_fill_53178_3 ?_
  refine lv_istore_n (lv' := [(3, .int v1), (2, .int 0), (0, .ref a0), (1, .int a1)]) hx hb dJ7_fill_53178_4 rfl hl (Nat.le_of_ble_eq_true rfl) rfl (fun ls hl => ?_)
  obtain ⟨σ3, hk, hf⟩ := lb0_inv hf
  refine l_J7_fill_53178_B5 hC hr (fun H locs ls hw hl => ?_) FUEL 0 σ hk _ _ _ hw (lv_sub hl [2, 3, 1, 0] rfl)
  first | (obtain ⟨rfl, rfl⟩ := sp_inv hf) | (obtain rfl := Option.some.inj hf)
  exact W.vret hx hb hr (z_ret hw rfl) hw.2.2.2.2.2 dJ7_fill_53178_20 hC.2.2.2.2.2.1
set_option maxHeartbeats 4000000 in
set_option maxRecDepth 100000 in
theorem m_X4_start (h9 : l.stackTraces = false) {Γ : zSh} {a0 : Nat} {a1 : Nat} {σ : zSt} {r : Unit} {σ2 : zSt} (hf : f_X4_start Γ a0 a1 σ = some (r, σ2)) : Met l yX4_start (wq yX4_start cX4_start 2 (Option.none : Option Jvm.ClassFile.FieldType)) rm_X4_start (zQ0 D cA B0 [.ref a0, .ref a1] Γ σ Z) (zQ1 D cA B0 (none) Γ σ2 Z) 0 0 (FR B0) := by
  refine z_ofW h9 (by decide) (Nat.le_of_ble_eq_true rfl) ?_
  intro p e s m args below meth c ls hC hr _ hw hl
  have hx := hC.1
  have hb := hC.2.1
  have hl : lv_has ls 2 [(0, .ref a0), (1, .ref a1)] := hl
  unfold f_X4_start at hf
  refine lv_aload_n hx hb dX4_start_0 rfl (lv_at hl 0 rfl) ?_
  obtain ⟨v1, hg, hf⟩ := gfR_inv hf
  refine r_gfR hC hw hg clX4 (Nat.le_of_ble_eq_true rfl) lkF_X4_9 rfl dX4_start_1 ?_
  refine lv_iconst (v := 0) hx hb dX4_start_4 (by decide) ?_
  obtain ⟨_, σ2, hk, hf⟩ := bnd_inv hf
  refine z_callS (As := [.ref v1, .int 0]) (rest := []) (m_J7_fill_53178 hC.2.2.2.2.2.2.2.2 hk) hC hw wd_J7_fill_53178 lkM_X4_20 rfl ⟨rfl, rfl⟩ ⟨(Nat.le_of_ble_eq_true rfl), (Nat.le_of_ble_eq_true rfl)⟩ hl.1 rfl (Nat.le_of_ble_eq_true rfl) dX4_start_5 ⟨(Nat.le_of_ble_eq_true rfl), (Nat.le_of_ble_eq_true rfl)⟩ (fun H locs hw => ?_)
  refine lv_aload_n hx hb dX4_start_8 rfl (lv_at hl 1 rfl) ?_
  obtain ⟨v3, hg, hf⟩ := gfR_inv hf
  refine r_gfR hC hw hg clX0 (Nat.le_of_ble_eq_true rfl) lkF_X4_26 rfl dX4_start_9 ?_
  refine lv_iconst (v := 0) hx hb dX4_start_12 (by decide) ?_
  refine lv_aload_n hx hb dX4_start_13 rfl (lv_at hl 0 rfl) ?_
  obtain ⟨v4, hg, hf⟩ := gfR_inv hf
  refine r_gfR hC hw hg clX4 (Nat.le_of_ble_eq_true rfl) lkF_X4_17 rfl dX4_start_14 ?_
  refine lv_iconst (v := 0) hx hb dX4_start_17 (by decide) ?_
  obtain ⟨v5, hg, hf⟩ := ldG_inv hf
  refine r_ldG hC hw hg dX4_start_18 ?_
  refine lv_iconst (v := 0) hx hb dX4_start_19 (by decide) ?_
  refine lv_aload_n hx hb dX4_start_20 rfl (lv_at hl 1 rfl) ?_
  obtain ⟨v6, hg, hf⟩ := gfI_inv hf
  refine r_gfI hC hw hg clX0 (Nat.le_of_ble_eq_true rfl) lkF_X4_31 rfl dX4_start_21 ?_
  obtain ⟨σ7, hg, hf⟩ := cpI_inv hf
  refine r_cpI hC hw hg hl.1 lkM_X4_35 (Nat.le_of_ble_eq_true rfl) (Nat.le_of_ble_eq_true rfl) dX4_start_24 (fun H locs hw => ?_)
  first | (obtain ⟨rfl, rfl⟩ := sp_inv hf) | (obtain rfl := Option.some.inj hf)
  exact W.vret hx hb hr (z_ret hw rfl) hw.2.2.2.2.2 dX4_start_27 hC.2.2.2.2.2.1
set_option maxHeartbeats 4000000 in
set_option maxRecDepth 100000 in
theorem t_X6_lengthOf_B8 (hC : zC p l s m args meth c cX6_lengthOf 3 RX6 D cA B0) (hr : meth.sig.returnType = (Option.some FieldType.int)) {Γ : zSh} {x1 : Int32} {x2 : Int32} {σ : zSt} {out : ((Int32 × Int32 × zSt) ⊕ (Int32 × zSt))} (hf : f_X6_lengthOf_B8 Γ x1 x2 σ = some out) {H : Heap} {locs : List Loc} {ls : Array Slot} (hw : zO D cA B0 Γ σ Z s.heap H locs) (hl : lv_has ls 3 [(1, .int x1), (2, .int x2)])
    (kI : ∀ (z1 : Int32) (z2 : Int32) (σ2 : zSt), out = .inl (z1, z2, σ2) → ∀ (H : Heap) (locs : List Loc) (ls : Array Slot), zO D cA B0 Γ σ2 Z s.heap H locs → lv_has ls 3 [(1, .int z1), (2, .int z2)] → W p l e rm_X6_lengthOf s m args below meth c H locs 0 0 Q (F0 m 8 ls []))
    (kE : ∀ (z1 : Int32) (σ2 : zSt), out = .inr (z1, σ2) → ∀ (H : Heap) (locs : List Loc) (ls : Array Slot), zO D cA B0 Γ σ2 Z s.heap H locs → lv_has ls 3 [(1, .int z1)] → W p l e rm_X6_lengthOf s m args below meth c H locs 0 0 Q (F0 m 22 ls [])) :
    W p l e rm_X6_lengthOf s m args below meth c H locs 0 0 Q (F0 m 8 ls []) := by
  have hx := hC.1
  have hb := hC.2.1
  unfold f_X6_lengthOf_B8 at hf
  refine lv_iload_n hx hb dX6_lengthOf_8 rfl (lv_at hl 1 rfl) ?_
  refine lv_if_le (tgt := 22) hx hb dX6_lengthOf_9 (by decide) (fun hc => ?_) (fun hc => ?_)
  · rw [if_pos hc] at hf
    exact kE x1 σ (Option.some.inj hf).symm _ _ _ hw (lv_sub hl [0] rfl)
  · rw [if_neg hc] at hf
    refine lv_iinc (v := (x1 + 1)) (lv' := [(1, .int (x1 + 1)), (2, .int x2)]) hx hb dX6_lengthOf_12 hl (k := 0) rfl rfl (Nat.le_of_ble_eq_true rfl) rfl (fun ls hl => ?_)
    refine lv_iload_n hx hb dX6_lengthOf_15 rfl (lv_at hl 1 rfl) ?_
    refine lv_iconst (v := 1) hx hb dX6_lengthOf_16 (by decide) ?_
    refine lv_ishr hx hb dX6_lengthOf_17 ?_
    refine lv_istore_n (lv' := [(2, .int (x2 >>> (1 &&& 31))), (1, .int (x1 + 1))]) hx hb dX6_lengthOf_18 rfl hl (Nat.le_of_ble_eq_true rfl) rfl (fun ls hl => ?_)
    refine lv_goto (tgt := 8) hx hb dX6_lengthOf_19 (by decide) ?_
    exact kI (x1 + 1) (x2 >>> (1 &&& 31)) σ (Option.some.inj hf).symm _ _ _ hw (lv_sub hl [1, 0] rfl)
set_option maxHeartbeats 4000000 in
theorem l_X6_lengthOf_B8 (hC : zC p l s m args meth c cX6_lengthOf 3 RX6 D cA B0) (hr : meth.sig.returnType = (Option.some FieldType.int)) {Γ : zSh} {w1 : Int32} {σ2 : zSt} (kE : ∀ (H : Heap) (locs : List Loc) (ls : Array Slot), zO D cA B0 Γ σ2 Z s.heap H locs → lv_has ls 3 [(1, .int w1)] → W p l e rm_X6_lengthOf s m args below meth c H locs 0 0 Q (F0 m 22 ls [])) :
    ∀ (n : Nat) (x1 : Int32) (x2 : Int32) (σ : zSt), loopM (fun q => f_X6_lengthOf_B8 Γ q.1 q.2.1 q.2.2) n (x1, x2, σ) = some (w1, σ2) → ∀ (H : Heap) (locs : List Loc) (ls : Array Slot), zO D cA B0 Γ σ Z s.heap H locs → lv_has ls 3 [(1, .int x1), (2, .int x2)] → W p l e rm_X6_lengthOf s m args below meth c H locs 0 0 Q (F0 m 8 ls []) := by
  intro n
  induction n with
  | zero => intro x1 x2 σ h; exact absurd h (by simp [loopM])
  | succ n ih =>
    intro x1 x2 σ h H locs ls hw hl
    obtain ⟨r, h1, h2, h3⟩ := loopM_inv h
    exact t_X6_lengthOf_B8 hC hr h1 hw hl (fun z1 z2 s2 e H locs ls hw hl => ih z1 z2 s2 (h2 _ e) H locs ls hw hl) (fun z1 s2 e H locs ls hw hl => by cases h3 _ e; exact kE H locs ls hw hl)
set_option maxHeartbeats 4000000 in
set_option maxRecDepth 100000 in
theorem m_X6_lengthOf (h9 : l.stackTraces = false) {Γ : zSh} {a0 : Int32} {σ : zSt} {r : Int32} {σ2 : zSt} (hf : f_X6_lengthOf Γ a0 σ = some (r, σ2)) : Met l yX6_lengthOf (wq yX6_lengthOf cX6_lengthOf 3 (Option.some FieldType.int)) rm_X6_lengthOf (zQ0 D cA B0 [.int a0] Γ σ Z) (zQ1 D cA B0 (some (.int r)) Γ σ2 Z) 0 0 (FR B0) := by
  refine z_ofW h9 (by decide) (Nat.le_of_ble_eq_true rfl) ?_
  intro p e s m args below meth c ls hC hr _ hw hl
  have hx := hC.1
  have hb := hC.2.1
  have hl : lv_has ls 3 [(0, .int a0)] := hl
  unfold f_X6_lengthOf at hf
  refine lv_iconst (v := 0) hx hb dX6_lengthOf_0 (by decide) ?_
  refine lv_istore_n (lv' := [(1, .int 0), (0, .int a0)]) hx hb dX6_lengthOf_1 rfl hl (Nat.le_of_ble_eq_true rfl) rfl (fun ls hl => ?_)
  refine lv_iload_n hx hb dX6_lengthOf_2 rfl (lv_at hl 1 rfl) ?_
  refine lv_iconst (v := 1) hx hb dX6_lengthOf_3 (by decide) ?_
  refine lv_iadd hx hb dX6_lengthOf_4 ?_
  refine lv_iconst (v := 1) hx hb dX6_lengthOf_5 (by decide) ?_
  refine lv_ishr hx hb dX6_lengthOf_6 ?_
  refine lv_istore_n (lv' := [(2, .int ((a0 + 1) >>> (1 &&& 31))), (1, .int 0), (0, .int a0)]) hx hb dX6_lengthOf_7 rfl hl (Nat.le_of_ble_eq_true rfl) rfl (fun ls hl => ?_)
  obtain ⟨w2, σ1, hk, hf⟩ := lb1_inv hf
  refine l_X6_lengthOf_B8 hC hr (fun H locs ls hw hl => ?_) FUEL 0 ((a0 + 1) >>> (1 &&& 31)) σ hk _ _ _ hw (lv_sub hl [1, 0] rfl)
  refine lv_iload_n hx hb dX6_lengthOf_22 rfl (lv_at hl 0 rfl) ?_
  first | (obtain ⟨rfl, rfl⟩ := sp_inv hf) | (obtain rfl := Option.some.inj hf)
  exact W.iret hx hb hr (z_ret hw rfl) hw.2.2.2.2.2 dX6_lengthOf_23 hC.2.2.2.2.2.1
set_option maxHeartbeats 4000000 in
set_option maxRecDepth 100000 in
theorem t_X4_weigh_B13_L74 (hC : zC p l s m args meth c cX4_weigh 6 RX4 D cA B0) (hr : meth.sig.returnType = (Option.some FieldType.int)) {Γ : zSh} {x0 : Nat} {x1 : Nat} {x2 : Int32} {x3 : Int32} {x4 : Int32}  {σ : zSt} {out : ((Int32 × zSt) ⊕ (zSt))} (hf : f_X4_weigh_B13_L74 Γ x0 x1 x2 x3 x4 σ = some out) {H : Heap} {locs : List Loc} {ls : Array Slot} (hw : zO D cA B0 Γ σ Z s.heap H locs) (hl : lv_has ls 6 [(0, .ref x0), (1, .ref x1), (2, .int x2), (3, .int x3), (4, .int x4)])
    (kI : ∀ (z4 : Int32) (σ2 : zSt), out = .inl (z4, σ2) → ∀ (H : Heap) (locs : List Loc) (ls : Array Slot), zO D cA B0 Γ σ2 Z s.heap H locs → lv_has ls 6 [(0, .ref x0), (1, .ref x1), (2, .int x2), (3, .int x3), (4, .int z4)] → W p l e rm_X4_weigh s m args below meth c H locs 0 0 Q (F0 m 13 ls []))
    (kE : ∀ (σ2 : zSt), out = .inr σ2 → ∀ (H : Heap) (locs : List Loc) (ls : Array Slot), zO D cA B0 Γ σ2 Z s.heap H locs → lv_has ls 6 [(0, .ref x0), (1, .ref x1), (3, .int x3)] → W p l e rm_X4_weigh s m args below meth c H locs 0 0 Q (F0 m 80 ls [])) :
    W p l e rm_X4_weigh s m args below meth c H locs 0 0 Q (F0 m 74 ls []) := by
  have hx := hC.1
  have hb := hC.2.1
  unfold f_X4_weigh_B13_L74 at hf
  refine lv_iinc (v := (x4 + 1)) (lv' := [(4, .int (x4 + 1)), (0, .ref x0), (1, .ref x1), (2, .int x2), (3, .int x3)]) hx hb dX4_weigh_74 hl (k := 4) rfl rfl (Nat.le_of_ble_eq_true rfl) rfl (fun ls hl => ?_)
  refine lv_goto (tgt := 13) hx hb dX4_weigh_77 (by decide) ?_
  exact kI (x4 + 1) σ (Option.some.inj hf).symm _ _ _ hw (lv_sub hl [1, 2, 3, 4, 0] rfl)
set_option maxHeartbeats 4000000 in
set_option maxRecDepth 100000 in
theorem t_X4_weigh_B13 (hC : zC p l s m args meth c cX4_weigh 6 RX4 D cA B0) (hr : meth.sig.returnType = (Option.some FieldType.int)) {Γ : zSh} {x0 : Nat} {x1 : Nat} {x2 : Int32} {x3 : Int32} {x4 : Int32} {σ : zSt} {out : ((Int32 × zSt) ⊕ (zSt))} (hf : f_X4_weigh_B13 Γ x0 x1 x2 x3 x4 σ = some out) {H : Heap} {locs : List Loc} {ls : Array Slot} (hw : zO D cA B0 Γ σ Z s.heap H locs) (hl : lv_has ls 6 [(0, .ref x0), (1, .ref x1), (2, .int x2), (3, .int x3), (4, .int x4)])
    (kI : ∀ (z4 : Int32) (σ2 : zSt), out = .inl (z4, σ2) → ∀ (H : Heap) (locs : List Loc) (ls : Array Slot), zO D cA B0 Γ σ2 Z s.heap H locs → lv_has ls 6 [(0, .ref x0), (1, .ref x1), (2, .int x2), (3, .int x3), (4, .int z4)] → W p l e rm_X4_weigh s m args below meth c H locs 0 0 Q (F0 m 13 ls []))
    (kE : ∀ (σ2 : zSt), out = .inr σ2 → ∀ (H : Heap) (locs : List Loc) (ls : Array Slot), zO D cA B0 Γ σ2 Z s.heap H locs → lv_has ls 6 [(0, .ref x0), (1, .ref x1), (3, .int x3)] → W p l e rm_X4_weigh s m args below meth c H locs 0 0 Q (F0 m 80 ls [])) :
    W p l e rm_X4_weigh s m args below meth c H locs 0 0 Q (F0 m 13 ls []) := by
  have hx := hC.1
  have hb := hC.2.1
  unfold f_X4_weigh_B13 at hf
  refine lv_iload hx hb dX4_weigh_13 (lv_at hl 4 rfl) ?_
  refine lv_iload_n hx hb dX4_weigh_15 rfl (lv_at hl 3 rfl) ?_
  refine lv_icmp_gt (tgt := 80) hx hb dX4_weigh_16 (by decide) (fun hc => ?_) (fun hc => ?_)
  · rw [if_pos hc] at hf
    exact kE  σ (Option.some.inj hf).symm _ _ _ hw (lv_sub hl [0, 1, 3] rfl)
  · rw [if_neg hc] at hf
    refine lv_iload_n hx hb dX4_weigh_19 rfl (lv_at hl 2 rfl) ?_
    refine lv_iconst (v := 1) hx hb dX4_weigh_20 (by decide) ?_
    refine lv_iadd hx hb dX4_weigh_21 ?_
    refine lv_iload_n hx hb dX4_weigh_22 rfl (lv_at hl 3 rfl) ?_
    refine lv_iload hx hb dX4_weigh_23 (lv_at hl 4 rfl) ?_
    refine lv_isub hx hb dX4_weigh_25 ?_
    refine lv_ishr hx hb dX4_weigh_26 ?_
    refine lv_istore (lv' := [(5, .int ((x2 + 1) >>> ((x3 - x4) &&& 31))), (0, .ref x0), (1, .ref x1), (2, .int x2), (3, .int x3), (4, .int x4)]) hx hb dX4_weigh_27 hl (Nat.le_of_ble_eq_true rfl) rfl (fun ls hl => ?_)
    refine lv_aload_n hx hb dX4_weigh_29 rfl (lv_at hl 1 rfl) ?_
    obtain ⟨v3, hg, hf⟩ := gfR_inv hf
    refine r_gfR hC hw hg clX4 (Nat.le_of_ble_eq_true rfl) lkF_X4_9 rfl dX4_weigh_30 ?_
    refine lv_iload hx hb dX4_weigh_33 (lv_at hl 5 rfl) ?_
    obtain ⟨v4, hg, hf⟩ := ldI_inv hf
    refine r_ldI hC hw hg dX4_weigh_35 ?_
    refine lv_iload hx hb dX4_weigh_36 (lv_at hl 0 rfl) ?_
    refine lv_icmp_eq (tgt := 74) hx hb dX4_weigh_38 (by decide) (fun hc => ?_) (fun hc => ?_)
    · rw [if_pos hc] at hf
      exact t_X4_weigh_B13_L74 hC hr hf hw (lv_sub hl [1, 2, 3, 4, 5] rfl) kI kE
    · rw [if_neg hc] at hf
      refine lv_aload_n hx hb dX4_weigh_41 rfl (lv_at hl 2 rfl) ?_
      refine lv_aload_n hx hb dX4_weigh_42 rfl (lv_at hl 1 rfl) ?_
      obtain ⟨v5, hg, hf⟩ := gfR_inv hf
      refine r_gfR hC hw hg clX4 (Nat.le_of_ble_eq_true rfl) lkF_X4_17 rfl dX4_weigh_43 ?_
      refine lv_iload hx hb dX4_weigh_46 (lv_at hl 5 rfl) ?_
      refine lv_iconst (v := 1) hx hb dX4_weigh_48 (by decide) ?_
      refine lv_isub hx hb dX4_weigh_49 ?_
      obtain ⟨v6, hg, hf⟩ := ldG_inv hf
      refine r_ldG hC hw hg dX4_weigh_50 ?_
      refine lv_iload hx hb dX4_weigh_51 (lv_at hl 0 rfl) ?_
      refine lv_iconst (v := 1) hx hb dX4_weigh_53 (by decide) ?_
      refine lv_iand hx hb dX4_weigh_54 ?_
      refine lv_aload_n hx hb dX4_weigh_55 rfl (lv_at hl 1 rfl) ?_
      obtain ⟨v7, hg, hf⟩ := gfR_inv hf
      refine r_gfR hC hw hg clX4 (Nat.le_of_ble_eq_true rfl) lkF_X4_17 rfl dX4_weigh_56 ?_
      refine lv_iload hx hb dX4_weigh_59 (lv_at hl 5 rfl) ?_
      obtain ⟨v8, hg, hf⟩ := ldG_inv hf
      refine r_ldG hC hw hg dX4_weigh_61 ?_
      obtain ⟨ho, hf⟩ := chk_inv hf
      obtain ⟨_, σ9, hk, hf⟩ := bnd_inv hf
      refine z_callV (As := [.ref v6, .int (((x2 + 1) >>> ((x3 - x4) &&& 31)) &&& 1), .ref v8]) (rest := []) (m_X0_takeStep hC.2.2.2.2.2.2.2.2 hk) hC hw wd_X0_takeStep lkM_X4_51 (isO_sh ho) rfl rfl ⟨rfl, rfl⟩ ⟨(Nat.le_of_ble_eq_true rfl), (Nat.le_of_ble_eq_true rfl)⟩ hl.1 rfl (Nat.le_of_ble_eq_true rfl) dX4_weigh_62 ⟨(Nat.le_of_ble_eq_true rfl), (Nat.le_of_ble_eq_true rfl)⟩ (fun H locs hw => ?_)
      refine lv_aload_n hx hb dX4_weigh_65 rfl (lv_at hl 1 rfl) ?_
      obtain ⟨v10, hg, hf⟩ := gfR_inv hf
      refine r_gfR hC hw hg clX4 (Nat.le_of_ble_eq_true rfl) lkF_X4_9 rfl dX4_weigh_66 ?_
      refine lv_iload hx hb dX4_weigh_69 (lv_at hl 5 rfl) ?_
      refine lv_iload hx hb dX4_weigh_71 (lv_at hl 0 rfl) ?_
      obtain ⟨σ11, hg, hf⟩ := stI_inv hf
      refine r_stI hC hw hg dX4_weigh_73 (fun H locs hw => ?_)
      exact t_X4_weigh_B13_L74 hC hr hf hw (lv_sub hl [1, 2, 3, 4, 5] rfl) kI kE
set_option maxHeartbeats 4000000 in
theorem l_X4_weigh_B13 (hC : zC p l s m args meth c cX4_weigh 6 RX4 D cA B0) (hr : meth.sig.returnType = (Option.some FieldType.int)) {Γ : zSh} {x0 : Nat} {x1 : Nat} {x2 : Int32} {x3 : Int32} {σ2 : zSt} (kE : ∀ (H : Heap) (locs : List Loc) (ls : Array Slot), zO D cA B0 Γ σ2 Z s.heap H locs → lv_has ls 6 [(0, .ref x0), (1, .ref x1), (3, .int x3)] → W p l e rm_X4_weigh s m args below meth c H locs 0 0 Q (F0 m 80 ls [])) :
    ∀ (n : Nat) (x4 : Int32) (σ : zSt), loopM (fun q => f_X4_weigh_B13 Γ x0 x1 x2 x3 q.1 q.2) n (x4, σ) = some σ2 → ∀ (H : Heap) (locs : List Loc) (ls : Array Slot), zO D cA B0 Γ σ Z s.heap H locs → lv_has ls 6 [(0, .ref x0), (1, .ref x1), (2, .int x2), (3, .int x3), (4, .int x4)] → W p l e rm_X4_weigh s m args below meth c H locs 0 0 Q (F0 m 13 ls []) := by
  intro n
  induction n with
  | zero => intro x4 σ h; exact absurd h (by simp [loopM])
  | succ n ih =>
    intro x4 σ h H locs ls hw hl
    obtain ⟨r, h1, h2, h3⟩ := loopM_inv h
    exact t_X4_weigh_B13 hC hr h1 hw hl (fun z4 s2 e H locs ls hw hl => ih z4 s2 (h2 _ e) H locs ls hw hl) (fun s2 e H locs ls hw hl => by cases h3 _ e; exact kE H locs ls hw hl)
set_option maxHeartbeats 4000000 in
set_option maxRecDepth 100000 in
theorem m_X4_weigh (h9 : l.stackTraces = false) {Γ : zSh} {a0 : Nat} {a1 : Nat} {a2 : Int32} {σ : zSt} {r : Int32} {σ2 : zSt} (hf : f_X4_weigh Γ a0 a1 a2 σ = some (r, σ2)) : Met l yX4_weigh (wq yX4_weigh cX4_weigh 6 (Option.some FieldType.int)) rm_X4_weigh (zQ0 D cA B0 [.ref a0, .ref a1, .int a2] Γ σ Z) (zQ1 D cA B0 (some (.int r)) Γ σ2 Z) 0 0 (FR B0) := by
  refine z_ofW h9 (by decide) (Nat.le_of_ble_eq_true rfl) ?_
  intro p e s m args below meth c ls hC hr _ hw hl
  have hx := hC.1
  have hb := hC.2.1
  have hl : lv_has ls 6 [(0, .ref a0), (1, .ref a1), (2, .int a2)] := hl
  unfold f_X4_weigh at hf
  refine lv_iload_n hx hb dX4_weigh_0 rfl (lv_at hl 2 rfl) ?_
  obtain ⟨r2, σ1, hk, hf⟩ := bnd_inv hf
  refine z_callSN (As := [.int a2]) (rest := []) (m_X6_lengthOf hC.2.2.2.2.2.2.2.2 hk) hC hw wd_X6_lengthOf lkN_X4_41 rfl ⟨rfl, rfl⟩ ⟨(Nat.le_of_ble_eq_true rfl), (Nat.le_of_ble_eq_true rfl)⟩ hl.1 rfl (Nat.le_of_ble_eq_true rfl) dX4_weigh_1 ⟨(Nat.le_of_ble_eq_true rfl), (Nat.le_of_ble_eq_true rfl)⟩ (fun H locs hw => ?_)
  refine lv_bipush (v := 11) hx hb dX4_weigh_4 (by decide) ?_
  refine r_min hC hl.1 lkM_X4_45 (Nat.le_of_ble_eq_true rfl) (Nat.le_of_ble_eq_true rfl) (Nat.le_of_ble_eq_true rfl) (Nat.le_of_ble_eq_true rfl) dX4_weigh_6 ?_
  refine lv_istore_n (lv' := [(3, .int (if 11 < r2 then 11 else r2)), (0, .ref a0), (1, .ref a1), (2, .int a2)]) hx hb dX4_weigh_9 rfl hl (Nat.le_of_ble_eq_true rfl) rfl (fun ls hl => ?_)
  refine lv_iconst (v := 1) hx hb dX4_weigh_10 (by decide) ?_
  refine lv_istore (lv' := [(4, .int 1), (3, .int (if 11 < r2 then 11 else r2)), (0, .ref a0), (1, .ref a1), (2, .int a2)]) hx hb dX4_weigh_11 hl (Nat.le_of_ble_eq_true rfl) rfl (fun ls hl => ?_)
  obtain ⟨σ12, hk, hf⟩ := lb0_inv hf
  refine l_X4_weigh_B13 hC hr (fun H locs ls hw hl => ?_) FUEL 1 σ1 hk _ _ _ hw (lv_sub hl [2, 3, 4, 1, 0] rfl)
  refine lv_aload_n hx hb dX4_weigh_80 rfl (lv_at hl 1 rfl) ?_
  refine lv_aload_n hx hb dX4_weigh_81 rfl (lv_at hl 0 rfl) ?_
  obtain ⟨v13, hg, hf⟩ := gfR_inv hf
  refine r_gfR hC hw hg clX4 (Nat.le_of_ble_eq_true rfl) lkF_X4_17 rfl dX4_weigh_82 ?_
  refine lv_iload_n hx hb dX4_weigh_85 rfl (lv_at hl 2 rfl) ?_
  obtain ⟨v14, hg, hf⟩ := ldG_inv hf
  refine r_ldG hC hw hg dX4_weigh_86 ?_
  obtain ⟨ho, hf⟩ := chk_inv hf
  obtain ⟨r16, σ15, hk, hf⟩ := bnd_inv hf
  refine z_callV (As := [.ref v14]) (rest := []) (m_X0_weightFrom hC.2.2.2.2.2.2.2.2 hk) hC hw wd_X0_weightFrom lkM_X4_55 (isO_sh ho) rfl rfl ⟨rfl, rfl⟩ ⟨(Nat.le_of_ble_eq_true rfl), (Nat.le_of_ble_eq_true rfl)⟩ hl.1 rfl (Nat.le_of_ble_eq_true rfl) dX4_weigh_87 ⟨(Nat.le_of_ble_eq_true rfl), (Nat.le_of_ble_eq_true rfl)⟩ (fun H locs hw => ?_)
  first | (obtain ⟨rfl, rfl⟩ := sp_inv hf) | (obtain rfl := Option.some.inj hf)
  exact W.iret hx hb hr (z_ret hw rfl) hw.2.2.2.2.2 dX4_weigh_90 hC.2.2.2.2.2.1
set_option maxHeartbeats 4000000 in
set_option maxRecDepth 100000 in
theorem m_X5_start (h9 : l.stackTraces = false) {Γ : zSh} {a0 : Nat} {a1 : Nat} {σ : zSt} {r : Unit} {σ2 : zSt} (hf : f_X5_start Γ a0 a1 σ = some (r, σ2)) : Met l yX5_start (wq yX5_start cX5_start 2 (Option.none : Option Jvm.ClassFile.FieldType)) rm_X5_start (zQ0 D cA B0 [.ref a0, .ref a1] Γ σ Z) (zQ1 D cA B0 (none) Γ σ2 Z) 0 0 (FR B0) := by
  refine z_ofW h9 (by decide) (Nat.le_of_ble_eq_true rfl) ?_
  intro p e s m args below meth c ls hC hr _ hw hl
  have hx := hC.1
  have hb := hC.2.1
  have hl : lv_has ls 2 [(0, .ref a0), (1, .ref a1)] := hl
  unfold f_X5_start at hf
  refine lv_aload_n hx hb dX5_start_0 rfl (lv_at hl 1 rfl) ?_
  obtain ⟨v1, hg, hf⟩ := gfR_inv hf
  refine r_gfR hC hw hg clX0 (Nat.le_of_ble_eq_true rfl) lkF_X5_18 rfl dX5_start_1 ?_
  refine lv_iconst (v := 0) hx hb dX5_start_4 (by decide) ?_
  refine lv_aload_n hx hb dX5_start_5 rfl (lv_at hl 0 rfl) ?_
  obtain ⟨v2, hg, hf⟩ := gfR_inv hf
  refine r_gfR hC hw hg clX5 (Nat.le_of_ble_eq_true rfl) lkF_X5_9 rfl dX5_start_6 ?_
  refine lv_iconst (v := 0) hx hb dX5_start_9 (by decide) ?_
  refine lv_aload_n hx hb dX5_start_10 rfl (lv_at hl 1 rfl) ?_
  obtain ⟨v3, hg, hf⟩ := gfI_inv hf
  refine r_gfI hC hw hg clX0 (Nat.le_of_ble_eq_true rfl) lkF_X5_23 rfl dX5_start_11 ?_
  obtain ⟨σ4, hg, hf⟩ := cpI_inv hf
  refine r_cpI hC hw hg hl.1 lkM_X5_27 (Nat.le_of_ble_eq_true rfl) (Nat.le_of_ble_eq_true rfl) dX5_start_14 (fun H locs hw => ?_)
  first | (obtain ⟨rfl, rfl⟩ := sp_inv hf) | (obtain rfl := Option.some.inj hf)
  exact W.vret hx hb hr (z_ret hw rfl) hw.2.2.2.2.2 dX5_start_17 hC.2.2.2.2.2.1
set_option maxHeartbeats 4000000 in
set_option maxRecDepth 100000 in
theorem m_X5_swap (h9 : l.stackTraces = false) {Γ : zSh} {a0 : Nat} {σ : zSt} {r : Unit} {σ2 : zSt} (hf : f_X5_swap Γ a0 σ = some (r, σ2)) : Met l yX5_swap (wq yX5_swap cX5_swap 2 (Option.none : Option Jvm.ClassFile.FieldType)) rm_X5_swap (zQ0 D cA B0 [.ref a0] Γ σ Z) (zQ1 D cA B0 (none) Γ σ2 Z) 0 0 (FR B0) := by
  refine z_ofW h9 (by decide) (Nat.le_of_ble_eq_true rfl) ?_
  intro p e s m args below meth c ls hC hr _ hw hl
  have hx := hC.1
  have hb := hC.2.1
  have hl : lv_has ls 2 [(0, .ref a0)] := hl
  unfold f_X5_swap at hf
  refine lv_aload_n hx hb dX5_swap_0 rfl (lv_at hl 0 rfl) ?_
  obtain ⟨v1, hg, hf⟩ := gfR_inv hf
  refine r_gfR hC hw hg clX5 (Nat.le_of_ble_eq_true rfl) lkF_X5_9 rfl dX5_swap_1 ?_
  refine lv_astore_n (lv' := [(1, .ref v1), (0, .ref a0)]) hx hb dX5_swap_4 rfl hl (Nat.le_of_ble_eq_true rfl) rfl (fun ls hl => ?_)
  refine lv_aload_n hx hb dX5_swap_5 rfl (lv_at hl 1 rfl) ?_
  refine lv_aload_n hx hb dX5_swap_6 rfl (lv_at hl 1 rfl) ?_
  obtain ⟨v2, hg, hf⟩ := gfR_inv hf
  refine r_gfR hC hw hg clX5 (Nat.le_of_ble_eq_true rfl) lkF_X5_15 rfl dX5_swap_7 ?_
  obtain ⟨σ3, hg, hf⟩ := pfR_inv hf
  refine r_pfR hC hw hg clX5 (Nat.le_of_ble_eq_true rfl) lkF_X5_9 rfl rfl rfl dX5_swap_10 (fun H locs hw => ?_)
  refine lv_aload_n hx hb dX5_swap_13 rfl (lv_at hl 1 rfl) ?_
  refine lv_aload_n hx hb dX5_swap_14 rfl (lv_at hl 0 rfl) ?_
  obtain ⟨σ4, hg, hf⟩ := pfR_inv hf
  refine r_pfR hC hw hg clX5 (Nat.le_of_ble_eq_true rfl) lkF_X5_15 rfl rfl rfl dX5_swap_15 (fun H locs hw => ?_)
  first | (obtain ⟨rfl, rfl⟩ := sp_inv hf) | (obtain rfl := Option.some.inj hf)
  exact W.vret hx hb hr (z_ret hw rfl) hw.2.2.2.2.2 dX5_swap_18 hC.2.2.2.2.2.1
set_option maxHeartbeats 4000000 in
set_option maxRecDepth 100000 in
theorem t_X5_takeWord_B8_L44 (hC : zC p l s m args meth c cX5_takeWord 5 RX5 D cA B0) (hr : meth.sig.returnType = (Option.none : Option Jvm.ClassFile.FieldType)) {Γ : zSh} {x0 : Nat} {x1 : Nat} {x3 : Int32} {x4 : Int32}  {σ : zSt} {out : ((Int32 × zSt) ⊕ (zSt))} (hf : f_X5_takeWord_B8_L44 Γ x0 x1 x3 x4 σ = some out) {H : Heap} {locs : List Loc} {ls : Array Slot} (hw : zO D cA B0 Γ σ Z s.heap H locs) (hl : lv_has ls 5 [(0, .ref x0), (1, .ref x1), (3, .int x3), (4, .int x4)])
    (kI : ∀ (z4 : Int32) (σ2 : zSt), out = .inl (z4, σ2) → ∀ (H : Heap) (locs : List Loc) (ls : Array Slot), zO D cA B0 Γ σ2 Z s.heap H locs → lv_has ls 5 [(0, .ref x0), (1, .ref x1), (3, .int x3), (4, .int z4)] → W p l e rm_X5_takeWord s m args below meth c H locs 0 0 Q (F0 m 8 ls []))
    (kE : ∀ (σ2 : zSt), out = .inr σ2 → ∀ (H : Heap) (locs : List Loc) (ls : Array Slot), zO D cA B0 Γ σ2 Z s.heap H locs → lv_has ls 5 [] → W p l e rm_X5_takeWord s m args below meth c H locs 0 0 Q (F0 m 50 ls [])) :
    W p l e rm_X5_takeWord s m args below meth c H locs 0 0 Q (F0 m 44 ls []) := by
  have hx := hC.1
  have hb := hC.2.1
  unfold f_X5_takeWord_B8_L44 at hf
  refine lv_iinc (v := (x4 + (-1))) (lv' := [(4, .int (x4 + (-1))), (0, .ref x0), (1, .ref x1), (3, .int x3)]) hx hb dX5_takeWord_44 hl (k := 3) rfl rfl (Nat.le_of_ble_eq_true rfl) rfl (fun ls hl => ?_)
  refine lv_goto (tgt := 8) hx hb dX5_takeWord_47 (by decide) ?_
  exact kI (x4 + (-1)) σ (Option.some.inj hf).symm _ _ _ hw (lv_sub hl [1, 2, 3, 0] rfl)
set_option maxHeartbeats 4000000 in
set_option maxRecDepth 100000 in
theorem t_X5_takeWord_B8 (hC : zC p l s m args meth c cX5_takeWord 5 RX5 D cA B0) (hr : meth.sig.returnType = (Option.none : Option Jvm.ClassFile.FieldType)) {Γ : zSh} {x0 : Nat} {x1 : Nat} {x3 : Int32} {x4 : Int32} {σ : zSt} {out : ((Int32 × zSt) ⊕ (zSt))} (hf : f_X5_takeWord_B8 Γ x0 x1 x3 x4 σ = some out) {H : Heap} {locs : List Loc} {ls : Array Slot} (hw : zO D cA B0 Γ σ Z s.heap H locs) (hl : lv_has ls 5 [(0, .ref x0), (1, .ref x1), (3, .int x3), (4, .int x4)])
    (kI : ∀ (z4 : Int32) (σ2 : zSt), out = .inl (z4, σ2) → ∀ (H : Heap) (locs : List Loc) (ls : Array Slot), zO D cA B0 Γ σ2 Z s.heap H locs → lv_has ls 5 [(0, .ref x0), (1, .ref x1), (3, .int x3), (4, .int z4)] → W p l e rm_X5_takeWord s m args below meth c H locs 0 0 Q (F0 m 8 ls []))
    (kE : ∀ (σ2 : zSt), out = .inr σ2 → ∀ (H : Heap) (locs : List Loc) (ls : Array Slot), zO D cA B0 Γ σ2 Z s.heap H locs → lv_has ls 5 [] → W p l e rm_X5_takeWord s m args below meth c H locs 0 0 Q (F0 m 50 ls [])) :
    W p l e rm_X5_takeWord s m args below meth c H locs 0 0 Q (F0 m 8 ls []) := by
  have hx := hC.1
  have hb := hC.2.1
  unfold f_X5_takeWord_B8 at hf
  refine lv_iload hx hb dX5_takeWord_8 (lv_at hl 3 rfl) ?_
  refine lv_if_lt (tgt := 50) hx hb dX5_takeWord_10 (by decide) (fun hc => ?_) (fun hc => ?_)
  · rw [if_pos hc] at hf
    exact kE  σ (Option.some.inj hf).symm _ _ _ hw (lv_sub hl [] rfl)
  · rw [if_neg hc] at hf
    refine lv_iload_n hx hb dX5_takeWord_13 rfl (lv_at hl 2 rfl) ?_
    refine lv_iload hx hb dX5_takeWord_14 (lv_at hl 3 rfl) ?_
    refine lv_iconst (v := 1) hx hb dX5_takeWord_16 (by decide) ?_
    refine lv_iadd hx hb dX5_takeWord_17 ?_
    refine lv_ishr hx hb dX5_takeWord_18 ?_
    refine lv_if_eq (tgt := 44) hx hb dX5_takeWord_19 (by decide) (fun hc => ?_) (fun hc => ?_)
    · rw [if_pos hc] at hf
      exact t_X5_takeWord_B8_L44 hC hr hf hw (lv_sub hl [0, 1, 2, 3] rfl) kI kE
    · rw [if_neg hc] at hf
      refine lv_aload_n hx hb dX5_takeWord_22 rfl (lv_at hl 1 rfl) ?_
      refine lv_aload_n hx hb dX5_takeWord_23 rfl (lv_at hl 0 rfl) ?_
      obtain ⟨v1, hg, hf⟩ := gfR_inv hf
      refine r_gfR hC hw hg clX5 (Nat.le_of_ble_eq_true rfl) lkF_X5_9 rfl dX5_takeWord_24 ?_
      refine lv_iload_n hx hb dX5_takeWord_27 rfl (lv_at hl 2 rfl) ?_
      refine lv_iload hx hb dX5_takeWord_28 (lv_at hl 3 rfl) ?_
      refine lv_ishr hx hb dX5_takeWord_30 ?_
      refine lv_iconst (v := 1) hx hb dX5_takeWord_31 (by decide) ?_
      refine lv_iand hx hb dX5_takeWord_32 ?_
      refine lv_aload_n hx hb dX5_takeWord_33 rfl (lv_at hl 0 rfl) ?_
      obtain ⟨v2, hg, hf⟩ := gfR_inv hf
      refine r_gfR hC hw hg clX5 (Nat.le_of_ble_eq_true rfl) lkF_X5_15 rfl dX5_takeWord_34 ?_
      obtain ⟨ho, hf⟩ := chk_inv hf
      obtain ⟨_, σ3, hk, hf⟩ := bnd_inv hf
      refine z_callV (As := [.ref v1, .int ((x3 >>> (x4 &&& 31)) &&& 1), .ref v2]) (rest := []) (m_X0_takeStep hC.2.2.2.2.2.2.2.2 hk) hC hw wd_X0_takeStep lkM_X5_33 (isO_sh ho) rfl rfl ⟨rfl, rfl⟩ ⟨(Nat.le_of_ble_eq_true rfl), (Nat.le_of_ble_eq_true rfl)⟩ hl.1 rfl (Nat.le_of_ble_eq_true rfl) dX5_takeWord_37 ⟨(Nat.le_of_ble_eq_true rfl), (Nat.le_of_ble_eq_true rfl)⟩ (fun H locs hw => ?_)
      refine lv_aload_n hx hb dX5_takeWord_40 rfl (lv_at hl 0 rfl) ?_
      obtain ⟨ho, hf⟩ := chk_inv hf
      obtain ⟨_, σ4, hk, hf⟩ := bnd_inv hf
      refine z_callV (As := []) (rest := []) (m_X5_swap hC.2.2.2.2.2.2.2.2 hk) hC hw wd_X5_swap lkM_X5_37 (isO_sh ho) rfl rfl ⟨rfl, rfl⟩ ⟨(Nat.le_of_ble_eq_true rfl), (Nat.le_of_ble_eq_true rfl)⟩ hl.1 rfl (Nat.le_of_ble_eq_true rfl) dX5_takeWord_41 ⟨(Nat.le_of_ble_eq_true rfl), (Nat.le_of_ble_eq_true rfl)⟩ (fun H locs hw => ?_)
      exact t_X5_takeWord_B8_L44 hC hr hf hw (lv_sub hl [0, 1, 2, 3] rfl) kI kE
set_option maxHeartbeats 4000000 in
theorem l_X5_takeWord_B8 (hC : zC p l s m args meth c cX5_takeWord 5 RX5 D cA B0) (hr : meth.sig.returnType = (Option.none : Option Jvm.ClassFile.FieldType)) {Γ : zSh} {x0 : Nat} {x1 : Nat} {x3 : Int32} {σ2 : zSt} (kE : ∀ (H : Heap) (locs : List Loc) (ls : Array Slot), zO D cA B0 Γ σ2 Z s.heap H locs → lv_has ls 5 [] → W p l e rm_X5_takeWord s m args below meth c H locs 0 0 Q (F0 m 50 ls [])) :
    ∀ (n : Nat) (x4 : Int32) (σ : zSt), loopM (fun q => f_X5_takeWord_B8 Γ x0 x1 x3 q.1 q.2) n (x4, σ) = some σ2 → ∀ (H : Heap) (locs : List Loc) (ls : Array Slot), zO D cA B0 Γ σ Z s.heap H locs → lv_has ls 5 [(0, .ref x0), (1, .ref x1), (3, .int x3), (4, .int x4)] → W p l e rm_X5_takeWord s m args below meth c H locs 0 0 Q (F0 m 8 ls []) := by
  intro n
  induction n with
  | zero => intro x4 σ h; exact absurd h (by simp [loopM])
  | succ n ih =>
    intro x4 σ h H locs ls hw hl
    obtain ⟨r, h1, h2, h3⟩ := loopM_inv h
    exact t_X5_takeWord_B8 hC hr h1 hw hl (fun z4 s2 e H locs ls hw hl => ih z4 s2 (h2 _ e) H locs ls hw hl) (fun s2 e H locs ls hw hl => by cases h3 _ e; exact kE H locs ls hw hl)
set_option maxHeartbeats 4000000 in
set_option maxRecDepth 100000 in
theorem m_X5_takeWord (h9 : l.stackTraces = false) {Γ : zSh} {a0 : Nat} {a1 : Nat} {a2 : Int32} {σ : zSt} {r : Unit} {σ2 : zSt} (hf : f_X5_takeWord Γ a0 a1 a2 σ = some (r, σ2)) : Met l yX5_takeWord (wq yX5_takeWord cX5_takeWord 5 (Option.none : Option Jvm.ClassFile.FieldType)) rm_X5_takeWord (zQ0 D cA B0 [.ref a0, .ref a1, .int a2] Γ σ Z) (zQ1 D cA B0 (none) Γ σ2 Z) 0 0 (FR B0) := by
  refine z_ofW h9 (by decide) (Nat.le_of_ble_eq_true rfl) ?_
  intro p e s m args below meth c ls hC hr _ hw hl
  have hx := hC.1
  have hb := hC.2.1
  have hl : lv_has ls 5 [(0, .ref a0), (1, .ref a1), (2, .int a2)] := hl
  unfold f_X5_takeWord at hf
  refine lv_iload_n hx hb dX5_takeWord_0 rfl (lv_at hl 2 rfl) ?_
  refine lv_iconst (v := 1) hx hb dX5_takeWord_1 (by decide) ?_
  refine lv_iadd hx hb dX5_takeWord_2 ?_
  refine lv_istore_n (lv' := [(3, .int (a2 + 1)), (0, .ref a0), (1, .ref a1), (2, .int a2)]) hx hb dX5_takeWord_3 rfl hl (Nat.le_of_ble_eq_true rfl) rfl (fun ls hl => ?_)
  refine lv_bipush (v := 18) hx hb dX5_takeWord_4 (by decide) ?_
  refine lv_istore (lv' := [(4, .int 18), (3, .int (a2 + 1)), (0, .ref a0), (1, .ref a1), (2, .int a2)]) hx hb dX5_takeWord_6 hl (Nat.le_of_ble_eq_true rfl) rfl (fun ls hl => ?_)
  obtain ⟨σ5, hk, hf⟩ := lb0_inv hf
  refine l_X5_takeWord_B8 hC hr (fun H locs ls hw hl => ?_) FUEL 18 σ hk _ _ _ hw (lv_sub hl [2, 3, 1, 0] rfl)
  first | (obtain ⟨rfl, rfl⟩ := sp_inv hf) | (obtain rfl := Option.some.inj hf)
  exact W.vret hx hb hr (z_ret hw rfl) hw.2.2.2.2.2 dX5_takeWord_50 hC.2.2.2.2.2.1
set_option maxHeartbeats 4000000 in
set_option maxRecDepth 100000 in
theorem t_X5_takeBoth_B15 (hC : zC p l s m args meth c cX5_takeBoth 3 RX5 D cA B0) (hr : meth.sig.returnType = (Option.none : Option Jvm.ClassFile.FieldType)) {Γ : zSh} {x0 : Nat} {x1 : Nat} {x2 : Int32} {σ : zSt} {out : ((Int32 × zSt) ⊕ (zSt))} (hf : f_X5_takeBoth_B15 Γ x0 x1 x2 σ = some out) {H : Heap} {locs : List Loc} {ls : Array Slot} (hw : zO D cA B0 Γ σ Z s.heap H locs) (hl : lv_has ls 3 [(0, .ref x0), (1, .ref x1), (2, .int x2)])
    (kI : ∀ (z2 : Int32) (σ2 : zSt), out = .inl (z2, σ2) → ∀ (H : Heap) (locs : List Loc) (ls : Array Slot), zO D cA B0 Γ σ2 Z s.heap H locs → lv_has ls 3 [(0, .ref x0), (1, .ref x1), (2, .int z2)] → W p l e rm_X5_takeBoth s m args below meth c H locs 0 0 Q (F0 m 15 ls []))
    (kE : ∀ (σ2 : zSt), out = .inr σ2 → ∀ (H : Heap) (locs : List Loc) (ls : Array Slot), zO D cA B0 Γ σ2 Z s.heap H locs → lv_has ls 3 [(0, .ref x0)] → W p l e rm_X5_takeBoth s m args below meth c H locs 0 0 Q (F0 m 39 ls [])) :
    W p l e rm_X5_takeBoth s m args below meth c H locs 0 0 Q (F0 m 15 ls []) := by
  have hx := hC.1
  have hb := hC.2.1
  unfold f_X5_takeBoth_B15 at hf
  refine lv_iload_n hx hb dX5_takeBoth_15 rfl (lv_at hl 2 rfl) ?_
  refine lv_iconst (v := 2) hx hb dX5_takeBoth_16 (by decide) ?_
  refine lv_icmp_ge (tgt := 39) hx hb dX5_takeBoth_17 (by decide) (fun hc => ?_) (fun hc => ?_)
  · rw [if_pos hc] at hf
    exact kE  σ (Option.some.inj hf).symm _ _ _ hw (lv_sub hl [0] rfl)
  · rw [if_neg hc] at hf
    refine lv_aload_n hx hb dX5_takeBoth_20 rfl (lv_at hl 1 rfl) ?_
    refine lv_aload_n hx hb dX5_takeBoth_21 rfl (lv_at hl 0 rfl) ?_
    obtain ⟨v4, hg, hf⟩ := gfR_inv hf
    refine r_gfR hC hw hg clX5 (Nat.le_of_ble_eq_true rfl) lkF_X5_9 rfl dX5_takeBoth_22 ?_
    refine lv_iload_n hx hb dX5_takeBoth_25 rfl (lv_at hl 2 rfl) ?_
    refine lv_aload_n hx hb dX5_takeBoth_26 rfl (lv_at hl 0 rfl) ?_
    obtain ⟨v5, hg, hf⟩ := gfR_inv hf
    refine r_gfR hC hw hg clX5 (Nat.le_of_ble_eq_true rfl) lkF_X5_15 rfl dX5_takeBoth_27 ?_
    obtain ⟨ho, hf⟩ := chk_inv hf
    obtain ⟨_, σ6, hk, hf⟩ := bnd_inv hf
    refine z_callV (As := [.ref v4, .int x2, .ref v5]) (rest := []) (m_X0_addStep hC.2.2.2.2.2.2.2.2 hk) hC hw wd_X0_addStep lkM_X5_46 (isO_sh ho) rfl rfl ⟨rfl, rfl⟩ ⟨(Nat.le_of_ble_eq_true rfl), (Nat.le_of_ble_eq_true rfl)⟩ hl.1 rfl (Nat.le_of_ble_eq_true rfl) dX5_takeBoth_30 ⟨(Nat.le_of_ble_eq_true rfl), (Nat.le_of_ble_eq_true rfl)⟩ (fun H locs hw => ?_)
    refine lv_iinc (v := (x2 + 1)) (lv' := [(2, .int (x2 + 1)), (0, .ref x0), (1, .ref x1)]) hx hb dX5_takeBoth_33 hl (k := 2) rfl rfl (Nat.le_of_ble_eq_true rfl) rfl (fun ls hl => ?_)
    refine lv_goto (tgt := 15) hx hb dX5_takeBoth_36 (by decide) ?_
    exact kI (x2 + 1) σ6 (Option.some.inj hf).symm _ _ _ hw (lv_sub hl [1, 2, 0] rfl)
set_option maxHeartbeats 4000000 in
theorem l_X5_takeBoth_B15 (hC : zC p l s m args meth c cX5_takeBoth 3 RX5 D cA B0) (hr : meth.sig.returnType = (Option.none : Option Jvm.ClassFile.FieldType)) {Γ : zSh} {x0 : Nat} {x1 : Nat} {σ2 : zSt} (kE : ∀ (H : Heap) (locs : List Loc) (ls : Array Slot), zO D cA B0 Γ σ2 Z s.heap H locs → lv_has ls 3 [(0, .ref x0)] → W p l e rm_X5_takeBoth s m args below meth c H locs 0 0 Q (F0 m 39 ls [])) :
    ∀ (n : Nat) (x2 : Int32) (σ : zSt), loopM (fun q => f_X5_takeBoth_B15 Γ x0 x1 q.1 q.2) n (x2, σ) = some σ2 → ∀ (H : Heap) (locs : List Loc) (ls : Array Slot), zO D cA B0 Γ σ Z s.heap H locs → lv_has ls 3 [(0, .ref x0), (1, .ref x1), (2, .int x2)] → W p l e rm_X5_takeBoth s m args below meth c H locs 0 0 Q (F0 m 15 ls []) := by
  intro n
  induction n with
  | zero => intro x2 σ h; exact absurd h (by simp [loopM])
  | succ n ih =>
    intro x2 σ h H locs ls hw hl
    obtain ⟨r, h1, h2, h3⟩ := loopM_inv h
    exact t_X5_takeBoth_B15 hC hr h1 hw hl (fun z2 s2 e H locs ls hw hl => ih z2 s2 (h2 _ e) H locs ls hw hl) (fun s2 e H locs ls hw hl => by cases h3 _ e; exact kE H locs ls hw hl)
set_option maxHeartbeats 4000000 in
set_option maxRecDepth 100000 in
theorem m_X5_takeBoth (h9 : l.stackTraces = false) {Γ : zSh} {a0 : Nat} {a1 : Nat} {σ : zSt} {r : Unit} {σ2 : zSt} (hf : f_X5_takeBoth Γ a0 a1 σ = some (r, σ2)) : Met l yX5_takeBoth (wq yX5_takeBoth cX5_takeBoth 3 (Option.none : Option Jvm.ClassFile.FieldType)) rm_X5_takeBoth (zQ0 D cA B0 [.ref a0, .ref a1] Γ σ Z) (zQ1 D cA B0 (none) Γ σ2 Z) 0 0 (FR B0) := by
  refine z_ofW h9 (by decide) (Nat.le_of_ble_eq_true rfl) ?_
  intro p e s m args below meth c ls hC hr _ hw hl
  have hx := hC.1
  have hb := hC.2.1
  have hl : lv_has ls 3 [(0, .ref a0), (1, .ref a1)] := hl
  unfold f_X5_takeBoth at hf
  refine lv_aload_n hx hb dX5_takeBoth_0 rfl (lv_at hl 0 rfl) ?_
  obtain ⟨v1, hg, hf⟩ := gfR_inv hf
  refine r_gfR hC hw hg clX5 (Nat.le_of_ble_eq_true rfl) lkF_X5_15 rfl dX5_takeBoth_1 ?_
  refine lv_iconst (v := 0) hx hb dX5_takeBoth_4 (by decide) ?_
  refine lv_aload_n hx hb dX5_takeBoth_5 rfl (lv_at hl 1 rfl) ?_
  obtain ⟨v2, hg, hf⟩ := gfI_inv hf
  refine r_gfI hC hw hg clX0 (Nat.le_of_ble_eq_true rfl) lkF_X5_23 rfl dX5_takeBoth_6 ?_
  refine lv_iconst (v := 0) hx hb dX5_takeBoth_9 (by decide) ?_
  obtain ⟨_, σ3, hk, hf⟩ := bnd_inv hf
  refine z_callS (As := [.ref v1, .int 0, .int v2, .int 0]) (rest := []) (m_J7_fill_fda19 hC.2.2.2.2.2.2.2.2 hk) hC hw wd_J7_fill_fda19 lkM_X5_40 rfl ⟨rfl, rfl⟩ ⟨(Nat.le_of_ble_eq_true rfl), (Nat.le_of_ble_eq_true rfl)⟩ hl.1 rfl (Nat.le_of_ble_eq_true rfl) dX5_takeBoth_10 ⟨(Nat.le_of_ble_eq_true rfl), (Nat.le_of_ble_eq_true rfl)⟩ (fun H locs hw => ?_)
  refine lv_iconst (v := 0) hx hb dX5_takeBoth_13 (by decide) ?_
  refine lv_istore_n (lv' := [(2, .int 0), (0, .ref a0), (1, .ref a1)]) hx hb dX5_takeBoth_14 rfl hl (Nat.le_of_ble_eq_true rfl) rfl (fun ls hl => ?_)
  obtain ⟨σ7, hk, hf⟩ := lb0_inv hf
  refine l_X5_takeBoth_B15 hC hr (fun H locs ls hw hl => ?_) FUEL 0 σ3 hk _ _ _ hw (lv_sub hl [1, 2, 0] rfl)
  refine lv_aload_n hx hb dX5_takeBoth_39 rfl (lv_at hl 0 rfl) ?_
  obtain ⟨ho, hf⟩ := chk_inv hf
  obtain ⟨_, σ8, hk, hf⟩ := bnd_inv hf
  refine z_callV (As := []) (rest := []) (m_X5_swap hC.2.2.2.2.2.2.2.2 hk) hC hw wd_X5_swap lkM_X5_37 (isO_sh ho) rfl rfl ⟨rfl, rfl⟩ ⟨(Nat.le_of_ble_eq_true rfl), (Nat.le_of_ble_eq_true rfl)⟩ hl.1 rfl (Nat.le_of_ble_eq_true rfl) dX5_takeBoth_40 ⟨(Nat.le_of_ble_eq_true rfl), (Nat.le_of_ble_eq_true rfl)⟩ (fun H locs hw => ?_)
  first | (obtain ⟨rfl, rfl⟩ := sp_inv hf) | (obtain rfl := Option.some.inj hf)
  exact W.vret hx hb hr (z_ret hw rfl) hw.2.2.2.2.2 dX5_takeBoth_43 hC.2.2.2.2.2.1
set_option maxHeartbeats 4000000 in
set_option maxRecDepth 100000 in
theorem m_X5_value (h9 : l.stackTraces = false) {Γ : zSh} {a0 : Nat} {a1 : Nat} {σ : zSt} {r : Int32} {σ2 : zSt} (hf : f_X5_value Γ a0 a1 σ = some (r, σ2)) : Met l yX5_value (wq yX5_value cX5_value 2 (Option.some FieldType.int)) rm_X5_value (zQ0 D cA B0 [.ref a0, .ref a1] Γ σ Z) (zQ1 D cA B0 (some (.int r)) Γ σ2 Z) 0 0 (FR B0) := by
  refine z_ofW h9 (by decide) (Nat.le_of_ble_eq_true rfl) ?_
  intro p e s m args below meth c ls hC hr _ hw hl
  have hx := hC.1
  have hb := hC.2.1
  have hl : lv_has ls 2 [(0, .ref a0), (1, .ref a1)] := hl
  unfold f_X5_value at hf
  refine lv_aload_n hx hb dX5_value_0 rfl (lv_at hl 1 rfl) ?_
  refine lv_aload_n hx hb dX5_value_1 rfl (lv_at hl 0 rfl) ?_
  obtain ⟨v1, hg, hf⟩ := gfR_inv hf
  refine r_gfR hC hw hg clX5 (Nat.le_of_ble_eq_true rfl) lkF_X5_9 rfl dX5_value_2 ?_
  obtain ⟨ho, hf⟩ := chk_inv hf
  obtain ⟨r3, σ2, hk, hf⟩ := bnd_inv hf
  refine z_callV (As := [.ref v1]) (rest := []) (m_X0_weightFrom hC.2.2.2.2.2.2.2.2 hk) hC hw wd_X0_weightFrom lkM_X5_49 (isO_sh ho) rfl rfl ⟨rfl, rfl⟩ ⟨(Nat.le_of_ble_eq_true rfl), (Nat.le_of_ble_eq_true rfl)⟩ hl.1 rfl (Nat.le_of_ble_eq_true rfl) dX5_value_5 ⟨(Nat.le_of_ble_eq_true rfl), (Nat.le_of_ble_eq_true rfl)⟩ (fun H locs hw => ?_)
  first | (obtain ⟨rfl, rfl⟩ := sp_inv hf) | (obtain rfl := Option.some.inj hf)
  exact W.iret hx hb hr (z_ret hw rfl) hw.2.2.2.2.2 dX5_value_8 hC.2.2.2.2.2.1
set_option maxHeartbeats 4000000 in
set_option maxRecDepth 100000 in
theorem t_X6_checkSlot_L9 (hC : zC p l s m args meth c cX6_checkSlot 1 RX6 D cA B0) (hr : meth.sig.returnType = (Option.none : Option Jvm.ClassFile.FieldType)) (htab : ∀ x ∈ c.exceptionTable.toList, False) {Γ : zSh}  {σ : zSt} {out : ((Unit × zSt) ⊕ (Nat × zSt))} (hf : f_X6_checkSlot_L9 Γ  σ = some out) {H : Heap} {locs : List Loc} {ls : Array Slot} (hw : zO D cA B0 Γ σ (ZB B0) s.heap H locs) (hl : lv_has ls 1 []) :
    W p l e rm_X6_checkSlot s m args below meth c H locs 0 0 (vx_MQ below (zQx D cA B0 (fun r : Unit => none) Γ out (ZB B0)) (zXx D cA B0 Γ out (ZB B0)) args s 1 6 (FR B0)) (F0 m 9 ls []) := by
  have hx := hC.1
  have hb := hC.2.1
  unfold f_X6_checkSlot_L9 at hf
  exact z_throwSW (k := 0) hC hw zB_up (Option.some.inj hf).symm htab zt_204_208_0 zstr_261 hl.1 dX6_checkSlot_9 dX6_checkSlot_12 dX6_checkSlot_13 dX6_checkSlot_16 dX6_checkSlot_19 (Nat.le_of_ble_eq_true rfl) (Nat.le_of_ble_eq_true rfl) (Nat.le_of_ble_eq_true rfl) (Nat.le_of_ble_eq_true rfl) (Nat.le_of_ble_eq_true rfl) (Nat.le_of_ble_eq_true rfl)
set_option maxHeartbeats 4000000 in
set_option maxRecDepth 100000 in
theorem m_X6_checkSlot (h9 : l.stackTraces = false) {Γ : zSh} {a0 : Int32} {σ : zSt} {out : ((Unit × zSt) ⊕ (Nat × zSt))} (hf : f_X6_checkSlot Γ a0 σ = some out) : vx_Met l yX6_checkSlot (wq yX6_checkSlot cX6_checkSlot 1 (Option.none : Option Jvm.ClassFile.FieldType)) rm_X6_checkSlot (zQ0 D cA B0 [.int a0] Γ σ (ZB B0)) (zQx D cA B0 (fun r : Unit => none) Γ out (ZB B0)) (zXx D cA B0 Γ out (ZB B0)) 1 6 (FR B0) := by
  refine z_ofX h9 (by decide) (Nat.le_of_ble_eq_true rfl) ?_
  intro p e s m args below meth c ls hC hr htab hw hl
  have hx := hC.1
  have hb := hC.2.1
  have hl : lv_has ls 1 [(0, .int a0)] := hl
  unfold f_X6_checkSlot at hf
  refine lv_iload_n hx hb dX6_checkSlot_0 rfl (lv_at hl 0 rfl) ?_
  refine lv_if_lt (tgt := 9) hx hb dX6_checkSlot_1 (by decide) (fun hc => ?_) (fun hc => ?_)
  · rw [if_pos hc] at hf
    exact t_X6_checkSlot_L9 hC hr htab hf hw (lv_sub hl [] rfl)
  · rw [if_neg hc] at hf
    refine lv_iload_n hx hb dX6_checkSlot_4 rfl (lv_at hl 0 rfl) ?_
    refine lv_iconst (v := 4) hx hb dX6_checkSlot_5 (by decide) ?_
    refine lv_icmp_lt (tgt := 20) hx hb dX6_checkSlot_6 (by decide) (fun hc => ?_) (fun hc => ?_)
    · rw [if_pos hc] at hf
      refine vx_ret ?_
      refine W.widen (k := 1) (n := 6) (Nat.le_of_ble_eq_true rfl) (Nat.le_of_ble_eq_true rfl) ?_
      exact W.vret hx hb hr (z_retx hw (Option.some.inj hf).symm rfl) hw.2.2.2.2.2 dX6_checkSlot_20 hC.2.2.2.2.2.1
    · rw [if_neg hc] at hf
      exact t_X6_checkSlot_L9 hC hr htab hf hw (lv_sub hl [] rfl)
set_option maxHeartbeats 4000000 in
set_option maxRecDepth 100000 in
theorem t_X6_checkRange_L10 (hC : zC p l s m args meth c cX6_checkRange 3 RX6 D cA B0) (hr : meth.sig.returnType = (Option.none : Option Jvm.ClassFile.FieldType)) (htab : ∀ x ∈ c.exceptionTable.toList, False) {Γ : zSh}  {σ : zSt} {out : ((Unit × zSt) ⊕ (Nat × zSt))} (hf : f_X6_checkRange_L10 Γ  σ = some out) {H : Heap} {locs : List Loc} {ls : Array Slot} (hw : zO D cA B0 Γ σ (ZB B0) s.heap H locs) (hl : lv_has ls 3 []) :
    W p l e rm_X6_checkRange s m args below meth c H locs 0 0 (vx_MQ below (zQx D cA B0 (fun r : Unit => none) Γ out (ZB B0)) (zXx D cA B0 Γ out (ZB B0)) args s 1 6 (FR B0)) (F0 m 10 ls []) := by
  have hx := hC.1
  have hb := hC.2.1
  unfold f_X6_checkRange_L10 at hf
  exact z_throwSW (k := 1) hC hw zB_up (Option.some.inj hf).symm htab zt_267_271_1 zstr_269 hl.1 dX6_checkRange_10 dX6_checkRange_13 dX6_checkRange_14 dX6_checkRange_17 dX6_checkRange_20 (Nat.le_of_ble_eq_true rfl) (Nat.le_of_ble_eq_true rfl) (Nat.le_of_ble_eq_true rfl) (Nat.le_of_ble_eq_true rfl) (Nat.le_of_ble_eq_true rfl) (Nat.le_of_ble_eq_true rfl)
set_option maxHeartbeats 4000000 in
set_option maxRecDepth 100000 in
theorem m_X6_checkRange (h9 : l.stackTraces = false) {Γ : zSh} {a0 : Int32} {a1 : Int32} {a2 : Int32} {σ : zSt} {out : ((Unit × zSt) ⊕ (Nat × zSt))} (hf : f_X6_checkRange Γ a0 a1 a2 σ = some out) : vx_Met l yX6_checkRange (wq yX6_checkRange cX6_checkRange 3 (Option.none : Option Jvm.ClassFile.FieldType)) rm_X6_checkRange (zQ0 D cA B0 [.int a0, .int a1, .int a2] Γ σ (ZB B0)) (zQx D cA B0 (fun r : Unit => none) Γ out (ZB B0)) (zXx D cA B0 Γ out (ZB B0)) 1 6 (FR B0) := by
  refine z_ofX h9 (by decide) (Nat.le_of_ble_eq_true rfl) ?_
  intro p e s m args below meth c ls hC hr htab hw hl
  have hx := hC.1
  have hb := hC.2.1
  have hl : lv_has ls 3 [(0, .int a0), (1, .int a1), (2, .int a2)] := hl
  unfold f_X6_checkRange at hf
  refine lv_iload_n hx hb dX6_checkRange_0 rfl (lv_at hl 0 rfl) ?_
  refine lv_iload_n hx hb dX6_checkRange_1 rfl (lv_at hl 1 rfl) ?_
  refine lv_icmp_lt (tgt := 10) hx hb dX6_checkRange_2 (by decide) (fun hc => ?_) (fun hc => ?_)
  · rw [if_pos hc] at hf
    exact t_X6_checkRange_L10 hC hr htab hf hw (lv_sub hl [] rfl)
  · rw [if_neg hc] at hf
    refine lv_iload_n hx hb dX6_checkRange_5 rfl (lv_at hl 0 rfl) ?_
    refine lv_iload_n hx hb dX6_checkRange_6 rfl (lv_at hl 2 rfl) ?_
    refine lv_icmp_le (tgt := 21) hx hb dX6_checkRange_7 (by decide) (fun hc => ?_) (fun hc => ?_)
    · rw [if_pos hc] at hf
      refine vx_ret ?_
      refine W.widen (k := 1) (n := 6) (Nat.le_of_ble_eq_true rfl) (Nat.le_of_ble_eq_true rfl) ?_
      exact W.vret hx hb hr (z_retx hw (Option.some.inj hf).symm rfl) hw.2.2.2.2.2 dX6_checkRange_21 hC.2.2.2.2.2.1
    · rw [if_neg hc] at hf
      exact t_X6_checkRange_L10 hC hr htab hf hw (lv_sub hl [] rfl)
end
