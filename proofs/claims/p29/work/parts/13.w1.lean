section
variable {p : Program} {l : Launch} {e : Env} {s : State} {m : MethodId} {args : Array Value} {below : List Frame} {meth : Method} {c : Code} {Q : State → Prop} {D : va_G} {cA : Nat → ClassId} {B0 : Nat} {Z : Nat → Prop}
set_option maxHeartbeats 4000000 in
set_option maxRecDepth 100000 in
theorem t_X1_place_B32_L98 (hC : zC p l s m args meth c cX1_place 6 RX1 D cA B0) (hr : meth.sig.returnType = (Option.none : Option Jvm.ClassFile.FieldType)) {Γ : zSh} {x0 : Nat} {x1 : Nat} {x2 : Int32} {x3 : Int32} {x4 : Int32}  {σ : zSt} {out : ((Int32 × zSt) ⊕ (zSt))} (hf : f_X1_place_B32_L98 Γ x0 x1 x2 x3 x4 σ = some out) {H : Heap} {locs : List Loc} {ls : Array Slot} (hw : zO D cA B0 Γ σ Z s.heap H locs) (hl : lv_has ls 6 [(0, .ref x0), (1, .ref x1), (2, .int x2), (3, .int x3), (4, .int x4)])
    (kI : ∀ (z4 : Int32) (σ2 : zSt), out = .inl (z4, σ2) → ∀ (H : Heap) (locs : List Loc) (ls : Array Slot), zO D cA B0 Γ σ2 Z s.heap H locs → lv_has ls 6 [(0, .ref x0), (1, .ref x1), (2, .int x2), (3, .int x3), (4, .int z4)] → W p l e rm_X1_place s m args below meth c H locs 0 0 Q (F0 m 32 ls []))
    (kE : ∀ (σ2 : zSt), out = .inr σ2 → ∀ (H : Heap) (locs : List Loc) (ls : Array Slot), zO D cA B0 Γ σ2 Z s.heap H locs → lv_has ls 6 [(0, .ref x0), (1, .ref x1), (2, .int x2), (3, .int x3)] → W p l e rm_X1_place s m args below meth c H locs 0 0 Q (F0 m 104 ls [])) :
    W p l e rm_X1_place s m args below meth c H locs 0 0 Q (F0 m 98 ls []) := by
  have hx := hC.1
  have hb := hC.2.1
  unfold f_X1_place_B32_L98 at hf
  refine lv_iinc (v := (x4 + 1)) (lv' := [(4, .int (x4 + 1)), (0, .ref x0), (1, .ref x1), (2, .int x2), (3, .int x3)]) hx hb dX1_place_98 hl (k := 4) rfl rfl (Nat.le_of_ble_eq_true rfl) rfl (fun ls hl => ?_)
  refine lv_goto (tgt := 32) hx hb dX1_place_101 (by decide) ?_
  exact kI (x4 + 1) σ (Option.some.inj hf).symm _ _ _ hw (lv_sub hl [1, 2, 3, 4, 0] rfl)
set_option maxHeartbeats 4000000 in
set_option maxRecDepth 100000 in
theorem t_X1_place_B32 (hC : zC p l s m args meth c cX1_place 6 RX1 D cA B0) (hr : meth.sig.returnType = (Option.none : Option Jvm.ClassFile.FieldType)) {Γ : zSh} {x0 : Nat} {x1 : Nat} {x2 : Int32} {x3 : Int32} {x4 : Int32} {σ : zSt} {out : ((Int32 × zSt) ⊕ (zSt))} (hf : f_X1_place_B32 Γ x0 x1 x2 x3 x4 σ = some out) {H : Heap} {locs : List Loc} {ls : Array Slot} (hw : zO D cA B0 Γ σ Z s.heap H locs) (hl : lv_has ls 6 [(0, .ref x0), (1, .ref x1), (2, .int x2), (3, .int x3), (4, .int x4)])
    (kI : ∀ (z4 : Int32) (σ2 : zSt), out = .inl (z4, σ2) → ∀ (H : Heap) (locs : List Loc) (ls : Array Slot), zO D cA B0 Γ σ2 Z s.heap H locs → lv_has ls 6 [(0, .ref x0), (1, .ref x1), (2, .int x2), (3, .int x3), (4, .int z4)] → W p l e rm_X1_place s m args below meth c H locs 0 0 Q (F0 m 32 ls []))
    (kE : ∀ (σ2 : zSt), out = .inr σ2 → ∀ (H : Heap) (locs : List Loc) (ls : Array Slot), zO D cA B0 Γ σ2 Z s.heap H locs → lv_has ls 6 [(0, .ref x0), (1, .ref x1), (2, .int x2), (3, .int x3)] → W p l e rm_X1_place s m args below meth c H locs 0 0 Q (F0 m 104 ls [])) :
    W p l e rm_X1_place s m args below meth c H locs 0 0 Q (F0 m 32 ls []) := by
  have hx := hC.1
  have hb := hC.2.1
  unfold f_X1_place_B32 at hf
  refine lv_iload hx hb dX1_place_32 (lv_at hl 4 rfl) ?_
  refine lv_aload_n hx hb dX1_place_34 rfl (lv_at hl 0 rfl) ?_
  obtain ⟨v7, hg, hf⟩ := gfI_inv hf
  refine r_gfI hC hw hg clX1 (Nat.le_of_ble_eq_true rfl) lkF_X1_50 rfl dX1_place_35 ?_
  refine lv_icmp_ge (tgt := 104) hx hb dX1_place_38 (by decide) (fun hc => ?_) (fun hc => ?_)
  · rw [if_pos hc] at hf
    exact kE  σ (Option.some.inj hf).symm _ _ _ hw (lv_sub hl [0, 1, 2, 3] rfl)
  · rw [if_neg hc] at hf
    refine lv_aload_n hx hb dX1_place_41 rfl (lv_at hl 0 rfl) ?_
    obtain ⟨v8, hg, hf⟩ := gfR_inv hf
    refine r_gfR hC hw hg clX1 (Nat.le_of_ble_eq_true rfl) lkF_X1_38 rfl dX1_place_42 ?_
    refine lv_aload_n hx hb dX1_place_45 rfl (lv_at hl 0 rfl) ?_
    obtain ⟨v9, hg, hf⟩ := gfR_inv hf
    refine r_gfR hC hw hg clX1 (Nat.le_of_ble_eq_true rfl) lkF_X1_29 rfl dX1_place_46 ?_
    refine lv_iload hx hb dX1_place_49 (lv_at hl 4 rfl) ?_
    obtain ⟨v10, hg, hf⟩ := ldI_inv hf
    refine r_ldI hC hw hg dX1_place_51 ?_
    obtain ⟨v11, hg, hf⟩ := ldI_inv hf
    refine r_ldI hC hw hg dX1_place_52 ?_
    refine lv_istore (lv' := [(5, .int v11), (0, .ref x0), (1, .ref x1), (2, .int x2), (3, .int x3), (4, .int x4)]) hx hb dX1_place_53 hl (Nat.le_of_ble_eq_true rfl) rfl (fun ls hl => ?_)
    refine lv_iload hx hb dX1_place_55 (lv_at hl 0 rfl) ?_
    refine lv_if_eq (tgt := 98) hx hb dX1_place_57 (by decide) (fun hc => ?_) (fun hc => ?_)
    · rw [if_pos hc] at hf
      exact t_X1_place_B32_L98 hC hr hf hw (lv_sub hl [1, 2, 3, 4, 5] rfl) kI kE
    · rw [if_neg hc] at hf
      refine lv_aload_n hx hb dX1_place_60 rfl (lv_at hl 1 rfl) ?_
      obtain ⟨v12, hg, hf⟩ := gfR_inv hf
      refine r_gfR hC hw hg clX1 (Nat.le_of_ble_eq_true rfl) lkF_X1_38 rfl dX1_place_61 ?_
      refine lv_sipush (v := 10007) hx hb dX1_place_64 (by decide) ?_
      refine lv_iload hx hb dX1_place_67 (lv_at hl 0 rfl) ?_
      refine lv_isub hx hb dX1_place_69 ?_
      refine lv_aload_n hx hb dX1_place_70 rfl (lv_at hl 1 rfl) ?_
      obtain ⟨v13, hg, hf⟩ := gfR_inv hf
      refine r_gfR hC hw hg clX1 (Nat.le_of_ble_eq_true rfl) lkF_X1_23 rfl dX1_place_71 ?_
      refine lv_iload hx hb dX1_place_74 (lv_at hl 5 rfl) ?_
      obtain ⟨v14, hg, hf⟩ := ldG_inv hf
      refine r_ldG hC hw hg dX1_place_76 ?_
      refine lv_iload_n hx hb dX1_place_77 rfl (lv_at hl 4 rfl) ?_
      obtain ⟨_, σ15, hk, hf⟩ := bnd_inv hf
      refine z_callSN (As := [.ref v12, .int (10007 - v11), .ref v14, .int x3]) (rest := []) (m_X6_addMultiple hC.2.2.2.2.2.2.2.2 hk) hC hw wd_X6_addMultiple lkN_X1_76 rfl ⟨rfl, rfl⟩ ⟨(Nat.le_of_ble_eq_true rfl), (Nat.le_of_ble_eq_true rfl)⟩ hl.1 rfl (Nat.le_of_ble_eq_true rfl) dX1_place_78 ⟨(Nat.le_of_ble_eq_true rfl), (Nat.le_of_ble_eq_true rfl)⟩ (fun H locs hw => ?_)
      refine lv_aload_n hx hb dX1_place_81 rfl (lv_at hl 1 rfl) ?_
      obtain ⟨v16, hg, hf⟩ := gfR_inv hf
      refine r_gfR hC hw hg clX1 (Nat.le_of_ble_eq_true rfl) lkF_X1_41 rfl dX1_place_82 ?_
      refine lv_iload hx hb dX1_place_85 (lv_at hl 0 rfl) ?_
      refine lv_aload_n hx hb dX1_place_87 rfl (lv_at hl 1 rfl) ?_
      obtain ⟨v17, hg, hf⟩ := gfR_inv hf
      refine r_gfR hC hw hg clX1 (Nat.le_of_ble_eq_true rfl) lkF_X1_26 rfl dX1_place_88 ?_
      refine lv_iload hx hb dX1_place_91 (lv_at hl 5 rfl) ?_
      obtain ⟨v18, hg, hf⟩ := ldG_inv hf
      refine r_ldG hC hw hg dX1_place_93 ?_
      refine lv_iload_n hx hb dX1_place_94 rfl (lv_at hl 4 rfl) ?_
      obtain ⟨_, σ19, hk, hf⟩ := bnd_inv hf
      refine z_callSN (As := [.ref v16, .int v11, .ref v18, .int x3]) (rest := []) (m_X6_addMultiple hC.2.2.2.2.2.2.2.2 hk) hC hw wd_X6_addMultiple lkN_X1_76 rfl ⟨rfl, rfl⟩ ⟨(Nat.le_of_ble_eq_true rfl), (Nat.le_of_ble_eq_true rfl)⟩ hl.1 rfl (Nat.le_of_ble_eq_true rfl) dX1_place_95 ⟨(Nat.le_of_ble_eq_true rfl), (Nat.le_of_ble_eq_true rfl)⟩ (fun H locs hw => ?_)
      exact t_X1_place_B32_L98 hC hr hf hw (lv_sub hl [1, 2, 3, 4, 5] rfl) kI kE
set_option maxHeartbeats 4000000 in
theorem l_X1_place_B32 (hC : zC p l s m args meth c cX1_place 6 RX1 D cA B0) (hr : meth.sig.returnType = (Option.none : Option Jvm.ClassFile.FieldType)) {Γ : zSh} {x0 : Nat} {x1 : Nat} {x2 : Int32} {x3 : Int32} {σ2 : zSt} (kE : ∀ (H : Heap) (locs : List Loc) (ls : Array Slot), zO D cA B0 Γ σ2 Z s.heap H locs → lv_has ls 6 [(0, .ref x0), (1, .ref x1), (2, .int x2), (3, .int x3)] → W p l e rm_X1_place s m args below meth c H locs 0 0 Q (F0 m 104 ls [])) :
    ∀ (n : Nat) (x4 : Int32) (σ : zSt), loopM (fun q => f_X1_place_B32 Γ x0 x1 x2 x3 q.1 q.2) n (x4, σ) = some σ2 → ∀ (H : Heap) (locs : List Loc) (ls : Array Slot), zO D cA B0 Γ σ Z s.heap H locs → lv_has ls 6 [(0, .ref x0), (1, .ref x1), (2, .int x2), (3, .int x3), (4, .int x4)] → W p l e rm_X1_place s m args below meth c H locs 0 0 Q (F0 m 32 ls []) := by
  intro n
  induction n with
  | zero => intro x4 σ h; exact absurd h (by simp [loopM])
  | succ n ih =>
    intro x4 σ h H locs ls hw hl
    obtain ⟨r, h1, h2, h3⟩ := loopM_inv h
    exact t_X1_place_B32 hC hr h1 hw hl (fun z4 s2 e H locs ls hw hl => ih z4 s2 (h2 _ e) H locs ls hw hl) (fun s2 e H locs ls hw hl => by cases h3 _ e; exact kE H locs ls hw hl)
set_option maxHeartbeats 4000000 in
set_option maxRecDepth 100000 in
theorem t_X1_place_L182 (hC : zC p l s m args meth c cX1_place 6 RX1 D cA B0) (hr : meth.sig.returnType = (Option.none : Option Jvm.ClassFile.FieldType)) {Γ : zSh}  {σ : zSt} {out : (Unit × zSt)} (hf : f_X1_place_L182 Γ  σ = some out) {H : Heap} {locs : List Loc} {ls : Array Slot} (hw : zO D cA B0 Γ σ Z s.heap H locs) (hl : lv_has ls 6 []) :
    W p l e rm_X1_place s m args below meth c H locs 0 0 (MQ below (zQ1 D cA B0 (none) Γ out.2 Z) args s 0 0 (FR B0)) (F0 m 182 ls []) := by
  have hx := hC.1
  have hb := hC.2.1
  unfold f_X1_place_L182 at hf
  first | (obtain ⟨rfl, rfl⟩ := sp_inv hf) | (obtain rfl := Option.some.inj hf)
  exact W.vret hx hb hr (z_ret hw rfl) hw.2.2.2.2.2 dX1_place_182 hC.2.2.2.2.2.1
set_option maxHeartbeats 4000000 in
set_option maxRecDepth 100000 in
theorem m_X1_place (h9 : l.stackTraces = false) {Γ : zSh} {a0 : Nat} {a1 : Nat} {a2 : Int32} {σ : zSt} {r : Unit} {σ2 : zSt} (hf : f_X1_place Γ a0 a1 a2 σ = some (r, σ2)) : Met l yX1_place (wq yX1_place cX1_place 6 (Option.none : Option Jvm.ClassFile.FieldType)) rm_X1_place (zQ0 D cA B0 [.ref a0, .ref a1, .int a2] Γ σ Z) (zQ1 D cA B0 (none) Γ σ2 Z) 0 0 (FR B0) := by
  refine z_ofW h9 (by decide) (Nat.le_of_ble_eq_true rfl) ?_
  intro p e s m args below meth c ls hC hr _ hw hl
  have hx := hC.1
  have hb := hC.2.1
  have hl : lv_has ls 6 [(0, .ref a0), (1, .ref a1), (2, .int a2)] := hl
  unfold f_X1_place at hf
  refine lv_aload_n hx hb dX1_place_0 rfl (lv_at hl 1 rfl) ?_
  obtain ⟨v1, hg, hf⟩ := gfI_inv hf
  refine r_gfI hC hw hg clX0 (Nat.le_of_ble_eq_true rfl) lkF_X1_44 rfl dX1_place_1 ?_
  refine lv_istore_n (lv' := [(3, .int v1), (0, .ref a0), (1, .ref a1), (2, .int a2)]) hx hb dX1_place_4 rfl hl (Nat.le_of_ble_eq_true rfl) rfl (fun ls hl => ?_)
  refine lv_aload_n hx hb dX1_place_5 rfl (lv_at hl 1 rfl) ?_
  obtain ⟨v2, hg, hf⟩ := gfR_inv hf
  refine r_gfR hC hw hg clX1 (Nat.le_of_ble_eq_true rfl) lkF_X1_35 rfl dX1_place_6 ?_
  refine lv_iconst (v := 0) hx hb dX1_place_9 (by decide) ?_
  refine lv_aload_n hx hb dX1_place_10 rfl (lv_at hl 1 rfl) ?_
  obtain ⟨v3, hg, hf⟩ := gfR_inv hf
  refine r_gfR hC hw hg clX1 (Nat.le_of_ble_eq_true rfl) lkF_X1_38 rfl dX1_place_11 ?_
  refine lv_iconst (v := 0) hx hb dX1_place_14 (by decide) ?_
  refine lv_iload_n hx hb dX1_place_15 rfl (lv_at hl 0 rfl) ?_
  obtain ⟨σ4, hg, hf⟩ := cpI_inv hf
  refine r_cpI hC hw hg hl.1 lkM_X1_56 (Nat.le_of_ble_eq_true rfl) (Nat.le_of_ble_eq_true rfl) dX1_place_16 (fun H locs hw => ?_)
  refine lv_aload_n hx hb dX1_place_19 rfl (lv_at hl 1 rfl) ?_
  obtain ⟨v5, hg, hf⟩ := gfR_inv hf
  refine r_gfR hC hw hg clX1 (Nat.le_of_ble_eq_true rfl) lkF_X1_41 rfl dX1_place_20 ?_
  refine lv_iconst (v := 0) hx hb dX1_place_23 (by decide) ?_
  refine lv_iload_n hx hb dX1_place_24 rfl (lv_at hl 0 rfl) ?_
  refine lv_iconst (v := 0) hx hb dX1_place_25 (by decide) ?_
  obtain ⟨_, σ6, hk, hf⟩ := bnd_inv hf
  refine z_callS (As := [.ref v5, .int 0, .int v1, .int 0]) (rest := []) (m_J7_fill_fda19 hC.2.2.2.2.2.2.2.2 hk) hC hw wd_J7_fill_fda19 lkM_X1_70 rfl ⟨rfl, rfl⟩ ⟨(Nat.le_of_ble_eq_true rfl), (Nat.le_of_ble_eq_true rfl)⟩ hl.1 rfl (Nat.le_of_ble_eq_true rfl) dX1_place_26 ⟨(Nat.le_of_ble_eq_true rfl), (Nat.le_of_ble_eq_true rfl)⟩ (fun H locs hw => ?_)
  refine lv_iconst (v := 0) hx hb dX1_place_29 (by decide) ?_
  refine lv_istore (lv' := [(4, .int 0), (3, .int v1), (0, .ref a0), (1, .ref a1), (2, .int a2)]) hx hb dX1_place_30 hl (Nat.le_of_ble_eq_true rfl) rfl (fun ls hl => ?_)
  obtain ⟨σ20, hk, hf⟩ := lb0_inv hf
  refine l_X1_place_B32 hC hr (fun H locs ls hw hl => ?_) FUEL 0 σ6 hk _ _ _ hw (lv_sub hl [2, 3, 4, 1, 0] rfl)
  refine lv_aload_n hx hb dX1_place_104 rfl (lv_at hl 0 rfl) ?_
  obtain ⟨v21, hg, hf⟩ := gfR_inv hf
  refine r_gfR hC hw hg clX1 (Nat.le_of_ble_eq_true rfl) lkF_X1_38 rfl dX1_place_105 ?_
  refine lv_iload_n hx hb dX1_place_108 rfl (lv_at hl 3 rfl) ?_
  obtain ⟨r23, σ22, hk, hf⟩ := bnd_inv hf
  refine z_callSN (As := [.ref v21, .int v1]) (rest := []) (m_X6_firstNonZero hC.2.2.2.2.2.2.2.2 hk) hC hw wd_X6_firstNonZero lkN_X1_80 rfl ⟨rfl, rfl⟩ ⟨(Nat.le_of_ble_eq_true rfl), (Nat.le_of_ble_eq_true rfl)⟩ hl.1 rfl (Nat.le_of_ble_eq_true rfl) dX1_place_109 ⟨(Nat.le_of_ble_eq_true rfl), (Nat.le_of_ble_eq_true rfl)⟩ (fun H locs hw => ?_)
  refine lv_istore (lv' := [(4, .int r23), (0, .ref a0), (1, .ref a1), (2, .int a2), (3, .int v1)]) hx hb dX1_place_112 hl (Nat.le_of_ble_eq_true rfl) rfl (fun ls hl => ?_)
  refine lv_iload hx hb dX1_place_114 (lv_at hl 0 rfl) ?_
  refine lv_iconst (v := (-1)) hx hb dX1_place_116 (by decide) ?_
  refine lv_icmp_eq (tgt := 182) hx hb dX1_place_117 (by decide) (fun hc => ?_) (fun hc => ?_)
  · rw [if_pos hc] at hf
    exact t_X1_place_L182 hC hr hf hw (lv_sub hl [] rfl)
  · rw [if_neg hc] at hf
    refine lv_aload_n hx hb dX1_place_120 rfl (lv_at hl 1 rfl) ?_
    obtain ⟨v24, hg, hf⟩ := gfI_inv hf
    refine r_gfI hC hw hg clX1 (Nat.le_of_ble_eq_true rfl) lkF_X1_50 rfl dX1_place_121 ?_
    refine lv_bipush (v := 24) hx hb dX1_place_124 (by decide) ?_
    refine lv_icmp_ge (tgt := 182) hx hb dX1_place_126 (by decide) (fun hc => ?_) (fun hc => ?_)
    · rw [if_pos hc] at hf
      exact t_X1_place_L182 hC hr hf hw (lv_sub hl [] rfl)
    · rw [if_neg hc] at hf
      refine lv_aload_n hx hb dX1_place_129 rfl (lv_at hl 1 rfl) ?_
      obtain ⟨v25, hg, hf⟩ := gfR_inv hf
      refine r_gfR hC hw hg clX1 (Nat.le_of_ble_eq_true rfl) lkF_X1_9 rfl dX1_place_130 ?_
      refine lv_aload_n hx hb dX1_place_133 rfl (lv_at hl 1 rfl) ?_
      obtain ⟨v26, hg, hf⟩ := gfI_inv hf
      refine r_gfI hC hw hg clX1 (Nat.le_of_ble_eq_true rfl) lkF_X1_50 rfl dX1_place_134 ?_
      refine lv_iload_n hx hb dX1_place_137 rfl (lv_at hl 3 rfl) ?_
      obtain ⟨σ27, hg, hf⟩ := stI_inv hf
      refine r_stI hC hw hg dX1_place_138 (fun H locs hw => ?_)
      refine lv_aload_n hx hb dX1_place_139 rfl (lv_at hl 1 rfl) ?_
      obtain ⟨v28, hg, hf⟩ := gfR_inv hf
      refine r_gfR hC hw hg clX1 (Nat.le_of_ble_eq_true rfl) lkF_X1_15 rfl dX1_place_140 ?_
      refine lv_aload_n hx hb dX1_place_143 rfl (lv_at hl 1 rfl) ?_
      obtain ⟨v29, hg, hf⟩ := gfI_inv hf
      refine r_gfI hC hw hg clX1 (Nat.le_of_ble_eq_true rfl) lkF_X1_50 rfl dX1_place_144 ?_
      refine lv_aload_n hx hb dX1_place_147 rfl (lv_at hl 2 rfl) ?_
      refine lv_aload_n hx hb dX1_place_148 rfl (lv_at hl 1 rfl) ?_
      obtain ⟨v30, hg, hf⟩ := gfR_inv hf
      refine r_gfR hC hw hg clX1 (Nat.le_of_ble_eq_true rfl) lkF_X1_35 rfl dX1_place_149 ?_
      obtain ⟨ho, hf⟩ := chk_inv hf
      obtain ⟨r32, σ31, hk, hf⟩ := bnd_inv hf
      refine z_callV (As := [.ref v30]) (rest := [.int v29, .ref v28]) (m_X0_weightFrom hC.2.2.2.2.2.2.2.2 hk) hC hw wd_X0_weightFrom lkM_X1_84 (isO_sh ho) rfl rfl ⟨rfl, rfl⟩ ⟨(Nat.le_of_ble_eq_true rfl), (Nat.le_of_ble_eq_true rfl)⟩ hl.1 rfl (Nat.le_of_ble_eq_true rfl) dX1_place_152 ⟨(Nat.le_of_ble_eq_true rfl), (Nat.le_of_ble_eq_true rfl)⟩ (fun H locs hw => ?_)
      obtain ⟨σ33, hg, hf⟩ := stI_inv hf
      refine r_stI hC hw hg dX1_place_155 (fun H locs hw => ?_)
      refine lv_aload_n hx hb dX1_place_156 rfl (lv_at hl 1 rfl) ?_
      obtain ⟨v34, hg, hf⟩ := gfR_inv hf
      refine r_gfR hC hw hg clX1 (Nat.le_of_ble_eq_true rfl) lkF_X1_29 rfl dX1_place_157 ?_
      refine lv_aload_n hx hb dX1_place_160 rfl (lv_at hl 1 rfl) ?_
      obtain ⟨v35, hg, hf⟩ := gfI_inv hf
      refine r_gfI hC hw hg clX1 (Nat.le_of_ble_eq_true rfl) lkF_X1_50 rfl dX1_place_161 ?_
      refine lv_iload hx hb dX1_place_164 (lv_at hl 0 rfl) ?_
      obtain ⟨σ36, hg, hf⟩ := stI_inv hf
      refine r_stI hC hw hg dX1_place_166 (fun H locs hw => ?_)
      refine lv_aload_n hx hb dX1_place_167 rfl (lv_at hl 1 rfl) ?_
      refine lv_aload_n hx hb dX1_place_168 rfl (lv_at hl 1 rfl) ?_
      obtain ⟨v37, hg, hf⟩ := gfR_inv hf
      refine r_gfR hC hw hg clX1 (Nat.le_of_ble_eq_true rfl) lkF_X1_38 rfl dX1_place_169 ?_
      refine lv_iload hx hb dX1_place_172 (lv_at hl 0 rfl) ?_
      obtain ⟨v38, hg, hf⟩ := ldI_inv hf
      refine r_ldI hC hw hg dX1_place_174 ?_
      obtain ⟨r40, σ39, hk, hf⟩ := bnd_inv hf
      refine z_callSN (As := [.int v38]) (rest := [.ref a0]) (m_X6_reciprocal hC.2.2.2.2.2.2.2.2 hk) hC hw wd_X6_reciprocal lkN_X1_88 rfl ⟨rfl, rfl⟩ ⟨(Nat.le_of_ble_eq_true rfl), (Nat.le_of_ble_eq_true rfl)⟩ hl.1 rfl (Nat.le_of_ble_eq_true rfl) dX1_place_175 ⟨(Nat.le_of_ble_eq_true rfl), (Nat.le_of_ble_eq_true rfl)⟩ (fun H locs hw => ?_)
      refine lv_iload_n hx hb dX1_place_178 rfl (lv_at hl 4 rfl) ?_
      obtain ⟨ho, hf⟩ := chk_inv hf
      obtain ⟨_, σ41, hk, hf⟩ := bnd_inv hf
      refine z_callV (As := [.int r40, .int v1]) (rest := []) (m_X1_extend hC.2.2.2.2.2.2.2.2 hk) hC hw wd_X1_extend lkM_X1_92 (isO_sh ho) rfl rfl ⟨rfl, rfl⟩ ⟨(Nat.le_of_ble_eq_true rfl), (Nat.le_of_ble_eq_true rfl)⟩ hl.1 rfl (Nat.le_of_ble_eq_true rfl) dX1_place_179 ⟨(Nat.le_of_ble_eq_true rfl), (Nat.le_of_ble_eq_true rfl)⟩ (fun H locs hw => ?_)
      exact t_X1_place_L182 hC hr hf hw (lv_sub hl [] rfl)
set_option maxHeartbeats 4000000 in
set_option maxRecDepth 100000 in
theorem t_X1_explore_B49 (hC : zC p l s m args meth c cX1_explore 5 RX1 D cA B0) (hr : meth.sig.returnType = (Option.none : Option Jvm.ClassFile.FieldType)) {Γ : zSh} {x0 : Nat} {x1 : Nat} {x2 : Int32} {x3 : Int32} {x4 : Int32} {σ : zSt} {out : ((Int32 × zSt) ⊕ (zSt))} (hf : f_X1_explore_B49 Γ x0 x1 x2 x3 x4 σ = some out) {H : Heap} {locs : List Loc} {ls : Array Slot} (hw : zO D cA B0 Γ σ Z s.heap H locs) (hl : lv_has ls 5 [(0, .ref x0), (1, .ref x1), (2, .int x2), (3, .int x3), (4, .int x4)])
    (kI : ∀ (z4 : Int32) (σ2 : zSt), out = .inl (z4, σ2) → ∀ (H : Heap) (locs : List Loc) (ls : Array Slot), zO D cA B0 Γ σ2 Z s.heap H locs → lv_has ls 5 [(0, .ref x0), (1, .ref x1), (2, .int x2), (3, .int x3), (4, .int z4)] → W p l e rm_X1_explore s m args below meth c H locs 0 0 Q (F0 m 49 ls []))
    (kE : ∀ (σ2 : zSt), out = .inr σ2 → ∀ (H : Heap) (locs : List Loc) (ls : Array Slot), zO D cA B0 Γ σ2 Z s.heap H locs → lv_has ls 5 [(0, .ref x0), (1, .ref x1), (2, .int x2), (3, .int x3)] → W p l e rm_X1_explore s m args below meth c H locs 0 0 Q (F0 m 116 ls [])) :
    W p l e rm_X1_explore s m args below meth c H locs 0 0 Q (F0 m 49 ls []) := by
  have hx := hC.1
  have hb := hC.2.1
  unfold f_X1_explore_B49 at hf
  refine lv_iload hx hb dX1_explore_49 (lv_at hl 4 rfl) ?_
  refine lv_iconst (v := 2) hx hb dX1_explore_51 (by decide) ?_
  refine lv_icmp_ge (tgt := 116) hx hb dX1_explore_52 (by decide) (fun hc => ?_) (fun hc => ?_)
  · rw [if_pos hc] at hf
    exact kE  σ (Option.some.inj hf).symm _ _ _ hw (lv_sub hl [0, 1, 2, 3] rfl)
  · rw [if_neg hc] at hf
    refine lv_aload_n hx hb dX1_explore_55 rfl (lv_at hl 1 rfl) ?_
    refine lv_aload_n hx hb dX1_explore_56 rfl (lv_at hl 0 rfl) ?_
    obtain ⟨v8, hg, hf⟩ := gfR_inv hf
    refine r_gfR hC hw hg clX1 (Nat.le_of_ble_eq_true rfl) lkF_X1_20 rfl dX1_explore_57 ?_
    refine lv_iload_n hx hb dX1_explore_60 rfl (lv_at hl 3 rfl) ?_
    obtain ⟨v9, hg, hf⟩ := ldG_inv hf
    refine r_ldG hC hw hg dX1_explore_61 ?_
    refine lv_iload hx hb dX1_explore_62 (lv_at hl 4 rfl) ?_
    refine lv_aload_n hx hb dX1_explore_64 rfl (lv_at hl 0 rfl) ?_
    obtain ⟨v10, hg, hf⟩ := gfR_inv hf
    refine r_gfR hC hw hg clX1 (Nat.le_of_ble_eq_true rfl) lkF_X1_35 rfl dX1_explore_65 ?_
    obtain ⟨ho, hf⟩ := chk_inv hf
    obtain ⟨_, σ11, hk, hf⟩ := bnd_inv hf
    refine z_callV (As := [.ref v9, .int x4, .ref v10]) (rest := []) (m_X0_takeStep hC.2.2.2.2.2.2.2.2 hk) hC hw wd_X0_takeStep lkM_X1_66 (isO_sh ho) rfl rfl ⟨rfl, rfl⟩ ⟨(Nat.le_of_ble_eq_true rfl), (Nat.le_of_ble_eq_true rfl)⟩ hl.1 rfl (Nat.le_of_ble_eq_true rfl) dX1_explore_68 ⟨(Nat.le_of_ble_eq_true rfl), (Nat.le_of_ble_eq_true rfl)⟩ (fun H locs hw => ?_)
    refine lv_aload_n hx hb dX1_explore_71 rfl (lv_at hl 0 rfl) ?_
    refine lv_aload_n hx hb dX1_explore_72 rfl (lv_at hl 1 rfl) ?_
    refine lv_iconst (v := 2) hx hb dX1_explore_73 (by decide) ?_
    refine lv_aload_n hx hb dX1_explore_74 rfl (lv_at hl 0 rfl) ?_
    obtain ⟨v12, hg, hf⟩ := gfR_inv hf
    refine r_gfR hC hw hg clX1 (Nat.le_of_ble_eq_true rfl) lkF_X1_9 rfl dX1_explore_75 ?_
    refine lv_iload_n hx hb dX1_explore_78 rfl (lv_at hl 3 rfl) ?_
    obtain ⟨v13, hg, hf⟩ := ldI_inv hf
    refine r_ldI hC hw hg dX1_explore_79 ?_
    refine lv_imul hx hb dX1_explore_80 ?_
    refine lv_iconst (v := 1) hx hb dX1_explore_81 (by decide) ?_
    refine lv_iadd hx hb dX1_explore_82 ?_
    refine lv_iload hx hb dX1_explore_83 (lv_at hl 4 rfl) ?_
    refine lv_iadd hx hb dX1_explore_85 ?_
    obtain ⟨ho, hf⟩ := chk_inv hf
    obtain ⟨_, σ14, hk, hf⟩ := bnd_inv hf
    refine z_callV (As := [.ref x1, .int (((2 * v13) + 1) + x4)]) (rest := []) (m_X1_place hC.2.2.2.2.2.2.2.2 hk) hC hw wd_X1_place lkM_X1_62 (isO_sh ho) rfl rfl ⟨rfl, rfl⟩ ⟨(Nat.le_of_ble_eq_true rfl), (Nat.le_of_ble_eq_true rfl)⟩ hl.1 rfl (Nat.le_of_ble_eq_true rfl) dX1_explore_86 ⟨(Nat.le_of_ble_eq_true rfl), (Nat.le_of_ble_eq_true rfl)⟩ (fun H locs hw => ?_)
    refine lv_aload_n hx hb dX1_explore_89 rfl (lv_at hl 0 rfl) ?_
    obtain ⟨v15, hg, hf⟩ := gfR_inv hf
    refine r_gfR hC hw hg clX1 (Nat.le_of_ble_eq_true rfl) lkF_X1_41 rfl dX1_explore_90 ?_
    refine lv_iconst (v := 0) hx hb dX1_explore_93 (by decide) ?_
    refine lv_aload_n hx hb dX1_explore_94 rfl (lv_at hl 0 rfl) ?_
    obtain ⟨v16, hg, hf⟩ := gfR_inv hf
    refine r_gfR hC hw hg clX1 (Nat.le_of_ble_eq_true rfl) lkF_X1_32 rfl dX1_explore_95 ?_
    refine lv_iconst (v := 2) hx hb dX1_explore_98 (by decide) ?_
    refine lv_iload_n hx hb dX1_explore_99 rfl (lv_at hl 3 rfl) ?_
    refine lv_imul hx hb dX1_explore_100 ?_
    refine lv_iload hx hb dX1_explore_101 (lv_at hl 4 rfl) ?_
    refine lv_iadd hx hb dX1_explore_103 ?_
    obtain ⟨v17, hg, hf⟩ := ldG_inv hf
    refine r_ldG hC hw hg dX1_explore_104 ?_
    refine lv_iconst (v := 0) hx hb dX1_explore_105 (by decide) ?_
    refine lv_iload_n hx hb dX1_explore_106 rfl (lv_at hl 2 rfl) ?_
    obtain ⟨σ18, hg, hf⟩ := cpI_inv hf
    refine r_cpI hC hw hg hl.1 lkM_X1_56 (Nat.le_of_ble_eq_true rfl) (Nat.le_of_ble_eq_true rfl) dX1_explore_107 (fun H locs hw => ?_)
    refine lv_iinc (v := (x4 + 1)) (lv' := [(4, .int (x4 + 1)), (0, .ref x0), (1, .ref x1), (2, .int x2), (3, .int x3)]) hx hb dX1_explore_110 hl (k := 4) rfl rfl (Nat.le_of_ble_eq_true rfl) rfl (fun ls hl => ?_)
    refine lv_goto (tgt := 49) hx hb dX1_explore_113 (by decide) ?_
    exact kI (x4 + 1) σ18 (Option.some.inj hf).symm _ _ _ hw (lv_sub hl [1, 2, 3, 4, 0] rfl)
set_option maxHeartbeats 4000000 in
theorem l_X1_explore_B49 (hC : zC p l s m args meth c cX1_explore 5 RX1 D cA B0) (hr : meth.sig.returnType = (Option.none : Option Jvm.ClassFile.FieldType)) {Γ : zSh} {x0 : Nat} {x1 : Nat} {x2 : Int32} {x3 : Int32} {σ2 : zSt} (kE : ∀ (H : Heap) (locs : List Loc) (ls : Array Slot), zO D cA B0 Γ σ2 Z s.heap H locs → lv_has ls 5 [(0, .ref x0), (1, .ref x1), (2, .int x2), (3, .int x3)] → W p l e rm_X1_explore s m args below meth c H locs 0 0 Q (F0 m 116 ls [])) :
    ∀ (n : Nat) (x4 : Int32) (σ : zSt), loopM (fun q => f_X1_explore_B49 Γ x0 x1 x2 x3 q.1 q.2) n (x4, σ) = some σ2 → ∀ (H : Heap) (locs : List Loc) (ls : Array Slot), zO D cA B0 Γ σ Z s.heap H locs → lv_has ls 5 [(0, .ref x0), (1, .ref x1), (2, .int x2), (3, .int x3), (4, .int x4)] → W p l e rm_X1_explore s m args below meth c H locs 0 0 Q (F0 m 49 ls []) := by
  intro n
  induction n with
  | zero => intro x4 σ h; exact absurd h (by simp [loopM])
  | succ n ih =>
    intro x4 σ h H locs ls hw hl
    obtain ⟨r, h1, h2, h3⟩ := loopM_inv h
    exact t_X1_explore_B49 hC hr h1 hw hl (fun z4 s2 e H locs ls hw hl => ih z4 s2 (h2 _ e) H locs ls hw hl) (fun s2 e H locs ls hw hl => by cases h3 _ e; exact kE H locs ls hw hl)
set_option maxHeartbeats 4000000 in
set_option maxRecDepth 100000 in
theorem t_X1_explore_B32 (hC : zC p l s m args meth c cX1_explore 5 RX1 D cA B0) (hr : meth.sig.returnType = (Option.none : Option Jvm.ClassFile.FieldType)) {Γ : zSh} {x0 : Nat} {x1 : Nat} {x2 : Int32} {x3 : Int32} {σ : zSt} {out : ((Int32 × zSt) ⊕ (zSt))} (hf : f_X1_explore_B32 Γ x0 x1 x2 x3 σ = some out) {H : Heap} {locs : List Loc} {ls : Array Slot} (hw : zO D cA B0 Γ σ Z s.heap H locs) (hl : lv_has ls 5 [(0, .ref x0), (1, .ref x1), (2, .int x2), (3, .int x3)])
    (kI : ∀ (z3 : Int32) (σ2 : zSt), out = .inl (z3, σ2) → ∀ (H : Heap) (locs : List Loc) (ls : Array Slot), zO D cA B0 Γ σ2 Z s.heap H locs → lv_has ls 5 [(0, .ref x0), (1, .ref x1), (2, .int x2), (3, .int z3)] → W p l e rm_X1_explore s m args below meth c H locs 0 0 Q (F0 m 32 ls []))
    (kE : ∀ (σ2 : zSt), out = .inr σ2 → ∀ (H : Heap) (locs : List Loc) (ls : Array Slot), zO D cA B0 Γ σ2 Z s.heap H locs → lv_has ls 5 [] → W p l e rm_X1_explore s m args below meth c H locs 0 0 Q (F0 m 122 ls [])) :
    W p l e rm_X1_explore s m args below meth c H locs 0 0 Q (F0 m 32 ls []) := by
  have hx := hC.1
  have hb := hC.2.1
  unfold f_X1_explore_B32 at hf
  refine lv_iload_n hx hb dX1_explore_32 rfl (lv_at hl 3 rfl) ?_
  refine lv_aload_n hx hb dX1_explore_33 rfl (lv_at hl 0 rfl) ?_
  obtain ⟨v7, hg, hf⟩ := gfI_inv hf
  refine r_gfI hC hw hg clX1 (Nat.le_of_ble_eq_true rfl) lkF_X1_50 rfl dX1_explore_34 ?_
  refine lv_icmp_ge (tgt := 122) hx hb dX1_explore_37 (by decide) (fun hc => ?_) (fun hc => ?_)
  · rw [if_pos hc] at hf
    exact kE  σ (Option.some.inj hf).symm _ _ _ hw (lv_sub hl [] rfl)
  · rw [if_neg hc] at hf
    refine lv_iload_n hx hb dX1_explore_40 rfl (lv_at hl 3 rfl) ?_
    refine lv_bipush (v := 24) hx hb dX1_explore_41 (by decide) ?_
    refine lv_icmp_ge (tgt := 122) hx hb dX1_explore_43 (by decide) (fun hc => ?_) (fun hc => ?_)
    · rw [if_pos hc] at hf
      exact kE  σ (Option.some.inj hf).symm _ _ _ hw (lv_sub hl [] rfl)
    · rw [if_neg hc] at hf
      refine lv_iconst (v := 0) hx hb dX1_explore_46 (by decide) ?_
      refine lv_istore (lv' := [(4, .int 0), (0, .ref x0), (1, .ref x1), (2, .int x2), (3, .int x3)]) hx hb dX1_explore_47 hl (Nat.le_of_ble_eq_true rfl) rfl (fun ls hl => ?_)
      obtain ⟨σ19, hk, hf⟩ := lb0_inv hf
      refine l_X1_explore_B49 hC hr (fun H locs ls hw hl => ?_) FUEL 0 σ hk _ _ _ hw (lv_sub hl [1, 2, 3, 4, 0] rfl)
      refine lv_iinc (v := (x3 + 1)) (lv' := [(3, .int (x3 + 1)), (0, .ref x0), (1, .ref x1), (2, .int x2)]) hx hb dX1_explore_116 hl (k := 3) rfl rfl (Nat.le_of_ble_eq_true rfl) rfl (fun ls hl => ?_)
      refine lv_goto (tgt := 32) hx hb dX1_explore_119 (by decide) ?_
      exact kI (x3 + 1) σ19 (Option.some.inj hf).symm _ _ _ hw (lv_sub hl [1, 2, 3, 0] rfl)
set_option maxHeartbeats 4000000 in
theorem l_X1_explore_B32 (hC : zC p l s m args meth c cX1_explore 5 RX1 D cA B0) (hr : meth.sig.returnType = (Option.none : Option Jvm.ClassFile.FieldType)) {Γ : zSh} {x0 : Nat} {x1 : Nat} {x2 : Int32} {σ2 : zSt} (kE : ∀ (H : Heap) (locs : List Loc) (ls : Array Slot), zO D cA B0 Γ σ2 Z s.heap H locs → lv_has ls 5 [] → W p l e rm_X1_explore s m args below meth c H locs 0 0 Q (F0 m 122 ls [])) :
    ∀ (n : Nat) (x3 : Int32) (σ : zSt), loopM (fun q => f_X1_explore_B32 Γ x0 x1 x2 q.1 q.2) n (x3, σ) = some σ2 → ∀ (H : Heap) (locs : List Loc) (ls : Array Slot), zO D cA B0 Γ σ Z s.heap H locs → lv_has ls 5 [(0, .ref x0), (1, .ref x1), (2, .int x2), (3, .int x3)] → W p l e rm_X1_explore s m args below meth c H locs 0 0 Q (F0 m 32 ls []) := by
  intro n
  induction n with
  | zero => intro x3 σ h; exact absurd h (by simp [loopM])
  | succ n ih =>
    intro x3 σ h H locs ls hw hl
    obtain ⟨r, h1, h2, h3⟩ := loopM_inv h
    exact t_X1_explore_B32 hC hr h1 hw hl (fun z3 s2 e H locs ls hw hl => ih z3 s2 (h2 _ e) H locs ls hw hl) (fun s2 e H locs ls hw hl => by cases h3 _ e; exact kE H locs ls hw hl)
set_option maxHeartbeats 4000000 in
set_option maxRecDepth 100000 in
theorem m_X1_explore (h9 : l.stackTraces = false) {Γ : zSh} {a0 : Nat} {a1 : Nat} {σ : zSt} {r : Unit} {σ2 : zSt} (hf : f_X1_explore Γ a0 a1 σ = some (r, σ2)) : Met l yX1_explore (wq yX1_explore cX1_explore 5 (Option.none : Option Jvm.ClassFile.FieldType)) rm_X1_explore (zQ0 D cA B0 [.ref a0, .ref a1] Γ σ Z) (zQ1 D cA B0 (none) Γ σ2 Z) 0 0 (FR B0) := by
  refine z_ofW h9 (by decide) (Nat.le_of_ble_eq_true rfl) ?_
  intro p e s m args below meth c ls hC hr _ hw hl
  have hx := hC.1
  have hb := hC.2.1
  have hl : lv_has ls 5 [(0, .ref a0), (1, .ref a1)] := hl
  unfold f_X1_explore at hf
  refine lv_aload_n hx hb dX1_explore_0 rfl (lv_at hl 1 rfl) ?_
  obtain ⟨v1, hg, hf⟩ := gfI_inv hf
  refine r_gfI hC hw hg clX0 (Nat.le_of_ble_eq_true rfl) lkF_X1_44 rfl dX1_explore_1 ?_
  refine lv_istore_n (lv' := [(2, .int v1), (0, .ref a0), (1, .ref a1)]) hx hb dX1_explore_4 rfl hl (Nat.le_of_ble_eq_true rfl) rfl (fun ls hl => ?_)
  refine lv_aload_n hx hb dX1_explore_5 rfl (lv_at hl 1 rfl) ?_
  refine lv_iconst (v := 0) hx hb dX1_explore_6 (by decide) ?_
  obtain ⟨σ2, hg, hf⟩ := pfI_inv hf
  refine r_pfI hC hw hg clX1 (Nat.le_of_ble_eq_true rfl) lkF_X1_50 rfl rfl rfl dX1_explore_7 (fun H locs hw => ?_)
  refine lv_aload_n hx hb dX1_explore_10 rfl (lv_at hl 2 rfl) ?_
  obtain ⟨v3, hg, hf⟩ := gfR_inv hf
  refine r_gfR hC hw hg clX0 (Nat.le_of_ble_eq_true rfl) lkF_X1_53 rfl dX1_explore_11 ?_
  refine lv_iconst (v := 0) hx hb dX1_explore_14 (by decide) ?_
  refine lv_aload_n hx hb dX1_explore_15 rfl (lv_at hl 1 rfl) ?_
  obtain ⟨v4, hg, hf⟩ := gfR_inv hf
  refine r_gfR hC hw hg clX1 (Nat.le_of_ble_eq_true rfl) lkF_X1_35 rfl dX1_explore_16 ?_
  refine lv_iconst (v := 0) hx hb dX1_explore_19 (by decide) ?_
  refine lv_iload_n hx hb dX1_explore_20 rfl (lv_at hl 0 rfl) ?_
  obtain ⟨σ5, hg, hf⟩ := cpI_inv hf
  refine r_cpI hC hw hg hl.1 lkM_X1_56 (Nat.le_of_ble_eq_true rfl) (Nat.le_of_ble_eq_true rfl) dX1_explore_21 (fun H locs hw => ?_)
  refine lv_aload_n hx hb dX1_explore_24 rfl (lv_at hl 1 rfl) ?_
  refine lv_aload_n hx hb dX1_explore_25 rfl (lv_at hl 2 rfl) ?_
  refine lv_iconst (v := 0) hx hb dX1_explore_26 (by decide) ?_
  obtain ⟨ho, hf⟩ := chk_inv hf
  obtain ⟨_, σ6, hk, hf⟩ := bnd_inv hf
  refine z_callV (As := [.ref a1, .int 0]) (rest := []) (m_X1_place hC.2.2.2.2.2.2.2.2 hk) hC hw wd_X1_place lkM_X1_62 (isO_sh ho) rfl rfl ⟨rfl, rfl⟩ ⟨(Nat.le_of_ble_eq_true rfl), (Nat.le_of_ble_eq_true rfl)⟩ hl.1 rfl (Nat.le_of_ble_eq_true rfl) dX1_explore_27 ⟨(Nat.le_of_ble_eq_true rfl), (Nat.le_of_ble_eq_true rfl)⟩ (fun H locs hw => ?_)
  refine lv_iconst (v := 0) hx hb dX1_explore_30 (by decide) ?_
  refine lv_istore_n (lv' := [(3, .int 0), (2, .int v1), (0, .ref a0), (1, .ref a1)]) hx hb dX1_explore_31 rfl hl (Nat.le_of_ble_eq_true rfl) rfl (fun ls hl => ?_)
  obtain ⟨σ20, hk, hf⟩ := lb0_inv hf
  refine l_X1_explore_B32 hC hr (fun H locs ls hw hl => ?_) FUEL 0 σ6 hk _ _ _ hw (lv_sub hl [2, 3, 1, 0] rfl)
  first | (obtain ⟨rfl, rfl⟩ := sp_inv hf) | (obtain rfl := Option.some.inj hf)
  exact W.vret hx hb hr (z_ret hw rfl) hw.2.2.2.2.2 dX1_explore_122 hC.2.2.2.2.2.1
set_option maxHeartbeats 4000000 in
set_option maxRecDepth 100000 in
theorem t_X1_firstWeighted_L27 (hC : zC p l s m args meth c cX1_firstWeighted 2 RX1 D cA B0) (hr : meth.sig.returnType = (Option.some FieldType.int)) {Γ : zSh} {s0 : Int32} {σ : zSt} {out : (Int32 × zSt)} (hf : f_X1_firstWeighted_L27 Γ s0 σ = some out) {H : Heap} {locs : List Loc} {ls : Array Slot} (hw : zO D cA B0 Γ σ Z s.heap H locs) (hl : lv_has ls 2 []) :
    W p l e rm_X1_firstWeighted s m args below meth c H locs 0 0 (MQ below (zQ1 D cA B0 (some (.int out.1)) Γ out.2 Z) args s 0 0 (FR B0)) (F0 m 27 ls [.int s0]) := by
  have hx := hC.1
  have hb := hC.2.1
  unfold f_X1_firstWeighted_L27 at hf
  first | (obtain ⟨rfl, rfl⟩ := sp_inv hf) | (obtain rfl := Option.some.inj hf)
  exact W.iret hx hb hr (z_ret hw rfl) hw.2.2.2.2.2 dX1_firstWeighted_27 hC.2.2.2.2.2.1
set_option maxHeartbeats 4000000 in
set_option maxRecDepth 100000 in
theorem m_X1_firstWeighted (h9 : l.stackTraces = false) {Γ : zSh} {a0 : Nat} {σ : zSt} {r : Int32} {σ2 : zSt} (hf : f_X1_firstWeighted Γ a0 σ = some (r, σ2)) : Met l yX1_firstWeighted (wq yX1_firstWeighted cX1_firstWeighted 2 (Option.some FieldType.int)) rm_X1_firstWeighted (zQ0 D cA B0 [.ref a0] Γ σ Z) (zQ1 D cA B0 (some (.int r)) Γ σ2 Z) 0 0 (FR B0) := by
  refine z_ofW h9 (by decide) (Nat.le_of_ble_eq_true rfl) ?_
  intro p e s m args below meth c ls hC hr _ hw hl
  have hx := hC.1
  have hb := hC.2.1
  have hl : lv_has ls 2 [(0, .ref a0)] := hl
  unfold f_X1_firstWeighted at hf
  refine lv_aload_n hx hb dX1_firstWeighted_0 rfl (lv_at hl 0 rfl) ?_
  obtain ⟨v1, hg, hf⟩ := gfR_inv hf
  refine r_gfR hC hw hg clX1 (Nat.le_of_ble_eq_true rfl) lkF_X1_15 rfl dX1_firstWeighted_1 ?_
  refine lv_aload_n hx hb dX1_firstWeighted_4 rfl (lv_at hl 0 rfl) ?_
  obtain ⟨v2, hg, hf⟩ := gfI_inv hf
  refine r_gfI hC hw hg clX1 (Nat.le_of_ble_eq_true rfl) lkF_X1_50 rfl dX1_firstWeighted_5 ?_
  obtain ⟨r4, σ3, hk, hf⟩ := bnd_inv hf
  refine z_callSN (As := [.ref v1, .int v2]) (rest := []) (m_X6_firstNonZero hC.2.2.2.2.2.2.2.2 hk) hC hw wd_X6_firstNonZero lkN_X1_80 rfl ⟨rfl, rfl⟩ ⟨(Nat.le_of_ble_eq_true rfl), (Nat.le_of_ble_eq_true rfl)⟩ hl.1 rfl (Nat.le_of_ble_eq_true rfl) dX1_firstWeighted_8 ⟨(Nat.le_of_ble_eq_true rfl), (Nat.le_of_ble_eq_true rfl)⟩ (fun H locs hw => ?_)
  refine lv_istore_n (lv' := [(1, .int r4), (0, .ref a0)]) hx hb dX1_firstWeighted_11 rfl hl (Nat.le_of_ble_eq_true rfl) rfl (fun ls hl => ?_)
  refine lv_iload_n hx hb dX1_firstWeighted_12 rfl (lv_at hl 0 rfl) ?_
  refine lv_iconst (v := (-1)) hx hb dX1_firstWeighted_13 (by decide) ?_
  refine lv_icmp_ne (tgt := 21) hx hb dX1_firstWeighted_14 (by decide) (fun hc => ?_) (fun hc => ?_)
  · rw [if_neg hc] at hf
    refine lv_aload_n hx hb dX1_firstWeighted_21 rfl (lv_at hl 1 rfl) ?_
    obtain ⟨v5, hg, hf⟩ := gfR_inv hf
    refine r_gfR hC hw hg clX1 (Nat.le_of_ble_eq_true rfl) lkF_X1_9 rfl dX1_firstWeighted_22 ?_
    refine lv_iload_n hx hb dX1_firstWeighted_25 rfl (lv_at hl 0 rfl) ?_
    obtain ⟨v6, hg, hf⟩ := ldI_inv hf
    refine r_ldI hC hw hg dX1_firstWeighted_26 ?_
    exact t_X1_firstWeighted_L27 hC hr hf hw (lv_sub hl [] rfl)
  · rw [if_pos hc] at hf
    refine lv_iconst (v := (-1)) hx hb dX1_firstWeighted_17 (by decide) ?_
    refine lv_goto (tgt := 27) hx hb dX1_firstWeighted_18 (by decide) ?_
    exact t_X1_firstWeighted_L27 hC hr hf hw (lv_sub hl [] rfl)
set_option maxHeartbeats 4000000 in
set_option maxRecDepth 100000 in
theorem t_X1_build_B52 (hC : zC p l s m args meth c cX1_build 4 RX1 D cA B0) (hr : meth.sig.returnType = (Option.none : Option Jvm.ClassFile.FieldType)) {Γ : zSh} {x0 : Nat} {x1 : Nat} {x2 : Int32} {x3 : Int32} {σ : zSt} {out : ((Int32 × zSt) ⊕ (zSt))} (hf : f_X1_build_B52 Γ x0 x1 x2 x3 σ = some out) {H : Heap} {locs : List Loc} {ls : Array Slot} (hw : zO D cA B0 Γ σ Z s.heap H locs) (hl : lv_has ls 4 [(0, .ref x0), (1, .ref x1), (2, .int x2), (3, .int x3)])
    (kI : ∀ (z3 : Int32) (σ2 : zSt), out = .inl (z3, σ2) → ∀ (H : Heap) (locs : List Loc) (ls : Array Slot), zO D cA B0 Γ σ2 Z s.heap H locs → lv_has ls 4 [(0, .ref x0), (1, .ref x1), (2, .int x2), (3, .int z3)] → W p l e rm_X1_build s m args below meth c H locs 0 0 Q (F0 m 52 ls []))
    (kE : ∀ (σ2 : zSt), out = .inr σ2 → ∀ (H : Heap) (locs : List Loc) (ls : Array Slot), zO D cA B0 Γ σ2 Z s.heap H locs → lv_has ls 4 [(0, .ref x0), (1, .ref x1), (2, .int x2)] → W p l e rm_X1_build s m args below meth c H locs 0 0 Q (F0 m 93 ls [])) :
    W p l e rm_X1_build s m args below meth c H locs 0 0 Q (F0 m 52 ls []) := by
  have hx := hC.1
  have hb := hC.2.1
  unfold f_X1_build_B52 at hf
  refine lv_iload_n hx hb dX1_build_52 rfl (lv_at hl 3 rfl) ?_
  refine lv_iconst (v := 2) hx hb dX1_build_53 (by decide) ?_
  refine lv_icmp_ge (tgt := 93) hx hb dX1_build_54 (by decide) (fun hc => ?_) (fun hc => ?_)
  · rw [if_pos hc] at hf
    exact kE  σ (Option.some.inj hf).symm _ _ _ hw (lv_sub hl [0, 1, 2] rfl)
  · rw [if_neg hc] at hf
    refine lv_aload_n hx hb dX1_build_57 rfl (lv_at hl 0 rfl) ?_
    obtain ⟨v10, hg, hf⟩ := gfR_inv hf
    refine r_gfR hC hw hg clX1 (Nat.le_of_ble_eq_true rfl) lkF_X1_32 rfl dX1_build_58 ?_
    refine lv_iconst (v := 2) hx hb dX1_build_61 (by decide) ?_
    refine lv_iload_n hx hb dX1_build_62 rfl (lv_at hl 2 rfl) ?_
    refine lv_imul hx hb dX1_build_63 ?_
    refine lv_iload_n hx hb dX1_build_64 rfl (lv_at hl 3 rfl) ?_
    refine lv_iadd hx hb dX1_build_65 ?_
    obtain ⟨v11, hg, hf⟩ := ldG_inv hf
    refine r_ldG hC hw hg dX1_build_66 ?_
    refine lv_iconst (v := 0) hx hb dX1_build_67 (by decide) ?_
    refine lv_aload_n hx hb dX1_build_68 rfl (lv_at hl 1 rfl) ?_
    obtain ⟨v12, hg, hf⟩ := gfR_inv hf
    refine r_gfR hC hw hg clX0 (Nat.le_of_ble_eq_true rfl) lkF_X1_103 rfl dX1_build_69 ?_
    refine lv_iload_n hx hb dX1_build_72 rfl (lv_at hl 3 rfl) ?_
    obtain ⟨v13, hg, hf⟩ := ldG_inv hf
    refine r_ldG hC hw hg dX1_build_73 ?_
    refine lv_iload_n hx hb dX1_build_74 rfl (lv_at hl 2 rfl) ?_
    refine lv_aload_n hx hb dX1_build_75 rfl (lv_at hl 0 rfl) ?_
    obtain ⟨v14, hg, hf⟩ := gfI_inv hf
    refine r_gfI hC hw hg clX1 (Nat.le_of_ble_eq_true rfl) lkF_X1_50 rfl dX1_build_76 ?_
    refine lv_imul hx hb dX1_build_79 ?_
    refine lv_aload_n hx hb dX1_build_80 rfl (lv_at hl 0 rfl) ?_
    obtain ⟨v15, hg, hf⟩ := gfI_inv hf
    refine r_gfI hC hw hg clX1 (Nat.le_of_ble_eq_true rfl) lkF_X1_50 rfl dX1_build_81 ?_
    obtain ⟨σ16, hg, hf⟩ := cpI_inv hf
    refine r_cpI hC hw hg hl.1 lkM_X1_56 (Nat.le_of_ble_eq_true rfl) (Nat.le_of_ble_eq_true rfl) dX1_build_84 (fun H locs hw => ?_)
    refine lv_iinc (v := (x3 + 1)) (lv' := [(3, .int (x3 + 1)), (0, .ref x0), (1, .ref x1), (2, .int x2)]) hx hb dX1_build_87 hl (k := 3) rfl rfl (Nat.le_of_ble_eq_true rfl) rfl (fun ls hl => ?_)
    refine lv_goto (tgt := 52) hx hb dX1_build_90 (by decide) ?_
    exact kI (x3 + 1) σ16 (Option.some.inj hf).symm _ _ _ hw (lv_sub hl [1, 2, 3, 0] rfl)
set_option maxHeartbeats 4000000 in
theorem l_X1_build_B52 (hC : zC p l s m args meth c cX1_build 4 RX1 D cA B0) (hr : meth.sig.returnType = (Option.none : Option Jvm.ClassFile.FieldType)) {Γ : zSh} {x0 : Nat} {x1 : Nat} {x2 : Int32} {σ2 : zSt} (kE : ∀ (H : Heap) (locs : List Loc) (ls : Array Slot), zO D cA B0 Γ σ2 Z s.heap H locs → lv_has ls 4 [(0, .ref x0), (1, .ref x1), (2, .int x2)] → W p l e rm_X1_build s m args below meth c H locs 0 0 Q (F0 m 93 ls [])) :
    ∀ (n : Nat) (x3 : Int32) (σ : zSt), loopM (fun q => f_X1_build_B52 Γ x0 x1 x2 q.1 q.2) n (x3, σ) = some σ2 → ∀ (H : Heap) (locs : List Loc) (ls : Array Slot), zO D cA B0 Γ σ Z s.heap H locs → lv_has ls 4 [(0, .ref x0), (1, .ref x1), (2, .int x2), (3, .int x3)] → W p l e rm_X1_build s m args below meth c H locs 0 0 Q (F0 m 52 ls []) := by
  intro n
  induction n with
  | zero => intro x3 σ h; exact absurd h (by simp [loopM])
  | succ n ih =>
    intro x3 σ h H locs ls hw hl
    obtain ⟨r, h1, h2, h3⟩ := loopM_inv h
    exact t_X1_build_B52 hC hr h1 hw hl (fun z3 s2 e H locs ls hw hl => ih z3 s2 (h2 _ e) H locs ls hw hl) (fun s2 e H locs ls hw hl => by cases h3 _ e; exact kE H locs ls hw hl)
set_option maxHeartbeats 4000000 in
set_option maxRecDepth 100000 in
theorem t_X1_build_B27_L49 (hC : zC p l s m args meth c cX1_build 4 RX1 D cA B0) (hr : meth.sig.returnType = (Option.none : Option Jvm.ClassFile.FieldType)) {Γ : zSh} {x0 : Nat} {x1 : Nat} {x2 : Int32} {s0 : Int32} {s1 : Int32} {s2 : Nat}  {σ : zSt} {out : ((Int32 × zSt) ⊕ (zSt))} (hf : f_X1_build_B27_L49 Γ x0 x1 x2 s0 s1 s2 σ = some out) {H : Heap} {locs : List Loc} {ls : Array Slot} (hw : zO D cA B0 Γ σ Z s.heap H locs) (hl : lv_has ls 4 [(0, .ref x0), (1, .ref x1), (2, .int x2)])
    (kI : ∀ (z2 : Int32) (σ2 : zSt), out = .inl (z2, σ2) → ∀ (H : Heap) (locs : List Loc) (ls : Array Slot), zO D cA B0 Γ σ2 Z s.heap H locs → lv_has ls 4 [(0, .ref x0), (1, .ref x1), (2, .int z2)] → W p l e rm_X1_build s m args below meth c H locs 0 0 Q (F0 m 27 ls []))
    (kE : ∀ (σ2 : zSt), out = .inr σ2 → ∀ (H : Heap) (locs : List Loc) (ls : Array Slot), zO D cA B0 Γ σ2 Z s.heap H locs → lv_has ls 4 [] → W p l e rm_X1_build s m args below meth c H locs 0 0 Q (F0 m 99 ls [])) :
    W p l e rm_X1_build s m args below meth c H locs 0 0 Q (F0 m 49 ls [.int s0, .int s1, .ref s2]) := by
  have hx := hC.1
  have hb := hC.2.1
  unfold f_X1_build_B27_L49 at hf
  obtain ⟨σ9, hg, hf⟩ := stI_inv hf
  refine r_stI hC hw hg dX1_build_49 (fun H locs hw => ?_)
  refine lv_iconst (v := 0) hx hb dX1_build_50 (by decide) ?_
  refine lv_istore_n (lv' := [(3, .int 0), (0, .ref x0), (1, .ref x1), (2, .int x2)]) hx hb dX1_build_51 rfl hl (Nat.le_of_ble_eq_true rfl) rfl (fun ls hl => ?_)
  obtain ⟨σ17, hk, hf⟩ := lb0_inv hf
  refine l_X1_build_B52 hC hr (fun H locs ls hw hl => ?_) FUEL 0 σ9 hk _ _ _ hw (lv_sub hl [1, 2, 3, 0] rfl)
  refine lv_iinc (v := (x2 + 1)) (lv' := [(2, .int (x2 + 1)), (0, .ref x0), (1, .ref x1)]) hx hb dX1_build_93 hl (k := 2) rfl rfl (Nat.le_of_ble_eq_true rfl) rfl (fun ls hl => ?_)
  refine lv_goto (tgt := 27) hx hb dX1_build_96 (by decide) ?_
  exact kI (x2 + 1) σ17 (Option.some.inj hf).symm _ _ _ hw (lv_sub hl [1, 2, 0] rfl)
set_option maxHeartbeats 4000000 in
set_option maxRecDepth 100000 in
theorem t_X1_build_B27 (hC : zC p l s m args meth c cX1_build 4 RX1 D cA B0) (hr : meth.sig.returnType = (Option.none : Option Jvm.ClassFile.FieldType)) {Γ : zSh} {x0 : Nat} {x1 : Nat} {x2 : Int32} {σ : zSt} {out : ((Int32 × zSt) ⊕ (zSt))} (hf : f_X1_build_B27 Γ x0 x1 x2 σ = some out) {H : Heap} {locs : List Loc} {ls : Array Slot} (hw : zO D cA B0 Γ σ Z s.heap H locs) (hl : lv_has ls 4 [(0, .ref x0), (1, .ref x1), (2, .int x2)])
    (kI : ∀ (z2 : Int32) (σ2 : zSt), out = .inl (z2, σ2) → ∀ (H : Heap) (locs : List Loc) (ls : Array Slot), zO D cA B0 Γ σ2 Z s.heap H locs → lv_has ls 4 [(0, .ref x0), (1, .ref x1), (2, .int z2)] → W p l e rm_X1_build s m args below meth c H locs 0 0 Q (F0 m 27 ls []))
    (kE : ∀ (σ2 : zSt), out = .inr σ2 → ∀ (H : Heap) (locs : List Loc) (ls : Array Slot), zO D cA B0 Γ σ2 Z s.heap H locs → lv_has ls 4 [] → W p l e rm_X1_build s m args below meth c H locs 0 0 Q (F0 m 99 ls [])) :
    W p l e rm_X1_build s m args below meth c H locs 0 0 Q (F0 m 27 ls []) := by
  have hx := hC.1
  have hb := hC.2.1
  unfold f_X1_build_B27 at hf
  refine lv_iload_n hx hb dX1_build_27 rfl (lv_at hl 2 rfl) ?_
  refine lv_aload_n hx hb dX1_build_28 rfl (lv_at hl 0 rfl) ?_
  obtain ⟨v7, hg, hf⟩ := gfI_inv hf
  refine r_gfI hC hw hg clX1 (Nat.le_of_ble_eq_true rfl) lkF_X1_50 rfl dX1_build_29 ?_
  refine lv_icmp_ge (tgt := 99) hx hb dX1_build_32 (by decide) (fun hc => ?_) (fun hc => ?_)
  · rw [if_pos hc] at hf
    exact kE  σ (Option.some.inj hf).symm _ _ _ hw (lv_sub hl [] rfl)
  · rw [if_neg hc] at hf
    refine lv_aload_n hx hb dX1_build_35 rfl (lv_at hl 1 rfl) ?_
    obtain ⟨v8, hg, hf⟩ := gfR_inv hf
    refine r_gfR hC hw hg clX0 (Nat.le_of_ble_eq_true rfl) lkF_X1_53 rfl dX1_build_36 ?_
    refine lv_iload_n hx hb dX1_build_39 rfl (lv_at hl 2 rfl) ?_
    refine lv_iload_n hx hb dX1_build_40 rfl (lv_at hl 2 rfl) ?_
    refine lv_if_ne (tgt := 48) hx hb dX1_build_41 (by decide) (fun hc => ?_) (fun hc => ?_)
    · rw [if_neg hc] at hf
      refine lv_iconst (v := 0) hx hb dX1_build_48 (by decide) ?_
      exact t_X1_build_B27_L49 hC hr hf hw (lv_sub hl [0, 1, 2] rfl) kI kE
    · rw [if_pos hc] at hf
      refine lv_iconst (v := 1) hx hb dX1_build_44 (by decide) ?_
      refine lv_goto (tgt := 49) hx hb dX1_build_45 (by decide) ?_
      exact t_X1_build_B27_L49 hC hr hf hw (lv_sub hl [0, 1, 2] rfl) kI kE
set_option maxHeartbeats 4000000 in
theorem l_X1_build_B27 (hC : zC p l s m args meth c cX1_build 4 RX1 D cA B0) (hr : meth.sig.returnType = (Option.none : Option Jvm.ClassFile.FieldType)) {Γ : zSh} {x0 : Nat} {x1 : Nat} {σ2 : zSt} (kE : ∀ (H : Heap) (locs : List Loc) (ls : Array Slot), zO D cA B0 Γ σ2 Z s.heap H locs → lv_has ls 4 [] → W p l e rm_X1_build s m args below meth c H locs 0 0 Q (F0 m 99 ls [])) :
    ∀ (n : Nat) (x2 : Int32) (σ : zSt), loopM (fun q => f_X1_build_B27 Γ x0 x1 q.1 q.2) n (x2, σ) = some σ2 → ∀ (H : Heap) (locs : List Loc) (ls : Array Slot), zO D cA B0 Γ σ Z s.heap H locs → lv_has ls 4 [(0, .ref x0), (1, .ref x1), (2, .int x2)] → W p l e rm_X1_build s m args below meth c H locs 0 0 Q (F0 m 27 ls []) := by
  intro n
  induction n with
  | zero => intro x2 σ h; exact absurd h (by simp [loopM])
  | succ n ih =>
    intro x2 σ h H locs ls hw hl
    obtain ⟨r, h1, h2, h3⟩ := loopM_inv h
    exact t_X1_build_B27 hC hr h1 hw hl (fun z2 s2 e H locs ls hw hl => ih z2 s2 (h2 _ e) H locs ls hw hl) (fun s2 e H locs ls hw hl => by cases h3 _ e; exact kE H locs ls hw hl)
set_option maxHeartbeats 4000000 in
set_option maxRecDepth 100000 in
theorem m_X1_build (h9 : l.stackTraces = false) {Γ : zSh} {a0 : Nat} {a1 : Nat} {σ : zSt} {r : Unit} {σ2 : zSt} (hf : f_X1_build Γ a0 a1 σ = some (r, σ2)) : Met l yX1_build (wq yX1_build cX1_build 4 (Option.none : Option Jvm.ClassFile.FieldType)) rm_X1_build (zQ0 D cA B0 [.ref a0, .ref a1] Γ σ Z) (zQ1 D cA B0 (none) Γ σ2 Z) 0 0 (FR B0) := by
  refine z_ofW h9 (by decide) (Nat.le_of_ble_eq_true rfl) ?_
  intro p e s m args below meth c ls hC hr _ hw hl
  have hx := hC.1
  have hb := hC.2.1
  have hl : lv_has ls 4 [(0, .ref a0), (1, .ref a1)] := hl
  unfold f_X1_build at hf
  refine lv_aload_n hx hb dX1_build_0 rfl (lv_at hl 1 rfl) ?_
  refine lv_aload_n hx hb dX1_build_1 rfl (lv_at hl 0 rfl) ?_
  obtain ⟨v1, hg, hf⟩ := gfI_inv hf
  refine r_gfI hC hw hg clX1 (Nat.le_of_ble_eq_true rfl) lkF_X1_50 rfl dX1_build_2 ?_
  obtain ⟨ho, hf⟩ := chk_inv hf
  obtain ⟨_, σ2, hk, hf⟩ := bnd_inv hf
  refine z_callV (As := [.int v1]) (rest := []) (m_X0_clear hC.2.2.2.2.2.2.2.2 hk) hC hw wd_X0_clear lkM_X1_96 (isO_sh ho) rfl rfl ⟨rfl, rfl⟩ ⟨(Nat.le_of_ble_eq_true rfl), (Nat.le_of_ble_eq_true rfl)⟩ hl.1 rfl (Nat.le_of_ble_eq_true rfl) dX1_build_5 ⟨(Nat.le_of_ble_eq_true rfl), (Nat.le_of_ble_eq_true rfl)⟩ (fun H locs hw => ?_)
  refine lv_aload_n hx hb dX1_build_8 rfl (lv_at hl 0 rfl) ?_
  obtain ⟨v3, hg, hf⟩ := gfR_inv hf
  refine r_gfR hC hw hg clX1 (Nat.le_of_ble_eq_true rfl) lkF_X1_15 rfl dX1_build_9 ?_
  refine lv_iconst (v := 0) hx hb dX1_build_12 (by decide) ?_
  refine lv_aload_n hx hb dX1_build_13 rfl (lv_at hl 1 rfl) ?_
  obtain ⟨v4, hg, hf⟩ := gfR_inv hf
  refine r_gfR hC hw hg clX0 (Nat.le_of_ble_eq_true rfl) lkF_X1_100 rfl dX1_build_14 ?_
  refine lv_iconst (v := 0) hx hb dX1_build_17 (by decide) ?_
  refine lv_aload_n hx hb dX1_build_18 rfl (lv_at hl 0 rfl) ?_
  obtain ⟨v5, hg, hf⟩ := gfI_inv hf
  refine r_gfI hC hw hg clX1 (Nat.le_of_ble_eq_true rfl) lkF_X1_50 rfl dX1_build_19 ?_
  obtain ⟨σ6, hg, hf⟩ := cpI_inv hf
  refine r_cpI hC hw hg hl.1 lkM_X1_56 (Nat.le_of_ble_eq_true rfl) (Nat.le_of_ble_eq_true rfl) dX1_build_22 (fun H locs hw => ?_)
  refine lv_iconst (v := 0) hx hb dX1_build_25 (by decide) ?_
  refine lv_istore_n (lv' := [(2, .int 0), (0, .ref a0), (1, .ref a1)]) hx hb dX1_build_26 rfl hl (Nat.le_of_ble_eq_true rfl) rfl (fun ls hl => ?_)
  obtain ⟨σ18, hk, hf⟩ := lb0_inv hf
  refine l_X1_build_B27 hC hr (fun H locs ls hw hl => ?_) FUEL 0 σ6 hk _ _ _ hw (lv_sub hl [1, 2, 0] rfl)
  first | (obtain ⟨rfl, rfl⟩ := sp_inv hf) | (obtain rfl := Option.some.inj hf)
  exact W.vret hx hb hr (z_ret hw rfl) hw.2.2.2.2.2 dX1_build_99 hC.2.2.2.2.2.1
set_option maxHeartbeats 4000000 in
set_option maxRecDepth 100000 in
theorem m_X1_reduce (h9 : l.stackTraces = false) {Γ : zSh} {a0 : Nat} {a1 : Nat} {σ : zSt} {r : Unit} {σ2 : zSt} (hf : f_X1_reduce Γ a0 a1 σ = some (r, σ2)) : Met l yX1_reduce (wq yX1_reduce cX1_reduce 2 (Option.none : Option Jvm.ClassFile.FieldType)) rm_X1_reduce (zQ0 D cA B0 [.ref a0, .ref a1] Γ σ Z) (zQ1 D cA B0 (none) Γ σ2 Z) 0 0 (FR B0) := by
  refine z_ofW h9 (by decide) (Nat.le_of_ble_eq_true rfl) ?_
  intro p e s m args below meth c ls hC hr _ hw hl
  have hx := hC.1
  have hb := hC.2.1
  have hl : lv_has ls 2 [(0, .ref a0), (1, .ref a1)] := hl
  unfold f_X1_reduce at hf
  refine lv_aload_n hx hb dX1_reduce_0 rfl (lv_at hl 0 rfl) ?_
  refine lv_aload_n hx hb dX1_reduce_1 rfl (lv_at hl 1 rfl) ?_
  obtain ⟨ho, hf⟩ := chk_inv hf
  obtain ⟨_, σ1, hk, hf⟩ := bnd_inv hf
  refine z_callV (As := [.ref a1]) (rest := []) (m_X1_explore hC.2.2.2.2.2.2.2.2 hk) hC hw wd_X1_explore lkM_X1_106 (isO_sh ho) rfl rfl ⟨rfl, rfl⟩ ⟨(Nat.le_of_ble_eq_true rfl), (Nat.le_of_ble_eq_true rfl)⟩ hl.1 rfl (Nat.le_of_ble_eq_true rfl) dX1_reduce_2 ⟨(Nat.le_of_ble_eq_true rfl), (Nat.le_of_ble_eq_true rfl)⟩ (fun H locs hw => ?_)
  refine lv_aload_n hx hb dX1_reduce_5 rfl (lv_at hl 0 rfl) ?_
  refine lv_aload_n hx hb dX1_reduce_6 rfl (lv_at hl 1 rfl) ?_
  obtain ⟨ho, hf⟩ := chk_inv hf
  obtain ⟨_, σ2, hk, hf⟩ := bnd_inv hf
  refine z_callV (As := [.ref a1]) (rest := []) (m_X1_build hC.2.2.2.2.2.2.2.2 hk) hC hw wd_X1_build lkM_X1_110 (isO_sh ho) rfl rfl ⟨rfl, rfl⟩ ⟨(Nat.le_of_ble_eq_true rfl), (Nat.le_of_ble_eq_true rfl)⟩ hl.1 rfl (Nat.le_of_ble_eq_true rfl) dX1_reduce_7 ⟨(Nat.le_of_ble_eq_true rfl), (Nat.le_of_ble_eq_true rfl)⟩ (fun H locs hw => ?_)
  first | (obtain ⟨rfl, rfl⟩ := sp_inv hf) | (obtain rfl := Option.some.inj hf)
  exact W.vret hx hb hr (z_ret hw rfl) hw.2.2.2.2.2 dX1_reduce_10 hC.2.2.2.2.2.1
set_option maxHeartbeats 4000000 in
set_option maxRecDepth 100000 in
theorem t_X1_minimize_B2 (hC : zC p l s m args meth c cX1_minimize 3 RX1 D cA B0) (hr : meth.sig.returnType = (Option.none : Option Jvm.ClassFile.FieldType)) {Γ : zSh} {x0 : Nat} {x1 : Nat} {x2 : Int32} {σ : zSt} {out : ((Int32 × zSt) ⊕ (zSt))} (hf : f_X1_minimize_B2 Γ x0 x1 x2 σ = some out) {H : Heap} {locs : List Loc} {ls : Array Slot} (hw : zO D cA B0 Γ σ Z s.heap H locs) (hl : lv_has ls 3 [(0, .ref x0), (1, .ref x1), (2, .int x2)])
    (kI : ∀ (z2 : Int32) (σ2 : zSt), out = .inl (z2, σ2) → ∀ (H : Heap) (locs : List Loc) (ls : Array Slot), zO D cA B0 Γ σ2 Z s.heap H locs → lv_has ls 3 [(0, .ref x0), (1, .ref x1), (2, .int z2)] → W p l e rm_X1_minimize s m args below meth c H locs 0 0 Q (F0 m 2 ls []))
    (kE : ∀ (σ2 : zSt), out = .inr σ2 → ∀ (H : Heap) (locs : List Loc) (ls : Array Slot), zO D cA B0 Γ σ2 Z s.heap H locs → lv_has ls 3 [] → W p l e rm_X1_minimize s m args below meth c H locs 0 0 Q (F0 m 27 ls [])) :
    W p l e rm_X1_minimize s m args below meth c H locs 0 0 Q (F0 m 2 ls []) := by
  have hx := hC.1
  have hb := hC.2.1
  unfold f_X1_minimize_B2 at hf
  refine lv_iload_n hx hb dX1_minimize_2 rfl (lv_at hl 2 rfl) ?_
  refine lv_iconst (v := 2) hx hb dX1_minimize_3 (by decide) ?_
  refine lv_icmp_ge (tgt := 27) hx hb dX1_minimize_4 (by decide) (fun hc => ?_) (fun hc => ?_)
  · rw [if_pos hc] at hf
    exact kE  σ (Option.some.inj hf).symm _ _ _ hw (lv_sub hl [] rfl)
  · rw [if_neg hc] at hf
    refine lv_aload_n hx hb dX1_minimize_7 rfl (lv_at hl 0 rfl) ?_
    refine lv_aload_n hx hb dX1_minimize_8 rfl (lv_at hl 1 rfl) ?_
    obtain ⟨ho, hf⟩ := chk_inv hf
    obtain ⟨_, σ1, hk, hf⟩ := bnd_inv hf
    refine z_callV (As := [.ref x1]) (rest := []) (m_X1_explore hC.2.2.2.2.2.2.2.2 hk) hC hw wd_X1_explore lkM_X1_106 (isO_sh ho) rfl rfl ⟨rfl, rfl⟩ ⟨(Nat.le_of_ble_eq_true rfl), (Nat.le_of_ble_eq_true rfl)⟩ hl.1 rfl (Nat.le_of_ble_eq_true rfl) dX1_minimize_9 ⟨(Nat.le_of_ble_eq_true rfl), (Nat.le_of_ble_eq_true rfl)⟩ (fun H locs hw => ?_)
    refine lv_aload_n hx hb dX1_minimize_12 rfl (lv_at hl 0 rfl) ?_
    refine lv_aload_n hx hb dX1_minimize_13 rfl (lv_at hl 1 rfl) ?_
    obtain ⟨ho, hf⟩ := chk_inv hf
    obtain ⟨_, σ2, hk, hf⟩ := bnd_inv hf
    refine z_callV (As := [.ref x1]) (rest := []) (m_X1_build hC.2.2.2.2.2.2.2.2 hk) hC hw wd_X1_build lkM_X1_110 (isO_sh ho) rfl rfl ⟨rfl, rfl⟩ ⟨(Nat.le_of_ble_eq_true rfl), (Nat.le_of_ble_eq_true rfl)⟩ hl.1 rfl (Nat.le_of_ble_eq_true rfl) dX1_minimize_14 ⟨(Nat.le_of_ble_eq_true rfl), (Nat.le_of_ble_eq_true rfl)⟩ (fun H locs hw => ?_)
    refine lv_aload_n hx hb dX1_minimize_17 rfl (lv_at hl 1 rfl) ?_
    obtain ⟨ho, hf⟩ := chk_inv hf
    obtain ⟨_, σ3, hk, hf⟩ := bnd_inv hf
    refine z_callV (As := []) (rest := []) (m_X0_reverse hC.2.2.2.2.2.2.2.2 hk) hC hw wd_X0_reverse lkM_X1_113 (isO_sh ho) rfl rfl ⟨rfl, rfl⟩ ⟨(Nat.le_of_ble_eq_true rfl), (Nat.le_of_ble_eq_true rfl)⟩ hl.1 rfl (Nat.le_of_ble_eq_true rfl) dX1_minimize_18 ⟨(Nat.le_of_ble_eq_true rfl), (Nat.le_of_ble_eq_true rfl)⟩ (fun H locs hw => ?_)
    refine lv_iinc (v := (x2 + 1)) (lv' := [(2, .int (x2 + 1)), (0, .ref x0), (1, .ref x1)]) hx hb dX1_minimize_21 hl (k := 2) rfl rfl (Nat.le_of_ble_eq_true rfl) rfl (fun ls hl => ?_)
    refine lv_goto (tgt := 2) hx hb dX1_minimize_24 (by decide) ?_
    exact kI (x2 + 1) σ3 (Option.some.inj hf).symm _ _ _ hw (lv_sub hl [1, 2, 0] rfl)
set_option maxHeartbeats 4000000 in
theorem l_X1_minimize_B2 (hC : zC p l s m args meth c cX1_minimize 3 RX1 D cA B0) (hr : meth.sig.returnType = (Option.none : Option Jvm.ClassFile.FieldType)) {Γ : zSh} {x0 : Nat} {x1 : Nat} {σ2 : zSt} (kE : ∀ (H : Heap) (locs : List Loc) (ls : Array Slot), zO D cA B0 Γ σ2 Z s.heap H locs → lv_has ls 3 [] → W p l e rm_X1_minimize s m args below meth c H locs 0 0 Q (F0 m 27 ls [])) :
    ∀ (n : Nat) (x2 : Int32) (σ : zSt), loopM (fun q => f_X1_minimize_B2 Γ x0 x1 q.1 q.2) n (x2, σ) = some σ2 → ∀ (H : Heap) (locs : List Loc) (ls : Array Slot), zO D cA B0 Γ σ Z s.heap H locs → lv_has ls 3 [(0, .ref x0), (1, .ref x1), (2, .int x2)] → W p l e rm_X1_minimize s m args below meth c H locs 0 0 Q (F0 m 2 ls []) := by
  intro n
  induction n with
  | zero => intro x2 σ h; exact absurd h (by simp [loopM])
  | succ n ih =>
    intro x2 σ h H locs ls hw hl
    obtain ⟨r, h1, h2, h3⟩ := loopM_inv h
    exact t_X1_minimize_B2 hC hr h1 hw hl (fun z2 s2 e H locs ls hw hl => ih z2 s2 (h2 _ e) H locs ls hw hl) (fun s2 e H locs ls hw hl => by cases h3 _ e; exact kE H locs ls hw hl)
set_option maxHeartbeats 4000000 in
set_option maxRecDepth 100000 in
theorem m_X1_minimize (h9 : l.stackTraces = false) {Γ : zSh} {a0 : Nat} {a1 : Nat} {σ : zSt} {r : Unit} {σ2 : zSt} (hf : f_X1_minimize Γ a0 a1 σ = some (r, σ2)) : Met l yX1_minimize (wq yX1_minimize cX1_minimize 3 (Option.none : Option Jvm.ClassFile.FieldType)) rm_X1_minimize (zQ0 D cA B0 [.ref a0, .ref a1] Γ σ Z) (zQ1 D cA B0 (none) Γ σ2 Z) 0 0 (FR B0) := by
  refine z_ofW h9 (by decide) (Nat.le_of_ble_eq_true rfl) ?_
  intro p e s m args below meth c ls hC hr _ hw hl
  have hx := hC.1
  have hb := hC.2.1
  have hl : lv_has ls 3 [(0, .ref a0), (1, .ref a1)] := hl
  unfold f_X1_minimize at hf
  refine lv_iconst (v := 0) hx hb dX1_minimize_0 (by decide) ?_
  refine lv_istore_n (lv' := [(2, .int 0), (0, .ref a0), (1, .ref a1)]) hx hb dX1_minimize_1 rfl hl (Nat.le_of_ble_eq_true rfl) rfl (fun ls hl => ?_)
  obtain ⟨σ4, hk, hf⟩ := lb0_inv hf
  refine l_X1_minimize_B2 hC hr (fun H locs ls hw hl => ?_) FUEL 0 σ hk _ _ _ hw (lv_sub hl [1, 2, 0] rfl)
  first | (obtain ⟨rfl, rfl⟩ := sp_inv hf) | (obtain rfl := Option.some.inj hf)
  exact W.vret hx hb hr (z_ret hw rfl) hw.2.2.2.2.2 dX1_minimize_27 hC.2.2.2.2.2.1
set_option maxHeartbeats 4000000 in
set_option maxRecDepth 100000 in
theorem t_X3_raisePivot_B3 (hC : zC p l s m args meth c cX3_raisePivot 6 RX3 D cA B0) (hr : meth.sig.returnType = (Option.some FieldType.boolean)) {Γ : zSh} {x0 : Nat} {x1 : Int32} {x2 : Int32} {x3 : Int32} {x4 : Int32} {σ : zSt} {out : ((Int32 × zSt) ⊕ ((zSt) ⊕ (Int32 × zSt)))} (hf : f_X3_raisePivot_B3 Γ x0 x1 x2 x3 x4 σ = some out) {H : Heap} {locs : List Loc} {ls : Array Slot} (hw : zO D cA B0 Γ σ Z s.heap H locs) (hl : lv_has ls 6 [(0, .ref x0), (1, .int x1), (2, .int x2), (3, .int x3), (4, .int x4)])
    (kI : ∀ (z4 : Int32) (σ2 : zSt), out = .inl (z4, σ2) → ∀ (H : Heap) (locs : List Loc) (ls : Array Slot), zO D cA B0 Γ σ2 Z s.heap H locs → lv_has ls 6 [(0, .ref x0), (1, .int x1), (2, .int x2), (3, .int x3), (4, .int z4)] → W p l e rm_X3_raisePivot s m args below meth c H locs 0 0 Q (F0 m 3 ls []))
    (kE : ∀ (σ2 : zSt), out = .inr (.inl σ2) → ∀ (H : Heap) (locs : List Loc) (ls : Array Slot), zO D cA B0 Γ σ2 Z s.heap H locs → lv_has ls 6 [] → W p l e rm_X3_raisePivot s m args below meth c H locs 0 0 Q (F0 m 59 ls []))
    (kR : ∀ (v : Int32) (σ2 : zSt), out = .inr (.inr (v, σ2)) → isB v = true → ∀ (H : Heap) (locs : List Loc) (ls : Array Slot) (pr : Nat), zO D cA B0 Γ σ2 Z s.heap H locs → decode cX3_raisePivot pr = .ok (.ireturn, 1) → W p l e rm_X3_raisePivot s m args below meth c H locs 0 0 Q (F0 m pr ls [.int v])) :
    W p l e rm_X3_raisePivot s m args below meth c H locs 0 0 Q (F0 m 3 ls []) := by
  have hx := hC.1
  have hb := hC.2.1
  unfold f_X3_raisePivot_B3 at hf
  refine lv_iload hx hb dX3_raisePivot_3 (lv_at hl 4 rfl) ?_
  refine lv_iload_n hx hb dX3_raisePivot_5 rfl (lv_at hl 2 rfl) ?_
  refine lv_icmp_ge (tgt := 59) hx hb dX3_raisePivot_6 (by decide) (fun hc => ?_) (fun hc => ?_)
  · rw [if_pos hc] at hf
    exact kE  σ (Option.some.inj hf).symm _ _ _ hw (lv_sub hl [] rfl)
  · rw [if_neg hc] at hf
    refine lv_aload_n hx hb dX3_raisePivot_9 rfl (lv_at hl 0 rfl) ?_
    obtain ⟨v1, hg, hf⟩ := gfR_inv hf
    refine r_gfR hC hw hg clX3 (Nat.le_of_ble_eq_true rfl) lkF_X3_11 rfl dX3_raisePivot_10 ?_
    refine lv_iload hx hb dX3_raisePivot_13 (lv_at hl 4 rfl) ?_
    obtain ⟨v2, hg, hf⟩ := ldG_inv hf
    refine r_ldG hC hw hg dX3_raisePivot_15 ?_
    refine lv_iload_n hx hb dX3_raisePivot_16 rfl (lv_at hl 3 rfl) ?_
    obtain ⟨v3, hg, hf⟩ := ldI_inv hf
    refine r_ldI hC hw hg dX3_raisePivot_17 ?_
    refine lv_if_eq (tgt := 53) hx hb dX3_raisePivot_18 (by decide) (fun hc => ?_) (fun hc => ?_)
    · rw [if_pos hc] at hf
      refine lv_iinc (v := (x4 + 1)) (lv' := [(4, .int (x4 + 1)), (0, .ref x0), (1, .int x1), (2, .int x2), (3, .int x3)]) hx hb dX3_raisePivot_53 hl (k := 4) rfl rfl (Nat.le_of_ble_eq_true rfl) rfl (fun ls hl => ?_)
      refine lv_goto (tgt := 3) hx hb dX3_raisePivot_56 (by decide) ?_
      exact kI (x4 + 1) σ (Option.some.inj hf).symm _ _ _ hw (lv_sub hl [1, 2, 3, 4, 0] rfl)
    · rw [if_neg hc] at hf
      refine lv_aload_n hx hb dX3_raisePivot_21 rfl (lv_at hl 0 rfl) ?_
      obtain ⟨v4, hg, hf⟩ := gfR_inv hf
      refine r_gfR hC hw hg clX3 (Nat.le_of_ble_eq_true rfl) lkF_X3_11 rfl dX3_raisePivot_22 ?_
      refine lv_iload hx hb dX3_raisePivot_25 (lv_at hl 4 rfl) ?_
      obtain ⟨v5, hg, hf⟩ := ldG_inv hf
      refine r_ldG hC hw hg dX3_raisePivot_27 ?_
      refine lv_astore (lv' := [(5, .ref v5), (0, .ref x0), (1, .int x1), (2, .int x2), (3, .int x3), (4, .int x4)]) hx hb dX3_raisePivot_28 hl (Nat.le_of_ble_eq_true rfl) rfl (fun ls hl => ?_)
      refine lv_aload_n hx hb dX3_raisePivot_30 rfl (lv_at hl 1 rfl) ?_
      obtain ⟨v6, hg, hf⟩ := gfR_inv hf
      refine r_gfR hC hw hg clX3 (Nat.le_of_ble_eq_true rfl) lkF_X3_11 rfl dX3_raisePivot_31 ?_
      refine lv_iload hx hb dX3_raisePivot_34 (lv_at hl 5 rfl) ?_
      refine lv_aload_n hx hb dX3_raisePivot_36 rfl (lv_at hl 1 rfl) ?_
      obtain ⟨v7, hg, hf⟩ := gfR_inv hf
      refine r_gfR hC hw hg clX3 (Nat.le_of_ble_eq_true rfl) lkF_X3_11 rfl dX3_raisePivot_37 ?_
      refine lv_iload_n hx hb dX3_raisePivot_40 rfl (lv_at hl 2 rfl) ?_
      obtain ⟨v8, hg, hf⟩ := ldG_inv hf
      refine r_ldG hC hw hg dX3_raisePivot_41 ?_
      obtain ⟨hz, hf⟩ := chk_inv hf
      obtain ⟨σ9, hg, hf⟩ := stG_inv hf
      refine r_stG hC hw (of_decide_eq_true hz) hg dX3_raisePivot_42 (fun H locs hw => ?_)
      refine lv_aload_n hx hb dX3_raisePivot_43 rfl (lv_at hl 1 rfl) ?_
      obtain ⟨v10, hg, hf⟩ := gfR_inv hf
      refine r_gfR hC hw hg clX3 (Nat.le_of_ble_eq_true rfl) lkF_X3_11 rfl dX3_raisePivot_44 ?_
      refine lv_iload_n hx hb dX3_raisePivot_47 rfl (lv_at hl 2 rfl) ?_
      refine lv_aload hx hb dX3_raisePivot_48 (lv_at hl 0 rfl) ?_
      obtain ⟨hz, hf⟩ := chk_inv hf
      obtain ⟨σ11, hg, hf⟩ := stG_inv hf
      refine r_stG hC hw (of_decide_eq_true hz) hg dX3_raisePivot_50 (fun H locs hw => ?_)
      refine lv_iconst (v := 1) hx hb dX3_raisePivot_51 (by decide) ?_
      obtain ⟨hz, hf⟩ := chk_inv hf
      exact kR 1 σ11 (Option.some.inj hf).symm hz _ _ _ 52 hw dX3_raisePivot_52
set_option maxHeartbeats 4000000 in
theorem l_X3_raisePivot_B3 (hC : zC p l s m args meth c cX3_raisePivot 6 RX3 D cA B0) (hr : meth.sig.returnType = (Option.some FieldType.boolean)) {Γ : zSh} {x0 : Nat} {x1 : Int32} {x2 : Int32} {x3 : Int32} {out : (zSt) ⊕ (Int32 × zSt)} (kE : ∀ (σ2 : zSt), out = .inl σ2 → ∀ (H : Heap) (locs : List Loc) (ls : Array Slot), zO D cA B0 Γ σ2 Z s.heap H locs → lv_has ls 6 [] → W p l e rm_X3_raisePivot s m args below meth c H locs 0 0 Q (F0 m 59 ls []))(kR : ∀ (v : Int32) (σ2 : zSt), out = .inr (v, σ2) → isB v = true → ∀ (H : Heap) (locs : List Loc) (ls : Array Slot) (pr : Nat), zO D cA B0 Γ σ2 Z s.heap H locs → decode cX3_raisePivot pr = .ok (.ireturn, 1) → W p l e rm_X3_raisePivot s m args below meth c H locs 0 0 Q (F0 m pr ls [.int v])) :
    ∀ (n : Nat) (x4 : Int32) (σ : zSt), loopM (fun q => f_X3_raisePivot_B3 Γ x0 x1 x2 x3 q.1 q.2) n (x4, σ) = some out → ∀ (H : Heap) (locs : List Loc) (ls : Array Slot), zO D cA B0 Γ σ Z s.heap H locs → lv_has ls 6 [(0, .ref x0), (1, .int x1), (2, .int x2), (3, .int x3), (4, .int x4)] → W p l e rm_X3_raisePivot s m args below meth c H locs 0 0 Q (F0 m 3 ls []) := by
  intro n
  induction n with
  | zero => intro x4 σ h; exact absurd h (by simp [loopM])
  | succ n ih =>
    intro x4 σ h H locs ls hw hl
    obtain ⟨r, h1, h2, h3⟩ := loopM_inv h
    exact t_X3_raisePivot_B3 hC hr h1 hw hl (fun z4 s2 e H locs ls hw hl => ih z4 s2 (h2 _ e) H locs ls hw hl) (fun s2 e => kE s2 (h3 _ e).symm) (fun v s2 e => kR v s2 (h3 _ e).symm)
set_option maxHeartbeats 4000000 in
set_option maxRecDepth 100000 in
theorem m_X3_raisePivot (h9 : l.stackTraces = false) {Γ : zSh} {a0 : Nat} {a1 : Int32} {a2 : Int32} {a3 : Int32} {σ : zSt} {r : Int32} {σ2 : zSt} (hf : f_X3_raisePivot Γ a0 a1 a2 a3 σ = some (r, σ2)) : Met l yX3_raisePivot (wq yX3_raisePivot cX3_raisePivot 6 (Option.some FieldType.boolean)) rm_X3_raisePivot (zQ0 D cA B0 [.ref a0, .int a1, .int a2, .int a3] Γ σ Z) (zQ1 D cA B0 (some (.int r)) Γ σ2 Z) 0 0 (FR B0) := by
  refine z_ofW h9 (by decide) (Nat.le_of_ble_eq_true rfl) ?_
  intro p e s m args below meth c ls hC hr _ hw hl
  have hx := hC.1
  have hb := hC.2.1
  have hl : lv_has ls 6 [(0, .ref a0), (1, .int a1), (2, .int a2), (3, .int a3)] := hl
  unfold f_X3_raisePivot at hf
  refine lv_iload_n hx hb dX3_raisePivot_0 rfl (lv_at hl 1 rfl) ?_
  refine lv_istore (lv' := [(4, .int a1), (0, .ref a0), (1, .int a1), (2, .int a2), (3, .int a3)]) hx hb dX3_raisePivot_1 hl (Nat.le_of_ble_eq_true rfl) rfl (fun ls hl => ?_)
  obtain ⟨q, hk, hE, hR⟩ := lbr_inv hf
  refine l_X3_raisePivot_B3 hC hr (fun σ12 e H locs ls hw hl => ?_) (fun v s9 e hz H locs ls pr hw hd => ?_) FUEL a1 σ hk _ _ _ hw (lv_sub hl [1, 2, 3, 4, 0] rfl)
  · obtain ⟨s8, e2, hf⟩ := lb0_inv (hE _ e)
    cases e2
    refine lv_iconst (v := 0) hx hb dX3_raisePivot_59 (by decide) ?_
    obtain ⟨hz, hf⟩ := chk_inv hf
    first | (obtain ⟨rfl, rfl⟩ := sp_inv hf) | (obtain rfl := Option.some.inj hf)
    exact W.zret hx hb hr (isB_n hz).1 (z_ret hw rfl) hw.2.2.2.2.2 dX3_raisePivot_60 hC.2.2.2.2.2.1
  · have hf := hR _ _ e
    first | (obtain ⟨rfl, rfl⟩ := sp_inv hf) | (obtain rfl := Option.some.inj hf)
    exact W.zret hx hb hr (isB_n hz).1 (z_ret hw rfl) hw.2.2.2.2.2 hd hC.2.2.2.2.2.1
set_option maxHeartbeats 4000000 in
set_option maxRecDepth 100000 in
theorem t_X3_clearBelow_B22_L71 (hC : zC p l s m args meth c cX3_clearBelow 8 RX3 D cA B0) (hr : meth.sig.returnType = (Option.none : Option Jvm.ClassFile.FieldType)) {Γ : zSh} {x0 : Nat} {x1 : Int32} {x2 : Int32} {x3 : Int32} {x4 : Int32} {x5 : Int32} {x6 : Int32}  {σ : zSt} {out : ((Int32 × zSt) ⊕ (zSt))} (hf : f_X3_clearBelow_B22_L71 Γ x0 x1 x2 x3 x4 x5 x6 σ = some out) {H : Heap} {locs : List Loc} {ls : Array Slot} (hw : zO D cA B0 Γ σ Z s.heap H locs) (hl : lv_has ls 8 [(0, .ref x0), (1, .int x1), (2, .int x2), (3, .int x3), (4, .int x4), (5, .int x5), (6, .int x6)])
    (kI : ∀ (z6 : Int32) (σ2 : zSt), out = .inl (z6, σ2) → ∀ (H : Heap) (locs : List Loc) (ls : Array Slot), zO D cA B0 Γ σ2 Z s.heap H locs → lv_has ls 8 [(0, .ref x0), (1, .int x1), (2, .int x2), (3, .int x3), (4, .int x4), (5, .int x5), (6, .int z6)] → W p l e rm_X3_clearBelow s m args below meth c H locs 0 0 Q (F0 m 22 ls []))
    (kE : ∀ (σ2 : zSt), out = .inr σ2 → ∀ (H : Heap) (locs : List Loc) (ls : Array Slot), zO D cA B0 Γ σ2 Z s.heap H locs → lv_has ls 8 [] → W p l e rm_X3_clearBelow s m args below meth c H locs 0 0 Q (F0 m 77 ls [])) :
    W p l e rm_X3_clearBelow s m args below meth c H locs 0 0 Q (F0 m 71 ls []) := by
  have hx := hC.1
  have hb := hC.2.1
  unfold f_X3_clearBelow_B22_L71 at hf
  refine lv_iinc (v := (x6 + 1)) (lv' := [(6, .int (x6 + 1)), (0, .ref x0), (1, .int x1), (2, .int x2), (3, .int x3), (4, .int x4), (5, .int x5)]) hx hb dX3_clearBelow_71 hl (k := 6) rfl rfl (Nat.le_of_ble_eq_true rfl) rfl (fun ls hl => ?_)
  refine lv_goto (tgt := 22) hx hb dX3_clearBelow_74 (by decide) ?_
  exact kI (x6 + 1) σ (Option.some.inj hf).symm _ _ _ hw (lv_sub hl [1, 2, 3, 4, 5, 6, 0] rfl)
set_option maxHeartbeats 4000000 in
set_option maxRecDepth 100000 in
theorem t_X3_clearBelow_B22 (hC : zC p l s m args meth c cX3_clearBelow 8 RX3 D cA B0) (hr : meth.sig.returnType = (Option.none : Option Jvm.ClassFile.FieldType)) {Γ : zSh} {x0 : Nat} {x1 : Int32} {x2 : Int32} {x3 : Int32} {x4 : Int32} {x5 : Int32} {x6 : Int32} {σ : zSt} {out : ((Int32 × zSt) ⊕ (zSt))} (hf : f_X3_clearBelow_B22 Γ x0 x1 x2 x3 x4 x5 x6 σ = some out) {H : Heap} {locs : List Loc} {ls : Array Slot} (hw : zO D cA B0 Γ σ Z s.heap H locs) (hl : lv_has ls 8 [(0, .ref x0), (1, .int x1), (2, .int x2), (3, .int x3), (4, .int x4), (5, .int x5), (6, .int x6)])
    (kI : ∀ (z6 : Int32) (σ2 : zSt), out = .inl (z6, σ2) → ∀ (H : Heap) (locs : List Loc) (ls : Array Slot), zO D cA B0 Γ σ2 Z s.heap H locs → lv_has ls 8 [(0, .ref x0), (1, .int x1), (2, .int x2), (3, .int x3), (4, .int x4), (5, .int x5), (6, .int z6)] → W p l e rm_X3_clearBelow s m args below meth c H locs 0 0 Q (F0 m 22 ls []))
    (kE : ∀ (σ2 : zSt), out = .inr σ2 → ∀ (H : Heap) (locs : List Loc) (ls : Array Slot), zO D cA B0 Γ σ2 Z s.heap H locs → lv_has ls 8 [] → W p l e rm_X3_clearBelow s m args below meth c H locs 0 0 Q (F0 m 77 ls [])) :
    W p l e rm_X3_clearBelow s m args below meth c H locs 0 0 Q (F0 m 22 ls []) := by
  have hx := hC.1
  have hb := hC.2.1
  unfold f_X3_clearBelow_B22 at hf
  refine lv_iload hx hb dX3_clearBelow_22 (lv_at hl 6 rfl) ?_
  refine lv_iload_n hx hb dX3_clearBelow_24 rfl (lv_at hl 2 rfl) ?_
  refine lv_icmp_ge (tgt := 77) hx hb dX3_clearBelow_25 (by decide) (fun hc => ?_) (fun hc => ?_)
  · rw [if_pos hc] at hf
    exact kE  σ (Option.some.inj hf).symm _ _ _ hw (lv_sub hl [] rfl)
  · rw [if_neg hc] at hf
    refine lv_aload_n hx hb dX3_clearBelow_28 rfl (lv_at hl 0 rfl) ?_
    obtain ⟨v6, hg, hf⟩ := gfR_inv hf
    refine r_gfR hC hw hg clX3 (Nat.le_of_ble_eq_true rfl) lkF_X3_11 rfl dX3_clearBelow_29 ?_
    refine lv_iload hx hb dX3_clearBelow_32 (lv_at hl 6 rfl) ?_
    obtain ⟨v7, hg, hf⟩ := ldG_inv hf
    refine r_ldG hC hw hg dX3_clearBelow_34 ?_
    refine lv_iload_n hx hb dX3_clearBelow_35 rfl (lv_at hl 3 rfl) ?_
    obtain ⟨v8, hg, hf⟩ := ldI_inv hf
    refine r_ldI hC hw hg dX3_clearBelow_36 ?_
    refine lv_iload hx hb dX3_clearBelow_37 (lv_at hl 5 rfl) ?_
    refine lv_imul hx hb dX3_clearBelow_39 ?_
    refine lv_sipush (v := 10007) hx hb dX3_clearBelow_40 (by decide) ?_
    obtain ⟨v9, hg, hf⟩ := rmI_inv hf
    refine r_rmI hC hg dX3_clearBelow_43 ?_
    refine lv_istore (lv' := [(7, .int v9), (0, .ref x0), (1, .int x1), (2, .int x2), (3, .int x3), (4, .int x4), (5, .int x5), (6, .int x6)]) hx hb dX3_clearBelow_44 hl (Nat.le_of_ble_eq_true rfl) rfl (fun ls hl => ?_)
    refine lv_iload hx hb dX3_clearBelow_46 (lv_at hl 0 rfl) ?_
    refine lv_if_eq (tgt := 71) hx hb dX3_clearBelow_48 (by decide) (fun hc => ?_) (fun hc => ?_)
    · rw [if_pos hc] at hf
      exact t_X3_clearBelow_B22_L71 hC hr hf hw (lv_sub hl [1, 2, 3, 4, 5, 6, 7] rfl) kI kE
    · rw [if_neg hc] at hf
      refine lv_aload_n hx hb dX3_clearBelow_51 rfl (lv_at hl 1 rfl) ?_
      obtain ⟨v10, hg, hf⟩ := gfR_inv hf
      refine r_gfR hC hw hg clX3 (Nat.le_of_ble_eq_true rfl) lkF_X3_11 rfl dX3_clearBelow_52 ?_
      refine lv_iload hx hb dX3_clearBelow_55 (lv_at hl 7 rfl) ?_
      obtain ⟨v11, hg, hf⟩ := ldG_inv hf
      refine r_ldG hC hw hg dX3_clearBelow_57 ?_
      refine lv_iload hx hb dX3_clearBelow_58 (lv_at hl 0 rfl) ?_
      refine lv_aload_n hx hb dX3_clearBelow_60 rfl (lv_at hl 1 rfl) ?_
      obtain ⟨v12, hg, hf⟩ := gfR_inv hf
      refine r_gfR hC hw hg clX3 (Nat.le_of_ble_eq_true rfl) lkF_X3_11 rfl dX3_clearBelow_61 ?_
      refine lv_iload_n hx hb dX3_clearBelow_64 rfl (lv_at hl 2 rfl) ?_
      obtain ⟨v13, hg, hf⟩ := ldG_inv hf
      refine r_ldG hC hw hg dX3_clearBelow_65 ?_
      refine lv_iload hx hb dX3_clearBelow_66 (lv_at hl 5 rfl) ?_
      obtain ⟨_, σ14, hk, hf⟩ := bnd_inv hf
      refine z_callSN (As := [.ref v11, .int v9, .ref v13, .int x4]) (rest := []) (m_X6_addMultiple hC.2.2.2.2.2.2.2.2 hk) hC hw wd_X6_addMultiple lkN_X3_28 rfl ⟨rfl, rfl⟩ ⟨(Nat.le_of_ble_eq_true rfl), (Nat.le_of_ble_eq_true rfl)⟩ hl.1 rfl (Nat.le_of_ble_eq_true rfl) dX3_clearBelow_68 ⟨(Nat.le_of_ble_eq_true rfl), (Nat.le_of_ble_eq_true rfl)⟩ (fun H locs hw => ?_)
      exact t_X3_clearBelow_B22_L71 hC hr hf hw (lv_sub hl [1, 2, 3, 4, 5, 6, 7] rfl) kI kE
set_option maxHeartbeats 4000000 in
theorem l_X3_clearBelow_B22 (hC : zC p l s m args meth c cX3_clearBelow 8 RX3 D cA B0) (hr : meth.sig.returnType = (Option.none : Option Jvm.ClassFile.FieldType)) {Γ : zSh} {x0 : Nat} {x1 : Int32} {x2 : Int32} {x3 : Int32} {x4 : Int32} {x5 : Int32} {σ2 : zSt} (kE : ∀ (H : Heap) (locs : List Loc) (ls : Array Slot), zO D cA B0 Γ σ2 Z s.heap H locs → lv_has ls 8 [] → W p l e rm_X3_clearBelow s m args below meth c H locs 0 0 Q (F0 m 77 ls [])) :
    ∀ (n : Nat) (x6 : Int32) (σ : zSt), loopM (fun q => f_X3_clearBelow_B22 Γ x0 x1 x2 x3 x4 x5 q.1 q.2) n (x6, σ) = some σ2 → ∀ (H : Heap) (locs : List Loc) (ls : Array Slot), zO D cA B0 Γ σ Z s.heap H locs → lv_has ls 8 [(0, .ref x0), (1, .int x1), (2, .int x2), (3, .int x3), (4, .int x4), (5, .int x5), (6, .int x6)] → W p l e rm_X3_clearBelow s m args below meth c H locs 0 0 Q (F0 m 22 ls []) := by
  intro n
  induction n with
  | zero => intro x6 σ h; exact absurd h (by simp [loopM])
  | succ n ih =>
    intro x6 σ h H locs ls hw hl
    obtain ⟨r, h1, h2, h3⟩ := loopM_inv h
    exact t_X3_clearBelow_B22 hC hr h1 hw hl (fun z6 s2 e H locs ls hw hl => ih z6 s2 (h2 _ e) H locs ls hw hl) (fun s2 e H locs ls hw hl => by cases h3 _ e; exact kE H locs ls hw hl)
set_option maxHeartbeats 4000000 in
set_option maxRecDepth 100000 in
theorem m_X3_clearBelow (h9 : l.stackTraces = false) {Γ : zSh} {a0 : Nat} {a1 : Int32} {a2 : Int32} {a3 : Int32} {a4 : Int32} {σ : zSt} {r : Unit} {σ2 : zSt} (hf : f_X3_clearBelow Γ a0 a1 a2 a3 a4 σ = some (r, σ2)) : Met l yX3_clearBelow (wq yX3_clearBelow cX3_clearBelow 8 (Option.none : Option Jvm.ClassFile.FieldType)) rm_X3_clearBelow (zQ0 D cA B0 [.ref a0, .int a1, .int a2, .int a3, .int a4] Γ σ Z) (zQ1 D cA B0 (none) Γ σ2 Z) 0 0 (FR B0) := by
  refine z_ofW h9 (by decide) (Nat.le_of_ble_eq_true rfl) ?_
  intro p e s m args below meth c ls hC hr _ hw hl
  have hx := hC.1
  have hb := hC.2.1
  have hl : lv_has ls 8 [(0, .ref a0), (1, .int a1), (2, .int a2), (3, .int a3), (4, .int a4)] := hl
  unfold f_X3_clearBelow at hf
  refine lv_sipush (v := 10007) hx hb dX3_clearBelow_0 (by decide) ?_
  refine lv_aload_n hx hb dX3_clearBelow_3 rfl (lv_at hl 0 rfl) ?_
  obtain ⟨v1, hg, hf⟩ := gfR_inv hf
  refine r_gfR hC hw hg clX3 (Nat.le_of_ble_eq_true rfl) lkF_X3_11 rfl dX3_clearBelow_4 ?_
  refine lv_iload_n hx hb dX3_clearBelow_7 rfl (lv_at hl 1 rfl) ?_
  obtain ⟨v2, hg, hf⟩ := ldG_inv hf
  refine r_ldG hC hw hg dX3_clearBelow_8 ?_
  refine lv_iload_n hx hb dX3_clearBelow_9 rfl (lv_at hl 3 rfl) ?_
  obtain ⟨v3, hg, hf⟩ := ldI_inv hf
  refine r_ldI hC hw hg dX3_clearBelow_10 ?_
  obtain ⟨r5, σ4, hk, hf⟩ := bnd_inv hf
  refine z_callSN (As := [.int v3]) (rest := [.int 10007]) (m_X6_reciprocal hC.2.2.2.2.2.2.2.2 hk) hC hw wd_X6_reciprocal lkN_X3_24 rfl ⟨rfl, rfl⟩ ⟨(Nat.le_of_ble_eq_true rfl), (Nat.le_of_ble_eq_true rfl)⟩ hl.1 rfl (Nat.le_of_ble_eq_true rfl) dX3_clearBelow_11 ⟨(Nat.le_of_ble_eq_true rfl), (Nat.le_of_ble_eq_true rfl)⟩ (fun H locs hw => ?_)
  refine lv_isub hx hb dX3_clearBelow_14 ?_
  refine lv_istore (lv' := [(5, .int (10007 - r5)), (0, .ref a0), (1, .int a1), (2, .int a2), (3, .int a3), (4, .int a4)]) hx hb dX3_clearBelow_15 hl (Nat.le_of_ble_eq_true rfl) rfl (fun ls hl => ?_)
  refine lv_iload_n hx hb dX3_clearBelow_17 rfl (lv_at hl 2 rfl) ?_
  refine lv_iconst (v := 1) hx hb dX3_clearBelow_18 (by decide) ?_
  refine lv_iadd hx hb dX3_clearBelow_19 ?_
  refine lv_istore (lv' := [(6, .int (a1 + 1)), (5, .int (10007 - r5)), (0, .ref a0), (1, .int a1), (2, .int a2), (3, .int a3), (4, .int a4)]) hx hb dX3_clearBelow_20 hl (Nat.le_of_ble_eq_true rfl) rfl (fun ls hl => ?_)
  obtain ⟨σ15, hk, hf⟩ := lb0_inv hf
  refine l_X3_clearBelow_B22 hC hr (fun H locs ls hw hl => ?_) FUEL (a1 + 1) σ4 hk _ _ _ hw (lv_sub hl [2, 3, 4, 5, 6, 1, 0] rfl)
  first | (obtain ⟨rfl, rfl⟩ := sp_inv hf) | (obtain rfl := Option.some.inj hf)
  exact W.vret hx hb hr (z_ret hw rfl) hw.2.2.2.2.2 dX3_clearBelow_77 hC.2.2.2.2.2.1
set_option maxHeartbeats 4000000 in
set_option maxRecDepth 100000 in
theorem t_X3_rank_B5_L39 (hC : zC p l s m args meth c cX3_rank 5 RX3 D cA B0) (hr : meth.sig.returnType = (Option.some FieldType.int)) {Γ : zSh} {x0 : Nat} {x1 : Int32} {x2 : Int32} {x3 : Int32} {x4 : Int32}  {σ : zSt} {out : ((Int32 × Int32 × zSt) ⊕ (Int32 × zSt))} (hf : f_X3_rank_B5_L39 Γ x0 x1 x2 x3 x4 σ = some out) {H : Heap} {locs : List Loc} {ls : Array Slot} (hw : zO D cA B0 Γ σ Z s.heap H locs) (hl : lv_has ls 5 [(0, .ref x0), (1, .int x1), (2, .int x2), (3, .int x3), (4, .int x4)])
    (kI : ∀ (z3 : Int32) (z4 : Int32) (σ2 : zSt), out = .inl (z3, z4, σ2) → ∀ (H : Heap) (locs : List Loc) (ls : Array Slot), zO D cA B0 Γ σ2 Z s.heap H locs → lv_has ls 5 [(0, .ref x0), (1, .int x1), (2, .int x2), (3, .int z3), (4, .int z4)] → W p l e rm_X3_rank s m args below meth c H locs 0 0 Q (F0 m 5 ls []))
    (kE : ∀ (z3 : Int32) (σ2 : zSt), out = .inr (z3, σ2) → ∀ (H : Heap) (locs : List Loc) (ls : Array Slot), zO D cA B0 Γ σ2 Z s.heap H locs → lv_has ls 5 [(3, .int z3)] → W p l e rm_X3_rank s m args below meth c H locs 0 0 Q (F0 m 45 ls [])) :
    W p l e rm_X3_rank s m args below meth c H locs 0 0 Q (F0 m 39 ls []) := by
  have hx := hC.1
  have hb := hC.2.1
  unfold f_X3_rank_B5_L39 at hf
  refine lv_iinc (v := (x4 + 1)) (lv' := [(4, .int (x4 + 1)), (0, .ref x0), (1, .int x1), (2, .int x2), (3, .int x3)]) hx hb dX3_rank_39 hl (k := 4) rfl rfl (Nat.le_of_ble_eq_true rfl) rfl (fun ls hl => ?_)
  refine lv_goto (tgt := 5) hx hb dX3_rank_42 (by decide) ?_
  exact kI x3 (x4 + 1) σ (Option.some.inj hf).symm _ _ _ hw (lv_sub hl [1, 2, 3, 4, 0] rfl)
set_option maxHeartbeats 4000000 in
set_option maxRecDepth 100000 in
theorem t_X3_rank_B5 (hC : zC p l s m args meth c cX3_rank 5 RX3 D cA B0) (hr : meth.sig.returnType = (Option.some FieldType.int)) {Γ : zSh} {x0 : Nat} {x1 : Int32} {x2 : Int32} {x3 : Int32} {x4 : Int32} {σ : zSt} {out : ((Int32 × Int32 × zSt) ⊕ (Int32 × zSt))} (hf : f_X3_rank_B5 Γ x0 x1 x2 x3 x4 σ = some out) {H : Heap} {locs : List Loc} {ls : Array Slot} (hw : zO D cA B0 Γ σ Z s.heap H locs) (hl : lv_has ls 5 [(0, .ref x0), (1, .int x1), (2, .int x2), (3, .int x3), (4, .int x4)])
    (kI : ∀ (z3 : Int32) (z4 : Int32) (σ2 : zSt), out = .inl (z3, z4, σ2) → ∀ (H : Heap) (locs : List Loc) (ls : Array Slot), zO D cA B0 Γ σ2 Z s.heap H locs → lv_has ls 5 [(0, .ref x0), (1, .int x1), (2, .int x2), (3, .int z3), (4, .int z4)] → W p l e rm_X3_rank s m args below meth c H locs 0 0 Q (F0 m 5 ls []))
    (kE : ∀ (z3 : Int32) (σ2 : zSt), out = .inr (z3, σ2) → ∀ (H : Heap) (locs : List Loc) (ls : Array Slot), zO D cA B0 Γ σ2 Z s.heap H locs → lv_has ls 5 [(3, .int z3)] → W p l e rm_X3_rank s m args below meth c H locs 0 0 Q (F0 m 45 ls [])) :
    W p l e rm_X3_rank s m args below meth c H locs 0 0 Q (F0 m 5 ls []) := by
  have hx := hC.1
  have hb := hC.2.1
  unfold f_X3_rank_B5 at hf
  refine lv_iload hx hb dX3_rank_5 (lv_at hl 4 rfl) ?_
  refine lv_iload_n hx hb dX3_rank_7 rfl (lv_at hl 2 rfl) ?_
  refine lv_icmp_ge (tgt := 45) hx hb dX3_rank_8 (by decide) (fun hc => ?_) (fun hc => ?_)
  · rw [if_pos hc] at hf
    exact kE x3 σ (Option.some.inj hf).symm _ _ _ hw (lv_sub hl [3] rfl)
  · rw [if_neg hc] at hf
    refine lv_iload_n hx hb dX3_rank_11 rfl (lv_at hl 3 rfl) ?_
    refine lv_iload_n hx hb dX3_rank_12 rfl (lv_at hl 1 rfl) ?_
    refine lv_icmp_ge (tgt := 45) hx hb dX3_rank_13 (by decide) (fun hc => ?_) (fun hc => ?_)
    · rw [if_pos hc] at hf
      exact kE x3 σ (Option.some.inj hf).symm _ _ _ hw (lv_sub hl [3] rfl)
    · rw [if_neg hc] at hf
      refine lv_aload_n hx hb dX3_rank_16 rfl (lv_at hl 0 rfl) ?_
      refine lv_iload_n hx hb dX3_rank_17 rfl (lv_at hl 3 rfl) ?_
      refine lv_iload_n hx hb dX3_rank_18 rfl (lv_at hl 1 rfl) ?_
      refine lv_iload hx hb dX3_rank_19 (lv_at hl 4 rfl) ?_
      obtain ⟨ho, hf⟩ := chk_inv hf
      obtain ⟨r2, σ1, hk, hf⟩ := bnd_inv hf
      refine z_callV (As := [.int x3, .int x1, .int x4]) (rest := []) (m_X3_raisePivot hC.2.2.2.2.2.2.2.2 hk) hC hw wd_X3_raisePivot lkM_X3_16 (isO_sh ho) rfl rfl ⟨rfl, rfl⟩ ⟨(Nat.le_of_ble_eq_true rfl), (Nat.le_of_ble_eq_true rfl)⟩ hl.1 rfl (Nat.le_of_ble_eq_true rfl) dX3_rank_21 ⟨(Nat.le_of_ble_eq_true rfl), (Nat.le_of_ble_eq_true rfl)⟩ (fun H locs hw => ?_)
      refine lv_if_eq (tgt := 39) hx hb dX3_rank_24 (by decide) (fun hc => ?_) (fun hc => ?_)
      · rw [if_pos hc] at hf
        exact t_X3_rank_B5_L39 hC hr hf hw (lv_sub hl [0, 1, 2, 3, 4] rfl) kI kE
      · rw [if_neg hc] at hf
        refine lv_aload_n hx hb dX3_rank_27 rfl (lv_at hl 0 rfl) ?_
        refine lv_iload_n hx hb dX3_rank_28 rfl (lv_at hl 3 rfl) ?_
        refine lv_iload_n hx hb dX3_rank_29 rfl (lv_at hl 1 rfl) ?_
        refine lv_iload hx hb dX3_rank_30 (lv_at hl 4 rfl) ?_
        refine lv_iload_n hx hb dX3_rank_32 rfl (lv_at hl 2 rfl) ?_
        obtain ⟨ho, hf⟩ := chk_inv hf
        obtain ⟨_, σ3, hk, hf⟩ := bnd_inv hf
        refine z_callV (As := [.int x3, .int x1, .int x4, .int x2]) (rest := []) (m_X3_clearBelow hC.2.2.2.2.2.2.2.2 hk) hC hw wd_X3_clearBelow lkM_X3_20 (isO_sh ho) rfl rfl ⟨rfl, rfl⟩ ⟨(Nat.le_of_ble_eq_true rfl), (Nat.le_of_ble_eq_true rfl)⟩ hl.1 rfl (Nat.le_of_ble_eq_true rfl) dX3_rank_33 ⟨(Nat.le_of_ble_eq_true rfl), (Nat.le_of_ble_eq_true rfl)⟩ (fun H locs hw => ?_)
        refine lv_iinc (v := (x3 + 1)) (lv' := [(3, .int (x3 + 1)), (0, .ref x0), (1, .int x1), (2, .int x2), (4, .int x4)]) hx hb dX3_rank_36 hl (k := 3) rfl rfl (Nat.le_of_ble_eq_true rfl) rfl (fun ls hl => ?_)
        exact t_X3_rank_B5_L39 hC hr hf hw (lv_sub hl [1, 2, 3, 0, 4] rfl) kI kE
set_option maxHeartbeats 4000000 in
theorem l_X3_rank_B5 (hC : zC p l s m args meth c cX3_rank 5 RX3 D cA B0) (hr : meth.sig.returnType = (Option.some FieldType.int)) {Γ : zSh} {x0 : Nat} {x1 : Int32} {x2 : Int32} {w3 : Int32} {σ2 : zSt} (kE : ∀ (H : Heap) (locs : List Loc) (ls : Array Slot), zO D cA B0 Γ σ2 Z s.heap H locs → lv_has ls 5 [(3, .int w3)] → W p l e rm_X3_rank s m args below meth c H locs 0 0 Q (F0 m 45 ls [])) :
    ∀ (n : Nat) (x3 : Int32) (x4 : Int32) (σ : zSt), loopM (fun q => f_X3_rank_B5 Γ x0 x1 x2 q.1 q.2.1 q.2.2) n (x3, x4, σ) = some (w3, σ2) → ∀ (H : Heap) (locs : List Loc) (ls : Array Slot), zO D cA B0 Γ σ Z s.heap H locs → lv_has ls 5 [(0, .ref x0), (1, .int x1), (2, .int x2), (3, .int x3), (4, .int x4)] → W p l e rm_X3_rank s m args below meth c H locs 0 0 Q (F0 m 5 ls []) := by
  intro n
  induction n with
  | zero => intro x3 x4 σ h; exact absurd h (by simp [loopM])
  | succ n ih =>
    intro x3 x4 σ h H locs ls hw hl
    obtain ⟨r, h1, h2, h3⟩ := loopM_inv h
    exact t_X3_rank_B5 hC hr h1 hw hl (fun z3 z4 s2 e H locs ls hw hl => ih z3 z4 s2 (h2 _ e) H locs ls hw hl) (fun z3 s2 e H locs ls hw hl => by cases h3 _ e; exact kE H locs ls hw hl)
set_option maxHeartbeats 4000000 in
set_option maxRecDepth 100000 in
theorem m_X3_rank (h9 : l.stackTraces = false) {Γ : zSh} {a0 : Nat} {a1 : Int32} {a2 : Int32} {σ : zSt} {r : Int32} {σ2 : zSt} (hf : f_X3_rank Γ a0 a1 a2 σ = some (r, σ2)) : Met l yX3_rank (wq yX3_rank cX3_rank 5 (Option.some FieldType.int)) rm_X3_rank (zQ0 D cA B0 [.ref a0, .int a1, .int a2] Γ σ Z) (zQ1 D cA B0 (some (.int r)) Γ σ2 Z) 0 0 (FR B0) := by
  refine z_ofW h9 (by decide) (Nat.le_of_ble_eq_true rfl) ?_
  intro p e s m args below meth c ls hC hr _ hw hl
  have hx := hC.1
  have hb := hC.2.1
  have hl : lv_has ls 5 [(0, .ref a0), (1, .int a1), (2, .int a2)] := hl
  unfold f_X3_rank at hf
  refine lv_iconst (v := 0) hx hb dX3_rank_0 (by decide) ?_
  refine lv_istore_n (lv' := [(3, .int 0), (0, .ref a0), (1, .int a1), (2, .int a2)]) hx hb dX3_rank_1 rfl hl (Nat.le_of_ble_eq_true rfl) rfl (fun ls hl => ?_)
  refine lv_iconst (v := 0) hx hb dX3_rank_2 (by decide) ?_
  refine lv_istore (lv' := [(4, .int 0), (3, .int 0), (0, .ref a0), (1, .int a1), (2, .int a2)]) hx hb dX3_rank_3 hl (Nat.le_of_ble_eq_true rfl) rfl (fun ls hl => ?_)
  obtain ⟨w5, σ4, hk, hf⟩ := lb1_inv hf
  refine l_X3_rank_B5 hC hr (fun H locs ls hw hl => ?_) FUEL 0 0 σ hk _ _ _ hw (lv_sub hl [2, 3, 4, 1, 0] rfl)
  refine lv_iload_n hx hb dX3_rank_45 rfl (lv_at hl 0 rfl) ?_
  first | (obtain ⟨rfl, rfl⟩ := sp_inv hf) | (obtain rfl := Option.some.inj hf)
  exact W.iret hx hb hr (z_ret hw rfl) hw.2.2.2.2.2 dX3_rank_46 hC.2.2.2.2.2.1
set_option maxHeartbeats 4000000 in
set_option maxRecDepth 100000 in
theorem t_J7_fill_53178_B5 (hC : zC p l s m args meth c cJ7_fill_53178 4 RJ7 D cA B0) (hr : meth.sig.returnType = (Option.none : Option Jvm.ClassFile.FieldType)) {Γ : zSh} {x0 : Nat} {x1 : Int32} {x3 : Int32} {x2 : Int32} {σ : zSt} {out : ((Int32 × zSt) ⊕ (zSt))} (hf : f_J7_fill_53178_B5 Γ x0 x1 x3 x2 σ = some out) {H : Heap} {locs : List Loc} {ls : Array Slot} (hw : zO D cA B0 Γ σ Z s.heap H locs) (hl : lv_has ls 4 [(0, .ref x0), (1, .int x1), (2, .int x2), (3, .int x3)])
    (kI : ∀ (z2 : Int32) (σ2 : zSt), out = .inl (z2, σ2) → ∀ (H : Heap) (locs : List Loc) (ls : Array Slot), zO D cA B0 Γ σ2 Z s.heap H locs → lv_has ls 4 [(0, .ref x0), (1, .int x1), (2, .int z2), (3, .int x3)] → W p l e rm_J7_fill_53178 s m args below meth c H locs 0 0 Q (F0 m 5 ls []))
    (kE : ∀ (σ2 : zSt), out = .inr σ2 → ∀ (H : Heap) (locs : List Loc) (ls : Array Slot), zO D cA B0 Γ σ2 Z s.heap H locs → lv_has ls 4 [] → W p l e rm_J7_fill_53178 s m args below meth c H locs 0 0 Q (F0 m 20 ls [])) :
    W p l e rm_J7_fill_53178 s m args below meth c H locs 0 0 Q (F0 m 5 ls []) := by
  have hx := hC.1
  have hb := hC.2.1
  unfold f_J7_fill_53178_B5 at hf
  refine lv_iload_n hx hb dJ7_fill_53178_5 rfl (lv_at hl 2 rfl) ?_
  refine lv_iload_n hx hb dJ7_fill_53178_6 rfl (lv_at hl 3 rfl) ?_
  refine lv_icmp_ge (tgt := 20) hx hb dJ7_fill_53178_7 (by decide) (fun hc => ?_) (fun hc => ?_)
  · rw [if_pos hc] at hf
    exact kE  σ (Option.some.inj hf).symm _ _ _ hw (lv_sub hl [] rfl)
  · rw [if_neg hc] at hf
    refine lv_aload_n hx hb dJ7_fill_53178_10 rfl (lv_at hl 0 rfl) ?_
    refine lv_iload_n hx hb dJ7_fill_53178_11 rfl (lv_at hl 2 rfl) ?_
    refine lv_iload_n hx hb dJ7_fill_53178_12 rfl (lv_at hl 1 rfl) ?_
    obtain ⟨σ2, hg, hf⟩ := stI_inv hf
    refine r_stI hC hw hg dJ7_fill_53178_13 (fun H locs hw => ?_)
    refine lv_iinc (v := (x2 + 1)) (lv' := [(2, .int (x2 + 1)), (0, .ref x0), (1, .int x1), (3, .int x3)]) hx hb dJ7_fill_53178_14 hl (k := 2) rfl rfl (Nat.le_of_ble_eq_true rfl) rfl (fun ls hl => ?_)
    refine lv_goto (tgt := 5) hx hb dJ7_fill_53178_17 (by decide) ?_
    exact kI (x2 + 1) σ2 (Option.some.inj hf).symm _ _ _ hw (lv_sub hl [1, 2, 0, 3] rfl)
set_option maxHeartbeats 4000000 in
theorem l_J7_fill_53178_B5 (hC : zC p l s m args meth c cJ7_fill_53178 4 RJ7 D cA B0) (hr : meth.sig.returnType = (Option.none : Option Jvm.ClassFile.FieldType)) {Γ : zSh} {x0 : Nat} {x1 : Int32} {x3 : Int32} {σ2 : zSt} (kE : ∀ (H : Heap) (locs : List Loc) (ls : Array Slot), zO D cA B0 Γ σ2 Z s.heap H locs → lv_has ls 4 [] → W p l e rm_J7_fill_53178 s m args below meth c H locs 0 0 Q (F0 m 20 ls [])) :
    ∀ (n : Nat) (x2 : Int32) (σ : zSt), loopM (fun q => f_J7_fill_53178_B5 Γ x0 x1 x3 q.1 q.2) n (x2, σ) = some σ2 → ∀ (H : Heap) (locs : List Loc) (ls : Array Slot), zO D cA B0 Γ σ Z s.heap H locs → lv_has ls 4 [(0, .ref x0), (1, .int x1), (2, .int x2), (3, .int x3)] → W p l e rm_J7_fill_53178 s m args below meth c H locs 0 0 Q (F0 m 5 ls []) := by
  intro n
  induction n with
  | zero => intro x2 σ h; exact absurd h (by simp [loopM])
  | succ n ih =>
    intro x2 σ h H locs ls hw hl
    obtain ⟨r, h1, h2, h3⟩ := loopM_inv h
    exact t_J7_fill_53178_B5 hC hr h1 hw hl (fun z2 s2 e H locs ls hw hl => ih z2 s2 (h2 _ e) H locs ls hw hl) (fun s2 e H locs ls hw hl => by cases h3 _ e; exact kE H locs ls hw hl)
set_option maxHeartbeats 4000000 in
set_option maxRecDepth 100000 in
theorem m_J7_fill_53178 (h9 : l.stackTraces = false) {Γ : zSh} {a0 : Nat} {a1 : Int32} {σ : zSt} {r : Unit} {σ2 : zSt} (hf : f_J7_fill_53178 Γ a0 a1 σ = some (r, σ2)) : Met l yJ7_fill_53178 (wq yJ7_fill_53178 cJ7_fill_53178 4 (Option.none : Option Jvm.ClassFile.FieldType)) rm_J7_fill_53178 (zQ0 D cA B0 [.ref a0, .int a1] Γ σ Z) (zQ1 D cA B0 (none) Γ σ2 Z) 0 0 (FR B0) := by
  refine z_ofW h9 (by decide) (Nat.le_of_ble_eq_true rfl) ?_
  intro p e s m args below meth c ls hC hr _ hw hl
  have hx := hC.1
  have hb := hC.2.1
  have hl : lv_has ls 4 [(0, .ref a0), (1, .int a1)] := hl
  unfold f_J7_fill_53178 at hf
  refine lv_iconst (v := 0) hx hb dJ7_fill_53178_0 (by decide) ?_
  refine lv_istore_n (lv' := [(2, .int 0), (0, .ref a0), (1, .int a1)]) hx hb dJ7_fill_53178_1 rfl hl (Nat.le_of_ble_eq_true rfl) rfl (fun ls hl => ?_)
  refine lv_aload_n hx hb dJ7_fill_53178_2 rfl (lv_at hl 1 rfl) ?_
  obtain ⟨v1, hg, hf⟩ := alI_inv hf
  refine r_alI hC hw hg dJ7_fill_53178_3 ?_
  refine lv_istore_n (lv' := [(3, .int v1), (2, .int 0), (0, .ref a0), (1, .int a1)]) hx hb dJ7_fill_53178_4 rfl hl (Nat.le_of_ble_eq_true rfl) rfl (fun ls hl => ?_)
  obtain ⟨σ3, hk, hf⟩ := lb0_inv hf
  refine l_J7_fill_53178_B5 hC hr (fun H locs ls hw hl => ?_) FUEL 0 σ hk _ _ _ hw (lv_sub hl [2, 3, 1, 0] rfl)
  first | (obtain ⟨rfl, rfl⟩ := sp_inv hf) | (obtain rfl := Option.some.inj hf)
  exact W.vret hx hb hr (z_ret hw rfl) hw.2.2.2.2.2 dJ7_fill_53178_20 hC.2.2.2.2.2.1
set_option maxHeartbeats 4000000 in
set_option maxRecDepth 100000 in
theorem m_X4_start (h9 : l.stackTraces = false) {Γ : zSh} {a0 : Nat} {a1 : Nat} {σ : zSt} {r : Unit} {σ2 : zSt} (hf : f_X4_start Γ a0 a1 σ = some (r, σ2)) : Met l yX4_start (wq yX4_start cX4_start 2 (Option.none : Option Jvm.ClassFile.FieldType)) rm_X4_start (zQ0 D cA B0 [.ref a0, .ref a1] Γ σ Z) (zQ1 D cA B0 (none) Γ σ2 Z) 0 0 (FR B0) := by
  refine z_ofW h9 (by decide) (Nat.le_of_ble_eq_true rfl) ?_
  intro p e s m args below meth c ls hC hr _ hw hl
  have hx := hC.1
  have hb := hC.2.1
  have hl : lv_has ls 2 [(0, .ref a0), (1, .ref a1)] := hl
  unfold f_X4_start at hf
  refine lv_aload_n hx hb dX4_start_0 rfl (lv_at hl 0 rfl) ?_
  obtain ⟨v1, hg, hf⟩ := gfR_inv hf
  refine r_gfR hC hw hg clX4 (Nat.le_of_ble_eq_true rfl) lkF_X4_9 rfl dX4_start_1 ?_
  refine lv_iconst (v := 0) hx hb dX4_start_4 (by decide) ?_
  obtain ⟨_, σ2, hk, hf⟩ := bnd_inv hf
  refine z_callS (As := [.ref v1, .int 0]) (rest := []) (m_J7_fill_53178 hC.2.2.2.2.2.2.2.2 hk) hC hw wd_J7_fill_53178 lkM_X4_20 rfl ⟨rfl, rfl⟩ ⟨(Nat.le_of_ble_eq_true rfl), (Nat.le_of_ble_eq_true rfl)⟩ hl.1 rfl (Nat.le_of_ble_eq_true rfl) dX4_start_5 ⟨(Nat.le_of_ble_eq_true rfl), (Nat.le_of_ble_eq_true rfl)⟩ (fun H locs hw => ?_)
  refine lv_aload_n hx hb dX4_start_8 rfl (lv_at hl 1 rfl) ?_
  obtain ⟨v3, hg, hf⟩ := gfR_inv hf
  refine r_gfR hC hw hg clX0 (Nat.le_of_ble_eq_true rfl) lkF_X4_26 rfl dX4_start_9 ?_
  refine lv_iconst (v := 0) hx hb dX4_start_12 (by decide) ?_
  refine lv_aload_n hx hb dX4_start_13 rfl (lv_at hl 0 rfl) ?_
  obtain ⟨v4, hg, hf⟩ := gfR_inv hf
  refine r_gfR hC hw hg clX4 (Nat.le_of_ble_eq_true rfl) lkF_X4_17 rfl dX4_start_14 ?_
  refine lv_iconst (v := 0) hx hb dX4_start_17 (by decide) ?_
  obtain ⟨v5, hg, hf⟩ := ldG_inv hf
  refine r_ldG hC hw hg dX4_start_18 ?_
  refine lv_iconst (v := 0) hx hb dX4_start_19 (by decide) ?_
  refine lv_aload_n hx hb dX4_start_20 rfl (lv_at hl 1 rfl) ?_
  obtain ⟨v6, hg, hf⟩ := gfI_inv hf
  refine r_gfI hC hw hg clX0 (Nat.le_of_ble_eq_true rfl) lkF_X4_31 rfl dX4_start_21 ?_
  obtain ⟨σ7, hg, hf⟩ := cpI_inv hf
  refine r_cpI hC hw hg hl.1 lkM_X4_35 (Nat.le_of_ble_eq_true rfl) (Nat.le_of_ble_eq_true rfl) dX4_start_24 (fun H locs hw => ?_)
  first | (obtain ⟨rfl, rfl⟩ := sp_inv hf) | (obtain rfl := Option.some.inj hf)
  exact W.vret hx hb hr (z_ret hw rfl) hw.2.2.2.2.2 dX4_start_27 hC.2.2.2.2.2.1
set_option maxHeartbeats 4000000 in
set_option maxRecDepth 100000 in
theorem t_X6_lengthOf_B8 (hC : zC p l s m args meth c cX6_lengthOf 3 RX6 D cA B0) (hr : meth.sig.returnType = (Option.some FieldType.int)) {Γ : zSh} {x1 : Int32} {x2 : Int32} {σ : zSt} {out : ((Int32 × Int32 × zSt) ⊕ (Int32 × zSt))} (hf : f_X6_lengthOf_B8 Γ x1 x2 σ = some out) {H : Heap} {locs : List Loc} {ls : Array Slot} (hw : zO D cA B0 Γ σ Z s.heap H locs) (hl : lv_has ls 3 [(1, .int x1), (2, .int x2)])
    (kI : ∀ (z1 : Int32) (z2 : Int32) (σ2 : zSt), out = .inl (z1, z2, σ2) → ∀ (H : Heap) (locs : List Loc) (ls : Array Slot), zO D cA B0 Γ σ2 Z s.heap H locs → lv_has ls 3 [(1, .int z1), (2, .int z2)] → W p l e rm_X6_lengthOf s m args below meth c H locs 0 0 Q (F0 m 8 ls []))
    (kE : ∀ (z1 : Int32) (σ2 : zSt), out = .inr (z1, σ2) → ∀ (H : Heap) (locs : List Loc) (ls : Array Slot), zO D cA B0 Γ σ2 Z s.heap H locs → lv_has ls 3 [(1, .int z1)] → W p l e rm_X6_lengthOf s m args below meth c H locs 0 0 Q (F0 m 22 ls [])) :
    W p l e rm_X6_lengthOf s m args below meth c H locs 0 0 Q (F0 m 8 ls []) := by
  have hx := hC.1
  have hb := hC.2.1
  unfold f_X6_lengthOf_B8 at hf
  refine lv_iload_n hx hb dX6_lengthOf_8 rfl (lv_at hl 1 rfl) ?_
  refine lv_if_le (tgt := 22) hx hb dX6_lengthOf_9 (by decide) (fun hc => ?_) (fun hc => ?_)
  · rw [if_pos hc] at hf
    exact kE x1 σ (Option.some.inj hf).symm _ _ _ hw (lv_sub hl [0] rfl)
  · rw [if_neg hc] at hf
    refine lv_iinc (v := (x1 + 1)) (lv' := [(1, .int (x1 + 1)), (2, .int x2)]) hx hb dX6_lengthOf_12 hl (k := 0) rfl rfl (Nat.le_of_ble_eq_true rfl) rfl (fun ls hl => ?_)
    refine lv_iload_n hx hb dX6_lengthOf_15 rfl (lv_at hl 1 rfl) ?_
    refine lv_iconst (v := 1) hx hb dX6_lengthOf_16 (by decide) ?_
    refine lv_ishr hx hb dX6_lengthOf_17 ?_
    refine lv_istore_n (lv' := [(2, .int (x2 >>> (1 &&& 31))), (1, .int (x1 + 1))]) hx hb dX6_lengthOf_18 rfl hl (Nat.le_of_ble_eq_true rfl) rfl (fun ls hl => ?_)
    refine lv_goto (tgt := 8) hx hb dX6_lengthOf_19 (by decide) ?_
    exact kI (x1 + 1) (x2 >>> (1 &&& 31)) σ (Option.some.inj hf).symm _ _ _ hw (lv_sub hl [1, 0] rfl)
set_option maxHeartbeats 4000000 in
theorem l_X6_lengthOf_B8 (hC : zC p l s m args meth c cX6_lengthOf 3 RX6 D cA B0) (hr : meth.sig.returnType = (Option.some FieldType.int)) {Γ : zSh} {w1 : Int32} {σ2 : zSt} (kE : ∀ (H : Heap) (locs : List Loc) (ls : Array Slot), zO D cA B0 Γ σ2 Z s.heap H locs → lv_has ls 3 [(1, .int w1)] → W p l e rm_X6_lengthOf s m args below meth c H locs 0 0 Q (F0 m 22 ls [])) :
    ∀ (n : Nat) (x1 : Int32) (x2 : Int32) (σ : zSt), loopM (fun q => f_X6_lengthOf_B8 Γ q.1 q.2.1 q.2.2) n (x1, x2, σ) = some (w1, σ2) → ∀ (H : Heap) (locs : List Loc) (ls : Array Slot), zO D cA B0 Γ σ Z s.heap H locs → lv_has ls 3 [(1, .int x1), (2, .int x2)] → W p l e rm_X6_lengthOf s m args below meth c H locs 0 0 Q (F0 m 8 ls []) := by
  intro n
  induction n with
  | zero => intro x1 x2 σ h; exact absurd h (by simp [loopM])
  | succ n ih =>
    intro x1 x2 σ h H locs ls hw hl
    obtain ⟨r, h1, h2, h3⟩ := loopM_inv h
    exact t_X6_lengthOf_B8 hC hr h1 hw hl (fun z1 z2 s2 e H locs ls hw hl => ih z1 z2 s2 (h2 _ e) H locs ls hw hl) (fun z1 s2 e H locs ls hw hl => by cases h3 _ e; exact kE H locs ls hw hl)
set_option maxHeartbeats 4000000 in
set_option maxRecDepth 100000 in
theorem m_X6_lengthOf (h9 : l.stackTraces = false) {Γ : zSh} {a0 : Int32} {σ : zSt} {r : Int32} {σ2 : zSt} (hf : f_X6_lengthOf Γ a0 σ = some (r, σ2)) : Met l yX6_lengthOf (wq yX6_lengthOf cX6_lengthOf 3 (Option.some FieldType.int)) rm_X6_lengthOf (zQ0 D cA B0 [.int a0] Γ σ Z) (zQ1 D cA B0 (some (.int r)) Γ σ2 Z) 0 0 (FR B0) := by
  refine z_ofW h9 (by decide) (Nat.le_of_ble_eq_true rfl) ?_
  intro p e s m args below meth c ls hC hr _ hw hl
  have hx := hC.1
  have hb := hC.2.1
  have hl : lv_has ls 3 [(0, .int a0)] := hl
  unfold f_X6_lengthOf at hf
  refine lv_iconst (v := 0) hx hb dX6_lengthOf_0 (by decide) ?_
  refine lv_istore_n (lv' := [(1, .int 0), (0, .int a0)]) hx hb dX6_lengthOf_1 rfl hl (Nat.le_of_ble_eq_true rfl) rfl (fun ls hl => ?_)
  refine lv_iload_n hx hb dX6_lengthOf_2 rfl (lv_at hl 1 rfl) ?_
  refine lv_iconst (v := 1) hx hb dX6_lengthOf_3 (by decide) ?_
  refine lv_iadd hx hb dX6_lengthOf_4 ?_
  refine lv_iconst (v := 1) hx hb dX6_lengthOf_5 (by decide) ?_
  refine lv_ishr hx hb dX6_lengthOf_6 ?_
  refine lv_istore_n (lv' := [(2, .int ((a0 + 1) >>> (1 &&& 31))), (1, .int 0), (0, .int a0)]) hx hb dX6_lengthOf_7 rfl hl (Nat.le_of_ble_eq_true rfl) rfl (fun ls hl => ?_)
  obtain ⟨w2, σ1, hk, hf⟩ := lb1_inv hf
  refine l_X6_lengthOf_B8 hC hr (fun H locs ls hw hl => ?_) FUEL 0 ((a0 + 1) >>> (1 &&& 31)) σ hk _ _ _ hw (lv_sub hl [1, 0] rfl)
  refine lv_iload_n hx hb dX6_lengthOf_22 rfl (lv_at hl 0 rfl) ?_
  first | (obtain ⟨rfl, rfl⟩ := sp_inv hf) | (obtain rfl := Option.some.inj hf)
  exact W.iret hx hb hr (z_ret hw rfl) hw.2.2.2.2.2 dX6_lengthOf_23 hC.2.2.2.2.2.1
set_option maxHeartbeats 4000000 in
set_option maxRecDepth 100000 in
theorem t_X4_weigh_B13_L74 (hC : zC p l s m args meth c cX4_weigh 6 RX4 D cA B0) (hr : meth.sig.returnType = (Option.some FieldType.int)) {Γ : zSh} {x0 : Nat} {x1 : Nat} {x2 : Int32} {x3 : Int32} {x4 : Int32}  {σ : zSt} {out : ((Int32 × zSt) ⊕ (zSt))} (hf : f_X4_weigh_B13_L74 Γ x0 x1 x2 x3 x4 σ = some out) {H : Heap} {locs : List Loc} {ls : Array Slot} (hw : zO D cA B0 Γ σ Z s.heap H locs) (hl : lv_has ls 6 [(0, .ref x0), (1, .ref x1), (2, .int x2), (3, .int x3), (4, .int x4)])
    (kI : ∀ (z4 : Int32) (σ2 : zSt), out = .inl (z4, σ2) → ∀ (H : Heap) (locs : List Loc) (ls : Array Slot), zO D cA B0 Γ σ2 Z s.heap H locs → lv_has ls 6 [(0, .ref x0), (1, .ref x1), (2, .int x2), (3, .int x3), (4, .int z4)] → W p l e rm_X4_weigh s m args below meth c H locs 0 0 Q (F0 m 13 ls []))
    (kE : ∀ (σ2 : zSt), out = .inr σ2 → ∀ (H : Heap) (locs : List Loc) (ls : Array Slot), zO D cA B0 Γ σ2 Z s.heap H locs → lv_has ls 6 [(0, .ref x0), (1, .ref x1), (3, .int x3)] → W p l e rm_X4_weigh s m args below meth c H locs 0 0 Q (F0 m 80 ls [])) :
    W p l e rm_X4_weigh s m args below meth c H locs 0 0 Q (F0 m 74 ls []) := by
  have hx := hC.1
  have hb := hC.2.1
  unfold f_X4_weigh_B13_L74 at hf
  refine lv_iinc (v := (x4 + 1)) (lv' := [(4, .int (x4 + 1)), (0, .ref x0), (1, .ref x1), (2, .int x2), (3, .int x3)]) hx hb dX4_weigh_74 hl (k := 4) rfl rfl (Nat.le_of_ble_eq_true rfl) rfl (fun ls hl => ?_)
  refine lv_goto (tgt := 13) hx hb dX4_weigh_77 (by decide) ?_
  exact kI (x4 + 1) σ (Option.some.inj hf).symm _ _ _ hw (lv_sub hl [1, 2, 3, 4, 0] rfl)
set_option maxHeartbeats 4000000 in
set_option maxRecDepth 100000 in
theorem t_X4_weigh_B13 (hC : zC p l s m args meth c cX4_weigh 6 RX4 D cA B0) (hr : meth.sig.returnType = (Option.some FieldType.int)) {Γ : zSh} {x0 : Nat} {x1 : Nat} {x2 : Int32} {x3 : Int32} {x4 : Int32} {σ : zSt} {out : ((Int32 × zSt) ⊕ (zSt))} (hf : f_X4_weigh_B13 Γ x0 x1 x2 x3 x4 σ = some out) {H : Heap} {locs : List Loc} {ls : Array Slot} (hw : zO D cA B0 Γ σ Z s.heap H locs) (hl : lv_has ls 6 [(0, .ref x0), (1, .ref x1), (2, .int x2), (3, .int x3), (4, .int x4)])
    (kI : ∀ (z4 : Int32) (σ2 : zSt), out = .inl (z4, σ2) → ∀ (H : Heap) (locs : List Loc) (ls : Array Slot), zO D cA B0 Γ σ2 Z s.heap H locs → lv_has ls 6 [(0, .ref x0), (1, .ref x1), (2, .int x2), (3, .int x3), (4, .int z4)] → W p l e rm_X4_weigh s m args below meth c H locs 0 0 Q (F0 m 13 ls []))
    (kE : ∀ (σ2 : zSt), out = .inr σ2 → ∀ (H : Heap) (locs : List Loc) (ls : Array Slot), zO D cA B0 Γ σ2 Z s.heap H locs → lv_has ls 6 [(0, .ref x0), (1, .ref x1), (3, .int x3)] → W p l e rm_X4_weigh s m args below meth c H locs 0 0 Q (F0 m 80 ls [])) :
    W p l e rm_X4_weigh s m args below meth c H locs 0 0 Q (F0 m 13 ls []) := by
  have hx := hC.1
  have hb := hC.2.1
  unfold f_X4_weigh_B13 at hf
  refine lv_iload hx hb dX4_weigh_13 (lv_at hl 4 rfl) ?_
  refine lv_iload_n hx hb dX4_weigh_15 rfl (lv_at hl 3 rfl) ?_
  refine lv_icmp_gt (tgt := 80) hx hb dX4_weigh_16 (by decide) (fun hc => ?_) (fun hc => ?_)
  · rw [if_pos hc] at hf
    exact kE  σ (Option.some.inj hf).symm _ _ _ hw (lv_sub hl [0, 1, 3] rfl)
  · rw [if_neg hc] at hf
    refine lv_iload_n hx hb dX4_weigh_19 rfl (lv_at hl 2 rfl) ?_
    refine lv_iconst (v := 1) hx hb dX4_weigh_20 (by decide) ?_
    refine lv_iadd hx hb dX4_weigh_21 ?_
    refine lv_iload_n hx hb dX4_weigh_22 rfl (lv_at hl 3 rfl) ?_
    refine lv_iload hx hb dX4_weigh_23 (lv_at hl 4 rfl) ?_
    refine lv_isub hx hb dX4_weigh_25 ?_
    refine lv_ishr hx hb dX4_weigh_26 ?_
    refine lv_istore (lv' := [(5, .int ((x2 + 1) >>> ((x3 - x4) &&& 31))), (0, .ref x0), (1, .ref x1), (2, .int x2), (3, .int x3), (4, .int x4)]) hx hb dX4_weigh_27 hl (Nat.le_of_ble_eq_true rfl) rfl (fun ls hl => ?_)
    refine lv_aload_n hx hb dX4_weigh_29 rfl (lv_at hl 1 rfl) ?_
    obtain ⟨v3, hg, hf⟩ := gfR_inv hf
    refine r_gfR hC hw hg clX4 (Nat.le_of_ble_eq_true rfl) lkF_X4_9 rfl dX4_weigh_30 ?_
    refine lv_iload hx hb dX4_weigh_33 (lv_at hl 5 rfl) ?_
    obtain ⟨v4, hg, hf⟩ := ldI_inv hf
    refine r_ldI hC hw hg dX4_weigh_35 ?_
    refine lv_iload hx hb dX4_weigh_36 (lv_at hl 0 rfl) ?_
    refine lv_icmp_eq (tgt := 74) hx hb dX4_weigh_38 (by decide) (fun hc => ?_) (fun hc => ?_)
    · rw [if_pos hc] at hf
      exact t_X4_weigh_B13_L74 hC hr hf hw (lv_sub hl [1, 2, 3, 4, 5] rfl) kI kE
    · rw [if_neg hc] at hf
      refine lv_aload_n hx hb dX4_weigh_41 rfl (lv_at hl 2 rfl) ?_
      refine lv_aload_n hx hb dX4_weigh_42 rfl (lv_at hl 1 rfl) ?_
      obtain ⟨v5, hg, hf⟩ := gfR_inv hf
      refine r_gfR hC hw hg clX4 (Nat.le_of_ble_eq_true rfl) lkF_X4_17 rfl dX4_weigh_43 ?_
      refine lv_iload hx hb dX4_weigh_46 (lv_at hl 5 rfl) ?_
      refine lv_iconst (v := 1) hx hb dX4_weigh_48 (by decide) ?_
      refine lv_isub hx hb dX4_weigh_49 ?_
      obtain ⟨v6, hg, hf⟩ := ldG_inv hf
      refine r_ldG hC hw hg dX4_weigh_50 ?_
      refine lv_iload hx hb dX4_weigh_51 (lv_at hl 0 rfl) ?_
      refine lv_iconst (v := 1) hx hb dX4_weigh_53 (by decide) ?_
      refine lv_iand hx hb dX4_weigh_54 ?_
      refine lv_aload_n hx hb dX4_weigh_55 rfl (lv_at hl 1 rfl) ?_
      obtain ⟨v7, hg, hf⟩ := gfR_inv hf
      refine r_gfR hC hw hg clX4 (Nat.le_of_ble_eq_true rfl) lkF_X4_17 rfl dX4_weigh_56 ?_
      refine lv_iload hx hb dX4_weigh_59 (lv_at hl 5 rfl) ?_
      obtain ⟨v8, hg, hf⟩ := ldG_inv hf
      refine r_ldG hC hw hg dX4_weigh_61 ?_
      obtain ⟨ho, hf⟩ := chk_inv hf
      obtain ⟨_, σ9, hk, hf⟩ := bnd_inv hf
      refine z_callV (As := [.ref v6, .int (((x2 + 1) >>> ((x3 - x4) &&& 31)) &&& 1), .ref v8]) (rest := []) (m_X0_takeStep hC.2.2.2.2.2.2.2.2 hk) hC hw wd_X0_takeStep lkM_X4_51 (isO_sh ho) rfl rfl ⟨rfl, rfl⟩ ⟨(Nat.le_of_ble_eq_true rfl), (Nat.le_of_ble_eq_true rfl)⟩ hl.1 rfl (Nat.le_of_ble_eq_true rfl) dX4_weigh_62 ⟨(Nat.le_of_ble_eq_true rfl), (Nat.le_of_ble_eq_true rfl)⟩ (fun H locs hw => ?_)
      refine lv_aload_n hx hb dX4_weigh_65 rfl (lv_at hl 1 rfl) ?_
      obtain ⟨v10, hg, hf⟩ := gfR_inv hf
      refine r_gfR hC hw hg clX4 (Nat.le_of_ble_eq_true rfl) lkF_X4_9 rfl dX4_weigh_66 ?_
      refine lv_iload hx hb dX4_weigh_69 (lv_at hl 5 rfl) ?_
      refine lv_iload hx hb dX4_weigh_71 (lv_at hl 0 rfl) ?_
      obtain ⟨σ11, hg, hf⟩ := stI_inv hf
      refine r_stI hC hw hg dX4_weigh_73 (fun H locs hw => ?_)
      exact t_X4_weigh_B13_L74 hC hr hf hw (lv_sub hl [1, 2, 3, 4, 5] rfl) kI kE
set_option maxHeartbeats 4000000 in
theorem l_X4_weigh_B13 (hC : zC p l s m args meth c cX4_weigh 6 RX4 D cA B0) (hr : meth.sig.returnType = (Option.some FieldType.int)) {Γ : zSh} {x0 : Nat} {x1 : Nat} {x2 : Int32} {x3 : Int32} {σ2 : zSt} (kE : ∀ (H : Heap) (locs : List Loc) (ls : Array Slot), zO D cA B0 Γ σ2 Z s.heap H locs → lv_has ls 6 [(0, .ref x0), (1, .ref x1), (3, .int x3)] → W p l e rm_X4_weigh s m args below meth c H locs 0 0 Q (F0 m 80 ls [])) :
    ∀ (n : Nat) (x4 : Int32) (σ : zSt), loopM (fun q => f_X4_weigh_B13 Γ x0 x1 x2 x3 q.1 q.2) n (x4, σ) = some σ2 → ∀ (H : Heap) (locs : List Loc) (ls : Array Slot), zO D cA B0 Γ σ Z s.heap H locs → lv_has ls 6 [(0, .ref x0), (1, .ref x1), (2, .int x2), (3, .int x3), (4, .int x4)] → W p l e rm_X4_weigh s m args below meth c H locs 0 0 Q (F0 m 13 ls []) := by
  intro n
  induction n with
  | zero => intro x4 σ h; exact absurd h (by simp [loopM])
  | succ n ih =>
    intro x4 σ h H locs ls hw hl
    obtain ⟨r, h1, h2, h3⟩ := loopM_inv h
    exact t_X4_weigh_B13 hC hr h1 hw hl (fun z4 s2 e H locs ls hw hl => ih z4 s2 (h2 _ e) H locs ls hw hl) (fun s2 e H locs ls hw hl => by cases h3 _ e; exact kE H locs ls hw hl)
set_option maxHeartbeats 4000000 in
set_option maxRecDepth 100000 in
theorem m_X4_weigh (h9 : l.stackTraces = false) {Γ : zSh} {a0 : Nat} {a1 : Nat} {a2 : Int32} {σ : zSt} {r : Int32} {σ2 : zSt} (hf : f_X4_weigh Γ a0 a1 a2 σ = some (r, σ2)) : Met l yX4_weigh (wq yX4_weigh cX4_weigh 6 (Option.some FieldType.int)) rm_X4_weigh (zQ0 D cA B0 [.ref a0, .ref a1, .int a2] Γ σ Z) (zQ1 D cA B0 (some (.int r)) Γ σ2 Z) 0 0 (FR B0) := by
  refine z_ofW h9 (by decide) (Nat.le_of_ble_eq_true rfl) ?_
  intro p e s m args below meth c ls hC hr _ hw hl
  have hx := hC.1
  have hb := hC.2.1
  have hl : lv_has ls 6 [(0, .ref a0), (1, .ref a1), (2, .int a2)] := hl
  unfold f_X4_weigh at hf
  refine lv_iload_n hx hb dX4_weigh_0 rfl (lv_at hl 2 rfl) ?_
  obtain ⟨r2, σ1, hk, hf⟩ := bnd_inv hf
  refine z_callSN (As := [.int a2]) (rest := []) (m_X6_lengthOf hC.2.2.2.2.2.2.2.2 hk) hC hw wd_X6_lengthOf lkN_X4_41 rfl ⟨rfl, rfl⟩ ⟨(Nat.le_of_ble_eq_true rfl), (Nat.le_of_ble_eq_true rfl)⟩ hl.1 rfl (Nat.le_of_ble_eq_true rfl) dX4_weigh_1 ⟨(Nat.le_of_ble_eq_true rfl), (Nat.le_of_ble_eq_true rfl)⟩ (fun H locs hw => ?_)
  refine lv_bipush (v := 11) hx hb dX4_weigh_4 (by decide) ?_
  refine r_min hC hl.1 lkM_X4_45 (Nat.le_of_ble_eq_true rfl) (Nat.le_of_ble_eq_true rfl) (Nat.le_of_ble_eq_true rfl) (Nat.le_of_ble_eq_true rfl) dX4_weigh_6 ?_
  refine lv_istore_n (lv' := [(3, .int (if 11 < r2 then 11 else r2)), (0, .ref a0), (1, .ref a1), (2, .int a2)]) hx hb dX4_weigh_9 rfl hl (Nat.le_of_ble_eq_true rfl) rfl (fun ls hl => ?_)
  refine lv_iconst (v := 1) hx hb dX4_weigh_10 (by decide) ?_
  refine lv_istore (lv' := [(4, .int 1), (3, .int (if 11 < r2 then 11 else r2)), (0, .ref a0), (1, .ref a1), (2, .int a2)]) hx hb dX4_weigh_11 hl (Nat.le_of_ble_eq_true rfl) rfl (fun ls hl => ?_)
  obtain ⟨σ12, hk, hf⟩ := lb0_inv hf
  refine l_X4_weigh_B13 hC hr (fun H locs ls hw hl => ?_) FUEL 1 σ1 hk _ _ _ hw (lv_sub hl [2, 3, 4, 1, 0] rfl)
  refine lv_aload_n hx hb dX4_weigh_80 rfl (lv_at hl 1 rfl) ?_
  refine lv_aload_n hx hb dX4_weigh_81 rfl (lv_at hl 0 rfl) ?_
  obtain ⟨v13, hg, hf⟩ := gfR_inv hf
  refine r_gfR hC hw hg clX4 (Nat.le_of_ble_eq_true rfl) lkF_X4_17 rfl dX4_weigh_82 ?_
  refine lv_iload_n hx hb dX4_weigh_85 rfl (lv_at hl 2 rfl) ?_
  obtain ⟨v14, hg, hf⟩ := ldG_inv hf
  refine r_ldG hC hw hg dX4_weigh_86 ?_
  obtain ⟨ho, hf⟩ := chk_inv hf
  obtain ⟨r16, σ15, hk, hf⟩ := bnd_inv hf
  refine z_callV (As := [.ref v14]) (rest := []) (m_X0_weightFrom hC.2.2.2.2.2.2.2.2 hk) hC hw wd_X0_weightFrom lkM_X4_55 (isO_sh ho) rfl rfl ⟨rfl, rfl⟩ ⟨(Nat.le_of_ble_eq_true rfl), (Nat.le_of_ble_eq_true rfl)⟩ hl.1 rfl (Nat.le_of_ble_eq_true rfl) dX4_weigh_87 ⟨(Nat.le_of_ble_eq_true rfl), (Nat.le_of_ble_eq_true rfl)⟩ (fun H locs hw => ?_)
  first | (obtain ⟨rfl, rfl⟩ := sp_inv hf) | (obtain rfl := Option.some.inj hf)
  exact W.iret hx hb hr (z_ret hw rfl) hw.2.2.2.2.2 dX4_weigh_90 hC.2.2.2.2.2.1
set_option maxHeartbeats 4000000 in
set_option maxRecDepth 100000 in
theorem m_X5_start (h9 : l.stackTraces = false) {Γ : zSh} {a0 : Nat} {a1 : Nat} {σ : zSt} {r : Unit} {σ2 : zSt} (hf : f_X5_start Γ a0 a1 σ = some (r, σ2)) : Met l yX5_start (wq yX5_start cX5_start 2 (Option.none : Option Jvm.ClassFile.FieldType)) rm_X5_start (zQ0 D cA B0 [.ref a0, .ref a1] Γ σ Z) (zQ1 D cA B0 (none) Γ σ2 Z) 0 0 (FR B0) := by
  refine z_ofW h9 (by decide) (Nat.le_of_ble_eq_true rfl) ?_
  intro p e s m args below meth c ls hC hr _ hw hl
  have hx := hC.1
  have hb := hC.2.1
  have hl : lv_has ls 2 [(0, .ref a0), (1, .ref a1)] := hl
  unfold f_X5_start at hf
  refine lv_aload_n hx hb dX5_start_0 rfl (lv_at hl 1 rfl) ?_
  obtain ⟨v1, hg, hf⟩ := gfR_inv hf
  refine r_gfR hC hw hg clX0 (Nat.le_of_ble_eq_true rfl) lkF_X5_18 rfl dX5_start_1 ?_
  refine lv_iconst (v := 0) hx hb dX5_start_4 (by decide) ?_
  refine lv_aload_n hx hb dX5_start_5 rfl (lv_at hl 0 rfl) ?_
  obtain ⟨v2, hg, hf⟩ := gfR_inv hf
  refine r_gfR hC hw hg clX5 (Nat.le_of_ble_eq_true rfl) lkF_X5_9 rfl dX5_start_6 ?_
  refine lv_iconst (v := 0) hx hb dX5_start_9 (by decide) ?_
  refine lv_aload_n hx hb dX5_start_10 rfl (lv_at hl 1 rfl) ?_
  obtain ⟨v3, hg, hf⟩ := gfI_inv hf
  refine r_gfI hC hw hg clX0 (Nat.le_of_ble_eq_true rfl) lkF_X5_23 rfl dX5_start_11 ?_
  obtain ⟨σ4, hg, hf⟩ := cpI_inv hf
  refine r_cpI hC hw hg hl.1 lkM_X5_27 (Nat.le_of_ble_eq_true rfl) (Nat.le_of_ble_eq_true rfl) dX5_start_14 (fun H locs hw => ?_)
  first | (obtain ⟨rfl, rfl⟩ := sp_inv hf) | (obtain rfl := Option.some.inj hf)
  exact W.vret hx hb hr (z_ret hw rfl) hw.2.2.2.2.2 dX5_start_17 hC.2.2.2.2.2.1
set_option maxHeartbeats 4000000 in
set_option maxRecDepth 100000 in
theorem m_X5_swap (h9 : l.stackTraces = false) {Γ : zSh} {a0 : Nat} {σ : zSt} {r : Unit} {σ2 : zSt} (hf : f_X5_swap Γ a0 σ = some (r, σ2)) : Met l yX5_swap (wq yX5_swap cX5_swap 2 (Option.none : Option Jvm.ClassFile.FieldType)) rm_X5_swap (zQ0 D cA B0 [.ref a0] Γ σ Z) (zQ1 D cA B0 (none) Γ σ2 Z) 0 0 (FR B0) := by
  refine z_ofW h9 (by decide) (Nat.le_of_ble_eq_true rfl) ?_
  intro p e s m args below meth c ls hC hr _ hw hl
  have hx := hC.1
  have hb := hC.2.1
  have hl : lv_has ls 2 [(0, .ref a0)] := hl
  unfold f_X5_swap at hf
  refine lv_aload_n hx hb dX5_swap_0 rfl (lv_at hl 0 rfl) ?_
  obtain ⟨v1, hg, hf⟩ := gfR_inv hf
  refine r_gfR hC hw hg clX5 (Nat.le_of_ble_eq_true rfl) lkF_X5_9 rfl dX5_swap_1 ?_
  refine lv_astore_n (lv' := [(1, .ref v1), (0, .ref a0)]) hx hb dX5_swap_4 rfl hl (Nat.le_of_ble_eq_true rfl) rfl (fun ls hl => ?_)
  refine lv_aload_n hx hb dX5_swap_5 rfl (lv_at hl 1 rfl) ?_
  refine lv_aload_n hx hb dX5_swap_6 rfl (lv_at hl 1 rfl) ?_
  obtain ⟨v2, hg, hf⟩ := gfR_inv hf
  refine r_gfR hC hw hg clX5 (Nat.le_of_ble_eq_true rfl) lkF_X5_15 rfl dX5_swap_7 ?_
  obtain ⟨σ3, hg, hf⟩ := pfR_inv hf
  refine r_pfR hC hw hg clX5 (Nat.le_of_ble_eq_true rfl) lkF_X5_9 rfl rfl rfl dX5_swap_10 (fun H locs hw => ?_)
  refine lv_aload_n hx hb dX5_swap_13 rfl (lv_at hl 1 rfl) ?_
  refine lv_aload_n hx hb dX5_swap_14 rfl (lv_at hl 0 rfl) ?_
  obtain ⟨σ4, hg, hf⟩ := pfR_inv hf
  refine r_pfR hC hw hg clX5 (Nat.le_of_ble_eq_true rfl) lkF_X5_15 rfl rfl rfl dX5_swap_15 (fun H locs hw => ?_)
  first | (obtain ⟨rfl, rfl⟩ := sp_inv hf) | (obtain rfl := Option.some.inj hf)
  exact W.vret hx hb hr (z_ret hw rfl) hw.2.2.2.2.2 dX5_swap_18 hC.2.2.2.2.2.1
set_option maxHeartbeats 4000000 in
set_option maxRecDepth 100000 in
theorem t_X5_takeWord_B8_L44 (hC : zC p l s m args meth c cX5_takeWord 5 RX5 D cA B0) (hr : meth.sig.returnType = (Option.none : Option Jvm.ClassFile.FieldType)) {Γ : zSh} {x0 : Nat} {x1 : Nat} {x3 : Int32} {x4 : Int32}  {σ : zSt} {out : ((Int32 × zSt) ⊕ (zSt))} (hf : f_X5_takeWord_B8_L44 Γ x0 x1 x3 x4 σ = some out) {H : Heap} {locs : List Loc} {ls : Array Slot} (hw : zO D cA B0 Γ σ Z s.heap H locs) (hl : lv_has ls 5 [(0, .ref x0), (1, .ref x1), (3, .int x3), (4, .int x4)])
    (kI : ∀ (z4 : Int32) (σ2 : zSt), out = .inl (z4, σ2) → ∀ (H : Heap) (locs : List Loc) (ls : Array Slot), zO D cA B0 Γ σ2 Z s.heap H locs → lv_has ls 5 [(0, .ref x0), (1, .ref x1), (3, .int x3), (4, .int z4)] → W p l e rm_X5_takeWord s m args below meth c H locs 0 0 Q (F0 m 8 ls []))
    (kE : ∀ (σ2 : zSt), out = .inr σ2 → ∀ (H : Heap) (locs : List Loc) (ls : Array Slot), zO D cA B0 Γ σ2 Z s.heap H locs → lv_has ls 5 [] → W p l e rm_X5_takeWord s m args below meth c H locs 0 0 Q (F0 m 50 ls [])) :
    W p l e rm_X5_takeWord s m args below meth c H locs 0 0 Q (F0 m 44 ls []) := by
  have hx := hC.1
  have hb := hC.2.1
  unfold f_X5_takeWord_B8_L44 at hf
  refine lv_iinc (v := (x4 + (-1))) (lv' := [(4, .int (x4 + (-1))), (0, .ref x0), (1, .ref x1), (3, .int x3)]) hx hb dX5_takeWord_44 hl (k := 3) rfl rfl (Nat.le_of_ble_eq_true rfl) rfl (fun ls hl => ?_)
  refine lv_goto (tgt := 8) hx hb dX5_takeWord_47 (by decide) ?_
  exact kI (x4 + (-1)) σ (Option.some.inj hf).symm _ _ _ hw (lv_sub hl [1, 2, 3, 0] rfl)
set_option maxHeartbeats 4000000 in
set_option maxRecDepth 100000 in
theorem t_X5_takeWord_B8 (hC : zC p l s m args meth c cX5_takeWord 5 RX5 D cA B0) (hr : meth.sig.returnType = (Option.none : Option Jvm.ClassFile.FieldType)) {Γ : zSh} {x0 : Nat} {x1 : Nat} {x3 : Int32} {x4 : Int32} {σ : zSt} {out : ((Int32 × zSt) ⊕ (zSt))} (hf : f_X5_takeWord_B8 Γ x0 x1 x3 x4 σ = some out) {H : Heap} {locs : List Loc} {ls : Array Slot} (hw : zO D cA B0 Γ σ Z s.heap H locs) (hl : lv_has ls 5 [(0, .ref x0), (1, .ref x1), (3, .int x3), (4, .int x4)])
    (kI : ∀ (z4 : Int32) (σ2 : zSt), out = .inl (z4, σ2) → ∀ (H : Heap) (locs : List Loc) (ls : Array Slot), zO D cA B0 Γ σ2 Z s.heap H locs → lv_has ls 5 [(0, .ref x0), (1, .ref x1), (3, .int x3), (4, .int z4)] → W p l e rm_X5_takeWord s m args below meth c H locs 0 0 Q (F0 m 8 ls []))
    (kE : ∀ (σ2 : zSt), out = .inr σ2 → ∀ (H : Heap) (locs : List Loc) (ls : Array Slot), zO D cA B0 Γ σ2 Z s.heap H locs → lv_has ls 5 [] → W p l e rm_X5_takeWord s m args below meth c H locs 0 0 Q (F0 m 50 ls [])) :
    W p l e rm_X5_takeWord s m args below meth c H locs 0 0 Q (F0 m 8 ls []) := by
  have hx := hC.1
  have hb := hC.2.1
  unfold f_X5_takeWord_B8 at hf
  refine lv_iload hx hb dX5_takeWord_8 (lv_at hl 3 rfl) ?_
  refine lv_if_lt (tgt := 50) hx hb dX5_takeWord_10 (by decide) (fun hc => ?_) (fun hc => ?_)
  · rw [if_pos hc] at hf
    exact kE  σ (Option.some.inj hf).symm _ _ _ hw (lv_sub hl [] rfl)
  · rw [if_neg hc] at hf
    refine lv_iload_n hx hb dX5_takeWord_13 rfl (lv_at hl 2 rfl) ?_
    refine lv_iload hx hb dX5_takeWord_14 (lv_at hl 3 rfl) ?_
    refine lv_iconst (v := 1) hx hb dX5_takeWord_16 (by decide) ?_
    refine lv_iadd hx hb dX5_takeWord_17 ?_
    refine lv_ishr hx hb dX5_takeWord_18 ?_
    refine lv_if_eq (tgt := 44) hx hb dX5_takeWord_19 (by decide) (fun hc => ?_) (fun hc => ?_)
    · rw [if_pos hc] at hf
      exact t_X5_takeWord_B8_L44 hC hr hf hw (lv_sub hl [0, 1, 2, 3] rfl) kI kE
    · rw [if_neg hc] at hf
      refine lv_aload_n hx hb dX5_takeWord_22 rfl (lv_at hl 1 rfl) ?_
      refine lv_aload_n hx hb dX5_takeWord_23 rfl (lv_at hl 0 rfl) ?_
      obtain ⟨v1, hg, hf⟩ := gfR_inv hf
      refine r_gfR hC hw hg clX5 (Nat.le_of_ble_eq_true rfl) lkF_X5_9 rfl dX5_takeWord_24 ?_
      refine lv_iload_n hx hb dX5_takeWord_27 rfl (lv_at hl 2 rfl) ?_
      refine lv_iload hx hb dX5_takeWord_28 (lv_at hl 3 rfl) ?_
      refine lv_ishr hx hb dX5_takeWord_30 ?_
      refine lv_iconst (v := 1) hx hb dX5_takeWord_31 (by decide) ?_
      refine lv_iand hx hb dX5_takeWord_32 ?_
      refine lv_aload_n hx hb dX5_takeWord_33 rfl (lv_at hl 0 rfl) ?_
      obtain ⟨v2, hg, hf⟩ := gfR_inv hf
      refine r_gfR hC hw hg clX5 (Nat.le_of_ble_eq_true rfl) lkF_X5_15 rfl dX5_takeWord_34 ?_
      obtain ⟨ho, hf⟩ := chk_inv hf
      obtain ⟨_, σ3, hk, hf⟩ := bnd_inv hf
      refine z_callV (As := [.ref v1, .int ((x3 >>> (x4 &&& 31)) &&& 1), .ref v2]) (rest := []) (m_X0_takeStep hC.2.2.2.2.2.2.2.2 hk) hC hw wd_X0_takeStep lkM_X5_33 (isO_sh ho) rfl rfl ⟨rfl, rfl⟩ ⟨(Nat.le_of_ble_eq_true rfl), (Nat.le_of_ble_eq_true rfl)⟩ hl.1 rfl (Nat.le_of_ble_eq_true rfl) dX5_takeWord_37 ⟨(Nat.le_of_ble_eq_true rfl), (Nat.le_of_ble_eq_true rfl)⟩ (fun H locs hw => ?_)
      refine lv_aload_n hx hb dX5_takeWord_40 rfl (lv_at hl 0 rfl) ?_
      obtain ⟨ho, hf⟩ := chk_inv hf
      obtain ⟨_, σ4, hk, hf⟩ := bnd_inv hf
      refine z_callV (As := []) (rest := []) (m_X5_swap hC.2.2.2.2.2.2.2.2 hk) hC hw wd_X5_swap lkM_X5_37 (isO_sh ho) rfl rfl ⟨rfl, rfl⟩ ⟨(Nat.le_of_ble_eq_true rfl), (Nat.le_of_ble_eq_true rfl)⟩ hl.1 rfl (Nat.le_of_ble_eq_true rfl) dX5_takeWord_41 ⟨(Nat.le_of_ble_eq_true rfl), (Nat.le_of_ble_eq_true rfl)⟩ (fun H locs hw => ?_)
      exact t_X5_takeWord_B8_L44 hC hr hf hw (lv_sub hl [0, 1, 2, 3] rfl) kI kE
set_option maxHeartbeats 4000000 in
theorem l_X5_takeWord_B8 (hC : zC p l s m args meth c cX5_takeWord 5 RX5 D cA B0) (hr : meth.sig.returnType = (Option.none : Option Jvm.ClassFile.FieldType)) {Γ : zSh} {x0 : Nat} {x1 : Nat} {x3 : Int32} {σ2 : zSt} (kE : ∀ (H : Heap) (locs : List Loc) (ls : Array Slot), zO D cA B0 Γ σ2 Z s.heap H locs → lv_has ls 5 [] → W p l e rm_X5_takeWord s m args below meth c H locs 0 0 Q (F0 m 50 ls [])) :
    ∀ (n : Nat) (x4 : Int32) (σ : zSt), loopM (fun q => f_X5_takeWord_B8 Γ x0 x1 x3 q.1 q.2) n (x4, σ) = some σ2 → ∀ (H : Heap) (locs : List Loc) (ls : Array Slot), zO D cA B0 Γ σ Z s.heap H locs → lv_has ls 5 [(0, .ref x0), (1, .ref x1), (3, .int x3), (4, .int x4)] → W p l e rm_X5_takeWord s m args below meth c H locs 0 0 Q (F0 m 8 ls []) := by
  intro n
  induction n with
  | zero => intro x4 σ h; exact absurd h (by simp [loopM])
  | succ n ih =>
    intro x4 σ h H locs ls hw hl
    obtain ⟨r, h1, h2, h3⟩ := loopM_inv h
    exact t_X5_takeWord_B8 hC hr h1 hw hl (fun z4 s2 e H locs ls hw hl => ih z4 s2 (h2 _ e) H locs ls hw hl) (fun s2 e H locs ls hw hl => by cases h3 _ e; exact kE H locs ls hw hl)
set_option maxHeartbeats 4000000 in
set_option maxRecDepth 100000 in
theorem m_X5_takeWord (h9 : l.stackTraces = false) {Γ : zSh} {a0 : Nat} {a1 : Nat} {a2 : Int32} {σ : zSt} {r : Unit} {σ2 : zSt} (hf : f_X5_takeWord Γ a0 a1 a2 σ = some (r, σ2)) : Met l yX5_takeWord (wq yX5_takeWord cX5_takeWord 5 (Option.none : Option Jvm.ClassFile.FieldType)) rm_X5_takeWord (zQ0 D cA B0 [.ref a0, .ref a1, .int a2] Γ σ Z) (zQ1 D cA B0 (none) Γ σ2 Z) 0 0 (FR B0) := by
  refine z_ofW h9 (by decide) (Nat.le_of_ble_eq_true rfl) ?_
  intro p e s m args below meth c ls hC hr _ hw hl
  have hx := hC.1
  have hb := hC.2.1
  have hl : lv_has ls 5 [(0, .ref a0), (1, .ref a1), (2, .int a2)] := hl
  unfold f_X5_takeWord at hf
  refine lv_iload_n hx hb dX5_takeWord_0 rfl (lv_at hl 2 rfl) ?_
  refine lv_iconst (v := 1) hx hb dX5_takeWord_1 (by decide) ?_
  refine lv_iadd hx hb dX5_takeWord_2 ?_
  refine lv_istore_n (lv' := [(3, .int (a2 + 1)), (0, .ref a0), (1, .ref a1), (2, .int a2)]) hx hb dX5_takeWord_3 rfl hl (Nat.le_of_ble_eq_true rfl) rfl (fun ls hl => ?_)
  refine lv_bipush (v := 18) hx hb dX5_takeWord_4 (by decide) ?_
  refine lv_istore (lv' := [(4, .int 18), (3, .int (a2 + 1)), (0, .ref a0), (1, .ref a1), (2, .int a2)]) hx hb dX5_takeWord_6 hl (Nat.le_of_ble_eq_true rfl) rfl (fun ls hl => ?_)
  obtain ⟨σ5, hk, hf⟩ := lb0_inv hf
  refine l_X5_takeWord_B8 hC hr (fun H locs ls hw hl => ?_) FUEL 18 σ hk _ _ _ hw (lv_sub hl [2, 3, 1, 0] rfl)
  first | (obtain ⟨rfl, rfl⟩ := sp_inv hf) | (obtain rfl := Option.some.inj hf)
  exact W.vret hx hb hr (z_ret hw rfl) hw.2.2.2.2.2 dX5_takeWord_50 hC.2.2.2.2.2.1
set_option maxHeartbeats 4000000 in
set_option maxRecDepth 100000 in
theorem t_X5_takeBoth_B15 (hC : zC p l s m args meth c cX5_takeBoth 3 RX5 D cA B0) (hr : meth.sig.returnType = (Option.none : Option Jvm.ClassFile.FieldType)) {Γ : zSh} {x0 : Nat} {x1 : Nat} {x2 : Int32} {σ : zSt} {out : ((Int32 × zSt) ⊕ (zSt))} (hf : f_X5_takeBoth_B15 Γ x0 x1 x2 σ = some out) {H : Heap} {locs : List Loc} {ls : Array Slot} (hw : zO D cA B0 Γ σ Z s.heap H locs) (hl : lv_has ls 3 [(0, .ref x0), (1, .ref x1), (2, .int x2)])
    (kI : ∀ (z2 : Int32) (σ2 : zSt), out = .inl (z2, σ2) → ∀ (H : Heap) (locs : List Loc) (ls : Array Slot), zO D cA B0 Γ σ2 Z s.heap H locs → lv_has ls 3 [(0, .ref x0), (1, .ref x1), (2, .int z2)] → W p l e rm_X5_takeBoth s m args below meth c H locs 0 0 Q (F0 m 15 ls []))
    (kE : ∀ (σ2 : zSt), out = .inr σ2 → ∀ (H : Heap) (locs : List Loc) (ls : Array Slot), zO D cA B0 Γ σ2 Z s.heap H locs → lv_has ls 3 [(0, .ref x0)] → W p l e rm_X5_takeBoth s m args below meth c H locs 0 0 Q (F0 m 39 ls [])) :
    W p l e rm_X5_takeBoth s m args below meth c H locs 0 0 Q (F0 m 15 ls []) := by
  have hx := hC.1
  have hb := hC.2.1
  unfold f_X5_takeBoth_B15 at hf
  refine lv_iload_n hx hb dX5_takeBoth_15 rfl (lv_at hl 2 rfl) ?_
  refine lv_iconst (v := 2) hx hb dX5_takeBoth_16 (by decide) ?_
  refine lv_icmp_ge (tgt := 39) hx hb dX5_takeBoth_17 (by decide) (fun hc => ?_) (fun hc => ?_)
  · rw [if_pos hc] at hf
    exact kE  σ (Option.some.inj hf).symm _ _ _ hw (lv_sub hl [0] rfl)
  · rw [if_neg hc] at hf
    refine lv_aload_n hx hb dX5_takeBoth_20 rfl (lv_at hl 1 rfl) ?_
    refine lv_aload_n hx hb dX5_takeBoth_21 rfl (lv_at hl 0 rfl) ?_
    obtain ⟨v4, hg, hf⟩ := gfR_inv hf
    refine r_gfR hC hw hg clX5 (Nat.le_of_ble_eq_true rfl) lkF_X5_9 rfl dX5_takeBoth_22 ?_
    refine lv_iload_n hx hb dX5_takeBoth_25 rfl (lv_at hl 2 rfl) ?_
    refine lv_aload_n hx hb dX5_takeBoth_26 rfl (lv_at hl 0 rfl) ?_
    obtain ⟨v5, hg, hf⟩ := gfR_inv hf
    refine r_gfR hC hw hg clX5 (Nat.le_of_ble_eq_true rfl) lkF_X5_15 rfl dX5_takeBoth_27 ?_
    obtain ⟨ho, hf⟩ := chk_inv hf
    obtain ⟨_, σ6, hk, hf⟩ := bnd_inv hf
    refine z_callV (As := [.ref v4, .int x2, .ref v5]) (rest := []) (m_X0_addStep hC.2.2.2.2.2.2.2.2 hk) hC hw wd_X0_addStep lkM_X5_46 (isO_sh ho) rfl rfl ⟨rfl, rfl⟩ ⟨(Nat.le_of_ble_eq_true rfl), (Nat.le_of_ble_eq_true rfl)⟩ hl.1 rfl (Nat.le_of_ble_eq_true rfl) dX5_takeBoth_30 ⟨(Nat.le_of_ble_eq_true rfl), (Nat.le_of_ble_eq_true rfl)⟩ (fun H locs hw => ?_)
    refine lv_iinc (v := (x2 + 1)) (lv' := [(2, .int (x2 + 1)), (0, .ref x0), (1, .ref x1)]) hx hb dX5_takeBoth_33 hl (k := 2) rfl rfl (Nat.le_of_ble_eq_true rfl) rfl (fun ls hl => ?_)
    refine lv_goto (tgt := 15) hx hb dX5_takeBoth_36 (by decide) ?_
    exact kI (x2 + 1) σ6 (Option.some.inj hf).symm _ _ _ hw (lv_sub hl [1, 2, 0] rfl)
set_option maxHeartbeats 4000000 in
theorem l_X5_takeBoth_B15 (hC : zC p l s m args meth c cX5_takeBoth 3 RX5 D cA B0) (hr : meth.sig.returnType = (Option.none : Option Jvm.ClassFile.FieldType)) {Γ : zSh} {x0 : Nat} {x1 : Nat} {σ2 : zSt} (kE : ∀ (H : Heap) (locs : List Loc) (ls : Array Slot), zO D cA B0 Γ σ2 Z s.heap H locs → lv_has ls 3 [(0, .ref x0)] → W p l e rm_X5_takeBoth s m args below meth c H locs 0 0 Q (F0 m 39 ls [])) :
    ∀ (n : Nat) (x2 : Int32) (σ : zSt), loopM (fun q => f_X5_takeBoth_B15 Γ x0 x1 q.1 q.2) n (x2, σ) = some σ2 → ∀ (H : Heap) (locs : List Loc) (ls : Array Slot), zO D cA B0 Γ σ Z s.heap H locs → lv_has ls 3 [(0, .ref x0), (1, .ref x1), (2, .int x2)] → W p l e rm_X5_takeBoth s m args below meth c H locs 0 0 Q (F0 m 15 ls []) := by
  intro n
  induction n with
  | zero => intro x2 σ h; exact absurd h (by simp [loopM])
  | succ n ih =>
    intro x2 σ h H locs ls hw hl
    obtain ⟨r, h1, h2, h3⟩ := loopM_inv h
    exact t_X5_takeBoth_B15 hC hr h1 hw hl (fun z2 s2 e H locs ls hw hl => ih z2 s2 (h2 _ e) H locs ls hw hl) (fun s2 e H locs ls hw hl => by cases h3 _ e; exact kE H locs ls hw hl)
set_option maxHeartbeats 4000000 in
set_option maxRecDepth 100000 in
theorem m_X5_takeBoth (h9 : l.stackTraces = false) {Γ : zSh} {a0 : Nat} {a1 : Nat} {σ : zSt} {r : Unit} {σ2 : zSt} (hf : f_X5_takeBoth Γ a0 a1 σ = some (r, σ2)) : Met l yX5_takeBoth (wq yX5_takeBoth cX5_takeBoth 3 (Option.none : Option Jvm.ClassFile.FieldType)) rm_X5_takeBoth (zQ0 D cA B0 [.ref a0, .ref a1] Γ σ Z) (zQ1 D cA B0 (none) Γ σ2 Z) 0 0 (FR B0) := by
  refine z_ofW h9 (by decide) (Nat.le_of_ble_eq_true rfl) ?_
  intro p e s m args below meth c ls hC hr _ hw hl
  have hx := hC.1
  have hb := hC.2.1
  have hl : lv_has ls 3 [(0, .ref a0), (1, .ref a1)] := hl
  unfold f_X5_takeBoth at hf
  refine lv_aload_n hx hb dX5_takeBoth_0 rfl (lv_at hl 0 rfl) ?_
  obtain ⟨v1, hg, hf⟩ := gfR_inv hf
  refine r_gfR hC hw hg clX5 (Nat.le_of_ble_eq_true rfl) lkF_X5_15 rfl dX5_takeBoth_1 ?_
  refine lv_iconst (v := 0) hx hb dX5_takeBoth_4 (by decide) ?_
  refine lv_aload_n hx hb dX5_takeBoth_5 rfl (lv_at hl 1 rfl) ?_
  obtain ⟨v2, hg, hf⟩ := gfI_inv hf
  refine r_gfI hC hw hg clX0 (Nat.le_of_ble_eq_true rfl) lkF_X5_23 rfl dX5_takeBoth_6 ?_
  refine lv_iconst (v := 0) hx hb dX5_takeBoth_9 (by decide) ?_
  obtain ⟨_, σ3, hk, hf⟩ := bnd_inv hf
  refine z_callS (As := [.ref v1, .int 0, .int v2, .int 0]) (rest := []) (m_J7_fill_fda19 hC.2.2.2.2.2.2.2.2 hk) hC hw wd_J7_fill_fda19 lkM_X5_40 rfl ⟨rfl, rfl⟩ ⟨(Nat.le_of_ble_eq_true rfl), (Nat.le_of_ble_eq_true rfl)⟩ hl.1 rfl (Nat.le_of_ble_eq_true rfl) dX5_takeBoth_10 ⟨(Nat.le_of_ble_eq_true rfl), (Nat.le_of_ble_eq_true rfl)⟩ (fun H locs hw => ?_)
  refine lv_iconst (v := 0) hx hb dX5_takeBoth_13 (by decide) ?_
  refine lv_istore_n (lv' := [(2, .int 0), (0, .ref a0), (1, .ref a1)]) hx hb dX5_takeBoth_14 rfl hl (Nat.le_of_ble_eq_true rfl) rfl (fun ls hl => ?_)
  obtain ⟨σ7, hk, hf⟩ := lb0_inv hf
  refine l_X5_takeBoth_B15 hC hr (fun H locs ls hw hl => ?_) FUEL 0 σ3 hk _ _ _ hw (lv_sub hl [1, 2, 0] rfl)
  refine lv_aload_n hx hb dX5_takeBoth_39 rfl (lv_at hl 0 rfl) ?_
  obtain ⟨ho, hf⟩ := chk_inv hf
  obtain ⟨_, σ8, hk, hf⟩ := bnd_inv hf
  refine z_callV (As := []) (rest := []) (m_X5_swap hC.2.2.2.2.2.2.2.2 hk) hC hw wd_X5_swap lkM_X5_37 (isO_sh ho) rfl rfl ⟨rfl, rfl⟩ ⟨(Nat.le_of_ble_eq_true rfl), (Nat.le_of_ble_eq_true rfl)⟩ hl.1 rfl (Nat.le_of_ble_eq_true rfl) dX5_takeBoth_40 ⟨(Nat.le_of_ble_eq_true rfl), (Nat.le_of_ble_eq_true rfl)⟩ (fun H locs hw => ?_)
  first | (obtain ⟨rfl, rfl⟩ := sp_inv hf) | (obtain rfl := Option.some.inj hf)
  exact W.vret hx hb hr (z_ret hw rfl) hw.2.2.2.2.2 dX5_takeBoth_43 hC.2.2.2.2.2.1
set_option maxHeartbeats 4000000 in
set_option maxRecDepth 100000 in
theorem m_X5_value (h9 : l.stackTraces = false) {Γ : zSh} {a0 : Nat} {a1 : Nat} {σ : zSt} {r : Int32} {σ2 : zSt} (hf : f_X5_value Γ a0 a1 σ = some (r, σ2)) : Met l yX5_value (wq yX5_value cX5_value 2 (Option.some FieldType.int)) rm_X5_value (zQ0 D cA B0 [.ref a0, .ref a1] Γ σ Z) (zQ1 D cA B0 (some (.int r)) Γ σ2 Z) 0 0 (FR B0) := by
  refine z_ofW h9 (by decide) (Nat.le_of_ble_eq_true rfl) ?_
  intro p e s m args below meth c ls hC hr _ hw hl
  have hx := hC.1
  have hb := hC.2.1
  have hl : lv_has ls 2 [(0, .ref a0), (1, .ref a1)] := hl
  unfold f_X5_value at hf
  refine lv_aload_n hx hb dX5_value_0 rfl (lv_at hl 1 rfl) ?_
  refine lv_aload_n hx hb dX5_value_1 rfl (lv_at hl 0 rfl) ?_
  obtain ⟨v1, hg, hf⟩ := gfR_inv hf
  refine r_gfR hC hw hg clX5 (Nat.le_of_ble_eq_true rfl) lkF_X5_9 rfl dX5_value_2 ?_
  obtain ⟨ho, hf⟩ := chk_inv hf
  obtain ⟨r3, σ2, hk, hf⟩ := bnd_inv hf
  refine z_callV (As := [.ref v1]) (rest := []) (m_X0_weightFrom hC.2.2.2.2.2.2.2.2 hk) hC hw wd_X0_weightFrom lkM_X5_49 (isO_sh ho) rfl rfl ⟨rfl, rfl⟩ ⟨(Nat.le_of_ble_eq_true rfl), (Nat.le_of_ble_eq_true rfl)⟩ hl.1 rfl (Nat.le_of_ble_eq_true rfl) dX5_value_5 ⟨(Nat.le_of_ble_eq_true rfl), (Nat.le_of_ble_eq_true rfl)⟩ (fun H locs hw => ?_)
  first | (obtain ⟨rfl, rfl⟩ := sp_inv hf) | (obtain rfl := Option.some.inj hf)
  exact W.iret hx hb hr (z_ret hw rfl) hw.2.2.2.2.2 dX5_value_8 hC.2.2.2.2.2.1
set_option maxHeartbeats 4000000 in
set_option maxRecDepth 100000 in
theorem t_X6_checkSlot_L9 (hC : zC p l s m args meth c cX6_checkSlot 1 RX6 D cA B0) (hr : meth.sig.returnType = (Option.none : Option Jvm.ClassFile.FieldType)) (htab : ∀ x ∈ c.exceptionTable.toList, False) {Γ : zSh}  {σ : zSt} {out : ((Unit × zSt) ⊕ (Nat × zSt))} (hf : f_X6_checkSlot_L9 Γ  σ = some out) {H : Heap} {locs : List Loc} {ls : Array Slot} (hw : zO D cA B0 Γ σ (ZB B0) s.heap H locs) (hl : lv_has ls 1 []) :
    W p l e rm_X6_checkSlot s m args below meth c H locs 0 0 (vx_MQ below (zQx D cA B0 (fun r : Unit => none) Γ out (ZB B0)) (zXx D cA B0 Γ out (ZB B0)) args s 1 6 (FR B0)) (F0 m 9 ls []) := by
  have hx := hC.1
  have hb := hC.2.1
  unfold f_X6_checkSlot_L9 at hf
  exact z_throwSW (k := 0) hC hw zB_up (Option.some.inj hf).symm htab zt_204_208_0 zstr_261 hl.1 dX6_checkSlot_9 dX6_checkSlot_12 dX6_checkSlot_13 dX6_checkSlot_16 dX6_checkSlot_19 (Nat.le_of_ble_eq_true rfl) (Nat.le_of_ble_eq_true rfl) (Nat.le_of_ble_eq_true rfl) (Nat.le_of_ble_eq_true rfl) (Nat.le_of_ble_eq_true rfl) (Nat.le_of_ble_eq_true rfl)
set_option maxHeartbeats 4000000 in
set_option maxRecDepth 100000 in
theorem m_X6_checkSlot (h9 : l.stackTraces = false) {Γ : zSh} {a0 : Int32} {σ : zSt} {out : ((Unit × zSt) ⊕ (Nat × zSt))} (hf : f_X6_checkSlot Γ a0 σ = some out) : vx_Met l yX6_checkSlot (wq yX6_checkSlot cX6_checkSlot 1 (Option.none : Option Jvm.ClassFile.FieldType)) rm_X6_checkSlot (zQ0 D cA B0 [.int a0] Γ σ (ZB B0)) (zQx D cA B0 (fun r : Unit => none) Γ out (ZB B0)) (zXx D cA B0 Γ out (ZB B0)) 1 6 (FR B0) := by
  refine z_ofX h9 (by decide) (Nat.le_of_ble_eq_true rfl) ?_
  intro p e s m args below meth c ls hC hr htab hw hl
  have hx := hC.1
  have hb := hC.2.1
  have hl : lv_has ls 1 [(0, .int a0)] := hl
  unfold f_X6_checkSlot at hf
  refine lv_iload_n hx hb dX6_checkSlot_0 rfl (lv_at hl 0 rfl) ?_
  refine lv_if_lt (tgt := 9) hx hb dX6_checkSlot_1 (by decide) (fun hc => ?_) (fun hc => ?_)
  · rw [if_pos hc] at hf
    exact t_X6_checkSlot_L9 hC hr htab hf hw (lv_sub hl [] rfl)
  · rw [if_neg hc] at hf
    refine lv_iload_n hx hb dX6_checkSlot_4 rfl (lv_at hl 0 rfl) ?_
    refine lv_iconst (v := 4) hx hb dX6_checkSlot_5 (by decide) ?_
    refine lv_icmp_lt (tgt := 20) hx hb dX6_checkSlot_6 (by decide) (fun hc => ?_) (fun hc => ?_)
    · rw [if_pos hc] at hf
      refine vx_ret ?_
      refine W.widen (k := 1) (n := 6) (Nat.le_of_ble_eq_true rfl) (Nat.le_of_ble_eq_true rfl) ?_
      exact W.vret hx hb hr (z_retx hw (Option.some.inj hf).symm rfl) hw.2.2.2.2.2 dX6_checkSlot_20 hC.2.2.2.2.2.1
    · rw [if_neg hc] at hf
      exact t_X6_checkSlot_L9 hC hr htab hf hw (lv_sub hl [] rfl)
set_option maxHeartbeats 4000000 in
set_option maxRecDepth 100000 in
theorem t_X6_checkRange_L10 (hC : zC p l s m args meth c cX6_checkRange 3 RX6 D cA B0) (hr : meth.sig.returnType = (Option.none : Option Jvm.ClassFile.FieldType)) (htab : ∀ x ∈ c.exceptionTable.toList, False) {Γ : zSh}  {σ : zSt} {out : ((Unit × zSt) ⊕ (Nat × zSt))} (hf : f_X6_checkRange_L10 Γ  σ = some out) {H : Heap} {locs : List Loc} {ls : Array Slot} (hw : zO D cA B0 Γ σ (ZB B0) s.heap H locs) (hl : lv_has ls 3 []) :
    W p l e rm_X6_checkRange s m args below meth c H locs 0 0 (vx_MQ below (zQx D cA B0 (fun r : Unit => none) Γ out (ZB B0)) (zXx D cA B0 Γ out (ZB B0)) args s 1 6 (FR B0)) (F0 m 10 ls []) := by
  have hx := hC.1
  have hb := hC.2.1
  unfold f_X6_checkRange_L10 at hf
  exact z_throwSW (k := 1) hC hw zB_up (Option.some.inj hf).symm htab zt_267_271_1 zstr_269 hl.1 dX6_checkRange_10 dX6_checkRange_13 dX6_checkRange_14 dX6_checkRange_17 dX6_checkRange_20 (Nat.le_of_ble_eq_true rfl) (Nat.le_of_ble_eq_true rfl) (Nat.le_of_ble_eq_true rfl) (Nat.le_of_ble_eq_true rfl) (Nat.le_of_ble_eq_true rfl) (Nat.le_of_ble_eq_true rfl)
set_option maxHeartbeats 4000000 in
set_option maxRecDepth 100000 in
theorem m_X6_checkRange (h9 : l.stackTraces = false) {Γ : zSh} {a0 : Int32} {a1 : Int32} {a2 : Int32} {σ : zSt} {out : ((Unit × zSt) ⊕ (Nat × zSt))} (hf : f_X6_checkRange Γ a0 a1 a2 σ = some out) : vx_Met l yX6_checkRange (wq yX6_checkRange cX6_checkRange 3 (Option.none : Option Jvm.ClassFile.FieldType)) rm_X6_checkRange (zQ0 D cA B0 [.int a0, .int a1, .int a2] Γ σ (ZB B0)) (zQx D cA B0 (fun r : Unit => none) Γ out (ZB B0)) (zXx D cA B0 Γ out (ZB B0)) 1 6 (FR B0) := by
  refine z_ofX h9 (by decide) (Nat.le_of_ble_eq_true rfl) ?_
  intro p e s m args below meth c ls hC hr htab hw hl
  have hx := hC.1
  have hb := hC.2.1
  have hl : lv_has ls 3 [(0, .int a0), (1, .int a1), (2, .int a2)] := hl
  unfold f_X6_checkRange at hf
  refine lv_iload_n hx hb dX6_checkRange_0 rfl (lv_at hl 0 rfl) ?_
  refine lv_iload_n hx hb dX6_checkRange_1 rfl (lv_at hl 1 rfl) ?_
  refine lv_icmp_lt (tgt := 10) hx hb dX6_checkRange_2 (by decide) (fun hc => ?_) (fun hc => ?_)
  · rw [if_pos hc] at hf
    exact t_X6_checkRange_L10 hC hr htab hf hw (lv_sub hl [] rfl)
  · rw [if_neg hc] at hf
    refine lv_iload_n hx hb dX6_checkRange_5 rfl (lv_at hl 0 rfl) ?_
    refine lv_iload_n hx hb dX6_checkRange_6 rfl (lv_at hl 2 rfl) ?_
    refine lv_icmp_le (tgt := 21) hx hb dX6_checkRange_7 (by decide) (fun hc => ?_) (fun hc => ?_)
    · rw [if_pos hc] at hf
      refine vx_ret ?_
      refine W.widen (k := 1) (n := 6) (Nat.le_of_ble_eq_true rfl) (Nat.le_of_ble_eq_true rfl) ?_
      exact W.vret hx hb hr (z_retx hw (Option.some.inj hf).symm rfl) hw.2.2.2.2.2 dX6_checkRange_21 hC.2.2.2.2.2.1
    · rw [if_neg hc] at hf
      exact t_X6_checkRange_L10 hC hr htab hf hw (lv_sub hl [] rfl)
set_option maxHeartbeats 4000000 in
set_option maxRecDepth 100000 in
theorem t_X6_dropOldest_B9 (hC : zC p l s m args meth c cX6_dropOldest 3 RX6 D cA B0) (hr : meth.sig.returnType = (Option.none : Option Jvm.ClassFile.FieldType)) {Γ : zSh} {x0 : Nat} {x1 : Nat} {x2 : Int32} {σ : zSt} {out : ((Int32 × zSt) ⊕ (zSt))} (hf : f_X6_dropOldest_B9 Γ x0 x1 x2 σ = some out) {H : Heap} {locs : List Loc} {ls : Array Slot} (hw : zO D cA B0 Γ σ Z s.heap H locs) (hl : lv_has ls 3 [(0, .ref x0), (1, .ref x1), (2, .int x2)])
    (kI : ∀ (z2 : Int32) (σ2 : zSt), out = .inl (z2, σ2) → ∀ (H : Heap) (locs : List Loc) (ls : Array Slot), zO D cA B0 Γ σ2 Z s.heap H locs → lv_has ls 3 [(0, .ref x0), (1, .ref x1), (2, .int z2)] → W p l e rm_X6_dropOldest s m args below meth c H locs 0 0 Q (F0 m 9 ls []))
    (kE : ∀ (σ2 : zSt), out = .inr σ2 → ∀ (H : Heap) (locs : List Loc) (ls : Array Slot), zO D cA B0 Γ σ2 Z s.heap H locs → lv_has ls 3 [(0, .ref x0), (1, .ref x1)] → W p l e rm_X6_dropOldest s m args below meth c H locs 0 0 Q (F0 m 48 ls [])) :
    W p l e rm_X6_dropOldest s m args below meth c H locs 0 0 Q (F0 m 9 ls []) := by
  have hx := hC.1
  have hb := hC.2.1
  unfold f_X6_dropOldest_B9 at hf
  refine lv_iload_n hx hb dX6_dropOldest_9 rfl (lv_at hl 2 rfl) ?_
  refine lv_iconst (v := 4) hx hb dX6_dropOldest_10 (by decide) ?_
  refine lv_icmp_ge (tgt := 48) hx hb dX6_dropOldest_11 (by decide) (fun hc => ?_) (fun hc => ?_)
  · rw [if_pos hc] at hf
    exact kE  σ (Option.some.inj hf).symm _ _ _ hw (lv_sub hl [0, 1] rfl)
  · rw [if_neg hc] at hf
    refine lv_aload_n hx hb dX6_dropOldest_14 rfl (lv_at hl 0 rfl) ?_
    obtain ⟨v3, hg, hf⟩ := gfR_inv hf
    refine r_gfR hC hw hg clX6 (Nat.le_of_ble_eq_true rfl) lkF_X6_17 rfl dX6_dropOldest_15 ?_
    refine lv_iload_n hx hb dX6_dropOldest_18 rfl (lv_at hl 2 rfl) ?_
    refine lv_iconst (v := 1) hx hb dX6_dropOldest_19 (by decide) ?_
    refine lv_isub hx hb dX6_dropOldest_20 ?_
    refine lv_aload_n hx hb dX6_dropOldest_21 rfl (lv_at hl 0 rfl) ?_
    obtain ⟨v4, hg, hf⟩ := gfR_inv hf
    refine r_gfR hC hw hg clX6 (Nat.le_of_ble_eq_true rfl) lkF_X6_17 rfl dX6_dropOldest_22 ?_
    refine lv_iload_n hx hb dX6_dropOldest_25 rfl (lv_at hl 2 rfl) ?_
    obtain ⟨v5, hg, hf⟩ := ldA_inv hf
    refine r_ldA hC hw hg dX6_dropOldest_26 ?_
    obtain ⟨hz, hf⟩ := chk_inv hf
    obtain ⟨σ6, hg, hf⟩ := stA_inv hf
    refine r_stA hC hw (of_decide_eq_true hz) hg dX6_dropOldest_27 (fun H locs hw => ?_)
    refine lv_aload_n hx hb dX6_dropOldest_28 rfl (lv_at hl 0 rfl) ?_
    obtain ⟨v7, hg, hf⟩ := gfR_inv hf
    refine r_gfR hC hw hg clX6 (Nat.le_of_ble_eq_true rfl) lkF_X6_20 rfl dX6_dropOldest_29 ?_
    refine lv_iload_n hx hb dX6_dropOldest_32 rfl (lv_at hl 2 rfl) ?_
    refine lv_iconst (v := 1) hx hb dX6_dropOldest_33 (by decide) ?_
    refine lv_isub hx hb dX6_dropOldest_34 ?_
    refine lv_aload_n hx hb dX6_dropOldest_35 rfl (lv_at hl 0 rfl) ?_
    obtain ⟨v8, hg, hf⟩ := gfR_inv hf
    refine r_gfR hC hw hg clX6 (Nat.le_of_ble_eq_true rfl) lkF_X6_20 rfl dX6_dropOldest_36 ?_
    refine lv_iload_n hx hb dX6_dropOldest_39 rfl (lv_at hl 2 rfl) ?_
    obtain ⟨v9, hg, hf⟩ := ldI_inv hf
    refine r_ldI hC hw hg dX6_dropOldest_40 ?_
    obtain ⟨σ10, hg, hf⟩ := stI_inv hf
    refine r_stI hC hw hg dX6_dropOldest_41 (fun H locs hw => ?_)
    refine lv_iinc (v := (x2 + 1)) (lv' := [(2, .int (x2 + 1)), (0, .ref x0), (1, .ref x1)]) hx hb dX6_dropOldest_42 hl (k := 2) rfl rfl (Nat.le_of_ble_eq_true rfl) rfl (fun ls hl => ?_)
    refine lv_goto (tgt := 9) hx hb dX6_dropOldest_45 (by decide) ?_
    exact kI (x2 + 1) σ10 (Option.some.inj hf).symm _ _ _ hw (lv_sub hl [1, 2, 0] rfl)
set_option maxHeartbeats 4000000 in
theorem l_X6_dropOldest_B9 (hC : zC p l s m args meth c cX6_dropOldest 3 RX6 D cA B0) (hr : meth.sig.returnType = (Option.none : Option Jvm.ClassFile.FieldType)) {Γ : zSh} {x0 : Nat} {x1 : Nat} {σ2 : zSt} (kE : ∀ (H : Heap) (locs : List Loc) (ls : Array Slot), zO D cA B0 Γ σ2 Z s.heap H locs → lv_has ls 3 [(0, .ref x0), (1, .ref x1)] → W p l e rm_X6_dropOldest s m args below meth c H locs 0 0 Q (F0 m 48 ls [])) :
    ∀ (n : Nat) (x2 : Int32) (σ : zSt), loopM (fun q => f_X6_dropOldest_B9 Γ x0 x1 q.1 q.2) n (x2, σ) = some σ2 → ∀ (H : Heap) (locs : List Loc) (ls : Array Slot), zO D cA B0 Γ σ Z s.heap H locs → lv_has ls 3 [(0, .ref x0), (1, .ref x1), (2, .int x2)] → W p l e rm_X6_dropOldest s m args below meth c H locs 0 0 Q (F0 m 9 ls []) := by
  intro n
  induction n with
  | zero => intro x2 σ h; exact absurd h (by simp [loopM])
  | succ n ih =>
    intro x2 σ h H locs ls hw hl
    obtain ⟨r, h1, h2, h3⟩ := loopM_inv h
    exact t_X6_dropOldest_B9 hC hr h1 hw hl (fun z2 s2 e H locs ls hw hl => ih z2 s2 (h2 _ e) H locs ls hw hl) (fun s2 e H locs ls hw hl => by cases h3 _ e; exact kE H locs ls hw hl)
set_option maxHeartbeats 4000000 in
set_option maxRecDepth 100000 in
theorem m_X6_dropOldest (h9 : l.stackTraces = false) {Γ : zSh} {a0 : Nat} {σ : zSt} {r : Unit} {σ2 : zSt} (hf : f_X6_dropOldest Γ a0 σ = some (r, σ2)) : Met l yX6_dropOldest (wq yX6_dropOldest cX6_dropOldest 3 (Option.none : Option Jvm.ClassFile.FieldType)) rm_X6_dropOldest (zQ0 D cA B0 [.ref a0] Γ σ Z) (zQ1 D cA B0 (none) Γ σ2 Z) 0 0 (FR B0) := by
  refine z_ofW h9 (by decide) (Nat.le_of_ble_eq_true rfl) ?_
  intro p e s m args below meth c ls hC hr _ hw hl
  have hx := hC.1
  have hb := hC.2.1
  have hl : lv_has ls 3 [(0, .ref a0)] := hl
  unfold f_X6_dropOldest at hf
  refine lv_aload_n hx hb dX6_dropOldest_0 rfl (lv_at hl 0 rfl) ?_
  obtain ⟨v1, hg, hf⟩ := gfR_inv hf
  refine r_gfR hC hw hg clX6 (Nat.le_of_ble_eq_true rfl) lkF_X6_17 rfl dX6_dropOldest_1 ?_
  refine lv_iconst (v := 0) hx hb dX6_dropOldest_4 (by decide) ?_
  obtain ⟨v2, hg, hf⟩ := ldA_inv hf
  refine r_ldA hC hw hg dX6_dropOldest_5 ?_
  refine lv_astore_n (lv' := [(1, .ref v2), (0, .ref a0)]) hx hb dX6_dropOldest_6 rfl hl (Nat.le_of_ble_eq_true rfl) rfl (fun ls hl => ?_)
  refine lv_iconst (v := 1) hx hb dX6_dropOldest_7 (by decide) ?_
  refine lv_istore_n (lv' := [(2, .int 1), (1, .ref v2), (0, .ref a0)]) hx hb dX6_dropOldest_8 rfl hl (Nat.le_of_ble_eq_true rfl) rfl (fun ls hl => ?_)
  obtain ⟨σ11, hk, hf⟩ := lb0_inv hf
  refine l_X6_dropOldest_B9 hC hr (fun H locs ls hw hl => ?_) FUEL 1 σ hk _ _ _ hw (lv_sub hl [2, 1, 0] rfl)
  refine lv_aload_n hx hb dX6_dropOldest_48 rfl (lv_at hl 0 rfl) ?_
  obtain ⟨v12, hg, hf⟩ := gfR_inv hf
  refine r_gfR hC hw hg clX6 (Nat.le_of_ble_eq_true rfl) lkF_X6_17 rfl dX6_dropOldest_49 ?_
  refine lv_iconst (v := 3) hx hb dX6_dropOldest_52 (by decide) ?_
  refine lv_aload_n hx hb dX6_dropOldest_53 rfl (lv_at hl 1 rfl) ?_
  obtain ⟨hz, hf⟩ := chk_inv hf
  obtain ⟨σ13, hg, hf⟩ := stA_inv hf
  refine r_stA hC hw (of_decide_eq_true hz) hg dX6_dropOldest_54 (fun H locs hw => ?_)
  refine lv_aload_n hx hb dX6_dropOldest_55 rfl (lv_at hl 0 rfl) ?_
  refine lv_iconst (v := 3) hx hb dX6_dropOldest_56 (by decide) ?_
  obtain ⟨σ14, hg, hf⟩ := pfI_inv hf
  refine r_pfI hC hw hg clX6 (Nat.le_of_ble_eq_true rfl) lkF_X6_24 rfl rfl rfl dX6_dropOldest_57 (fun H locs hw => ?_)
  first | (obtain ⟨rfl, rfl⟩ := sp_inv hf) | (obtain rfl := Option.some.inj hf)
  exact W.vret hx hb hr (z_ret hw rfl) hw.2.2.2.2.2 dX6_dropOldest_60 hC.2.2.2.2.2.1
set_option maxHeartbeats 4000000 in
set_option maxRecDepth 100000 in
theorem t_X6_save_L12 (hC : zC p l s m args meth c cX6_save 2 RX6 D cA B0) (hr : meth.sig.returnType = (Option.none : Option Jvm.ClassFile.FieldType)) {Γ : zSh} {x0 : Nat} {x1 : Int32} {σ : zSt} {out : (Unit × zSt)} (hf : f_X6_save_L12 Γ x0 x1 σ = some out) {H : Heap} {locs : List Loc} {ls : Array Slot} (hw : zO D cA B0 Γ σ Z s.heap H locs) (hl : lv_has ls 2 [(0, .ref x0), (1, .int x1)]) :
    W p l e rm_X6_save s m args below meth c H locs 0 0 (MQ below (zQ1 D cA B0 (none) Γ out.2 Z) args s 0 0 (FR B0)) (F0 m 12 ls []) := by
  have hx := hC.1
  have hb := hC.2.1
  unfold f_X6_save_L12 at hf
  refine lv_aload_n hx hb dX6_save_12 rfl (lv_at hl 0 rfl) ?_
  obtain ⟨v2, hg, hf⟩ := gfR_inv hf
  refine r_gfR hC hw hg clX6 (Nat.le_of_ble_eq_true rfl) lkF_X6_20 rfl dX6_save_13 ?_
  refine lv_aload_n hx hb dX6_save_16 rfl (lv_at hl 0 rfl) ?_
  obtain ⟨v3, hg, hf⟩ := gfI_inv hf
  refine r_gfI hC hw hg clX6 (Nat.le_of_ble_eq_true rfl) lkF_X6_24 rfl dX6_save_17 ?_
  refine lv_iload_n hx hb dX6_save_20 rfl (lv_at hl 1 rfl) ?_
  obtain ⟨σ4, hg, hf⟩ := stI_inv hf
  refine r_stI hC hw hg dX6_save_21 (fun H locs hw => ?_)
  refine lv_aload_n hx hb dX6_save_22 rfl (lv_at hl 0 rfl) ?_
  obtain ⟨v5, hg, hf⟩ := gfR_inv hf
  refine r_gfR hC hw hg clX6 (Nat.le_of_ble_eq_true rfl) lkF_X6_17 rfl dX6_save_23 ?_
  refine lv_aload_n hx hb dX6_save_26 rfl (lv_at hl 0 rfl) ?_
  obtain ⟨v6, hg, hf⟩ := gfI_inv hf
  refine r_gfI hC hw hg clX6 (Nat.le_of_ble_eq_true rfl) lkF_X6_24 rfl dX6_save_27 ?_
  obtain ⟨v7, hg, hf⟩ := ldA_inv hf
  refine r_ldA hC hw hg dX6_save_30 ?_
  refine lv_aload_n hx hb dX6_save_31 rfl (lv_at hl 0 rfl) ?_
  obtain ⟨v8, hg, hf⟩ := gfR_inv hf
  refine r_gfR hC hw hg clX6 (Nat.le_of_ble_eq_true rfl) lkF_X6_13 rfl dX6_save_32 ?_
  refine lv_iload_n hx hb dX6_save_35 rfl (lv_at hl 1 rfl) ?_
  obtain ⟨v9, hg, hf⟩ := ldA_inv hf
  refine r_ldA hC hw hg dX6_save_36 ?_
  obtain ⟨ho, hf⟩ := chk_inv hf
  obtain ⟨_, σ10, hk, hf⟩ := bnd_inv hf
  refine z_callV (As := [.ref v9]) (rest := []) (m_X0_copyFrom hC.2.2.2.2.2.2.2.2 hk) hC hw wd_X0_copyFrom lkM_X6_172 (isO_sh ho) rfl rfl ⟨rfl, rfl⟩ ⟨(Nat.le_of_ble_eq_true rfl), (Nat.le_of_ble_eq_true rfl)⟩ hl.1 rfl (Nat.le_of_ble_eq_true rfl) dX6_save_37 ⟨(Nat.le_of_ble_eq_true rfl), (Nat.le_of_ble_eq_true rfl)⟩ (fun H locs hw => ?_)
  refine lv_aload_n hx hb dX6_save_40 rfl (lv_at hl 0 rfl) ?_
  refine lv_dup hx hb dX6_save_41 rfl ?_
  obtain ⟨v11, hg, hf⟩ := gfI_inv hf
  refine r_gfI hC hw hg clX6 (Nat.le_of_ble_eq_true rfl) lkF_X6_24 rfl dX6_save_42 ?_
  refine lv_iconst (v := 1) hx hb dX6_save_45 (by decide) ?_
  refine lv_iadd hx hb dX6_save_46 ?_
  obtain ⟨σ12, hg, hf⟩ := pfI_inv hf
  refine r_pfI hC hw hg clX6 (Nat.le_of_ble_eq_true rfl) lkF_X6_24 rfl rfl rfl dX6_save_47 (fun H locs hw => ?_)
  first | (obtain ⟨rfl, rfl⟩ := sp_inv hf) | (obtain rfl := Option.some.inj hf)
  exact W.vret hx hb hr (z_ret hw rfl) hw.2.2.2.2.2 dX6_save_50 hC.2.2.2.2.2.1
set_option maxHeartbeats 4000000 in
set_option maxRecDepth 100000 in
theorem m_X6_save (h9 : l.stackTraces = false) {Γ : zSh} {a0 : Nat} {a1 : Int32} {σ : zSt} {r : Unit} {σ2 : zSt} (hf : f_X6_save Γ a0 a1 σ = some (r, σ2)) : Met l yX6_save (wq yX6_save cX6_save 2 (Option.none : Option Jvm.ClassFile.FieldType)) rm_X6_save (zQ0 D cA B0 [.ref a0, .int a1] Γ σ Z) (zQ1 D cA B0 (none) Γ σ2 Z) 0 0 (FR B0) := by
  refine z_ofW h9 (by decide) (Nat.le_of_ble_eq_true rfl) ?_
  intro p e s m args below meth c ls hC hr _ hw hl
  have hx := hC.1
  have hb := hC.2.1
  have hl : lv_has ls 2 [(0, .ref a0), (1, .int a1)] := hl
  unfold f_X6_save at hf
  refine lv_aload_n hx hb dX6_save_0 rfl (lv_at hl 0 rfl) ?_
  obtain ⟨v1, hg, hf⟩ := gfI_inv hf
  refine r_gfI hC hw hg clX6 (Nat.le_of_ble_eq_true rfl) lkF_X6_24 rfl dX6_save_1 ?_
  refine lv_iconst (v := 4) hx hb dX6_save_4 (by decide) ?_
  refine lv_icmp_lt (tgt := 12) hx hb dX6_save_5 (by decide) (fun hc => ?_) (fun hc => ?_)
  · rw [if_pos hc] at hf
    exact t_X6_save_L12 hC hr hf hw (lv_sub hl [0, 1] rfl)
  · rw [if_neg hc] at hf
    refine lv_aload_n hx hb dX6_save_8 rfl (lv_at hl 0 rfl) ?_
    obtain ⟨ho, hf⟩ := chk_inv hf
    obtain ⟨_, σ13, hk, hf⟩ := bnd_inv hf
    refine z_callV (As := []) (rest := []) (m_X6_dropOldest hC.2.2.2.2.2.2.2.2 hk) hC hw wd_X6_dropOldest lkM_X6_272 (isO_sh ho) rfl rfl ⟨rfl, rfl⟩ ⟨(Nat.le_of_ble_eq_true rfl), (Nat.le_of_ble_eq_true rfl)⟩ hl.1 rfl (Nat.le_of_ble_eq_true rfl) dX6_save_9 ⟨(Nat.le_of_ble_eq_true rfl), (Nat.le_of_ble_eq_true rfl)⟩ (fun H locs hw => ?_)
    exact t_X6_save_L12 hC hr hf hw (lv_sub hl [0, 1] rfl)
set_option maxHeartbeats 4000000 in
set_option maxRecDepth 100000 in
theorem m_X6_begin (h9 : l.stackTraces = false) {Γ : zSh} {a0 : Nat} {a1 : Int32} {a2 : Int32} {σ : zSt} {out : ((Int32 × zSt) ⊕ (Nat × zSt))} (hf : f_X6_begin Γ a0 a1 a2 σ = some out) : vx_Met l yX6_begin (wq yX6_begin cX6_begin 5 (Option.some FieldType.int)) rm_X6_begin (zQ0 D cA B0 [.ref a0, .int a1, .int a2] Γ σ (ZB B0)) (zQx D cA B0 (fun r : Int32 => some (.int r)) Γ out (ZB B0)) (zXx D cA B0 Γ out (ZB B0)) 2 12 (FR B0) := by
  refine z_ofX h9 (by decide) (Nat.le_of_ble_eq_true rfl) ?_
  intro p e s m args below meth c ls hC hr htab hw hl
  have hx := hC.1
  have hb := hC.2.1
  have hl : lv_has ls 5 [(0, .ref a0), (1, .int a1), (2, .int a2)] := hl
  unfold f_X6_begin at hf
  refine lv_iload_n hx hb dX6_begin_0 rfl (lv_at hl 1 rfl) ?_
  obtain ⟨q, hk, hn, hxx⟩ := xbnd_inv hf
  refine z_xcallS (As := [.int a1]) (rest := []) (m_X6_checkSlot hC.2.2.2.2.2.2.2.2 hk) hC hw wd_X6_checkSlot lkM_X6_78 rfl ⟨rfl, rfl⟩ ⟨(Nat.le_of_ble_eq_true rfl), (Nat.le_of_ble_eq_true rfl)⟩ hl.1 rfl (Nat.le_of_ble_eq_true rfl) dX6_begin_1 ⟨(Nat.le_of_ble_eq_true rfl), (Nat.le_of_ble_eq_true rfl)⟩ (fun u9 σ1 eq H locs hw => ?_) (fun k9 s9 eq H locs q9 ce9 hw e1 e2 e3 => z_xout hC hw (hxx _ _ eq) htab e1 e2 e3 (Nat.le_of_ble_eq_true rfl) (Nat.le_of_ble_eq_true rfl))
  have hf := hn _ _ eq
  refine lv_iload_n hx hb dX6_begin_4 rfl (lv_at hl 2 rfl) ?_
  refine lv_iconst (v := 0) hx hb dX6_begin_5 (by decide) ?_
  refine lv_bipush (v := 12) hx hb dX6_begin_6 (by decide) ?_
  obtain ⟨q, hk, hn, hxx⟩ := xbnd_inv hf
  refine z_xcallS (As := [.int a2, .int 0, .int 12]) (rest := []) (m_X6_checkRange hC.2.2.2.2.2.2.2.2 hk) hC hw wd_X6_checkRange lkM_X6_81 rfl ⟨rfl, rfl⟩ ⟨(Nat.le_of_ble_eq_true rfl), (Nat.le_of_ble_eq_true rfl)⟩ hl.1 rfl (Nat.le_of_ble_eq_true rfl) dX6_begin_8 ⟨(Nat.le_of_ble_eq_true rfl), (Nat.le_of_ble_eq_true rfl)⟩ (fun u9 σ2 eq H locs hw => ?_) (fun k9 s9 eq H locs q9 ce9 hw e1 e2 e3 => z_xout hC hw (hxx _ _ eq) htab e1 e2 e3 (Nat.le_of_ble_eq_true rfl) (Nat.le_of_ble_eq_true rfl))
  have hf := hn _ _ eq
  refine lv_aload_n hx hb dX6_begin_11 rfl (lv_at hl 0 rfl) ?_
  obtain ⟨v3, hg, hf⟩ := gfR_inv hf
  refine r_gfR hC hw hg clX6 (Nat.le_of_ble_eq_true rfl) lkF_X6_13 rfl dX6_begin_12 ?_
  refine lv_iload_n hx hb dX6_begin_15 rfl (lv_at hl 1 rfl) ?_
  obtain ⟨v4, hg, hf⟩ := ldA_inv hf
  refine r_ldA hC hw hg dX6_begin_16 ?_
  refine lv_astore_n (lv' := [(3, .ref v4), (0, .ref a0), (1, .int a1), (2, .int a2)]) hx hb dX6_begin_17 rfl hl (Nat.le_of_ble_eq_true rfl) rfl (fun ls hl => ?_)
  refine lv_aload_n hx hb dX6_begin_18 rfl (lv_at hl 0 rfl) ?_
  obtain ⟨v5, hg, hf⟩ := gfI_inv hf
  refine r_gfI hC hw hg clX0 (Nat.le_of_ble_eq_true rfl) lkF_X6_85 rfl dX6_begin_19 ?_
  refine lv_istore (lv' := [(4, .int v5), (3, .ref v4), (0, .ref a0), (1, .int a1), (2, .int a2)]) hx hb dX6_begin_22 hl (Nat.le_of_ble_eq_true rfl) rfl (fun ls hl => ?_)
  refine lv_aload_n hx hb dX6_begin_24 rfl (lv_at hl 2 rfl) ?_
  refine lv_iload_n hx hb dX6_begin_25 rfl (lv_at hl 3 rfl) ?_
  obtain ⟨ho, hf⟩ := chk_inv hf
  obtain ⟨_, σ6, hk, hf⟩ := bnd_inv hf
  refine z_callV (As := [.int a1]) (rest := []) (m_X6_save hC.2.2.2.2.2.2.2.2 hk) hC hw wd_X6_save lkM_X6_88 (isO_sh ho) rfl rfl ⟨rfl, rfl⟩ ⟨(Nat.le_of_ble_eq_true rfl), (Nat.le_of_ble_eq_true rfl)⟩ hl.1 rfl (Nat.le_of_ble_eq_true rfl) dX6_begin_26 ⟨(Nat.le_of_ble_eq_true rfl), (Nat.le_of_ble_eq_true rfl)⟩ (fun H locs hw => ?_)
  refine lv_aload_n hx hb dX6_begin_29 rfl (lv_at hl 1 rfl) ?_
  refine lv_iload_n hx hb dX6_begin_30 rfl (lv_at hl 4 rfl) ?_
  obtain ⟨ho, hf⟩ := chk_inv hf
  obtain ⟨_, σ7, hk, hf⟩ := bnd_inv hf
  refine z_callV (As := [.int a2]) (rest := []) (m_X0_clear hC.2.2.2.2.2.2.2.2 hk) hC hw wd_X0_clear lkM_X6_91 (isO_sh ho) rfl rfl ⟨rfl, rfl⟩ ⟨(Nat.le_of_ble_eq_true rfl), (Nat.le_of_ble_eq_true rfl)⟩ hl.1 rfl (Nat.le_of_ble_eq_true rfl) dX6_begin_31 ⟨(Nat.le_of_ble_eq_true rfl), (Nat.le_of_ble_eq_true rfl)⟩ (fun H locs hw => ?_)
  refine lv_iload hx hb dX6_begin_34 (lv_at hl 0 rfl) ?_
  refine vx_ret ?_
  refine W.widen (k := 2) (n := 12) (Nat.le_of_ble_eq_true rfl) (Nat.le_of_ble_eq_true rfl) ?_
  exact W.iret hx hb hr (z_retx hw (Option.some.inj hf).symm rfl) hw.2.2.2.2.2 dX6_begin_36 hC.2.2.2.2.2.1
set_option maxHeartbeats 4000000 in
set_option maxRecDepth 100000 in
theorem m_X6_random (h9 : l.stackTraces = false) {Γ : zSh} {a0 : Nat} {a1 : Int32} {a2 : Int32} {a3 : Int32} {σ : zSt} {out : ((Int32 × zSt) ⊕ (Nat × zSt))} (hf : f_X6_random Γ a0 a1 a2 a3 σ = some out) : vx_Met l yX6_random (wq yX6_random cX6_random 4 (Option.some FieldType.int)) rm_X6_random (zQ0 D cA B0 [.ref a0, .int a1, .int a2, .int a3] Γ σ (ZB B0)) (zQx D cA B0 (fun r : Int32 => some (.int r)) Γ out (ZB B0)) (zXx D cA B0 Γ out (ZB B0)) 3 18 (FR B0) := by
  refine z_ofX h9 (by decide) (Nat.le_of_ble_eq_true rfl) ?_
  intro p e s m args below meth c ls hC hr htab hw hl
  have hx := hC.1
  have hb := hC.2.1
  have hl : lv_has ls 4 [(0, .ref a0), (1, .int a1), (2, .int a2), (3, .int a3)] := hl
  unfold f_X6_random at hf
  refine lv_iload_n hx hb dX6_random_0 rfl (lv_at hl 1 rfl) ?_
  obtain ⟨q, hk, hn, hxx⟩ := xbnd_inv hf
  refine z_xcallS (As := [.int a1]) (rest := []) (m_X6_checkSlot hC.2.2.2.2.2.2.2.2 hk) hC hw wd_X6_checkSlot lkM_X6_78 rfl ⟨rfl, rfl⟩ ⟨(Nat.le_of_ble_eq_true rfl), (Nat.le_of_ble_eq_true rfl)⟩ hl.1 rfl (Nat.le_of_ble_eq_true rfl) dX6_random_1 ⟨(Nat.le_of_ble_eq_true rfl), (Nat.le_of_ble_eq_true rfl)⟩ (fun u9 σ1 eq H locs hw => ?_) (fun k9 s9 eq H locs q9 ce9 hw e1 e2 e3 => z_xout hC hw (hxx _ _ eq) htab e1 e2 e3 (Nat.le_of_ble_eq_true rfl) (Nat.le_of_ble_eq_true rfl))
  have hf := hn _ _ eq
  refine lv_iload_n hx hb dX6_random_4 rfl (lv_at hl 2 rfl) ?_
  refine lv_iconst (v := 0) hx hb dX6_random_5 (by decide) ?_
  refine lv_bipush (v := 12) hx hb dX6_random_6 (by decide) ?_
  obtain ⟨q, hk, hn, hxx⟩ := xbnd_inv hf
  refine z_xcallS (As := [.int a2, .int 0, .int 12]) (rest := []) (m_X6_checkRange hC.2.2.2.2.2.2.2.2 hk) hC hw wd_X6_checkRange lkM_X6_81 rfl ⟨rfl, rfl⟩ ⟨(Nat.le_of_ble_eq_true rfl), (Nat.le_of_ble_eq_true rfl)⟩ hl.1 rfl (Nat.le_of_ble_eq_true rfl) dX6_random_8 ⟨(Nat.le_of_ble_eq_true rfl), (Nat.le_of_ble_eq_true rfl)⟩ (fun u9 σ2 eq H locs hw => ?_) (fun k9 s9 eq H locs q9 ce9 hw e1 e2 e3 => z_xout hC hw (hxx _ _ eq) htab e1 e2 e3 (Nat.le_of_ble_eq_true rfl) (Nat.le_of_ble_eq_true rfl))
  have hf := hn _ _ eq
  refine lv_iload_n hx hb dX6_random_11 rfl (lv_at hl 3 rfl) ?_
  refine lv_iconst (v := 0) hx hb dX6_random_12 (by decide) ?_
  refine lv_ldc (v := 999999) hx hb hC.2.2.2.1 (hC.2.2.2.2.1 _ lkK_X6_110) dX6_random_13 ?_
  obtain ⟨q, hk, hn, hxx⟩ := xbnd_inv hf
  refine z_xcallS (As := [.int a3, .int 0, .int 999999]) (rest := []) (m_X6_checkRange hC.2.2.2.2.2.2.2.2 hk) hC hw wd_X6_checkRange lkM_X6_81 rfl ⟨rfl, rfl⟩ ⟨(Nat.le_of_ble_eq_true rfl), (Nat.le_of_ble_eq_true rfl)⟩ hl.1 rfl (Nat.le_of_ble_eq_true rfl) dX6_random_15 ⟨(Nat.le_of_ble_eq_true rfl), (Nat.le_of_ble_eq_true rfl)⟩ (fun u9 σ3 eq H locs hw => ?_) (fun k9 s9 eq H locs q9 ce9 hw e1 e2 e3 => z_xout hC hw (hxx _ _ eq) htab e1 e2 e3 (Nat.le_of_ble_eq_true rfl) (Nat.le_of_ble_eq_true rfl))
  have hf := hn _ _ eq
  refine lv_aload_n hx hb dX6_random_18 rfl (lv_at hl 0 rfl) ?_
  refine lv_iload_n hx hb dX6_random_19 rfl (lv_at hl 1 rfl) ?_
  obtain ⟨ho, hf⟩ := chk_inv hf
  obtain ⟨_, σ4, hk, hf⟩ := bnd_inv hf
  refine z_callV (As := [.int a1]) (rest := []) (m_X6_save hC.2.2.2.2.2.2.2.2 hk) hC hw wd_X6_save lkM_X6_88 (isO_sh ho) rfl rfl ⟨rfl, rfl⟩ ⟨(Nat.le_of_ble_eq_true rfl), (Nat.le_of_ble_eq_true rfl)⟩ hl.1 rfl (Nat.le_of_ble_eq_true rfl) dX6_random_20 ⟨(Nat.le_of_ble_eq_true rfl), (Nat.le_of_ble_eq_true rfl)⟩ (fun H locs hw => ?_)
  refine lv_aload_n hx hb dX6_random_23 rfl (lv_at hl 0 rfl) ?_
  obtain ⟨v5, hg, hf⟩ := gfR_inv hf
  refine r_gfR hC hw hg clX6 (Nat.le_of_ble_eq_true rfl) lkF_X6_13 rfl dX6_random_24 ?_
  refine lv_iload_n hx hb dX6_random_27 rfl (lv_at hl 1 rfl) ?_
  obtain ⟨v6, hg, hf⟩ := ldA_inv hf
  refine r_ldA hC hw hg dX6_random_28 ?_
  refine lv_iload_n hx hb dX6_random_29 rfl (lv_at hl 2 rfl) ?_
  refine lv_iload_n hx hb dX6_random_30 rfl (lv_at hl 3 rfl) ?_
  obtain ⟨ho, hf⟩ := chk_inv hf
  obtain ⟨_, σ7, hk, hf⟩ := bnd_inv hf
  refine z_callV (As := [.int a2, .int a3]) (rest := []) (m_X0_draw hC.2.2.2.2.2.2.2.2 hk) hC hw wd_X0_draw lkM_X6_111 (isO_sh ho) rfl rfl ⟨rfl, rfl⟩ ⟨(Nat.le_of_ble_eq_true rfl), (Nat.le_of_ble_eq_true rfl)⟩ hl.1 rfl (Nat.le_of_ble_eq_true rfl) dX6_random_31 ⟨(Nat.le_of_ble_eq_true rfl), (Nat.le_of_ble_eq_true rfl)⟩ (fun H locs hw => ?_)
  refine lv_aload_n hx hb dX6_random_34 rfl (lv_at hl 0 rfl) ?_
  obtain ⟨v8, hg, hf⟩ := gfR_inv hf
  refine r_gfR hC hw hg clX6 (Nat.le_of_ble_eq_true rfl) lkF_X6_13 rfl dX6_random_35 ?_
  refine lv_iload_n hx hb dX6_random_38 rfl (lv_at hl 1 rfl) ?_
  obtain ⟨v9, hg, hf⟩ := ldA_inv hf
  refine r_ldA hC hw hg dX6_random_39 ?_
  obtain ⟨ho, hf⟩ := chk_inv hf
  obtain ⟨r11, σ10, hk, hf⟩ := bnd_inv hf
  refine z_callV (As := []) (rest := []) (m_X0_emptyWeight hC.2.2.2.2.2.2.2.2 hk) hC hw wd_X0_emptyWeight lkM_X6_114 (isO_sh ho) rfl rfl ⟨rfl, rfl⟩ ⟨(Nat.le_of_ble_eq_true rfl), (Nat.le_of_ble_eq_true rfl)⟩ hl.1 rfl (Nat.le_of_ble_eq_true rfl) dX6_random_40 ⟨(Nat.le_of_ble_eq_true rfl), (Nat.le_of_ble_eq_true rfl)⟩ (fun H locs hw => ?_)
  refine vx_ret ?_
  refine W.widen (k := 3) (n := 18) (Nat.le_of_ble_eq_true rfl) (Nat.le_of_ble_eq_true rfl) ?_
  exact W.iret hx hb hr (z_retx hw (Option.some.inj hf).symm rfl) hw.2.2.2.2.2 dX6_random_43 hC.2.2.2.2.2.1
set_option maxHeartbeats 4000000 in
set_option maxRecDepth 100000 in
theorem m_X6_states (h9 : l.stackTraces = false) {Γ : zSh} {a0 : Nat} {a1 : Int32} {σ : zSt} {out : ((Int32 × zSt) ⊕ (Nat × zSt))} (hf : f_X6_states Γ a0 a1 σ = some out) : vx_Met l yX6_states (wq yX6_states cX6_states 2 (Option.some FieldType.int)) rm_X6_states (zQ0 D cA B0 [.ref a0, .int a1] Γ σ (ZB B0)) (zQx D cA B0 (fun r : Int32 => some (.int r)) Γ out (ZB B0)) (zXx D cA B0 Γ out (ZB B0)) 1 6 (FR B0) := by
  refine z_ofX h9 (by decide) (Nat.le_of_ble_eq_true rfl) ?_
  intro p e s m args below meth c ls hC hr htab hw hl
  have hx := hC.1
  have hb := hC.2.1
  have hl : lv_has ls 2 [(0, .ref a0), (1, .int a1)] := hl
  unfold f_X6_states at hf
  refine lv_iload_n hx hb dX6_states_0 rfl (lv_at hl 1 rfl) ?_
  obtain ⟨q, hk, hn, hxx⟩ := xbnd_inv hf
  refine z_xcallS (As := [.int a1]) (rest := []) (m_X6_checkSlot hC.2.2.2.2.2.2.2.2 hk) hC hw wd_X6_checkSlot lkM_X6_78 rfl ⟨rfl, rfl⟩ ⟨(Nat.le_of_ble_eq_true rfl), (Nat.le_of_ble_eq_true rfl)⟩ hl.1 rfl (Nat.le_of_ble_eq_true rfl) dX6_states_1 ⟨(Nat.le_of_ble_eq_true rfl), (Nat.le_of_ble_eq_true rfl)⟩ (fun u9 σ1 eq H locs hw => ?_) (fun k9 s9 eq H locs q9 ce9 hw e1 e2 e3 => z_xout hC hw (hxx _ _ eq) htab e1 e2 e3 (Nat.le_of_ble_eq_true rfl) (Nat.le_of_ble_eq_true rfl))
  have hf := hn _ _ eq
  refine lv_aload_n hx hb dX6_states_4 rfl (lv_at hl 0 rfl) ?_
  obtain ⟨v2, hg, hf⟩ := gfR_inv hf
  refine r_gfR hC hw hg clX6 (Nat.le_of_ble_eq_true rfl) lkF_X6_13 rfl dX6_states_5 ?_
  refine lv_iload_n hx hb dX6_states_8 rfl (lv_at hl 1 rfl) ?_
  obtain ⟨v3, hg, hf⟩ := ldA_inv hf
  refine r_ldA hC hw hg dX6_states_9 ?_
  obtain ⟨v4, hg, hf⟩ := gfI_inv hf
  refine r_gfI hC hw hg clX0 (Nat.le_of_ble_eq_true rfl) lkF_X6_85 rfl dX6_states_10 ?_
  refine vx_ret ?_
  refine W.widen (k := 1) (n := 6) (Nat.le_of_ble_eq_true rfl) (Nat.le_of_ble_eq_true rfl) ?_
  exact W.iret hx hb hr (z_retx hw (Option.some.inj hf).symm rfl) hw.2.2.2.2.2 dX6_states_13 hC.2.2.2.2.2.1
set_option maxHeartbeats 4000000 in
set_option maxRecDepth 100000 in
theorem m_X6_weight (h9 : l.stackTraces = false) {Γ : zSh} {a0 : Nat} {a1 : Int32} {a2 : Int32} {σ : zSt} {out : ((Int32 × zSt) ⊕ (Nat × zSt))} (hf : f_X6_weight Γ a0 a1 a2 σ = some out) : vx_Met l yX6_weight (wq yX6_weight cX6_weight 3 (Option.some FieldType.int)) rm_X6_weight (zQ0 D cA B0 [.ref a0, .int a1, .int a2] Γ σ (ZB B0)) (zQx D cA B0 (fun r : Int32 => some (.int r)) Γ out (ZB B0)) (zXx D cA B0 Γ out (ZB B0)) 2 12 (FR B0) := by
  refine z_ofX h9 (by decide) (Nat.le_of_ble_eq_true rfl) ?_
  intro p e s m args below meth c ls hC hr htab hw hl
  have hx := hC.1
  have hb := hC.2.1
  have hl : lv_has ls 3 [(0, .ref a0), (1, .int a1), (2, .int a2)] := hl
  unfold f_X6_weight at hf
  refine lv_iload_n hx hb dX6_weight_0 rfl (lv_at hl 1 rfl) ?_
  obtain ⟨q, hk, hn, hxx⟩ := xbnd_inv hf
  refine z_xcallS (As := [.int a1]) (rest := []) (m_X6_checkSlot hC.2.2.2.2.2.2.2.2 hk) hC hw wd_X6_checkSlot lkM_X6_78 rfl ⟨rfl, rfl⟩ ⟨(Nat.le_of_ble_eq_true rfl), (Nat.le_of_ble_eq_true rfl)⟩ hl.1 rfl (Nat.le_of_ble_eq_true rfl) dX6_weight_1 ⟨(Nat.le_of_ble_eq_true rfl), (Nat.le_of_ble_eq_true rfl)⟩ (fun u9 σ1 eq H locs hw => ?_) (fun k9 s9 eq H locs q9 ce9 hw e1 e2 e3 => z_xout hC hw (hxx _ _ eq) htab e1 e2 e3 (Nat.le_of_ble_eq_true rfl) (Nat.le_of_ble_eq_true rfl))
  have hf := hn _ _ eq
  refine lv_iload_n hx hb dX6_weight_4 rfl (lv_at hl 2 rfl) ?_
  refine lv_iconst (v := 0) hx hb dX6_weight_5 (by decide) ?_
  refine lv_ldc (v := 1000000) hx hb hC.2.2.2.1 (hC.2.2.2.2.1 _ lkK_X6_118) dX6_weight_6 ?_
  obtain ⟨q, hk, hn, hxx⟩ := xbnd_inv hf
  refine z_xcallS (As := [.int a2, .int 0, .int 1000000]) (rest := []) (m_X6_checkRange hC.2.2.2.2.2.2.2.2 hk) hC hw wd_X6_checkRange lkM_X6_81 rfl ⟨rfl, rfl⟩ ⟨(Nat.le_of_ble_eq_true rfl), (Nat.le_of_ble_eq_true rfl)⟩ hl.1 rfl (Nat.le_of_ble_eq_true rfl) dX6_weight_8 ⟨(Nat.le_of_ble_eq_true rfl), (Nat.le_of_ble_eq_true rfl)⟩ (fun u9 σ2 eq H locs hw => ?_) (fun k9 s9 eq H locs q9 ce9 hw e1 e2 e3 => z_xout hC hw (hxx _ _ eq) htab e1 e2 e3 (Nat.le_of_ble_eq_true rfl) (Nat.le_of_ble_eq_true rfl))
  have hf := hn _ _ eq
  refine lv_aload_n hx hb dX6_weight_11 rfl (lv_at hl 0 rfl) ?_
  obtain ⟨v3, hg, hf⟩ := gfR_inv hf
  refine r_gfR hC hw hg clX6 (Nat.le_of_ble_eq_true rfl) lkF_X6_43 rfl dX6_weight_12 ?_
  refine lv_aload_n hx hb dX6_weight_15 rfl (lv_at hl 0 rfl) ?_
  obtain ⟨v4, hg, hf⟩ := gfR_inv hf
  refine r_gfR hC hw hg clX6 (Nat.le_of_ble_eq_true rfl) lkF_X6_13 rfl dX6_weight_16 ?_
  refine lv_iload_n hx hb dX6_weight_19 rfl (lv_at hl 1 rfl) ?_
  obtain ⟨v5, hg, hf⟩ := ldA_inv hf
  refine r_ldA hC hw hg dX6_weight_20 ?_
  obtain ⟨ho, hf⟩ := chk_inv hf
  obtain ⟨_, σ6, hk, hf⟩ := bnd_inv hf
  refine z_callV (As := [.ref v5]) (rest := []) (m_X5_start hC.2.2.2.2.2.2.2.2 hk) hC hw wd_X5_start lkM_X6_119 (isO_sh ho) rfl rfl ⟨rfl, rfl⟩ ⟨(Nat.le_of_ble_eq_true rfl), (Nat.le_of_ble_eq_true rfl)⟩ hl.1 rfl (Nat.le_of_ble_eq_true rfl) dX6_weight_21 ⟨(Nat.le_of_ble_eq_true rfl), (Nat.le_of_ble_eq_true rfl)⟩ (fun H locs hw => ?_)
  refine lv_aload_n hx hb dX6_weight_24 rfl (lv_at hl 0 rfl) ?_
  obtain ⟨v7, hg, hf⟩ := gfR_inv hf
  refine r_gfR hC hw hg clX6 (Nat.le_of_ble_eq_true rfl) lkF_X6_43 rfl dX6_weight_25 ?_
  refine lv_aload_n hx hb dX6_weight_28 rfl (lv_at hl 0 rfl) ?_
  obtain ⟨v8, hg, hf⟩ := gfR_inv hf
  refine r_gfR hC hw hg clX6 (Nat.le_of_ble_eq_true rfl) lkF_X6_13 rfl dX6_weight_29 ?_
  refine lv_iload_n hx hb dX6_weight_32 rfl (lv_at hl 1 rfl) ?_
  obtain ⟨v9, hg, hf⟩ := ldA_inv hf
  refine r_ldA hC hw hg dX6_weight_33 ?_
  refine lv_iload_n hx hb dX6_weight_34 rfl (lv_at hl 2 rfl) ?_
  obtain ⟨ho, hf⟩ := chk_inv hf
  obtain ⟨_, σ10, hk, hf⟩ := bnd_inv hf
  refine z_callV (As := [.ref v9, .int a2]) (rest := []) (m_X5_takeWord hC.2.2.2.2.2.2.2.2 hk) hC hw wd_X5_takeWord lkM_X6_123 (isO_sh ho) rfl rfl ⟨rfl, rfl⟩ ⟨(Nat.le_of_ble_eq_true rfl), (Nat.le_of_ble_eq_true rfl)⟩ hl.1 rfl (Nat.le_of_ble_eq_true rfl) dX6_weight_35 ⟨(Nat.le_of_ble_eq_true rfl), (Nat.le_of_ble_eq_true rfl)⟩ (fun H locs hw => ?_)
  refine lv_aload_n hx hb dX6_weight_38 rfl (lv_at hl 0 rfl) ?_
  obtain ⟨v11, hg, hf⟩ := gfR_inv hf
  refine r_gfR hC hw hg clX6 (Nat.le_of_ble_eq_true rfl) lkF_X6_43 rfl dX6_weight_39 ?_
  refine lv_aload_n hx hb dX6_weight_42 rfl (lv_at hl 0 rfl) ?_
  obtain ⟨v12, hg, hf⟩ := gfR_inv hf
  refine r_gfR hC hw hg clX6 (Nat.le_of_ble_eq_true rfl) lkF_X6_13 rfl dX6_weight_43 ?_
  refine lv_iload_n hx hb dX6_weight_46 rfl (lv_at hl 1 rfl) ?_
  obtain ⟨v13, hg, hf⟩ := ldA_inv hf
  refine r_ldA hC hw hg dX6_weight_47 ?_
  obtain ⟨ho, hf⟩ := chk_inv hf
  obtain ⟨r15, σ14, hk, hf⟩ := bnd_inv hf
  refine z_callV (As := [.ref v13]) (rest := []) (m_X5_value hC.2.2.2.2.2.2.2.2 hk) hC hw wd_X5_value lkM_X6_127 (isO_sh ho) rfl rfl ⟨rfl, rfl⟩ ⟨(Nat.le_of_ble_eq_true rfl), (Nat.le_of_ble_eq_true rfl)⟩ hl.1 rfl (Nat.le_of_ble_eq_true rfl) dX6_weight_48 ⟨(Nat.le_of_ble_eq_true rfl), (Nat.le_of_ble_eq_true rfl)⟩ (fun H locs hw => ?_)
  refine vx_ret ?_
  refine W.widen (k := 2) (n := 12) (Nat.le_of_ble_eq_true rfl) (Nat.le_of_ble_eq_true rfl) ?_
  exact W.iret hx hb hr (z_retx hw (Option.some.inj hf).symm rfl) hw.2.2.2.2.2 dX6_weight_51 hC.2.2.2.2.2.1
set_option maxHeartbeats 4000000 in
set_option maxRecDepth 100000 in
theorem t_X6_powerWeight_B35 (hC : zC p l s m args meth c cX6_powerWeight 5 RX6 D cA B0) (hr : meth.sig.returnType = (Option.some FieldType.int)) (htab : ∀ x ∈ c.exceptionTable.toList, False) {Γ : zSh} {x0 : Nat} {x1 : Int32} {x2 : Int32} {x3 : Int32} {x4 : Int32} {σ : zSt} {out : ((Int32 × zSt) ⊕ (zSt))} (hf : f_X6_powerWeight_B35 Γ x0 x1 x2 x3 x4 σ = some out) {H : Heap} {locs : List Loc} {ls : Array Slot} (hw : zO D cA B0 Γ σ (ZB B0) s.heap H locs) (hl : lv_has ls 5 [(0, .ref x0), (1, .int x1), (2, .int x2), (3, .int x3), (4, .int x4)])
    (kI : ∀ (z4 : Int32) (σ2 : zSt), out = .inl (z4, σ2) → ∀ (H : Heap) (locs : List Loc) (ls : Array Slot), zO D cA B0 Γ σ2 (ZB B0) s.heap H locs → lv_has ls 5 [(0, .ref x0), (1, .int x1), (2, .int x2), (3, .int x3), (4, .int z4)] → W p l e rm_X6_powerWeight s m args below meth c H locs 3 18 Q (F0 m 35 ls []))
    (kE : ∀ (σ2 : zSt), out = .inr σ2 → ∀ (H : Heap) (locs : List Loc) (ls : Array Slot), zO D cA B0 Γ σ2 (ZB B0) s.heap H locs → lv_has ls 5 [(0, .ref x0), (1, .int x1)] → W p l e rm_X6_powerWeight s m args below meth c H locs 3 18 Q (F0 m 61 ls [])) :
    W p l e rm_X6_powerWeight s m args below meth c H locs 3 18 Q (F0 m 35 ls []) := by
  have hx := hC.1
  have hb := hC.2.1
  unfold f_X6_powerWeight_B35 at hf
  refine lv_iload hx hb dX6_powerWeight_35 (lv_at hl 4 rfl) ?_
  refine lv_iload_n hx hb dX6_powerWeight_37 rfl (lv_at hl 3 rfl) ?_
  refine lv_icmp_ge (tgt := 61) hx hb dX6_powerWeight_38 (by decide) (fun hc => ?_) (fun hc => ?_)
  · rw [if_pos hc] at hf
    exact kE  σ (Option.some.inj hf).symm _ _ _ hw (lv_sub hl [0, 1] rfl)
  · rw [if_neg hc] at hf
    refine lv_aload_n hx hb dX6_powerWeight_41 rfl (lv_at hl 0 rfl) ?_
    obtain ⟨v8, hg, hf⟩ := gfR_inv hf
    refine r_gfR hC hw hg clX6 (Nat.le_of_ble_eq_true rfl) lkF_X6_43 rfl dX6_powerWeight_42 ?_
    refine lv_aload_n hx hb dX6_powerWeight_45 rfl (lv_at hl 0 rfl) ?_
    obtain ⟨v9, hg, hf⟩ := gfR_inv hf
    refine r_gfR hC hw hg clX6 (Nat.le_of_ble_eq_true rfl) lkF_X6_13 rfl dX6_powerWeight_46 ?_
    refine lv_iload_n hx hb dX6_powerWeight_49 rfl (lv_at hl 1 rfl) ?_
    obtain ⟨v10, hg, hf⟩ := ldA_inv hf
    refine r_ldA hC hw hg dX6_powerWeight_50 ?_
    refine lv_iload_n hx hb dX6_powerWeight_51 rfl (lv_at hl 2 rfl) ?_
    obtain ⟨ho, hf⟩ := chk_inv hf
    obtain ⟨_, σ11, hk, hf⟩ := bnd_inv hf
    refine z_callV (As := [.ref v10, .int x2]) (rest := []) (m_X5_takeWord hC.2.2.2.2.2.2.2.2 hk) hC hw wd_X5_takeWord lkM_X6_123 (isO_sh ho) rfl rfl ⟨rfl, rfl⟩ ⟨(Nat.le_of_ble_eq_true rfl), (Nat.le_of_ble_eq_true rfl)⟩ hl.1 rfl (Nat.le_of_ble_eq_true rfl) dX6_powerWeight_52 ⟨(Nat.le_of_ble_eq_true rfl), (Nat.le_of_ble_eq_true rfl)⟩ (fun H locs hw => ?_)
    refine lv_iinc (v := (x4 + 1)) (lv' := [(4, .int (x4 + 1)), (0, .ref x0), (1, .int x1), (2, .int x2), (3, .int x3)]) hx hb dX6_powerWeight_55 hl (k := 4) rfl rfl (Nat.le_of_ble_eq_true rfl) rfl (fun ls hl => ?_)
    refine lv_goto (tgt := 35) hx hb dX6_powerWeight_58 (by decide) ?_
    exact kI (x4 + 1) σ11 (Option.some.inj hf).symm _ _ _ hw (lv_sub hl [1, 2, 3, 4, 0] rfl)
set_option maxHeartbeats 4000000 in
theorem l_X6_powerWeight_B35 (hC : zC p l s m args meth c cX6_powerWeight 5 RX6 D cA B0) (hr : meth.sig.returnType = (Option.some FieldType.int)) (htab : ∀ x ∈ c.exceptionTable.toList, False) {Γ : zSh} {x0 : Nat} {x1 : Int32} {x2 : Int32} {x3 : Int32} {σ2 : zSt} (kE : ∀ (H : Heap) (locs : List Loc) (ls : Array Slot), zO D cA B0 Γ σ2 (ZB B0) s.heap H locs → lv_has ls 5 [(0, .ref x0), (1, .int x1)] → W p l e rm_X6_powerWeight s m args below meth c H locs 3 18 Q (F0 m 61 ls [])) :
    ∀ (n : Nat) (x4 : Int32) (σ : zSt), loopM (fun q => f_X6_powerWeight_B35 Γ x0 x1 x2 x3 q.1 q.2) n (x4, σ) = some σ2 → ∀ (H : Heap) (locs : List Loc) (ls : Array Slot), zO D cA B0 Γ σ (ZB B0) s.heap H locs → lv_has ls 5 [(0, .ref x0), (1, .int x1), (2, .int x2), (3, .int x3), (4, .int x4)] → W p l e rm_X6_powerWeight s m args below meth c H locs 3 18 Q (F0 m 35 ls []) := by
  intro n
  induction n with
  | zero => intro x4 σ h; exact absurd h (by simp [loopM])
  | succ n ih =>
    intro x4 σ h H locs ls hw hl
    obtain ⟨r, h1, h2, h3⟩ := loopM_inv h
    exact t_X6_powerWeight_B35 hC hr htab h1 hw hl (fun z4 s2 e H locs ls hw hl => ih z4 s2 (h2 _ e) H locs ls hw hl) (fun s2 e H locs ls hw hl => by cases h3 _ e; exact kE H locs ls hw hl)
set_option maxHeartbeats 4000000 in
set_option maxRecDepth 100000 in
theorem m_X6_powerWeight (h9 : l.stackTraces = false) {Γ : zSh} {a0 : Nat} {a1 : Int32} {a2 : Int32} {a3 : Int32} {σ : zSt} {out : ((Int32 × zSt) ⊕ (Nat × zSt))} (hf : f_X6_powerWeight Γ a0 a1 a2 a3 σ = some out) : vx_Met l yX6_powerWeight (wq yX6_powerWeight cX6_powerWeight 5 (Option.some FieldType.int)) rm_X6_powerWeight (zQ0 D cA B0 [.ref a0, .int a1, .int a2, .int a3] Γ σ (ZB B0)) (zQx D cA B0 (fun r : Int32 => some (.int r)) Γ out (ZB B0)) (zXx D cA B0 Γ out (ZB B0)) 3 18 (FR B0) := by
  refine z_ofX h9 (by decide) (Nat.le_of_ble_eq_true rfl) ?_
  intro p e s m args below meth c ls hC hr htab hw hl
  have hx := hC.1
  have hb := hC.2.1
  have hl : lv_has ls 5 [(0, .ref a0), (1, .int a1), (2, .int a2), (3, .int a3)] := hl
  unfold f_X6_powerWeight at hf
  refine lv_iload_n hx hb dX6_powerWeight_0 rfl (lv_at hl 1 rfl) ?_
  obtain ⟨q, hk, hn, hxx⟩ := xbnd_inv hf
  refine z_xcallS (As := [.int a1]) (rest := []) (m_X6_checkSlot hC.2.2.2.2.2.2.2.2 hk) hC hw wd_X6_checkSlot lkM_X6_78 rfl ⟨rfl, rfl⟩ ⟨(Nat.le_of_ble_eq_true rfl), (Nat.le_of_ble_eq_true rfl)⟩ hl.1 rfl (Nat.le_of_ble_eq_true rfl) dX6_powerWeight_1 ⟨(Nat.le_of_ble_eq_true rfl), (Nat.le_of_ble_eq_true rfl)⟩ (fun u9 σ1 eq H locs hw => ?_) (fun k9 s9 eq H locs q9 ce9 hw e1 e2 e3 => z_xout hC hw (hxx _ _ eq) htab e1 e2 e3 (Nat.le_of_ble_eq_true rfl) (Nat.le_of_ble_eq_true rfl))
  have hf := hn _ _ eq
  refine lv_iload_n hx hb dX6_powerWeight_4 rfl (lv_at hl 2 rfl) ?_
  refine lv_iconst (v := 0) hx hb dX6_powerWeight_5 (by decide) ?_
  refine lv_ldc (v := 1000000) hx hb hC.2.2.2.1 (hC.2.2.2.2.1 _ lkK_X6_118) dX6_powerWeight_6 ?_
  obtain ⟨q, hk, hn, hxx⟩ := xbnd_inv hf
  refine z_xcallS (As := [.int a2, .int 0, .int 1000000]) (rest := []) (m_X6_checkRange hC.2.2.2.2.2.2.2.2 hk) hC hw wd_X6_checkRange lkM_X6_81 rfl ⟨rfl, rfl⟩ ⟨(Nat.le_of_ble_eq_true rfl), (Nat.le_of_ble_eq_true rfl)⟩ hl.1 rfl (Nat.le_of_ble_eq_true rfl) dX6_powerWeight_8 ⟨(Nat.le_of_ble_eq_true rfl), (Nat.le_of_ble_eq_true rfl)⟩ (fun u9 σ2 eq H locs hw => ?_) (fun k9 s9 eq H locs q9 ce9 hw e1 e2 e3 => z_xout hC hw (hxx _ _ eq) htab e1 e2 e3 (Nat.le_of_ble_eq_true rfl) (Nat.le_of_ble_eq_true rfl))
  have hf := hn _ _ eq
  refine lv_iload_n hx hb dX6_powerWeight_11 rfl (lv_at hl 3 rfl) ?_
  refine lv_iconst (v := 0) hx hb dX6_powerWeight_12 (by decide) ?_
  refine lv_sipush (v := 200) hx hb dX6_powerWeight_13 (by decide) ?_
  obtain ⟨q, hk, hn, hxx⟩ := xbnd_inv hf
  refine z_xcallS (As := [.int a3, .int 0, .int 200]) (rest := []) (m_X6_checkRange hC.2.2.2.2.2.2.2.2 hk) hC hw wd_X6_checkRange lkM_X6_81 rfl ⟨rfl, rfl⟩ ⟨(Nat.le_of_ble_eq_true rfl), (Nat.le_of_ble_eq_true rfl)⟩ hl.1 rfl (Nat.le_of_ble_eq_true rfl) dX6_powerWeight_16 ⟨(Nat.le_of_ble_eq_true rfl), (Nat.le_of_ble_eq_true rfl)⟩ (fun u9 σ3 eq H locs hw => ?_) (fun k9 s9 eq H locs q9 ce9 hw e1 e2 e3 => z_xout hC hw (hxx _ _ eq) htab e1 e2 e3 (Nat.le_of_ble_eq_true rfl) (Nat.le_of_ble_eq_true rfl))
  have hf := hn _ _ eq
  refine lv_aload_n hx hb dX6_powerWeight_19 rfl (lv_at hl 0 rfl) ?_
  obtain ⟨v4, hg, hf⟩ := gfR_inv hf
  refine r_gfR hC hw hg clX6 (Nat.le_of_ble_eq_true rfl) lkF_X6_43 rfl dX6_powerWeight_20 ?_
  refine lv_aload_n hx hb dX6_powerWeight_23 rfl (lv_at hl 0 rfl) ?_
  obtain ⟨v5, hg, hf⟩ := gfR_inv hf
  refine r_gfR hC hw hg clX6 (Nat.le_of_ble_eq_true rfl) lkF_X6_13 rfl dX6_powerWeight_24 ?_
  refine lv_iload_n hx hb dX6_powerWeight_27 rfl (lv_at hl 1 rfl) ?_
  obtain ⟨v6, hg, hf⟩ := ldA_inv hf
  refine r_ldA hC hw hg dX6_powerWeight_28 ?_
  obtain ⟨ho, hf⟩ := chk_inv hf
  obtain ⟨_, σ7, hk, hf⟩ := bnd_inv hf
  refine z_callV (As := [.ref v6]) (rest := []) (m_X5_start hC.2.2.2.2.2.2.2.2 hk) hC hw wd_X5_start lkM_X6_119 (isO_sh ho) rfl rfl ⟨rfl, rfl⟩ ⟨(Nat.le_of_ble_eq_true rfl), (Nat.le_of_ble_eq_true rfl)⟩ hl.1 rfl (Nat.le_of_ble_eq_true rfl) dX6_powerWeight_29 ⟨(Nat.le_of_ble_eq_true rfl), (Nat.le_of_ble_eq_true rfl)⟩ (fun H locs hw => ?_)
  refine lv_iconst (v := 0) hx hb dX6_powerWeight_32 (by decide) ?_
  refine lv_istore (lv' := [(4, .int 0), (0, .ref a0), (1, .int a1), (2, .int a2), (3, .int a3)]) hx hb dX6_powerWeight_33 hl (Nat.le_of_ble_eq_true rfl) rfl (fun ls hl => ?_)
  obtain ⟨σ12, hk, hf⟩ := lb0_inv hf
  refine l_X6_powerWeight_B35 hC hr htab (fun H locs ls hw hl => ?_) FUEL 0 σ7 hk _ _ _ hw (lv_sub hl [1, 2, 3, 4, 0] rfl)
  refine lv_aload_n hx hb dX6_powerWeight_61 rfl (lv_at hl 0 rfl) ?_
  obtain ⟨v13, hg, hf⟩ := gfR_inv hf
  refine r_gfR hC hw hg clX6 (Nat.le_of_ble_eq_true rfl) lkF_X6_43 rfl dX6_powerWeight_62 ?_
  refine lv_aload_n hx hb dX6_powerWeight_65 rfl (lv_at hl 0 rfl) ?_
  obtain ⟨v14, hg, hf⟩ := gfR_inv hf
  refine r_gfR hC hw hg clX6 (Nat.le_of_ble_eq_true rfl) lkF_X6_13 rfl dX6_powerWeight_66 ?_
  refine lv_iload_n hx hb dX6_powerWeight_69 rfl (lv_at hl 1 rfl) ?_
  obtain ⟨v15, hg, hf⟩ := ldA_inv hf
  refine r_ldA hC hw hg dX6_powerWeight_70 ?_
  obtain ⟨ho, hf⟩ := chk_inv hf
  obtain ⟨r17, σ16, hk, hf⟩ := bnd_inv hf
  refine z_callV (As := [.ref v15]) (rest := []) (m_X5_value hC.2.2.2.2.2.2.2.2 hk) hC hw wd_X5_value lkM_X6_127 (isO_sh ho) rfl rfl ⟨rfl, rfl⟩ ⟨(Nat.le_of_ble_eq_true rfl), (Nat.le_of_ble_eq_true rfl)⟩ hl.1 rfl (Nat.le_of_ble_eq_true rfl) dX6_powerWeight_71 ⟨(Nat.le_of_ble_eq_true rfl), (Nat.le_of_ble_eq_true rfl)⟩ (fun H locs hw => ?_)
  refine vx_ret ?_
  refine W.widen (k := 3) (n := 18) (Nat.le_of_ble_eq_true rfl) (Nat.le_of_ble_eq_true rfl) ?_
  exact W.iret hx hb hr (z_retx hw (Option.some.inj hf).symm rfl) hw.2.2.2.2.2 dX6_powerWeight_74 hC.2.2.2.2.2.1
set_option maxHeartbeats 4000000 in
set_option maxRecDepth 100000 in
theorem t_X6_total_B27 (hC : zC p l s m args meth c cX6_total 4 RX6 D cA B0) (hr : meth.sig.returnType = (Option.some FieldType.int)) (htab : ∀ x ∈ c.exceptionTable.toList, False) {Γ : zSh} {x0 : Nat} {x1 : Int32} {x2 : Int32} {x3 : Int32} {σ : zSt} {out : ((Int32 × zSt) ⊕ (zSt))} (hf : f_X6_total_B27 Γ x0 x1 x2 x3 σ = some out) {H : Heap} {locs : List Loc} {ls : Array Slot} (hw : zO D cA B0 Γ σ (ZB B0) s.heap H locs) (hl : lv_has ls 4 [(0, .ref x0), (1, .int x1), (2, .int x2), (3, .int x3)])
    (kI : ∀ (z3 : Int32) (σ2 : zSt), out = .inl (z3, σ2) → ∀ (H : Heap) (locs : List Loc) (ls : Array Slot), zO D cA B0 Γ σ2 (ZB B0) s.heap H locs → lv_has ls 4 [(0, .ref x0), (1, .int x1), (2, .int x2), (3, .int z3)] → W p l e rm_X6_total s m args below meth c H locs 2 12 Q (F0 m 27 ls []))
    (kE : ∀ (σ2 : zSt), out = .inr σ2 → ∀ (H : Heap) (locs : List Loc) (ls : Array Slot), zO D cA B0 Γ σ2 (ZB B0) s.heap H locs → lv_has ls 4 [(0, .ref x0), (1, .int x1)] → W p l e rm_X6_total s m args below meth c H locs 2 12 Q (F0 m 51 ls [])) :
    W p l e rm_X6_total s m args below meth c H locs 2 12 Q (F0 m 27 ls []) := by
  have hx := hC.1
  have hb := hC.2.1
  unfold f_X6_total_B27 at hf
  refine lv_iload_n hx hb dX6_total_27 rfl (lv_at hl 3 rfl) ?_
  refine lv_iload_n hx hb dX6_total_28 rfl (lv_at hl 2 rfl) ?_
  refine lv_icmp_ge (tgt := 51) hx hb dX6_total_29 (by decide) (fun hc => ?_) (fun hc => ?_)
  · rw [if_pos hc] at hf
    exact kE  σ (Option.some.inj hf).symm _ _ _ hw (lv_sub hl [0, 1] rfl)
  · rw [if_neg hc] at hf
    refine lv_aload_n hx hb dX6_total_32 rfl (lv_at hl 0 rfl) ?_
    obtain ⟨v7, hg, hf⟩ := gfR_inv hf
    refine r_gfR hC hw hg clX6 (Nat.le_of_ble_eq_true rfl) lkF_X6_43 rfl dX6_total_33 ?_
    refine lv_aload_n hx hb dX6_total_36 rfl (lv_at hl 0 rfl) ?_
    obtain ⟨v8, hg, hf⟩ := gfR_inv hf
    refine r_gfR hC hw hg clX6 (Nat.le_of_ble_eq_true rfl) lkF_X6_13 rfl dX6_total_37 ?_
    refine lv_iload_n hx hb dX6_total_40 rfl (lv_at hl 1 rfl) ?_
    obtain ⟨v9, hg, hf⟩ := ldA_inv hf
    refine r_ldA hC hw hg dX6_total_41 ?_
    obtain ⟨ho, hf⟩ := chk_inv hf
    obtain ⟨_, σ10, hk, hf⟩ := bnd_inv hf
    refine z_callV (As := [.ref v9]) (rest := []) (m_X5_takeBoth hC.2.2.2.2.2.2.2.2 hk) hC hw wd_X5_takeBoth lkM_X6_131 (isO_sh ho) rfl rfl ⟨rfl, rfl⟩ ⟨(Nat.le_of_ble_eq_true rfl), (Nat.le_of_ble_eq_true rfl)⟩ hl.1 rfl (Nat.le_of_ble_eq_true rfl) dX6_total_42 ⟨(Nat.le_of_ble_eq_true rfl), (Nat.le_of_ble_eq_true rfl)⟩ (fun H locs hw => ?_)
    refine lv_iinc (v := (x3 + 1)) (lv' := [(3, .int (x3 + 1)), (0, .ref x0), (1, .int x1), (2, .int x2)]) hx hb dX6_total_45 hl (k := 3) rfl rfl (Nat.le_of_ble_eq_true rfl) rfl (fun ls hl => ?_)
    refine lv_goto (tgt := 27) hx hb dX6_total_48 (by decide) ?_
    exact kI (x3 + 1) σ10 (Option.some.inj hf).symm _ _ _ hw (lv_sub hl [1, 2, 3, 0] rfl)
set_option maxHeartbeats 4000000 in
theorem l_X6_total_B27 (hC : zC p l s m args meth c cX6_total 4 RX6 D cA B0) (hr : meth.sig.returnType = (Option.some FieldType.int)) (htab : ∀ x ∈ c.exceptionTable.toList, False) {Γ : zSh} {x0 : Nat} {x1 : Int32} {x2 : Int32} {σ2 : zSt} (kE : ∀ (H : Heap) (locs : List Loc) (ls : Array Slot), zO D cA B0 Γ σ2 (ZB B0) s.heap H locs → lv_has ls 4 [(0, .ref x0), (1, .int x1)] → W p l e rm_X6_total s m args below meth c H locs 2 12 Q (F0 m 51 ls [])) :
    ∀ (n : Nat) (x3 : Int32) (σ : zSt), loopM (fun q => f_X6_total_B27 Γ x0 x1 x2 q.1 q.2) n (x3, σ) = some σ2 → ∀ (H : Heap) (locs : List Loc) (ls : Array Slot), zO D cA B0 Γ σ (ZB B0) s.heap H locs → lv_has ls 4 [(0, .ref x0), (1, .int x1), (2, .int x2), (3, .int x3)] → W p l e rm_X6_total s m args below meth c H locs 2 12 Q (F0 m 27 ls []) := by
  intro n
  induction n with
  | zero => intro x3 σ h; exact absurd h (by simp [loopM])
  | succ n ih =>
    intro x3 σ h H locs ls hw hl
    obtain ⟨r, h1, h2, h3⟩ := loopM_inv h
    exact t_X6_total_B27 hC hr htab h1 hw hl (fun z3 s2 e H locs ls hw hl => ih z3 s2 (h2 _ e) H locs ls hw hl) (fun s2 e H locs ls hw hl => by cases h3 _ e; exact kE H locs ls hw hl)
set_option maxHeartbeats 4000000 in
set_option maxRecDepth 100000 in
theorem m_X6_total (h9 : l.stackTraces = false) {Γ : zSh} {a0 : Nat} {a1 : Int32} {a2 : Int32} {σ : zSt} {out : ((Int32 × zSt) ⊕ (Nat × zSt))} (hf : f_X6_total Γ a0 a1 a2 σ = some out) : vx_Met l yX6_total (wq yX6_total cX6_total 4 (Option.some FieldType.int)) rm_X6_total (zQ0 D cA B0 [.ref a0, .int a1, .int a2] Γ σ (ZB B0)) (zQx D cA B0 (fun r : Int32 => some (.int r)) Γ out (ZB B0)) (zXx D cA B0 Γ out (ZB B0)) 2 12 (FR B0) := by
  refine z_ofX h9 (by decide) (Nat.le_of_ble_eq_true rfl) ?_
  intro p e s m args below meth c ls hC hr htab hw hl
  have hx := hC.1
  have hb := hC.2.1
  have hl : lv_has ls 4 [(0, .ref a0), (1, .int a1), (2, .int a2)] := hl
  unfold f_X6_total at hf
  refine lv_iload_n hx hb dX6_total_0 rfl (lv_at hl 1 rfl) ?_
  obtain ⟨q, hk, hn, hxx⟩ := xbnd_inv hf
  refine z_xcallS (As := [.int a1]) (rest := []) (m_X6_checkSlot hC.2.2.2.2.2.2.2.2 hk) hC hw wd_X6_checkSlot lkM_X6_78 rfl ⟨rfl, rfl⟩ ⟨(Nat.le_of_ble_eq_true rfl), (Nat.le_of_ble_eq_true rfl)⟩ hl.1 rfl (Nat.le_of_ble_eq_true rfl) dX6_total_1 ⟨(Nat.le_of_ble_eq_true rfl), (Nat.le_of_ble_eq_true rfl)⟩ (fun u9 σ1 eq H locs hw => ?_) (fun k9 s9 eq H locs q9 ce9 hw e1 e2 e3 => z_xout hC hw (hxx _ _ eq) htab e1 e2 e3 (Nat.le_of_ble_eq_true rfl) (Nat.le_of_ble_eq_true rfl))
  have hf := hn _ _ eq
  refine lv_iload_n hx hb dX6_total_4 rfl (lv_at hl 2 rfl) ?_
  refine lv_iconst (v := 0) hx hb dX6_total_5 (by decide) ?_
  refine lv_sipush (v := 2000) hx hb dX6_total_6 (by decide) ?_
  obtain ⟨q, hk, hn, hxx⟩ := xbnd_inv hf
  refine z_xcallS (As := [.int a2, .int 0, .int 2000]) (rest := []) (m_X6_checkRange hC.2.2.2.2.2.2.2.2 hk) hC hw wd_X6_checkRange lkM_X6_81 rfl ⟨rfl, rfl⟩ ⟨(Nat.le_of_ble_eq_true rfl), (Nat.le_of_ble_eq_true rfl)⟩ hl.1 rfl (Nat.le_of_ble_eq_true rfl) dX6_total_9 ⟨(Nat.le_of_ble_eq_true rfl), (Nat.le_of_ble_eq_true rfl)⟩ (fun u9 σ2 eq H locs hw => ?_) (fun k9 s9 eq H locs q9 ce9 hw e1 e2 e3 => z_xout hC hw (hxx _ _ eq) htab e1 e2 e3 (Nat.le_of_ble_eq_true rfl) (Nat.le_of_ble_eq_true rfl))
  have hf := hn _ _ eq
  refine lv_aload_n hx hb dX6_total_12 rfl (lv_at hl 0 rfl) ?_
  obtain ⟨v3, hg, hf⟩ := gfR_inv hf
  refine r_gfR hC hw hg clX6 (Nat.le_of_ble_eq_true rfl) lkF_X6_43 rfl dX6_total_13 ?_
  refine lv_aload_n hx hb dX6_total_16 rfl (lv_at hl 0 rfl) ?_
  obtain ⟨v4, hg, hf⟩ := gfR_inv hf
  refine r_gfR hC hw hg clX6 (Nat.le_of_ble_eq_true rfl) lkF_X6_13 rfl dX6_total_17 ?_
  refine lv_iload_n hx hb dX6_total_20 rfl (lv_at hl 1 rfl) ?_
  obtain ⟨v5, hg, hf⟩ := ldA_inv hf
  refine r_ldA hC hw hg dX6_total_21 ?_
  obtain ⟨ho, hf⟩ := chk_inv hf
  obtain ⟨_, σ6, hk, hf⟩ := bnd_inv hf
  refine z_callV (As := [.ref v5]) (rest := []) (m_X5_start hC.2.2.2.2.2.2.2.2 hk) hC hw wd_X5_start lkM_X6_119 (isO_sh ho) rfl rfl ⟨rfl, rfl⟩ ⟨(Nat.le_of_ble_eq_true rfl), (Nat.le_of_ble_eq_true rfl)⟩ hl.1 rfl (Nat.le_of_ble_eq_true rfl) dX6_total_22 ⟨(Nat.le_of_ble_eq_true rfl), (Nat.le_of_ble_eq_true rfl)⟩ (fun H locs hw => ?_)
  refine lv_iconst (v := 0) hx hb dX6_total_25 (by decide) ?_
  refine lv_istore_n (lv' := [(3, .int 0), (0, .ref a0), (1, .int a1), (2, .int a2)]) hx hb dX6_total_26 rfl hl (Nat.le_of_ble_eq_true rfl) rfl (fun ls hl => ?_)
  obtain ⟨σ11, hk, hf⟩ := lb0_inv hf
  refine l_X6_total_B27 hC hr htab (fun H locs ls hw hl => ?_) FUEL 0 σ6 hk _ _ _ hw (lv_sub hl [1, 2, 3, 0] rfl)
  refine lv_aload_n hx hb dX6_total_51 rfl (lv_at hl 0 rfl) ?_
  obtain ⟨v12, hg, hf⟩ := gfR_inv hf
  refine r_gfR hC hw hg clX6 (Nat.le_of_ble_eq_true rfl) lkF_X6_43 rfl dX6_total_52 ?_
  refine lv_aload_n hx hb dX6_total_55 rfl (lv_at hl 0 rfl) ?_
  obtain ⟨v13, hg, hf⟩ := gfR_inv hf
  refine r_gfR hC hw hg clX6 (Nat.le_of_ble_eq_true rfl) lkF_X6_13 rfl dX6_total_56 ?_
  refine lv_iload_n hx hb dX6_total_59 rfl (lv_at hl 1 rfl) ?_
  obtain ⟨v14, hg, hf⟩ := ldA_inv hf
  refine r_ldA hC hw hg dX6_total_60 ?_
  obtain ⟨ho, hf⟩ := chk_inv hf
  obtain ⟨r16, σ15, hk, hf⟩ := bnd_inv hf
  refine z_callV (As := [.ref v14]) (rest := []) (m_X5_value hC.2.2.2.2.2.2.2.2 hk) hC hw wd_X5_value lkM_X6_127 (isO_sh ho) rfl rfl ⟨rfl, rfl⟩ ⟨(Nat.le_of_ble_eq_true rfl), (Nat.le_of_ble_eq_true rfl)⟩ hl.1 rfl (Nat.le_of_ble_eq_true rfl) dX6_total_61 ⟨(Nat.le_of_ble_eq_true rfl), (Nat.le_of_ble_eq_true rfl)⟩ (fun H locs hw => ?_)
  refine vx_ret ?_
  refine W.widen (k := 2) (n := 12) (Nat.le_of_ble_eq_true rfl) (Nat.le_of_ble_eq_true rfl) ?_
  exact W.iret hx hb hr (z_retx hw (Option.some.inj hf).symm rfl) hw.2.2.2.2.2 dX6_total_64 hC.2.2.2.2.2.1
set_option maxHeartbeats 4000000 in
set_option maxRecDepth 100000 in
theorem m_X6_first (h9 : l.stackTraces = false) {Γ : zSh} {a0 : Nat} {a1 : Int32} {σ : zSt} {out : ((Int32 × zSt) ⊕ (Nat × zSt))} (hf : f_X6_first Γ a0 a1 σ = some out) : vx_Met l yX6_first (wq yX6_first cX6_first 2 (Option.some FieldType.int)) rm_X6_first (zQ0 D cA B0 [.ref a0, .int a1] Γ σ (ZB B0)) (zQx D cA B0 (fun r : Int32 => some (.int r)) Γ out (ZB B0)) (zXx D cA B0 Γ out (ZB B0)) 1 6 (FR B0) := by
  refine z_ofX h9 (by decide) (Nat.le_of_ble_eq_true rfl) ?_
  intro p e s m args below meth c ls hC hr htab hw hl
  have hx := hC.1
  have hb := hC.2.1
  have hl : lv_has ls 2 [(0, .ref a0), (1, .int a1)] := hl
  unfold f_X6_first at hf
  refine lv_iload_n hx hb dX6_first_0 rfl (lv_at hl 1 rfl) ?_
  obtain ⟨q, hk, hn, hxx⟩ := xbnd_inv hf
  refine z_xcallS (As := [.int a1]) (rest := []) (m_X6_checkSlot hC.2.2.2.2.2.2.2.2 hk) hC hw wd_X6_checkSlot lkM_X6_78 rfl ⟨rfl, rfl⟩ ⟨(Nat.le_of_ble_eq_true rfl), (Nat.le_of_ble_eq_true rfl)⟩ hl.1 rfl (Nat.le_of_ble_eq_true rfl) dX6_first_1 ⟨(Nat.le_of_ble_eq_true rfl), (Nat.le_of_ble_eq_true rfl)⟩ (fun u9 σ1 eq H locs hw => ?_) (fun k9 s9 eq H locs q9 ce9 hw e1 e2 e3 => z_xout hC hw (hxx _ _ eq) htab e1 e2 e3 (Nat.le_of_ble_eq_true rfl) (Nat.le_of_ble_eq_true rfl))
  have hf := hn _ _ eq
  refine lv_aload_n hx hb dX6_first_4 rfl (lv_at hl 0 rfl) ?_
  obtain ⟨v2, hg, hf⟩ := gfR_inv hf
  refine r_gfR hC hw hg clX6 (Nat.le_of_ble_eq_true rfl) lkF_X6_57 rfl dX6_first_5 ?_
  refine lv_aload_n hx hb dX6_first_8 rfl (lv_at hl 0 rfl) ?_
  obtain ⟨v3, hg, hf⟩ := gfR_inv hf
  refine r_gfR hC hw hg clX6 (Nat.le_of_ble_eq_true rfl) lkF_X6_13 rfl dX6_first_9 ?_
  refine lv_iload_n hx hb dX6_first_12 rfl (lv_at hl 1 rfl) ?_
  obtain ⟨v4, hg, hf⟩ := ldA_inv hf
  refine r_ldA hC hw hg dX6_first_13 ?_
  obtain ⟨ho, hf⟩ := chk_inv hf
  obtain ⟨_, σ5, hk, hf⟩ := bnd_inv hf
  refine z_callV (As := [.ref v4]) (rest := []) (m_X1_explore hC.2.2.2.2.2.2.2.2 hk) hC hw wd_X1_explore lkM_X6_139 (isO_sh ho) rfl rfl ⟨rfl, rfl⟩ ⟨(Nat.le_of_ble_eq_true rfl), (Nat.le_of_ble_eq_true rfl)⟩ hl.1 rfl (Nat.le_of_ble_eq_true rfl) dX6_first_14 ⟨(Nat.le_of_ble_eq_true rfl), (Nat.le_of_ble_eq_true rfl)⟩ (fun H locs hw => ?_)
  refine lv_aload_n hx hb dX6_first_17 rfl (lv_at hl 0 rfl) ?_
  obtain ⟨v6, hg, hf⟩ := gfR_inv hf
  refine r_gfR hC hw hg clX6 (Nat.le_of_ble_eq_true rfl) lkF_X6_57 rfl dX6_first_18 ?_
  obtain ⟨ho, hf⟩ := chk_inv hf
  obtain ⟨r8, σ7, hk, hf⟩ := bnd_inv hf
  refine z_callV (As := []) (rest := []) (m_X1_firstWeighted hC.2.2.2.2.2.2.2.2 hk) hC hw wd_X1_firstWeighted lkM_X6_142 (isO_sh ho) rfl rfl ⟨rfl, rfl⟩ ⟨(Nat.le_of_ble_eq_true rfl), (Nat.le_of_ble_eq_true rfl)⟩ hl.1 rfl (Nat.le_of_ble_eq_true rfl) dX6_first_21 ⟨(Nat.le_of_ble_eq_true rfl), (Nat.le_of_ble_eq_true rfl)⟩ (fun H locs hw => ?_)
  refine vx_ret ?_
  refine W.widen (k := 1) (n := 6) (Nat.le_of_ble_eq_true rfl) (Nat.le_of_ble_eq_true rfl) ?_
  exact W.iret hx hb hr (z_retx hw (Option.some.inj hf).symm rfl) hw.2.2.2.2.2 dX6_first_24 hC.2.2.2.2.2.1
set_option maxHeartbeats 4000000 in
set_option maxRecDepth 100000 in
theorem m_X6_store (h9 : l.stackTraces = false) {Γ : zSh} {a0 : Nat} {a1 : Int32} {σ : zSt} {r : Int32} {σ2 : zSt} (hf : f_X6_store Γ a0 a1 σ = some (r, σ2)) : Met l yX6_store (wq yX6_store cX6_store 2 (Option.some FieldType.int)) rm_X6_store (zQ0 D cA B0 [.ref a0, .int a1] Γ σ Z) (zQ1 D cA B0 (some (.int r)) Γ σ2 Z) 0 0 (FR B0) := by
  refine z_ofW h9 (by decide) (Nat.le_of_ble_eq_true rfl) ?_
  intro p e s m args below meth c ls hC hr _ hw hl
  have hx := hC.1
  have hb := hC.2.1
  have hl : lv_has ls 2 [(0, .ref a0), (1, .int a1)] := hl
  unfold f_X6_store at hf
  refine lv_aload_n hx hb dX6_store_0 rfl (lv_at hl 0 rfl) ?_
  refine lv_iload_n hx hb dX6_store_1 rfl (lv_at hl 1 rfl) ?_
  obtain ⟨ho, hf⟩ := chk_inv hf
  obtain ⟨_, σ1, hk, hf⟩ := bnd_inv hf
  refine z_callV (As := [.int a1]) (rest := []) (m_X6_save hC.2.2.2.2.2.2.2.2 hk) hC hw wd_X6_save lkM_X6_88 (isO_sh ho) rfl rfl ⟨rfl, rfl⟩ ⟨(Nat.le_of_ble_eq_true rfl), (Nat.le_of_ble_eq_true rfl)⟩ hl.1 rfl (Nat.le_of_ble_eq_true rfl) dX6_store_2 ⟨(Nat.le_of_ble_eq_true rfl), (Nat.le_of_ble_eq_true rfl)⟩ (fun H locs hw => ?_)
  refine lv_aload_n hx hb dX6_store_5 rfl (lv_at hl 0 rfl) ?_
  obtain ⟨v2, hg, hf⟩ := gfR_inv hf
  refine r_gfR hC hw hg clX6 (Nat.le_of_ble_eq_true rfl) lkF_X6_13 rfl dX6_store_6 ?_
  refine lv_iload_n hx hb dX6_store_9 rfl (lv_at hl 1 rfl) ?_
  obtain ⟨v3, hg, hf⟩ := ldA_inv hf
  refine r_ldA hC hw hg dX6_store_10 ?_
  refine lv_aload_n hx hb dX6_store_11 rfl (lv_at hl 0 rfl) ?_
  obtain ⟨v4, hg, hf⟩ := gfR_inv hf
  refine r_gfR hC hw hg clX6 (Nat.le_of_ble_eq_true rfl) lkF_X6_33 rfl dX6_store_12 ?_
  obtain ⟨ho, hf⟩ := chk_inv hf
  obtain ⟨_, σ5, hk, hf⟩ := bnd_inv hf
  refine z_callV (As := [.ref v4]) (rest := []) (m_X0_copyFrom hC.2.2.2.2.2.2.2.2 hk) hC hw wd_X0_copyFrom lkM_X6_172 (isO_sh ho) rfl rfl ⟨rfl, rfl⟩ ⟨(Nat.le_of_ble_eq_true rfl), (Nat.le_of_ble_eq_true rfl)⟩ hl.1 rfl (Nat.le_of_ble_eq_true rfl) dX6_store_15 ⟨(Nat.le_of_ble_eq_true rfl), (Nat.le_of_ble_eq_true rfl)⟩ (fun H locs hw => ?_)
  refine lv_aload_n hx hb dX6_store_18 rfl (lv_at hl 0 rfl) ?_
  obtain ⟨v6, hg, hf⟩ := gfR_inv hf
  refine r_gfR hC hw hg clX6 (Nat.le_of_ble_eq_true rfl) lkF_X6_33 rfl dX6_store_19 ?_
  obtain ⟨v7, hg, hf⟩ := gfI_inv hf
  refine r_gfI hC hw hg clX0 (Nat.le_of_ble_eq_true rfl) lkF_X6_85 rfl dX6_store_22 ?_
  first | (obtain ⟨rfl, rfl⟩ := sp_inv hf) | (obtain rfl := Option.some.inj hf)
  exact W.iret hx hb hr (z_ret hw rfl) hw.2.2.2.2.2 dX6_store_25 hC.2.2.2.2.2.1
set_option maxHeartbeats 4000000 in
set_option maxRecDepth 100000 in
theorem t_X6_combine_L135 (hC : zC p l s m args meth c cX6_combine 8 RX6 D cA B0) (hr : meth.sig.returnType = (Option.some FieldType.int)) (htab : ∀ x ∈ c.exceptionTable.toList, False) {Γ : zSh} {x0 : Nat} {x1 : Int32} {σ : zSt} {out : ((Int32 × zSt) ⊕ (Nat × zSt))} (hf : f_X6_combine_L135 Γ x0 x1 σ = some out) {H : Heap} {locs : List Loc} {ls : Array Slot} (hw : zO D cA B0 Γ σ (ZB B0) s.heap H locs) (hl : lv_has ls 8 [(0, .ref x0), (1, .int x1)]) :
    W p l e rm_X6_combine s m args below meth c H locs 4 24 (vx_MQ below (zQx D cA B0 (fun r : Int32 => some (.int r)) Γ out (ZB B0)) (zXx D cA B0 Γ out (ZB B0)) args s 5 30 (FR B0)) (F0 m 135 ls []) := by
  have hx := hC.1
  have hb := hC.2.1
  unfold f_X6_combine_L135 at hf
  refine lv_aload_n hx hb dX6_combine_135 rfl (lv_at hl 0 rfl) ?_
  refine lv_iload_n hx hb dX6_combine_136 rfl (lv_at hl 1 rfl) ?_
  obtain ⟨ho, hf⟩ := chk_inv hf
  obtain ⟨r14, σ13, hk, hf⟩ := bnd_inv hf
  refine z_callV (As := [.int x1]) (rest := []) (m_X6_store hC.2.2.2.2.2.2.2.2 hk) hC hw wd_X6_store lkM_X6_162 (isO_sh ho) rfl rfl ⟨rfl, rfl⟩ ⟨(Nat.le_of_ble_eq_true rfl), (Nat.le_of_ble_eq_true rfl)⟩ hl.1 rfl (Nat.le_of_ble_eq_true rfl) dX6_combine_137 ⟨(Nat.le_of_ble_eq_true rfl), (Nat.le_of_ble_eq_true rfl)⟩ (fun H locs hw => ?_)
  refine vx_ret ?_
  refine W.widen (k := 5) (n := 30) (Nat.le_of_ble_eq_true rfl) (Nat.le_of_ble_eq_true rfl) ?_
  exact W.iret hx hb hr (z_retx hw (Option.some.inj hf).symm rfl) hw.2.2.2.2.2 dX6_combine_140 hC.2.2.2.2.2.1
set_option maxHeartbeats 4000000 in
set_option maxRecDepth 100000 in
theorem t_X6_combine_L66 (hC : zC p l s m args meth c cX6_combine 8 RX6 D cA B0) (hr : meth.sig.returnType = (Option.some FieldType.int)) (htab : ∀ x ∈ c.exceptionTable.toList, False) {Γ : zSh} {x0 : Nat} {x1 : Int32} {x4 : Int32} {x5 : Nat} {x6 : Nat} {s0 : Int32} {σ : zSt} {out : ((Int32 × zSt) ⊕ (Nat × zSt))} (hf : f_X6_combine_L66 Γ x0 x1 x4 x5 x6 s0 σ = some out) {H : Heap} {locs : List Loc} {ls : Array Slot} (hw : zO D cA B0 Γ σ (ZB B0) s.heap H locs) (hl : lv_has ls 8 [(0, .ref x0), (1, .int x1), (4, .int x4), (5, .ref x5), (6, .ref x6)]) :
    W p l e rm_X6_combine s m args below meth c H locs 4 24 (vx_MQ below (zQx D cA B0 (fun r : Int32 => some (.int r)) Γ out (ZB B0)) (zXx D cA B0 Γ out (ZB B0)) args s 5 30 (FR B0)) (F0 m 66 ls [.int s0]) := by
  have hx := hC.1
  have hb := hC.2.1
  unfold f_X6_combine_L66 at hf
  refine lv_istore (lv' := [(7, .int s0), (0, .ref x0), (1, .int x1), (4, .int x4), (5, .ref x5), (6, .ref x6)]) hx hb dX6_combine_66 hl (Nat.le_of_ble_eq_true rfl) rfl (fun ls hl => ?_)
  refine lv_iload hx hb dX6_combine_68 (lv_at hl 0 rfl) ?_
  refine lv_bipush (v := 12) hx hb dX6_combine_70 (by decide) ?_
  refine lv_icmp_le (tgt := 85) hx hb dX6_combine_72 (by decide) (fun hc => ?_) (fun hc => ?_)
  · rw [if_pos hc] at hf
    refine lv_iload hx hb dX6_combine_85 (lv_at hl 3 rfl) ?_
    refine lv_if_ne (tgt := 104) hx hb dX6_combine_87 (by decide) (fun hc => ?_) (fun hc => ?_)
    · rw [if_neg hc] at hf
      refine lv_iload hx hb dX6_combine_104 (lv_at hl 3 rfl) ?_
      refine lv_iconst (v := 1) hx hb dX6_combine_106 (by decide) ?_
      refine lv_icmp_ne (tgt := 124) hx hb dX6_combine_107 (by decide) (fun hc => ?_) (fun hc => ?_)
      · rw [if_neg hc] at hf
        refine lv_aload_n hx hb dX6_combine_124 rfl (lv_at hl 1 rfl) ?_
        obtain ⟨v11, hg, hf⟩ := gfR_inv hf
        refine r_gfR hC hw hg clX6 (Nat.le_of_ble_eq_true rfl) lkF_X6_33 rfl dX6_combine_125 ?_
        refine lv_aload hx hb dX6_combine_128 (lv_at hl 4 rfl) ?_
        refine lv_aload hx hb dX6_combine_130 (lv_at hl 5 rfl) ?_
        obtain ⟨ho, hf⟩ := chk_inv hf
        obtain ⟨_, σ12, hk, hf⟩ := bnd_inv hf
        refine z_callV (As := [.ref x5, .ref x6]) (rest := []) (m_X0_becomeCauchy hC.2.2.2.2.2.2.2.2 hk) hC hw wd_X0_becomeCauchy lkM_X6_159 (isO_sh ho) rfl rfl ⟨rfl, rfl⟩ ⟨(Nat.le_of_ble_eq_true rfl), (Nat.le_of_ble_eq_true rfl)⟩ hl.1 rfl (Nat.le_of_ble_eq_true rfl) dX6_combine_132 ⟨(Nat.le_of_ble_eq_true rfl), (Nat.le_of_ble_eq_true rfl)⟩ (fun H locs hw => ?_)
        exact t_X6_combine_L135 hC hr htab hf hw (lv_sub hl [1, 2] rfl)
      · rw [if_pos hc] at hf
        refine lv_aload_n hx hb dX6_combine_110 rfl (lv_at hl 1 rfl) ?_
        obtain ⟨v15, hg, hf⟩ := gfR_inv hf
        refine r_gfR hC hw hg clX6 (Nat.le_of_ble_eq_true rfl) lkF_X6_33 rfl dX6_combine_111 ?_
        refine lv_aload hx hb dX6_combine_114 (lv_at hl 4 rfl) ?_
        refine lv_aload hx hb dX6_combine_116 (lv_at hl 5 rfl) ?_
        obtain ⟨ho, hf⟩ := chk_inv hf
        obtain ⟨_, σ16, hk, hf⟩ := bnd_inv hf
        refine z_callV (As := [.ref x5, .ref x6]) (rest := []) (m_X0_becomeHadamard hC.2.2.2.2.2.2.2.2 hk) hC hw wd_X0_becomeHadamard lkM_X6_156 (isO_sh ho) rfl rfl ⟨rfl, rfl⟩ ⟨(Nat.le_of_ble_eq_true rfl), (Nat.le_of_ble_eq_true rfl)⟩ hl.1 rfl (Nat.le_of_ble_eq_true rfl) dX6_combine_118 ⟨(Nat.le_of_ble_eq_true rfl), (Nat.le_of_ble_eq_true rfl)⟩ (fun H locs hw => ?_)
        refine lv_goto (tgt := 135) hx hb dX6_combine_121 (by decide) ?_
        exact t_X6_combine_L135 hC hr htab hf hw (lv_sub hl [1, 2] rfl)
    · rw [if_pos hc] at hf
      refine lv_aload_n hx hb dX6_combine_90 rfl (lv_at hl 1 rfl) ?_
      obtain ⟨v17, hg, hf⟩ := gfR_inv hf
      refine r_gfR hC hw hg clX6 (Nat.le_of_ble_eq_true rfl) lkF_X6_33 rfl dX6_combine_91 ?_
      refine lv_aload hx hb dX6_combine_94 (lv_at hl 4 rfl) ?_
      refine lv_aload hx hb dX6_combine_96 (lv_at hl 5 rfl) ?_
      obtain ⟨ho, hf⟩ := chk_inv hf
      obtain ⟨_, σ18, hk, hf⟩ := bnd_inv hf
      refine z_callV (As := [.ref x5, .ref x6]) (rest := []) (m_X0_becomeSum hC.2.2.2.2.2.2.2.2 hk) hC hw wd_X0_becomeSum lkM_X6_152 (isO_sh ho) rfl rfl ⟨rfl, rfl⟩ ⟨(Nat.le_of_ble_eq_true rfl), (Nat.le_of_ble_eq_true rfl)⟩ hl.1 rfl (Nat.le_of_ble_eq_true rfl) dX6_combine_98 ⟨(Nat.le_of_ble_eq_true rfl), (Nat.le_of_ble_eq_true rfl)⟩ (fun H locs hw => ?_)
      refine lv_goto (tgt := 135) hx hb dX6_combine_101 (by decide) ?_
      exact t_X6_combine_L135 hC hr htab hf hw (lv_sub hl [1, 2] rfl)
  · rw [if_neg hc] at hf
    exact z_throwS (k := 2) hC hw zB_up (Option.some.inj hf).symm htab zt_145_149_2 zstr_147 hl.1 dX6_combine_75 dX6_combine_78 dX6_combine_79 dX6_combine_81 dX6_combine_84 (Nat.le_of_ble_eq_true rfl) (Nat.le_of_ble_eq_true rfl) (Nat.le_of_ble_eq_true rfl) (Nat.le_of_ble_eq_true rfl) (Nat.le_of_ble_eq_true rfl) (Nat.le_of_ble_eq_true rfl)
set_option maxHeartbeats 4000000 in
set_option maxRecDepth 100000 in
theorem m_X6_combine (h9 : l.stackTraces = false) {Γ : zSh} {a0 : Nat} {a1 : Int32} {a2 : Int32} {a3 : Int32} {a4 : Int32} {σ : zSt} {out : ((Int32 × zSt) ⊕ (Nat × zSt))} (hf : f_X6_combine Γ a0 a1 a2 a3 a4 σ = some out) : vx_Met l yX6_combine (wq yX6_combine cX6_combine 8 (Option.some FieldType.int)) rm_X6_combine (zQ0 D cA B0 [.ref a0, .int a1, .int a2, .int a3, .int a4] Γ σ (ZB B0)) (zQx D cA B0 (fun r : Int32 => some (.int r)) Γ out (ZB B0)) (zXx D cA B0 Γ out (ZB B0)) 5 30 (FR B0) := by
  refine z_ofX h9 (by decide) (Nat.le_of_ble_eq_true rfl) ?_
  intro p e s m args below meth c ls hC hr htab hw hl
  have hx := hC.1
  have hb := hC.2.1
  have hl : lv_has ls 8 [(0, .ref a0), (1, .int a1), (2, .int a2), (3, .int a3), (4, .int a4)] := hl
  unfold f_X6_combine at hf
  refine lv_iload_n hx hb dX6_combine_0 rfl (lv_at hl 1 rfl) ?_
  obtain ⟨q, hk, hn, hxx⟩ := xbnd_inv hf
  refine z_xcallS (As := [.int a1]) (rest := []) (m_X6_checkSlot hC.2.2.2.2.2.2.2.2 hk) hC hw wd_X6_checkSlot lkM_X6_78 rfl ⟨rfl, rfl⟩ ⟨(Nat.le_of_ble_eq_true rfl), (Nat.le_of_ble_eq_true rfl)⟩ hl.1 rfl (Nat.le_of_ble_eq_true rfl) dX6_combine_1 ⟨(Nat.le_of_ble_eq_true rfl), (Nat.le_of_ble_eq_true rfl)⟩ (fun u9 σ1 eq H locs hw => ?_) (fun k9 s9 eq H locs q9 ce9 hw e1 e2 e3 => z_xout hC hw (hxx _ _ eq) htab e1 e2 e3 (Nat.le_of_ble_eq_true rfl) (Nat.le_of_ble_eq_true rfl))
  have hf := hn _ _ eq
  refine lv_iload_n hx hb dX6_combine_4 rfl (lv_at hl 2 rfl) ?_
  obtain ⟨q, hk, hn, hxx⟩ := xbnd_inv hf
  refine z_xcallS (As := [.int a2]) (rest := []) (m_X6_checkSlot hC.2.2.2.2.2.2.2.2 hk) hC hw wd_X6_checkSlot lkM_X6_78 rfl ⟨rfl, rfl⟩ ⟨(Nat.le_of_ble_eq_true rfl), (Nat.le_of_ble_eq_true rfl)⟩ hl.1 rfl (Nat.le_of_ble_eq_true rfl) dX6_combine_5 ⟨(Nat.le_of_ble_eq_true rfl), (Nat.le_of_ble_eq_true rfl)⟩ (fun u9 σ2 eq H locs hw => ?_) (fun k9 s9 eq H locs q9 ce9 hw e1 e2 e3 => z_xout hC hw (hxx _ _ eq) htab e1 e2 e3 (Nat.le_of_ble_eq_true rfl) (Nat.le_of_ble_eq_true rfl))
  have hf := hn _ _ eq
  refine lv_iload_n hx hb dX6_combine_8 rfl (lv_at hl 3 rfl) ?_
  obtain ⟨q, hk, hn, hxx⟩ := xbnd_inv hf
  refine z_xcallS (As := [.int a3]) (rest := []) (m_X6_checkSlot hC.2.2.2.2.2.2.2.2 hk) hC hw wd_X6_checkSlot lkM_X6_78 rfl ⟨rfl, rfl⟩ ⟨(Nat.le_of_ble_eq_true rfl), (Nat.le_of_ble_eq_true rfl)⟩ hl.1 rfl (Nat.le_of_ble_eq_true rfl) dX6_combine_9 ⟨(Nat.le_of_ble_eq_true rfl), (Nat.le_of_ble_eq_true rfl)⟩ (fun u9 σ3 eq H locs hw => ?_) (fun k9 s9 eq H locs q9 ce9 hw e1 e2 e3 => z_xout hC hw (hxx _ _ eq) htab e1 e2 e3 (Nat.le_of_ble_eq_true rfl) (Nat.le_of_ble_eq_true rfl))
  have hf := hn _ _ eq
  refine lv_iload hx hb dX6_combine_12 (lv_at hl 4 rfl) ?_
  refine lv_iconst (v := 0) hx hb dX6_combine_14 (by decide) ?_
  refine lv_iconst (v := 2) hx hb dX6_combine_15 (by decide) ?_
  obtain ⟨q, hk, hn, hxx⟩ := xbnd_inv hf
  refine z_xcallS (As := [.int a4, .int 0, .int 2]) (rest := []) (m_X6_checkRange hC.2.2.2.2.2.2.2.2 hk) hC hw wd_X6_checkRange lkM_X6_81 rfl ⟨rfl, rfl⟩ ⟨(Nat.le_of_ble_eq_true rfl), (Nat.le_of_ble_eq_true rfl)⟩ hl.1 rfl (Nat.le_of_ble_eq_true rfl) dX6_combine_16 ⟨(Nat.le_of_ble_eq_true rfl), (Nat.le_of_ble_eq_true rfl)⟩ (fun u9 σ4 eq H locs hw => ?_) (fun k9 s9 eq H locs q9 ce9 hw e1 e2 e3 => z_xout hC hw (hxx _ _ eq) htab e1 e2 e3 (Nat.le_of_ble_eq_true rfl) (Nat.le_of_ble_eq_true rfl))
  have hf := hn _ _ eq
  refine lv_aload_n hx hb dX6_combine_19 rfl (lv_at hl 0 rfl) ?_
  obtain ⟨v5, hg, hf⟩ := gfR_inv hf
  refine r_gfR hC hw hg clX6 (Nat.le_of_ble_eq_true rfl) lkF_X6_13 rfl dX6_combine_20 ?_
  refine lv_iload_n hx hb dX6_combine_23 rfl (lv_at hl 2 rfl) ?_
  obtain ⟨v6, hg, hf⟩ := ldA_inv hf
  refine r_ldA hC hw hg dX6_combine_24 ?_
  refine lv_astore (lv' := [(5, .ref v6), (0, .ref a0), (1, .int a1), (2, .int a2), (3, .int a3), (4, .int a4)]) hx hb dX6_combine_25 hl (Nat.le_of_ble_eq_true rfl) rfl (fun ls hl => ?_)
  refine lv_aload_n hx hb dX6_combine_27 rfl (lv_at hl 1 rfl) ?_
  obtain ⟨v7, hg, hf⟩ := gfR_inv hf
  refine r_gfR hC hw hg clX6 (Nat.le_of_ble_eq_true rfl) lkF_X6_13 rfl dX6_combine_28 ?_
  refine lv_iload_n hx hb dX6_combine_31 rfl (lv_at hl 4 rfl) ?_
  obtain ⟨v8, hg, hf⟩ := ldA_inv hf
  refine r_ldA hC hw hg dX6_combine_32 ?_
  refine lv_astore (lv' := [(6, .ref v8), (5, .ref v6), (0, .ref a0), (1, .int a1), (2, .int a2), (3, .int a3), (4, .int a4)]) hx hb dX6_combine_33 hl (Nat.le_of_ble_eq_true rfl) rfl (fun ls hl => ?_)
  refine lv_iload hx hb dX6_combine_35 (lv_at hl 6 rfl) ?_
  refine lv_iconst (v := 1) hx hb dX6_combine_37 (by decide) ?_
  refine lv_icmp_ne (tgt := 55) hx hb dX6_combine_38 (by decide) (fun hc => ?_) (fun hc => ?_)
  · rw [if_neg hc] at hf
    refine lv_aload hx hb dX6_combine_55 (lv_at hl 1 rfl) ?_
    obtain ⟨v9, hg, hf⟩ := gfI_inv hf
    refine r_gfI hC hw hg clX0 (Nat.le_of_ble_eq_true rfl) lkF_X6_85 rfl dX6_combine_57 ?_
    refine lv_aload hx hb dX6_combine_60 (lv_at hl 0 rfl) ?_
    obtain ⟨v10, hg, hf⟩ := gfI_inv hf
    refine r_gfI hC hw hg clX0 (Nat.le_of_ble_eq_true rfl) lkF_X6_85 rfl dX6_combine_62 ?_
    refine lv_iadd hx hb dX6_combine_65 ?_
    exact t_X6_combine_L66 hC hr htab hf hw (lv_sub hl [2, 3, 6, 1, 0] rfl)
  · rw [if_pos hc] at hf
    refine lv_aload hx hb dX6_combine_41 (lv_at hl 1 rfl) ?_
    obtain ⟨v19, hg, hf⟩ := gfI_inv hf
    refine r_gfI hC hw hg clX0 (Nat.le_of_ble_eq_true rfl) lkF_X6_85 rfl dX6_combine_43 ?_
    refine lv_aload hx hb dX6_combine_46 (lv_at hl 0 rfl) ?_
    obtain ⟨v20, hg, hf⟩ := gfI_inv hf
    refine r_gfI hC hw hg clX0 (Nat.le_of_ble_eq_true rfl) lkF_X6_85 rfl dX6_combine_48 ?_
    refine lv_imul hx hb dX6_combine_51 ?_
    refine lv_goto (tgt := 66) hx hb dX6_combine_52 (by decide) ?_
    exact t_X6_combine_L66 hC hr htab hf hw (lv_sub hl [2, 3, 6, 1, 0] rfl)
set_option maxHeartbeats 4000000 in
set_option maxRecDepth 100000 in
theorem t_X6_derive_L172 (hC : zC p l s m args meth c cX6_derive 5 RX6 D cA B0) (hr : meth.sig.returnType = (Option.some FieldType.int)) (htab : ∀ x ∈ c.exceptionTable.toList, False) {Γ : zSh} {x0 : Nat} {x1 : Int32} {σ : zSt} {out : ((Int32 × zSt) ⊕ (Nat × zSt))} (hf : f_X6_derive_L172 Γ x0 x1 σ = some out) {H : Heap} {locs : List Loc} {ls : Array Slot} (hw : zO D cA B0 Γ σ (ZB B0) s.heap H locs) (hl : lv_has ls 5 [(0, .ref x0), (1, .int x1)]) :
    W p l e rm_X6_derive s m args below meth c H locs 3 18 (vx_MQ below (zQx D cA B0 (fun r : Int32 => some (.int r)) Γ out (ZB B0)) (zXx D cA B0 Γ out (ZB B0)) args s 4 24 (FR B0)) (F0 m 172 ls []) := by
  have hx := hC.1
  have hb := hC.2.1
  unfold f_X6_derive_L172 at hf
  refine lv_aload_n hx hb dX6_derive_172 rfl (lv_at hl 0 rfl) ?_
  refine lv_iload_n hx hb dX6_derive_173 rfl (lv_at hl 1 rfl) ?_
  obtain ⟨ho, hf⟩ := chk_inv hf
  obtain ⟨r11, σ10, hk, hf⟩ := bnd_inv hf
  refine z_callV (As := [.int x1]) (rest := []) (m_X6_store hC.2.2.2.2.2.2.2.2 hk) hC hw wd_X6_store lkM_X6_162 (isO_sh ho) rfl rfl ⟨rfl, rfl⟩ ⟨(Nat.le_of_ble_eq_true rfl), (Nat.le_of_ble_eq_true rfl)⟩ hl.1 rfl (Nat.le_of_ble_eq_true rfl) dX6_derive_174 ⟨(Nat.le_of_ble_eq_true rfl), (Nat.le_of_ble_eq_true rfl)⟩ (fun H locs hw => ?_)
  refine vx_ret ?_
  refine W.widen (k := 4) (n := 24) (Nat.le_of_ble_eq_true rfl) (Nat.le_of_ble_eq_true rfl) ?_
  exact W.iret hx hb hr (z_retx hw (Option.some.inj hf).symm rfl) hw.2.2.2.2.2 dX6_derive_177 hC.2.2.2.2.2.1
set_option maxHeartbeats 4000000 in
set_option maxRecDepth 100000 in
theorem t_X6_derive_L46 (hC : zC p l s m args meth c cX6_derive 5 RX6 D cA B0) (hr : meth.sig.returnType = (Option.some FieldType.int)) (htab : ∀ x ∈ c.exceptionTable.toList, False) {Γ : zSh} {x0 : Nat} {x1 : Int32} {x3 : Int32} {x4 : Nat} {σ : zSt} {out : ((Int32 × zSt) ⊕ (Nat × zSt))} (hf : f_X6_derive_L46 Γ x0 x1 x3 x4 σ = some out) {H : Heap} {locs : List Loc} {ls : Array Slot} (hw : zO D cA B0 Γ σ (ZB B0) s.heap H locs) (hl : lv_has ls 5 [(0, .ref x0), (1, .int x1), (3, .int x3), (4, .ref x4)]) :
    W p l e rm_X6_derive s m args below meth c H locs 3 18 (vx_MQ below (zQx D cA B0 (fun r : Int32 => some (.int r)) Γ out (ZB B0)) (zXx D cA B0 Γ out (ZB B0)) args s 4 24 (FR B0)) (F0 m 46 ls []) := by
  have hx := hC.1
  have hb := hC.2.1
  unfold f_X6_derive_L46 at hf
  refine lv_aload_n hx hb dX6_derive_46 rfl (lv_at hl 0 rfl) ?_
  obtain ⟨v6, hg, hf⟩ := gfR_inv hf
  refine r_gfR hC hw hg clX6 (Nat.le_of_ble_eq_true rfl) lkF_X6_33 rfl dX6_derive_47 ?_
  refine lv_aload hx hb dX6_derive_50 (lv_at hl 3 rfl) ?_
  obtain ⟨ho, hf⟩ := chk_inv hf
  obtain ⟨_, σ7, hk, hf⟩ := bnd_inv hf
  refine z_callV (As := [.ref x4]) (rest := []) (m_X0_copyFrom hC.2.2.2.2.2.2.2.2 hk) hC hw wd_X0_copyFrom lkM_X6_172 (isO_sh ho) rfl rfl ⟨rfl, rfl⟩ ⟨(Nat.le_of_ble_eq_true rfl), (Nat.le_of_ble_eq_true rfl)⟩ hl.1 rfl (Nat.le_of_ble_eq_true rfl) dX6_derive_52 ⟨(Nat.le_of_ble_eq_true rfl), (Nat.le_of_ble_eq_true rfl)⟩ (fun H locs hw => ?_)
  refine lv_iload_n hx hb dX6_derive_55 rfl (lv_at hl 2 rfl) ?_
  by_cases h56_1 : x3 = 1
  · rw [if_pos h56_1] at hf
    refine lv_tableIn (tgt := 96) hx hb dX6_derive_56 (by rw [h56_1]; decide) (by rw [h56_1]; decide) (by rw [h56_1]; rfl) (by decide) ?_
    refine lv_aload_n hx hb dX6_derive_96 rfl (lv_at hl 0 rfl) ?_
    obtain ⟨v8, hg, hf⟩ := gfR_inv hf
    refine r_gfR hC hw hg clX6 (Nat.le_of_ble_eq_true rfl) lkF_X6_33 rfl dX6_derive_97 ?_
    obtain ⟨ho, hf⟩ := chk_inv hf
    obtain ⟨_, σ9, hk, hf⟩ := bnd_inv hf
    refine z_callV (As := []) (rest := []) (m_X0_reverse hC.2.2.2.2.2.2.2.2 hk) hC hw wd_X0_reverse lkM_X6_175 (isO_sh ho) rfl rfl ⟨rfl, rfl⟩ ⟨(Nat.le_of_ble_eq_true rfl), (Nat.le_of_ble_eq_true rfl)⟩ hl.1 rfl (Nat.le_of_ble_eq_true rfl) dX6_derive_100 ⟨(Nat.le_of_ble_eq_true rfl), (Nat.le_of_ble_eq_true rfl)⟩ (fun H locs hw => ?_)
    refine lv_goto (tgt := 172) hx hb dX6_derive_103 (by decide) ?_
    exact t_X6_derive_L172 hC hr htab hf hw (lv_sub hl [0, 1] rfl)
  · rw [if_neg h56_1] at hf
    by_cases h56_2 : x3 = 2
    · rw [if_pos h56_2] at hf
      refine lv_tableIn (tgt := 106) hx hb dX6_derive_56 (by rw [h56_2]; decide) (by rw [h56_2]; decide) (by rw [h56_2]; rfl) (by decide) ?_
      refine lv_aload_n hx hb dX6_derive_106 rfl (lv_at hl 0 rfl) ?_
      obtain ⟨v12, hg, hf⟩ := gfR_inv hf
      refine r_gfR hC hw hg clX6 (Nat.le_of_ble_eq_true rfl) lkF_X6_33 rfl dX6_derive_107 ?_
      refine lv_aload hx hb dX6_derive_110 (lv_at hl 3 rfl) ?_
      obtain ⟨ho, hf⟩ := chk_inv hf
      obtain ⟨_, σ13, hk, hf⟩ := bnd_inv hf
      refine z_callV (As := [.ref x4]) (rest := []) (m_X0_becomeStar hC.2.2.2.2.2.2.2.2 hk) hC hw wd_X0_becomeStar lkM_X6_178 (isO_sh ho) rfl rfl ⟨rfl, rfl⟩ ⟨(Nat.le_of_ble_eq_true rfl), (Nat.le_of_ble_eq_true rfl)⟩ hl.1 rfl (Nat.le_of_ble_eq_true rfl) dX6_derive_112 ⟨(Nat.le_of_ble_eq_true rfl), (Nat.le_of_ble_eq_true rfl)⟩ (fun H locs hw => ?_)
      refine lv_goto (tgt := 172) hx hb dX6_derive_115 (by decide) ?_
      exact t_X6_derive_L172 hC hr htab hf hw (lv_sub hl [0, 1] rfl)
    · rw [if_neg h56_2] at hf
      by_cases h56_3 : x3 = 3
      · rw [if_pos h56_3] at hf
        refine lv_tableIn (tgt := 118) hx hb dX6_derive_56 (by rw [h56_3]; decide) (by rw [h56_3]; decide) (by rw [h56_3]; rfl) (by decide) ?_
        refine lv_aload_n hx hb dX6_derive_118 rfl (lv_at hl 0 rfl) ?_
        obtain ⟨v14, hg, hf⟩ := gfR_inv hf
        refine r_gfR hC hw hg clX6 (Nat.le_of_ble_eq_true rfl) lkF_X6_33 rfl dX6_derive_119 ?_
        refine lv_aload hx hb dX6_derive_122 (lv_at hl 3 rfl) ?_
        refine lv_iconst (v := 0) hx hb dX6_derive_124 (by decide) ?_
        obtain ⟨ho, hf⟩ := chk_inv hf
        obtain ⟨_, σ15, hk, hf⟩ := bnd_inv hf
        refine z_callV (As := [.ref x4, .int 0]) (rest := []) (m_X0_startAfter hC.2.2.2.2.2.2.2.2 hk) hC hw wd_X0_startAfter lkM_X6_181 (isO_sh ho) rfl rfl ⟨rfl, rfl⟩ ⟨(Nat.le_of_ble_eq_true rfl), (Nat.le_of_ble_eq_true rfl)⟩ hl.1 rfl (Nat.le_of_ble_eq_true rfl) dX6_derive_125 ⟨(Nat.le_of_ble_eq_true rfl), (Nat.le_of_ble_eq_true rfl)⟩ (fun H locs hw => ?_)
        refine lv_goto (tgt := 172) hx hb dX6_derive_128 (by decide) ?_
        exact t_X6_derive_L172 hC hr htab hf hw (lv_sub hl [0, 1] rfl)
      · rw [if_neg h56_3] at hf
        by_cases h56_4 : x3 = 4
        · rw [if_pos h56_4] at hf
          refine lv_tableIn (tgt := 131) hx hb dX6_derive_56 (by rw [h56_4]; decide) (by rw [h56_4]; decide) (by rw [h56_4]; rfl) (by decide) ?_
          refine lv_aload_n hx hb dX6_derive_131 rfl (lv_at hl 0 rfl) ?_
          obtain ⟨v16, hg, hf⟩ := gfR_inv hf
          refine r_gfR hC hw hg clX6 (Nat.le_of_ble_eq_true rfl) lkF_X6_33 rfl dX6_derive_132 ?_
          refine lv_aload hx hb dX6_derive_135 (lv_at hl 3 rfl) ?_
          refine lv_iconst (v := 1) hx hb dX6_derive_137 (by decide) ?_
          obtain ⟨ho, hf⟩ := chk_inv hf
          obtain ⟨_, σ17, hk, hf⟩ := bnd_inv hf
          refine z_callV (As := [.ref x4, .int 1]) (rest := []) (m_X0_startAfter hC.2.2.2.2.2.2.2.2 hk) hC hw wd_X0_startAfter lkM_X6_181 (isO_sh ho) rfl rfl ⟨rfl, rfl⟩ ⟨(Nat.le_of_ble_eq_true rfl), (Nat.le_of_ble_eq_true rfl)⟩ hl.1 rfl (Nat.le_of_ble_eq_true rfl) dX6_derive_138 ⟨(Nat.le_of_ble_eq_true rfl), (Nat.le_of_ble_eq_true rfl)⟩ (fun H locs hw => ?_)
          refine lv_goto (tgt := 172) hx hb dX6_derive_141 (by decide) ?_
          exact t_X6_derive_L172 hC hr htab hf hw (lv_sub hl [0, 1] rfl)
        · rw [if_neg h56_4] at hf
          by_cases h56_5 : x3 = 5
          · rw [if_pos h56_5] at hf
            refine lv_tableIn (tgt := 144) hx hb dX6_derive_56 (by rw [h56_5]; decide) (by rw [h56_5]; decide) (by rw [h56_5]; rfl) (by decide) ?_
            refine lv_aload_n hx hb dX6_derive_144 rfl (lv_at hl 0 rfl) ?_
            obtain ⟨v18, hg, hf⟩ := gfR_inv hf
            refine r_gfR hC hw hg clX6 (Nat.le_of_ble_eq_true rfl) lkF_X6_57 rfl dX6_derive_145 ?_
            refine lv_aload_n hx hb dX6_derive_148 rfl (lv_at hl 0 rfl) ?_
            obtain ⟨v19, hg, hf⟩ := gfR_inv hf
            refine r_gfR hC hw hg clX6 (Nat.le_of_ble_eq_true rfl) lkF_X6_33 rfl dX6_derive_149 ?_
            obtain ⟨ho, hf⟩ := chk_inv hf
            obtain ⟨_, σ20, hk, hf⟩ := bnd_inv hf
            refine z_callV (As := [.ref v19]) (rest := []) (m_X1_reduce hC.2.2.2.2.2.2.2.2 hk) hC hw wd_X1_reduce lkM_X6_184 (isO_sh ho) rfl rfl ⟨rfl, rfl⟩ ⟨(Nat.le_of_ble_eq_true rfl), (Nat.le_of_ble_eq_true rfl)⟩ hl.1 rfl (Nat.le_of_ble_eq_true rfl) dX6_derive_152 ⟨(Nat.le_of_ble_eq_true rfl), (Nat.le_of_ble_eq_true rfl)⟩ (fun H locs hw => ?_)
            refine lv_goto (tgt := 172) hx hb dX6_derive_155 (by decide) ?_
            exact t_X6_derive_L172 hC hr htab hf hw (lv_sub hl [0, 1] rfl)
          · rw [if_neg h56_5] at hf
            by_cases h56_6 : x3 = 6
            · rw [if_pos h56_6] at hf
              refine lv_tableIn (tgt := 158) hx hb dX6_derive_56 (by rw [h56_6]; decide) (by rw [h56_6]; decide) (by rw [h56_6]; rfl) (by decide) ?_
              refine lv_aload_n hx hb dX6_derive_158 rfl (lv_at hl 0 rfl) ?_
              obtain ⟨v21, hg, hf⟩ := gfR_inv hf
              refine r_gfR hC hw hg clX6 (Nat.le_of_ble_eq_true rfl) lkF_X6_57 rfl dX6_derive_159 ?_
              refine lv_aload_n hx hb dX6_derive_162 rfl (lv_at hl 0 rfl) ?_
              obtain ⟨v22, hg, hf⟩ := gfR_inv hf
              refine r_gfR hC hw hg clX6 (Nat.le_of_ble_eq_true rfl) lkF_X6_33 rfl dX6_derive_163 ?_
              obtain ⟨ho, hf⟩ := chk_inv hf
              obtain ⟨_, σ23, hk, hf⟩ := bnd_inv hf
              refine z_callV (As := [.ref v22]) (rest := []) (m_X1_minimize hC.2.2.2.2.2.2.2.2 hk) hC hw wd_X1_minimize lkM_X6_187 (isO_sh ho) rfl rfl ⟨rfl, rfl⟩ ⟨(Nat.le_of_ble_eq_true rfl), (Nat.le_of_ble_eq_true rfl)⟩ hl.1 rfl (Nat.le_of_ble_eq_true rfl) dX6_derive_166 ⟨(Nat.le_of_ble_eq_true rfl), (Nat.le_of_ble_eq_true rfl)⟩ (fun H locs hw => ?_)
              refine lv_goto (tgt := 172) hx hb dX6_derive_169 (by decide) ?_
              exact t_X6_derive_L172 hC hr htab hf hw (lv_sub hl [0, 1] rfl)
            · rw [if_neg h56_6] at hf
              refine lv_tableOut (tgt := 172) hx hb dX6_derive_56 (by have := tsw1_6 h56_1 h56_2 h56_3 h56_4 h56_5 h56_6; omega) (by decide) ?_
              exact t_X6_derive_L172 hC hr htab hf hw (lv_sub hl [0, 1] rfl)
set_option maxHeartbeats 4000000 in
set_option maxRecDepth 100000 in
theorem m_X6_derive (h9 : l.stackTraces = false) {Γ : zSh} {a0 : Nat} {a1 : Int32} {a2 : Int32} {a3 : Int32} {σ : zSt} {out : ((Int32 × zSt) ⊕ (Nat × zSt))} (hf : f_X6_derive Γ a0 a1 a2 a3 σ = some out) : vx_Met l yX6_derive (wq yX6_derive cX6_derive 5 (Option.some FieldType.int)) rm_X6_derive (zQ0 D cA B0 [.ref a0, .int a1, .int a2, .int a3] Γ σ (ZB B0)) (zQx D cA B0 (fun r : Int32 => some (.int r)) Γ out (ZB B0)) (zXx D cA B0 Γ out (ZB B0)) 4 24 (FR B0) := by
  refine z_ofX h9 (by decide) (Nat.le_of_ble_eq_true rfl) ?_
  intro p e s m args below meth c ls hC hr htab hw hl
  have hx := hC.1
  have hb := hC.2.1
  have hl : lv_has ls 5 [(0, .ref a0), (1, .int a1), (2, .int a2), (3, .int a3)] := hl
  unfold f_X6_derive at hf
  refine lv_iload_n hx hb dX6_derive_0 rfl (lv_at hl 1 rfl) ?_
  obtain ⟨q, hk, hn, hxx⟩ := xbnd_inv hf
  refine z_xcallS (As := [.int a1]) (rest := []) (m_X6_checkSlot hC.2.2.2.2.2.2.2.2 hk) hC hw wd_X6_checkSlot lkM_X6_78 rfl ⟨rfl, rfl⟩ ⟨(Nat.le_of_ble_eq_true rfl), (Nat.le_of_ble_eq_true rfl)⟩ hl.1 rfl (Nat.le_of_ble_eq_true rfl) dX6_derive_1 ⟨(Nat.le_of_ble_eq_true rfl), (Nat.le_of_ble_eq_true rfl)⟩ (fun u9 σ1 eq H locs hw => ?_) (fun k9 s9 eq H locs q9 ce9 hw e1 e2 e3 => z_xout hC hw (hxx _ _ eq) htab e1 e2 e3 (Nat.le_of_ble_eq_true rfl) (Nat.le_of_ble_eq_true rfl))
  have hf := hn _ _ eq
  refine lv_iload_n hx hb dX6_derive_4 rfl (lv_at hl 2 rfl) ?_
  obtain ⟨q, hk, hn, hxx⟩ := xbnd_inv hf
  refine z_xcallS (As := [.int a2]) (rest := []) (m_X6_checkSlot hC.2.2.2.2.2.2.2.2 hk) hC hw wd_X6_checkSlot lkM_X6_78 rfl ⟨rfl, rfl⟩ ⟨(Nat.le_of_ble_eq_true rfl), (Nat.le_of_ble_eq_true rfl)⟩ hl.1 rfl (Nat.le_of_ble_eq_true rfl) dX6_derive_5 ⟨(Nat.le_of_ble_eq_true rfl), (Nat.le_of_ble_eq_true rfl)⟩ (fun u9 σ2 eq H locs hw => ?_) (fun k9 s9 eq H locs q9 ce9 hw e1 e2 e3 => z_xout hC hw (hxx _ _ eq) htab e1 e2 e3 (Nat.le_of_ble_eq_true rfl) (Nat.le_of_ble_eq_true rfl))
  have hf := hn _ _ eq
  refine lv_iload_n hx hb dX6_derive_8 rfl (lv_at hl 3 rfl) ?_
  refine lv_iconst (v := 0) hx hb dX6_derive_9 (by decide) ?_
  refine lv_bipush (v := 6) hx hb dX6_derive_10 (by decide) ?_
  obtain ⟨q, hk, hn, hxx⟩ := xbnd_inv hf
  refine z_xcallS (As := [.int a3, .int 0, .int 6]) (rest := []) (m_X6_checkRange hC.2.2.2.2.2.2.2.2 hk) hC hw wd_X6_checkRange lkM_X6_81 rfl ⟨rfl, rfl⟩ ⟨(Nat.le_of_ble_eq_true rfl), (Nat.le_of_ble_eq_true rfl)⟩ hl.1 rfl (Nat.le_of_ble_eq_true rfl) dX6_derive_12 ⟨(Nat.le_of_ble_eq_true rfl), (Nat.le_of_ble_eq_true rfl)⟩ (fun u9 σ3 eq H locs hw => ?_) (fun k9 s9 eq H locs q9 ce9 hw e1 e2 e3 => z_xout hC hw (hxx _ _ eq) htab e1 e2 e3 (Nat.le_of_ble_eq_true rfl) (Nat.le_of_ble_eq_true rfl))
  have hf := hn _ _ eq
  refine lv_aload_n hx hb dX6_derive_15 rfl (lv_at hl 0 rfl) ?_
  obtain ⟨v4, hg, hf⟩ := gfR_inv hf
  refine r_gfR hC hw hg clX6 (Nat.le_of_ble_eq_true rfl) lkF_X6_13 rfl dX6_derive_16 ?_
  refine lv_iload_n hx hb dX6_derive_19 rfl (lv_at hl 2 rfl) ?_
  obtain ⟨v5, hg, hf⟩ := ldA_inv hf
  refine r_ldA hC hw hg dX6_derive_20 ?_
  refine lv_astore (lv' := [(4, .ref v5), (0, .ref a0), (1, .int a1), (2, .int a2), (3, .int a3)]) hx hb dX6_derive_21 hl (Nat.le_of_ble_eq_true rfl) rfl (fun ls hl => ?_)
  refine lv_iload_n hx hb dX6_derive_23 rfl (lv_at hl 4 rfl) ?_
  refine lv_iconst (v := 2) hx hb dX6_derive_24 (by decide) ?_
  refine lv_icmp_ne (tgt := 46) hx hb dX6_derive_25 (by decide) (fun hc => ?_) (fun hc => ?_)
  · rw [if_neg hc] at hf
    exact t_X6_derive_L46 hC hr htab hf hw (lv_sub hl [1, 2, 4, 0] rfl)
  · rw [if_pos hc] at hf
    refine lv_aload hx hb dX6_derive_28 (lv_at hl 0 rfl) ?_
    obtain ⟨ho, hf⟩ := chk_inv hf
    obtain ⟨r25, σ24, hk, hf⟩ := bnd_inv hf
    refine z_callV (As := []) (rest := []) (m_X0_hasStar hC.2.2.2.2.2.2.2.2 hk) hC hw wd_X0_hasStar lkM_X6_166 (isO_sh ho) rfl rfl ⟨rfl, rfl⟩ ⟨(Nat.le_of_ble_eq_true rfl), (Nat.le_of_ble_eq_true rfl)⟩ hl.1 rfl (Nat.le_of_ble_eq_true rfl) dX6_derive_30 ⟨(Nat.le_of_ble_eq_true rfl), (Nat.le_of_ble_eq_true rfl)⟩ (fun H locs hw => ?_)
    refine lv_if_ne (tgt := 46) hx hb dX6_derive_33 (by decide) (fun hc => ?_) (fun hc => ?_)
    · rw [if_neg hc] at hf
      exact t_X6_derive_L46 hC hr htab hf hw (lv_sub hl [1, 2, 4, 0] rfl)
    · rw [if_pos hc] at hf
      exact z_throwS (k := 2) hC hw zB_up (Option.some.inj hf).symm htab zt_145_149_2 zstr_170 hl.1 dX6_derive_36 dX6_derive_39 dX6_derive_40 dX6_derive_42 dX6_derive_45 (Nat.le_of_ble_eq_true rfl) (Nat.le_of_ble_eq_true rfl) (Nat.le_of_ble_eq_true rfl) (Nat.le_of_ble_eq_true rfl) (Nat.le_of_ble_eq_true rfl) (Nat.le_of_ble_eq_true rfl)
set_option maxHeartbeats 4000000 in
set_option maxRecDepth 100000 in
theorem m_X6_scale (h9 : l.stackTraces = false) {Γ : zSh} {a0 : Nat} {a1 : Int32} {a2 : Int32} {σ : zSt} {out : ((Int32 × zSt) ⊕ (Nat × zSt))} (hf : f_X6_scale Γ a0 a1 a2 σ = some out) : vx_Met l yX6_scale (wq yX6_scale cX6_scale 4 (Option.some FieldType.int)) rm_X6_scale (zQ0 D cA B0 [.ref a0, .int a1, .int a2] Γ σ (ZB B0)) (zQx D cA B0 (fun r : Int32 => some (.int r)) Γ out (ZB B0)) (zXx D cA B0 Γ out (ZB B0)) 2 12 (FR B0) := by
  refine z_ofX h9 (by decide) (Nat.le_of_ble_eq_true rfl) ?_
  intro p e s m args below meth c ls hC hr htab hw hl
  have hx := hC.1
  have hb := hC.2.1
  have hl : lv_has ls 4 [(0, .ref a0), (1, .int a1), (2, .int a2)] := hl
  unfold f_X6_scale at hf
  refine lv_iload_n hx hb dX6_scale_0 rfl (lv_at hl 1 rfl) ?_
  obtain ⟨q, hk, hn, hxx⟩ := xbnd_inv hf
  refine z_xcallS (As := [.int a1]) (rest := []) (m_X6_checkSlot hC.2.2.2.2.2.2.2.2 hk) hC hw wd_X6_checkSlot lkM_X6_78 rfl ⟨rfl, rfl⟩ ⟨(Nat.le_of_ble_eq_true rfl), (Nat.le_of_ble_eq_true rfl)⟩ hl.1 rfl (Nat.le_of_ble_eq_true rfl) dX6_scale_1 ⟨(Nat.le_of_ble_eq_true rfl), (Nat.le_of_ble_eq_true rfl)⟩ (fun u9 σ1 eq H locs hw => ?_) (fun k9 s9 eq H locs q9 ce9 hw e1 e2 e3 => z_xout hC hw (hxx _ _ eq) htab e1 e2 e3 (Nat.le_of_ble_eq_true rfl) (Nat.le_of_ble_eq_true rfl))
  have hf := hn _ _ eq
  refine lv_iload_n hx hb dX6_scale_4 rfl (lv_at hl 2 rfl) ?_
  refine lv_iconst (v := 0) hx hb dX6_scale_5 (by decide) ?_
  refine lv_sipush (v := 10006) hx hb dX6_scale_6 (by decide) ?_
  obtain ⟨q, hk, hn, hxx⟩ := xbnd_inv hf
  refine z_xcallS (As := [.int a2, .int 0, .int 10006]) (rest := []) (m_X6_checkRange hC.2.2.2.2.2.2.2.2 hk) hC hw wd_X6_checkRange lkM_X6_81 rfl ⟨rfl, rfl⟩ ⟨(Nat.le_of_ble_eq_true rfl), (Nat.le_of_ble_eq_true rfl)⟩ hl.1 rfl (Nat.le_of_ble_eq_true rfl) dX6_scale_9 ⟨(Nat.le_of_ble_eq_true rfl), (Nat.le_of_ble_eq_true rfl)⟩ (fun u9 σ2 eq H locs hw => ?_) (fun k9 s9 eq H locs q9 ce9 hw e1 e2 e3 => z_xout hC hw (hxx _ _ eq) htab e1 e2 e3 (Nat.le_of_ble_eq_true rfl) (Nat.le_of_ble_eq_true rfl))
  have hf := hn _ _ eq
  refine lv_aload_n hx hb dX6_scale_12 rfl (lv_at hl 0 rfl) ?_
  refine lv_iload_n hx hb dX6_scale_13 rfl (lv_at hl 1 rfl) ?_
  obtain ⟨ho, hf⟩ := chk_inv hf
  obtain ⟨_, σ3, hk, hf⟩ := bnd_inv hf
  refine z_callV (As := [.int a1]) (rest := []) (m_X6_save hC.2.2.2.2.2.2.2.2 hk) hC hw wd_X6_save lkM_X6_88 (isO_sh ho) rfl rfl ⟨rfl, rfl⟩ ⟨(Nat.le_of_ble_eq_true rfl), (Nat.le_of_ble_eq_true rfl)⟩ hl.1 rfl (Nat.le_of_ble_eq_true rfl) dX6_scale_14 ⟨(Nat.le_of_ble_eq_true rfl), (Nat.le_of_ble_eq_true rfl)⟩ (fun H locs hw => ?_)
  refine lv_aload_n hx hb dX6_scale_17 rfl (lv_at hl 0 rfl) ?_
  obtain ⟨v4, hg, hf⟩ := gfR_inv hf
  refine r_gfR hC hw hg clX6 (Nat.le_of_ble_eq_true rfl) lkF_X6_13 rfl dX6_scale_18 ?_
  refine lv_iload_n hx hb dX6_scale_21 rfl (lv_at hl 1 rfl) ?_
  obtain ⟨v5, hg, hf⟩ := ldA_inv hf
  refine r_ldA hC hw hg dX6_scale_22 ?_
  refine lv_astore_n (lv' := [(3, .ref v5), (0, .ref a0), (1, .int a1), (2, .int a2)]) hx hb dX6_scale_23 rfl hl (Nat.le_of_ble_eq_true rfl) rfl (fun ls hl => ?_)
  refine lv_aload_n hx hb dX6_scale_24 rfl (lv_at hl 0 rfl) ?_
  obtain ⟨v6, hg, hf⟩ := gfR_inv hf
  refine r_gfR hC hw hg clX0 (Nat.le_of_ble_eq_true rfl) lkF_X6_190 rfl dX6_scale_25 ?_
  refine lv_iload_n hx hb dX6_scale_28 rfl (lv_at hl 3 rfl) ?_
  refine lv_aload_n hx hb dX6_scale_29 rfl (lv_at hl 0 rfl) ?_
  obtain ⟨v7, hg, hf⟩ := gfI_inv hf
  refine r_gfI hC hw hg clX0 (Nat.le_of_ble_eq_true rfl) lkF_X6_85 rfl dX6_scale_30 ?_
  obtain ⟨_, σ8, hk, hf⟩ := bnd_inv hf
  refine z_callS (As := [.ref v6, .int a2, .int v7]) (rest := []) (m_X6_multiply hC.2.2.2.2.2.2.2.2 hk) hC hw wd_X6_multiply lkM_X6_193 rfl ⟨rfl, rfl⟩ ⟨(Nat.le_of_ble_eq_true rfl), (Nat.le_of_ble_eq_true rfl)⟩ hl.1 rfl (Nat.le_of_ble_eq_true rfl) dX6_scale_33 ⟨(Nat.le_of_ble_eq_true rfl), (Nat.le_of_ble_eq_true rfl)⟩ (fun H locs hw => ?_)
  refine lv_aload_n hx hb dX6_scale_36 rfl (lv_at hl 0 rfl) ?_
  obtain ⟨ho, hf⟩ := chk_inv hf
  obtain ⟨r10, σ9, hk, hf⟩ := bnd_inv hf
  refine z_callV (As := []) (rest := []) (m_X0_emptyWeight hC.2.2.2.2.2.2.2.2 hk) hC hw wd_X0_emptyWeight lkM_X6_114 (isO_sh ho) rfl rfl ⟨rfl, rfl⟩ ⟨(Nat.le_of_ble_eq_true rfl), (Nat.le_of_ble_eq_true rfl)⟩ hl.1 rfl (Nat.le_of_ble_eq_true rfl) dX6_scale_37 ⟨(Nat.le_of_ble_eq_true rfl), (Nat.le_of_ble_eq_true rfl)⟩ (fun H locs hw => ?_)
  refine vx_ret ?_
  refine W.widen (k := 2) (n := 12) (Nat.le_of_ble_eq_true rfl) (Nat.le_of_ble_eq_true rfl) ?_
  exact W.iret hx hb hr (z_retx hw (Option.some.inj hf).symm rfl) hw.2.2.2.2.2 dX6_scale_40 hC.2.2.2.2.2.1
set_option maxHeartbeats 4000000 in
set_option maxRecDepth 100000 in
theorem t_X6_spaceSize_L55 (hC : zC p l s m args meth c cX6_spaceSize 3 RX6 D cA B0) (hr : meth.sig.returnType = (Option.some FieldType.int)) {Γ : zSh} {x0 : Nat} {σ : zSt} {out : (Int32 × zSt)} (hf : f_X6_spaceSize_L55 Γ x0 σ = some out) {H : Heap} {locs : List Loc} {ls : Array Slot} (hw : zO D cA B0 Γ σ Z s.heap H locs) (hl : lv_has ls 3 [(0, .ref x0)]) :
    W p l e rm_X6_spaceSize s m args below meth c H locs 0 0 (MQ below (zQ1 D cA B0 (some (.int out.1)) Γ out.2 Z) args s 0 0 (FR B0)) (F0 m 55 ls []) := by
  have hx := hC.1
  have hb := hC.2.1
  unfold f_X6_spaceSize_L55 at hf
  refine lv_aload_n hx hb dX6_spaceSize_55 rfl (lv_at hl 0 rfl) ?_
  obtain ⟨v8, hg, hf⟩ := gfR_inv hf
  refine r_gfR hC hw hg clX6 (Nat.le_of_ble_eq_true rfl) lkF_X6_33 rfl dX6_spaceSize_56 ?_
  obtain ⟨v9, hg, hf⟩ := gfI_inv hf
  refine r_gfI hC hw hg clX0 (Nat.le_of_ble_eq_true rfl) lkF_X6_85 rfl dX6_spaceSize_59 ?_
  first | (obtain ⟨rfl, rfl⟩ := sp_inv hf) | (obtain rfl := Option.some.inj hf)
  exact W.iret hx hb hr (z_ret hw rfl) hw.2.2.2.2.2 dX6_spaceSize_62 hC.2.2.2.2.2.1
set_option maxHeartbeats 4000000 in
set_option maxRecDepth 100000 in
theorem t_X6_spaceSize_L25 (hC : zC p l s m args meth c cX6_spaceSize 3 RX6 D cA B0) (hr : meth.sig.returnType = (Option.some FieldType.int)) {Γ : zSh} {x0 : Nat} {x2 : Int32} {σ : zSt} {out : (Int32 × zSt)} (hf : f_X6_spaceSize_L25 Γ x0 x2 σ = some out) {H : Heap} {locs : List Loc} {ls : Array Slot} (hw : zO D cA B0 Γ σ Z s.heap H locs) (hl : lv_has ls 3 [(0, .ref x0), (2, .int x2)]) :
    W p l e rm_X6_spaceSize s m args below meth c H locs 0 0 (MQ below (zQ1 D cA B0 (some (.int out.1)) Γ out.2 Z) args s 0 0 (FR B0)) (F0 m 25 ls []) := by
  have hx := hC.1
  have hb := hC.2.1
  unfold f_X6_spaceSize_L25 at hf
  refine lv_iload_n hx hb dX6_spaceSize_25 rfl (lv_at hl 1 rfl) ?_
  refine lv_iconst (v := 2) hx hb dX6_spaceSize_26 (by decide) ?_
  refine lv_icmp_ne (tgt := 44) hx hb dX6_spaceSize_27 (by decide) (fun hc => ?_) (fun hc => ?_)
  · rw [if_neg hc] at hf
    refine lv_aload_n hx hb dX6_spaceSize_44 rfl (lv_at hl 0 rfl) ?_
    obtain ⟨v5, hg, hf⟩ := gfR_inv hf
    refine r_gfR hC hw hg clX6 (Nat.le_of_ble_eq_true rfl) lkF_X6_57 rfl dX6_spaceSize_45 ?_
    refine lv_aload_n hx hb dX6_spaceSize_48 rfl (lv_at hl 0 rfl) ?_
    obtain ⟨v6, hg, hf⟩ := gfR_inv hf
    refine r_gfR hC hw hg clX6 (Nat.le_of_ble_eq_true rfl) lkF_X6_33 rfl dX6_spaceSize_49 ?_
    obtain ⟨ho, hf⟩ := chk_inv hf
    obtain ⟨_, σ7, hk, hf⟩ := bnd_inv hf
    refine z_callV (As := [.ref v6]) (rest := []) (m_X1_reduce hC.2.2.2.2.2.2.2.2 hk) hC hw wd_X1_reduce lkM_X6_184 (isO_sh ho) rfl rfl ⟨rfl, rfl⟩ ⟨(Nat.le_of_ble_eq_true rfl), (Nat.le_of_ble_eq_true rfl)⟩ hl.1 rfl (Nat.le_of_ble_eq_true rfl) dX6_spaceSize_52 ⟨(Nat.le_of_ble_eq_true rfl), (Nat.le_of_ble_eq_true rfl)⟩ (fun H locs hw => ?_)
    exact t_X6_spaceSize_L55 hC hr hf hw (lv_sub hl [0] rfl)
  · rw [if_pos hc] at hf
    refine lv_aload_n hx hb dX6_spaceSize_30 rfl (lv_at hl 0 rfl) ?_
    obtain ⟨v10, hg, hf⟩ := gfR_inv hf
    refine r_gfR hC hw hg clX6 (Nat.le_of_ble_eq_true rfl) lkF_X6_57 rfl dX6_spaceSize_31 ?_
    refine lv_aload_n hx hb dX6_spaceSize_34 rfl (lv_at hl 0 rfl) ?_
    obtain ⟨v11, hg, hf⟩ := gfR_inv hf
    refine r_gfR hC hw hg clX6 (Nat.le_of_ble_eq_true rfl) lkF_X6_33 rfl dX6_spaceSize_35 ?_
    obtain ⟨ho, hf⟩ := chk_inv hf
    obtain ⟨_, σ12, hk, hf⟩ := bnd_inv hf
    refine z_callV (As := [.ref v11]) (rest := []) (m_X1_minimize hC.2.2.2.2.2.2.2.2 hk) hC hw wd_X1_minimize lkM_X6_187 (isO_sh ho) rfl rfl ⟨rfl, rfl⟩ ⟨(Nat.le_of_ble_eq_true rfl), (Nat.le_of_ble_eq_true rfl)⟩ hl.1 rfl (Nat.le_of_ble_eq_true rfl) dX6_spaceSize_38 ⟨(Nat.le_of_ble_eq_true rfl), (Nat.le_of_ble_eq_true rfl)⟩ (fun H locs hw => ?_)
    refine lv_goto (tgt := 55) hx hb dX6_spaceSize_41 (by decide) ?_
    exact t_X6_spaceSize_L55 hC hr hf hw (lv_sub hl [0] rfl)
set_option maxHeartbeats 4000000 in
set_option maxRecDepth 100000 in
theorem m_X6_spaceSize (h9 : l.stackTraces = false) {Γ : zSh} {a0 : Nat} {a1 : Int32} {a2 : Int32} {σ : zSt} {r : Int32} {σ2 : zSt} (hf : f_X6_spaceSize Γ a0 a1 a2 σ = some (r, σ2)) : Met l yX6_spaceSize (wq yX6_spaceSize cX6_spaceSize 3 (Option.some FieldType.int)) rm_X6_spaceSize (zQ0 D cA B0 [.ref a0, .int a1, .int a2] Γ σ Z) (zQ1 D cA B0 (some (.int r)) Γ σ2 Z) 0 0 (FR B0) := by
  refine z_ofW h9 (by decide) (Nat.le_of_ble_eq_true rfl) ?_
  intro p e s m args below meth c ls hC hr _ hw hl
  have hx := hC.1
  have hb := hC.2.1
  have hl : lv_has ls 3 [(0, .ref a0), (1, .int a1), (2, .int a2)] := hl
  unfold f_X6_spaceSize at hf
  refine lv_aload_n hx hb dX6_spaceSize_0 rfl (lv_at hl 0 rfl) ?_
  obtain ⟨v1, hg, hf⟩ := gfR_inv hf
  refine r_gfR hC hw hg clX6 (Nat.le_of_ble_eq_true rfl) lkF_X6_33 rfl dX6_spaceSize_1 ?_
  refine lv_aload_n hx hb dX6_spaceSize_4 rfl (lv_at hl 0 rfl) ?_
  obtain ⟨v2, hg, hf⟩ := gfR_inv hf
  refine r_gfR hC hw hg clX6 (Nat.le_of_ble_eq_true rfl) lkF_X6_13 rfl dX6_spaceSize_5 ?_
  refine lv_iload_n hx hb dX6_spaceSize_8 rfl (lv_at hl 1 rfl) ?_
  obtain ⟨v3, hg, hf⟩ := ldA_inv hf
  refine r_ldA hC hw hg dX6_spaceSize_9 ?_
  obtain ⟨ho, hf⟩ := chk_inv hf
  obtain ⟨_, σ4, hk, hf⟩ := bnd_inv hf
  refine z_callV (As := [.ref v3]) (rest := []) (m_X0_copyFrom hC.2.2.2.2.2.2.2.2 hk) hC hw wd_X0_copyFrom lkM_X6_172 (isO_sh ho) rfl rfl ⟨rfl, rfl⟩ ⟨(Nat.le_of_ble_eq_true rfl), (Nat.le_of_ble_eq_true rfl)⟩ hl.1 rfl (Nat.le_of_ble_eq_true rfl) dX6_spaceSize_10 ⟨(Nat.le_of_ble_eq_true rfl), (Nat.le_of_ble_eq_true rfl)⟩ (fun H locs hw => ?_)
  refine lv_iload_n hx hb dX6_spaceSize_13 rfl (lv_at hl 2 rfl) ?_
  refine lv_iconst (v := 1) hx hb dX6_spaceSize_14 (by decide) ?_
  refine lv_icmp_ne (tgt := 25) hx hb dX6_spaceSize_15 (by decide) (fun hc => ?_) (fun hc => ?_)
  · rw [if_neg hc] at hf
    exact t_X6_spaceSize_L25 hC hr hf hw (lv_sub hl [0, 2] rfl)
  · rw [if_pos hc] at hf
    refine lv_aload_n hx hb dX6_spaceSize_18 rfl (lv_at hl 0 rfl) ?_
    obtain ⟨v13, hg, hf⟩ := gfR_inv hf
    refine r_gfR hC hw hg clX6 (Nat.le_of_ble_eq_true rfl) lkF_X6_33 rfl dX6_spaceSize_19 ?_
    obtain ⟨ho, hf⟩ := chk_inv hf
    obtain ⟨_, σ14, hk, hf⟩ := bnd_inv hf
    refine z_callV (As := []) (rest := []) (m_X0_reverse hC.2.2.2.2.2.2.2.2 hk) hC hw wd_X0_reverse lkM_X6_175 (isO_sh ho) rfl rfl ⟨rfl, rfl⟩ ⟨(Nat.le_of_ble_eq_true rfl), (Nat.le_of_ble_eq_true rfl)⟩ hl.1 rfl (Nat.le_of_ble_eq_true rfl) dX6_spaceSize_22 ⟨(Nat.le_of_ble_eq_true rfl), (Nat.le_of_ble_eq_true rfl)⟩ (fun H locs hw => ?_)
    exact t_X6_spaceSize_L25 hC hr hf hw (lv_sub hl [0, 2] rfl)
set_option maxHeartbeats 4000000 in
set_option maxRecDepth 100000 in
theorem m_X6_dimension (h9 : l.stackTraces = false) {Γ : zSh} {a0 : Nat} {a1 : Int32} {a2 : Int32} {σ : zSt} {out : ((Int32 × zSt) ⊕ (Nat × zSt))} (hf : f_X6_dimension Γ a0 a1 a2 σ = some out) : vx_Met l yX6_dimension (wq yX6_dimension cX6_dimension 3 (Option.some FieldType.int)) rm_X6_dimension (zQ0 D cA B0 [.ref a0, .int a1, .int a2] Γ σ (ZB B0)) (zQx D cA B0 (fun r : Int32 => some (.int r)) Γ out (ZB B0)) (zXx D cA B0 Γ out (ZB B0)) 2 12 (FR B0) := by
  refine z_ofX h9 (by decide) (Nat.le_of_ble_eq_true rfl) ?_
  intro p e s m args below meth c ls hC hr htab hw hl
  have hx := hC.1
  have hb := hC.2.1
  have hl : lv_has ls 3 [(0, .ref a0), (1, .int a1), (2, .int a2)] := hl
  unfold f_X6_dimension at hf
  refine lv_iload_n hx hb dX6_dimension_0 rfl (lv_at hl 1 rfl) ?_
  obtain ⟨q, hk, hn, hxx⟩ := xbnd_inv hf
  refine z_xcallS (As := [.int a1]) (rest := []) (m_X6_checkSlot hC.2.2.2.2.2.2.2.2 hk) hC hw wd_X6_checkSlot lkM_X6_78 rfl ⟨rfl, rfl⟩ ⟨(Nat.le_of_ble_eq_true rfl), (Nat.le_of_ble_eq_true rfl)⟩ hl.1 rfl (Nat.le_of_ble_eq_true rfl) dX6_dimension_1 ⟨(Nat.le_of_ble_eq_true rfl), (Nat.le_of_ble_eq_true rfl)⟩ (fun u9 σ1 eq H locs hw => ?_) (fun k9 s9 eq H locs q9 ce9 hw e1 e2 e3 => z_xout hC hw (hxx _ _ eq) htab e1 e2 e3 (Nat.le_of_ble_eq_true rfl) (Nat.le_of_ble_eq_true rfl))
  have hf := hn _ _ eq
  refine lv_iload_n hx hb dX6_dimension_4 rfl (lv_at hl 2 rfl) ?_
  refine lv_iconst (v := 0) hx hb dX6_dimension_5 (by decide) ?_
  refine lv_iconst (v := 2) hx hb dX6_dimension_6 (by decide) ?_
  obtain ⟨q, hk, hn, hxx⟩ := xbnd_inv hf
  refine z_xcallS (As := [.int a2, .int 0, .int 2]) (rest := []) (m_X6_checkRange hC.2.2.2.2.2.2.2.2 hk) hC hw wd_X6_checkRange lkM_X6_81 rfl ⟨rfl, rfl⟩ ⟨(Nat.le_of_ble_eq_true rfl), (Nat.le_of_ble_eq_true rfl)⟩ hl.1 rfl (Nat.le_of_ble_eq_true rfl) dX6_dimension_7 ⟨(Nat.le_of_ble_eq_true rfl), (Nat.le_of_ble_eq_true rfl)⟩ (fun u9 σ2 eq H locs hw => ?_) (fun k9 s9 eq H locs q9 ce9 hw e1 e2 e3 => z_xout hC hw (hxx _ _ eq) htab e1 e2 e3 (Nat.le_of_ble_eq_true rfl) (Nat.le_of_ble_eq_true rfl))
  have hf := hn _ _ eq
  refine lv_aload_n hx hb dX6_dimension_10 rfl (lv_at hl 0 rfl) ?_
  refine lv_iload_n hx hb dX6_dimension_11 rfl (lv_at hl 1 rfl) ?_
  refine lv_iload_n hx hb dX6_dimension_12 rfl (lv_at hl 2 rfl) ?_
  obtain ⟨ho, hf⟩ := chk_inv hf
  obtain ⟨r4, σ3, hk, hf⟩ := bnd_inv hf
  refine z_callV (As := [.int a1, .int a2]) (rest := []) (m_X6_spaceSize hC.2.2.2.2.2.2.2.2 hk) hC hw wd_X6_spaceSize lkM_X6_197 (isO_sh ho) rfl rfl ⟨rfl, rfl⟩ ⟨(Nat.le_of_ble_eq_true rfl), (Nat.le_of_ble_eq_true rfl)⟩ hl.1 rfl (Nat.le_of_ble_eq_true rfl) dX6_dimension_13 ⟨(Nat.le_of_ble_eq_true rfl), (Nat.le_of_ble_eq_true rfl)⟩ (fun H locs hw => ?_)
  refine vx_ret ?_
  refine W.widen (k := 2) (n := 12) (Nat.le_of_ble_eq_true rfl) (Nat.le_of_ble_eq_true rfl) ?_
  exact W.iret hx hb hr (z_retx hw (Option.some.inj hf).symm rfl) hw.2.2.2.2.2 dX6_dimension_16 hC.2.2.2.2.2.1
set_option maxHeartbeats 4000000 in
set_option maxRecDepth 100000 in
theorem t_X6_basisWord_L32 (hC : zC p l s m args meth c cX6_basisWord 3 RX6 D cA B0) (hr : meth.sig.returnType = (Option.some FieldType.int)) (htab : ∀ x ∈ c.exceptionTable.toList, False) {Γ : zSh}  {σ : zSt} {out : ((Int32 × zSt) ⊕ (Nat × zSt))} (hf : f_X6_basisWord_L32 Γ  σ = some out) {H : Heap} {locs : List Loc} {ls : Array Slot} (hw : zO D cA B0 Γ σ (ZB B0) s.heap H locs) (hl : lv_has ls 3 []) :
    W p l e rm_X6_basisWord s m args below meth c H locs 1 6 (vx_MQ below (zQx D cA B0 (fun r : Int32 => some (.int r)) Γ out (ZB B0)) (zXx D cA B0 Γ out (ZB B0)) args s 2 12 (FR B0)) (F0 m 32 ls []) := by
  have hx := hC.1
  have hb := hC.2.1
  unfold f_X6_basisWord_L32 at hf
  exact z_throwS (k := 0) hC hw zB_up (Option.some.inj hf).symm htab zt_204_208_0 zstr_206 hl.1 dX6_basisWord_32 dX6_basisWord_35 dX6_basisWord_36 dX6_basisWord_38 dX6_basisWord_41 (Nat.le_of_ble_eq_true rfl) (Nat.le_of_ble_eq_true rfl) (Nat.le_of_ble_eq_true rfl) (Nat.le_of_ble_eq_true rfl) (Nat.le_of_ble_eq_true rfl) (Nat.le_of_ble_eq_true rfl)
set_option maxHeartbeats 4000000 in
set_option maxRecDepth 100000 in
theorem m_X6_basisWord (h9 : l.stackTraces = false) {Γ : zSh} {a0 : Nat} {a1 : Int32} {a2 : Int32} {σ : zSt} {out : ((Int32 × zSt) ⊕ (Nat × zSt))} (hf : f_X6_basisWord Γ a0 a1 a2 σ = some out) : vx_Met l yX6_basisWord (wq yX6_basisWord cX6_basisWord 3 (Option.some FieldType.int)) rm_X6_basisWord (zQ0 D cA B0 [.ref a0, .int a1, .int a2] Γ σ (ZB B0)) (zQx D cA B0 (fun r : Int32 => some (.int r)) Γ out (ZB B0)) (zXx D cA B0 Γ out (ZB B0)) 2 12 (FR B0) := by
  refine z_ofX h9 (by decide) (Nat.le_of_ble_eq_true rfl) ?_
  intro p e s m args below meth c ls hC hr htab hw hl
  have hx := hC.1
  have hb := hC.2.1
  have hl : lv_has ls 3 [(0, .ref a0), (1, .int a1), (2, .int a2)] := hl
  unfold f_X6_basisWord at hf
  refine lv_iload_n hx hb dX6_basisWord_0 rfl (lv_at hl 1 rfl) ?_
  obtain ⟨q, hk, hn, hxx⟩ := xbnd_inv hf
  refine z_xcallS (As := [.int a1]) (rest := []) (m_X6_checkSlot hC.2.2.2.2.2.2.2.2 hk) hC hw wd_X6_checkSlot lkM_X6_78 rfl ⟨rfl, rfl⟩ ⟨(Nat.le_of_ble_eq_true rfl), (Nat.le_of_ble_eq_true rfl)⟩ hl.1 rfl (Nat.le_of_ble_eq_true rfl) dX6_basisWord_1 ⟨(Nat.le_of_ble_eq_true rfl), (Nat.le_of_ble_eq_true rfl)⟩ (fun u9 σ1 eq H locs hw => ?_) (fun k9 s9 eq H locs q9 ce9 hw e1 e2 e3 => z_xout hC hw (hxx _ _ eq) htab e1 e2 e3 (Nat.le_of_ble_eq_true rfl) (Nat.le_of_ble_eq_true rfl))
  have hf := hn _ _ eq
  refine lv_aload_n hx hb dX6_basisWord_4 rfl (lv_at hl 0 rfl) ?_
  obtain ⟨v2, hg, hf⟩ := gfR_inv hf
  refine r_gfR hC hw hg clX6 (Nat.le_of_ble_eq_true rfl) lkF_X6_57 rfl dX6_basisWord_5 ?_
  refine lv_aload_n hx hb dX6_basisWord_8 rfl (lv_at hl 0 rfl) ?_
  obtain ⟨v3, hg, hf⟩ := gfR_inv hf
  refine r_gfR hC hw hg clX6 (Nat.le_of_ble_eq_true rfl) lkF_X6_13 rfl dX6_basisWord_9 ?_
  refine lv_iload_n hx hb dX6_basisWord_12 rfl (lv_at hl 1 rfl) ?_
  obtain ⟨v4, hg, hf⟩ := ldA_inv hf
  refine r_ldA hC hw hg dX6_basisWord_13 ?_
  obtain ⟨ho, hf⟩ := chk_inv hf
  obtain ⟨_, σ5, hk, hf⟩ := bnd_inv hf
  refine z_callV (As := [.ref v4]) (rest := []) (m_X1_explore hC.2.2.2.2.2.2.2.2 hk) hC hw wd_X1_explore lkM_X6_139 (isO_sh ho) rfl rfl ⟨rfl, rfl⟩ ⟨(Nat.le_of_ble_eq_true rfl), (Nat.le_of_ble_eq_true rfl)⟩ hl.1 rfl (Nat.le_of_ble_eq_true rfl) dX6_basisWord_14 ⟨(Nat.le_of_ble_eq_true rfl), (Nat.le_of_ble_eq_true rfl)⟩ (fun H locs hw => ?_)
  refine lv_iload_n hx hb dX6_basisWord_17 rfl (lv_at hl 2 rfl) ?_
  refine lv_if_lt (tgt := 32) hx hb dX6_basisWord_18 (by decide) (fun hc => ?_) (fun hc => ?_)
  · rw [if_pos hc] at hf
    exact t_X6_basisWord_L32 hC hr htab hf hw (lv_sub hl [] rfl)
  · rw [if_neg hc] at hf
    refine lv_iload_n hx hb dX6_basisWord_21 rfl (lv_at hl 2 rfl) ?_
    refine lv_aload_n hx hb dX6_basisWord_22 rfl (lv_at hl 0 rfl) ?_
    obtain ⟨v6, hg, hf⟩ := gfR_inv hf
    refine r_gfR hC hw hg clX6 (Nat.le_of_ble_eq_true rfl) lkF_X6_57 rfl dX6_basisWord_23 ?_
    obtain ⟨v7, hg, hf⟩ := gfI_inv hf
    refine r_gfI hC hw hg clX1 (Nat.le_of_ble_eq_true rfl) lkF_X6_201 rfl dX6_basisWord_26 ?_
    refine lv_icmp_lt (tgt := 42) hx hb dX6_basisWord_29 (by decide) (fun hc => ?_) (fun hc => ?_)
    · rw [if_pos hc] at hf
      refine lv_aload_n hx hb dX6_basisWord_42 rfl (lv_at hl 0 rfl) ?_
      obtain ⟨v8, hg, hf⟩ := gfR_inv hf
      refine r_gfR hC hw hg clX6 (Nat.le_of_ble_eq_true rfl) lkF_X6_57 rfl dX6_basisWord_43 ?_
      obtain ⟨v9, hg, hf⟩ := gfR_inv hf
      refine r_gfR hC hw hg clX1 (Nat.le_of_ble_eq_true rfl) lkF_X6_209 rfl dX6_basisWord_46 ?_
      refine lv_iload_n hx hb dX6_basisWord_49 rfl (lv_at hl 2 rfl) ?_
      obtain ⟨v10, hg, hf⟩ := ldI_inv hf
      refine r_ldI hC hw hg dX6_basisWord_50 ?_
      refine vx_ret ?_
      refine W.widen (k := 2) (n := 12) (Nat.le_of_ble_eq_true rfl) (Nat.le_of_ble_eq_true rfl) ?_
      exact W.iret hx hb hr (z_retx hw (Option.some.inj hf).symm rfl) hw.2.2.2.2.2 dX6_basisWord_51 hC.2.2.2.2.2.1
    · rw [if_neg hc] at hf
      exact t_X6_basisWord_L32 hC hr htab hf hw (lv_sub hl [] rfl)
set_option maxHeartbeats 4000000 in
set_option maxRecDepth 100000 in
theorem m_X6_differing (h9 : l.stackTraces = false) {Γ : zSh} {a0 : Nat} {a1 : Int32} {a2 : Int32} {σ : zSt} {out : ((Int32 × zSt) ⊕ (Nat × zSt))} (hf : f_X6_differing Γ a0 a1 a2 σ = some out) : vx_Met l yX6_differing (wq yX6_differing cX6_differing 3 (Option.some FieldType.int)) rm_X6_differing (zQ0 D cA B0 [.ref a0, .int a1, .int a2] Γ σ (ZB B0)) (zQx D cA B0 (fun r : Int32 => some (.int r)) Γ out (ZB B0)) (zXx D cA B0 Γ out (ZB B0)) 2 12 (FR B0) := by
  refine z_ofX h9 (by decide) (Nat.le_of_ble_eq_true rfl) ?_
  intro p e s m args below meth c ls hC hr htab hw hl
  have hx := hC.1
  have hb := hC.2.1
  have hl : lv_has ls 3 [(0, .ref a0), (1, .int a1), (2, .int a2)] := hl
  unfold f_X6_differing at hf
  refine lv_iload_n hx hb dX6_differing_0 rfl (lv_at hl 1 rfl) ?_
  obtain ⟨q, hk, hn, hxx⟩ := xbnd_inv hf
  refine z_xcallS (As := [.int a1]) (rest := []) (m_X6_checkSlot hC.2.2.2.2.2.2.2.2 hk) hC hw wd_X6_checkSlot lkM_X6_78 rfl ⟨rfl, rfl⟩ ⟨(Nat.le_of_ble_eq_true rfl), (Nat.le_of_ble_eq_true rfl)⟩ hl.1 rfl (Nat.le_of_ble_eq_true rfl) dX6_differing_1 ⟨(Nat.le_of_ble_eq_true rfl), (Nat.le_of_ble_eq_true rfl)⟩ (fun u9 σ1 eq H locs hw => ?_) (fun k9 s9 eq H locs q9 ce9 hw e1 e2 e3 => z_xout hC hw (hxx _ _ eq) htab e1 e2 e3 (Nat.le_of_ble_eq_true rfl) (Nat.le_of_ble_eq_true rfl))
  have hf := hn _ _ eq
  refine lv_iload_n hx hb dX6_differing_4 rfl (lv_at hl 2 rfl) ?_
  obtain ⟨q, hk, hn, hxx⟩ := xbnd_inv hf
  refine z_xcallS (As := [.int a2]) (rest := []) (m_X6_checkSlot hC.2.2.2.2.2.2.2.2 hk) hC hw wd_X6_checkSlot lkM_X6_78 rfl ⟨rfl, rfl⟩ ⟨(Nat.le_of_ble_eq_true rfl), (Nat.le_of_ble_eq_true rfl)⟩ hl.1 rfl (Nat.le_of_ble_eq_true rfl) dX6_differing_5 ⟨(Nat.le_of_ble_eq_true rfl), (Nat.le_of_ble_eq_true rfl)⟩ (fun u9 σ2 eq H locs hw => ?_) (fun k9 s9 eq H locs q9 ce9 hw e1 e2 e3 => z_xout hC hw (hxx _ _ eq) htab e1 e2 e3 (Nat.le_of_ble_eq_true rfl) (Nat.le_of_ble_eq_true rfl))
  have hf := hn _ _ eq
  refine lv_aload_n hx hb dX6_differing_8 rfl (lv_at hl 0 rfl) ?_
  obtain ⟨v3, hg, hf⟩ := gfR_inv hf
  refine r_gfR hC hw hg clX6 (Nat.le_of_ble_eq_true rfl) lkF_X6_37 rfl dX6_differing_9 ?_
  refine lv_aload_n hx hb dX6_differing_12 rfl (lv_at hl 0 rfl) ?_
  obtain ⟨v4, hg, hf⟩ := gfR_inv hf
  refine r_gfR hC hw hg clX6 (Nat.le_of_ble_eq_true rfl) lkF_X6_13 rfl dX6_differing_13 ?_
  refine lv_iload_n hx hb dX6_differing_16 rfl (lv_at hl 1 rfl) ?_
  obtain ⟨v5, hg, hf⟩ := ldA_inv hf
  refine r_ldA hC hw hg dX6_differing_17 ?_
  refine lv_aload_n hx hb dX6_differing_18 rfl (lv_at hl 0 rfl) ?_
  obtain ⟨v6, hg, hf⟩ := gfR_inv hf
  refine r_gfR hC hw hg clX6 (Nat.le_of_ble_eq_true rfl) lkF_X6_13 rfl dX6_differing_19 ?_
  refine lv_iload_n hx hb dX6_differing_22 rfl (lv_at hl 2 rfl) ?_
  obtain ⟨v7, hg, hf⟩ := ldA_inv hf
  refine r_ldA hC hw hg dX6_differing_23 ?_
  obtain ⟨ho, hf⟩ := chk_inv hf
  obtain ⟨_, σ8, hk, hf⟩ := bnd_inv hf
  refine z_callV (As := [.ref v5, .ref v7]) (rest := []) (m_X0_becomeDifference hC.2.2.2.2.2.2.2.2 hk) hC hw wd_X0_becomeDifference lkM_X6_212 (isO_sh ho) rfl rfl ⟨rfl, rfl⟩ ⟨(Nat.le_of_ble_eq_true rfl), (Nat.le_of_ble_eq_true rfl)⟩ hl.1 rfl (Nat.le_of_ble_eq_true rfl) dX6_differing_24 ⟨(Nat.le_of_ble_eq_true rfl), (Nat.le_of_ble_eq_true rfl)⟩ (fun H locs hw => ?_)
  refine lv_aload_n hx hb dX6_differing_27 rfl (lv_at hl 0 rfl) ?_
  obtain ⟨v9, hg, hf⟩ := gfR_inv hf
  refine r_gfR hC hw hg clX6 (Nat.le_of_ble_eq_true rfl) lkF_X6_57 rfl dX6_differing_28 ?_
  refine lv_aload_n hx hb dX6_differing_31 rfl (lv_at hl 0 rfl) ?_
  obtain ⟨v10, hg, hf⟩ := gfR_inv hf
  refine r_gfR hC hw hg clX6 (Nat.le_of_ble_eq_true rfl) lkF_X6_37 rfl dX6_differing_32 ?_
  obtain ⟨ho, hf⟩ := chk_inv hf
  obtain ⟨_, σ11, hk, hf⟩ := bnd_inv hf
  refine z_callV (As := [.ref v10]) (rest := []) (m_X1_explore hC.2.2.2.2.2.2.2.2 hk) hC hw wd_X1_explore lkM_X6_139 (isO_sh ho) rfl rfl ⟨rfl, rfl⟩ ⟨(Nat.le_of_ble_eq_true rfl), (Nat.le_of_ble_eq_true rfl)⟩ hl.1 rfl (Nat.le_of_ble_eq_true rfl) dX6_differing_35 ⟨(Nat.le_of_ble_eq_true rfl), (Nat.le_of_ble_eq_true rfl)⟩ (fun H locs hw => ?_)
  refine lv_aload_n hx hb dX6_differing_38 rfl (lv_at hl 0 rfl) ?_
  obtain ⟨v12, hg, hf⟩ := gfR_inv hf
  refine r_gfR hC hw hg clX6 (Nat.le_of_ble_eq_true rfl) lkF_X6_57 rfl dX6_differing_39 ?_
  obtain ⟨ho, hf⟩ := chk_inv hf
  obtain ⟨r14, σ13, hk, hf⟩ := bnd_inv hf
  refine z_callV (As := []) (rest := []) (m_X1_firstWeighted hC.2.2.2.2.2.2.2.2 hk) hC hw wd_X1_firstWeighted lkM_X6_142 (isO_sh ho) rfl rfl ⟨rfl, rfl⟩ ⟨(Nat.le_of_ble_eq_true rfl), (Nat.le_of_ble_eq_true rfl)⟩ hl.1 rfl (Nat.le_of_ble_eq_true rfl) dX6_differing_42 ⟨(Nat.le_of_ble_eq_true rfl), (Nat.le_of_ble_eq_true rfl)⟩ (fun H locs hw => ?_)
  refine vx_ret ?_
  refine W.widen (k := 2) (n := 12) (Nat.le_of_ble_eq_true rfl) (Nat.le_of_ble_eq_true rfl) ?_
  exact W.iret hx hb hr (z_retx hw (Option.some.inj hf).symm rfl) hw.2.2.2.2.2 dX6_differing_45 hC.2.2.2.2.2.1
set_option maxHeartbeats 4000000 in
set_option maxRecDepth 100000 in
theorem m_X6_joinedWord (h9 : l.stackTraces = false) {Γ : zSh} {a0 : Int32} {a1 : Int32} {σ : zSt} {r : Int32} {σ2 : zSt} (hf : f_X6_joinedWord Γ a0 a1 σ = some (r, σ2)) : Met l yX6_joinedWord (wq yX6_joinedWord cX6_joinedWord 3 (Option.some FieldType.int)) rm_X6_joinedWord (zQ0 D cA B0 [.int a0, .int a1] Γ σ Z) (zQ1 D cA B0 (some (.int r)) Γ σ2 Z) 0 0 (FR B0) := by
  refine z_ofW h9 (by decide) (Nat.le_of_ble_eq_true rfl) ?_
  intro p e s m args below meth c ls hC hr _ hw hl
  have hx := hC.1
  have hb := hC.2.1
  have hl : lv_has ls 3 [(0, .int a0), (1, .int a1)] := hl
  unfold f_X6_joinedWord at hf
  refine lv_iconst (v := 1) hx hb dX6_joinedWord_0 (by decide) ?_
  refine lv_iload_n hx hb dX6_joinedWord_1 rfl (lv_at hl 1 rfl) ?_
  obtain ⟨r2, σ1, hk, hf⟩ := bnd_inv hf
  refine z_callS (As := [.int a1]) (rest := [.int 1]) (m_X6_lengthOf hC.2.2.2.2.2.2.2.2 hk) hC hw wd_X6_lengthOf lkM_X6_275 rfl ⟨rfl, rfl⟩ ⟨(Nat.le_of_ble_eq_true rfl), (Nat.le_of_ble_eq_true rfl)⟩ hl.1 rfl (Nat.le_of_ble_eq_true rfl) dX6_joinedWord_2 ⟨(Nat.le_of_ble_eq_true rfl), (Nat.le_of_ble_eq_true rfl)⟩ (fun H locs hw => ?_)
  refine lv_ishl hx hb dX6_joinedWord_5 ?_
  refine lv_istore_n (lv' := [(2, .int ((1 : Int32) <<< (r2 &&& 31))), (0, .int a0), (1, .int a1)]) hx hb dX6_joinedWord_6 rfl hl (Nat.le_of_ble_eq_true rfl) rfl (fun ls hl => ?_)
  refine lv_iload_n hx hb dX6_joinedWord_7 rfl (lv_at hl 1 rfl) ?_
  refine lv_iconst (v := 1) hx hb dX6_joinedWord_8 (by decide) ?_
  refine lv_iadd hx hb dX6_joinedWord_9 ?_
  refine lv_iload_n hx hb dX6_joinedWord_10 rfl (lv_at hl 0 rfl) ?_
  refine lv_imul hx hb dX6_joinedWord_11 ?_
  refine lv_iload_n hx hb dX6_joinedWord_12 rfl (lv_at hl 2 rfl) ?_
  refine lv_iconst (v := 1) hx hb dX6_joinedWord_13 (by decide) ?_
  refine lv_iadd hx hb dX6_joinedWord_14 ?_
  refine lv_iload_n hx hb dX6_joinedWord_15 rfl (lv_at hl 0 rfl) ?_
  refine lv_isub hx hb dX6_joinedWord_16 ?_
  refine lv_iadd hx hb dX6_joinedWord_17 ?_
  refine lv_iconst (v := 1) hx hb dX6_joinedWord_18 (by decide) ?_
  refine lv_isub hx hb dX6_joinedWord_19 ?_
  first | (obtain ⟨rfl, rfl⟩ := sp_inv hf) | (obtain rfl := Option.some.inj hf)
  exact W.iret hx hb hr (z_ret hw rfl) hw.2.2.2.2.2 dX6_joinedWord_20 hC.2.2.2.2.2.1
set_option maxHeartbeats 4000000 in
set_option maxRecDepth 100000 in
theorem t_X6_hankelRank_B34 (hC : zC p l s m args meth c cX6_hankelRank 5 RX6 D cA B0) (hr : meth.sig.returnType = (Option.some FieldType.int)) (htab : ∀ x ∈ c.exceptionTable.toList, False) {Γ : zSh} {x0 : Nat} {x1 : Int32} {x2 : Int32} {x3 : Int32} {x4 : Int32} {σ : zSt} {out : ((Int32 × zSt) ⊕ (zSt))} (hf : f_X6_hankelRank_B34 Γ x0 x1 x2 x3 x4 σ = some out) {H : Heap} {locs : List Loc} {ls : Array Slot} (hw : zO D cA B0 Γ σ (ZB B0) s.heap H locs) (hl : lv_has ls 5 [(0, .ref x0), (1, .int x1), (2, .int x2), (3, .int x3), (4, .int x4)])
    (kI : ∀ (z4 : Int32) (σ2 : zSt), out = .inl (z4, σ2) → ∀ (H : Heap) (locs : List Loc) (ls : Array Slot), zO D cA B0 Γ σ2 (ZB B0) s.heap H locs → lv_has ls 5 [(0, .ref x0), (1, .int x1), (2, .int x2), (3, .int x3), (4, .int z4)] → W p l e rm_X6_hankelRank s m args below meth c H locs 2 12 Q (F0 m 34 ls []))
    (kE : ∀ (σ2 : zSt), out = .inr σ2 → ∀ (H : Heap) (locs : List Loc) (ls : Array Slot), zO D cA B0 Γ σ2 (ZB B0) s.heap H locs → lv_has ls 5 [(0, .ref x0), (1, .int x1), (2, .int x2), (3, .int x3)] → W p l e rm_X6_hankelRank s m args below meth c H locs 2 12 Q (F0 m 77 ls [])) :
    W p l e rm_X6_hankelRank s m args below meth c H locs 2 12 Q (F0 m 34 ls []) := by
  have hx := hC.1
  have hb := hC.2.1
  unfold f_X6_hankelRank_B34 at hf
  refine lv_iload hx hb dX6_hankelRank_34 (lv_at hl 4 rfl) ?_
  refine lv_iload_n hx hb dX6_hankelRank_36 rfl (lv_at hl 2 rfl) ?_
  refine lv_icmp_ge (tgt := 77) hx hb dX6_hankelRank_37 (by decide) (fun hc => ?_) (fun hc => ?_)
  · rw [if_pos hc] at hf
    exact kE  σ (Option.some.inj hf).symm _ _ _ hw (lv_sub hl [0, 1, 2, 3] rfl)
  · rw [if_neg hc] at hf
    refine lv_aload_n hx hb dX6_hankelRank_40 rfl (lv_at hl 0 rfl) ?_
    obtain ⟨v7, hg, hf⟩ := gfR_inv hf
    refine r_gfR hC hw hg clX6 (Nat.le_of_ble_eq_true rfl) lkF_X6_64 rfl dX6_hankelRank_41 ?_
    obtain ⟨v8, hg, hf⟩ := gfR_inv hf
    refine r_gfR hC hw hg clX3 (Nat.le_of_ble_eq_true rfl) lkF_X6_215 rfl dX6_hankelRank_44 ?_
    refine lv_iload_n hx hb dX6_hankelRank_47 rfl (lv_at hl 3 rfl) ?_
    obtain ⟨v9, hg, hf⟩ := ldG_inv hf
    refine r_ldG hC hw hg dX6_hankelRank_48 ?_
    refine lv_iload hx hb dX6_hankelRank_49 (lv_at hl 4 rfl) ?_
    refine lv_aload_n hx hb dX6_hankelRank_51 rfl (lv_at hl 0 rfl) ?_
    obtain ⟨v10, hg, hf⟩ := gfR_inv hf
    refine r_gfR hC hw hg clX6 (Nat.le_of_ble_eq_true rfl) lkF_X6_50 rfl dX6_hankelRank_52 ?_
    refine lv_aload_n hx hb dX6_hankelRank_55 rfl (lv_at hl 0 rfl) ?_
    obtain ⟨v11, hg, hf⟩ := gfR_inv hf
    refine r_gfR hC hw hg clX6 (Nat.le_of_ble_eq_true rfl) lkF_X6_13 rfl dX6_hankelRank_56 ?_
    refine lv_iload_n hx hb dX6_hankelRank_59 rfl (lv_at hl 1 rfl) ?_
    obtain ⟨v12, hg, hf⟩ := ldA_inv hf
    refine r_ldA hC hw hg dX6_hankelRank_60 ?_
    refine lv_iload_n hx hb dX6_hankelRank_61 rfl (lv_at hl 3 rfl) ?_
    refine lv_iload hx hb dX6_hankelRank_62 (lv_at hl 4 rfl) ?_
    obtain ⟨r14, σ13, hk, hf⟩ := bnd_inv hf
    refine z_callS (As := [.int x3, .int x4]) (rest := [.ref v12, .ref v10, .int x4, .ref v9]) (m_X6_joinedWord hC.2.2.2.2.2.2.2.2 hk) hC hw wd_X6_joinedWord lkM_X6_218 rfl ⟨rfl, rfl⟩ ⟨(Nat.le_of_ble_eq_true rfl), (Nat.le_of_ble_eq_true rfl)⟩ hl.1 rfl (Nat.le_of_ble_eq_true rfl) dX6_hankelRank_64 ⟨(Nat.le_of_ble_eq_true rfl), (Nat.le_of_ble_eq_true rfl)⟩ (fun H locs hw => ?_)
    obtain ⟨ho, hf⟩ := chk_inv hf
    obtain ⟨r16, σ15, hk, hf⟩ := bnd_inv hf
    refine z_callV (As := [.ref v12, .int r14]) (rest := [.int x4, .ref v9]) (m_X4_weigh hC.2.2.2.2.2.2.2.2 hk) hC hw wd_X4_weigh lkM_X6_135 (isO_sh ho) rfl rfl ⟨rfl, rfl⟩ ⟨(Nat.le_of_ble_eq_true rfl), (Nat.le_of_ble_eq_true rfl)⟩ hl.1 rfl (Nat.le_of_ble_eq_true rfl) dX6_hankelRank_67 ⟨(Nat.le_of_ble_eq_true rfl), (Nat.le_of_ble_eq_true rfl)⟩ (fun H locs hw => ?_)
    obtain ⟨σ17, hg, hf⟩ := stI_inv hf
    refine r_stI hC hw hg dX6_hankelRank_70 (fun H locs hw => ?_)
    refine lv_iinc (v := (x4 + 1)) (lv' := [(4, .int (x4 + 1)), (0, .ref x0), (1, .int x1), (2, .int x2), (3, .int x3)]) hx hb dX6_hankelRank_71 hl (k := 4) rfl rfl (Nat.le_of_ble_eq_true rfl) rfl (fun ls hl => ?_)
    refine lv_goto (tgt := 34) hx hb dX6_hankelRank_74 (by decide) ?_
    exact kI (x4 + 1) σ17 (Option.some.inj hf).symm _ _ _ hw (lv_sub hl [1, 2, 3, 4, 0] rfl)
set_option maxHeartbeats 4000000 in
theorem l_X6_hankelRank_B34 (hC : zC p l s m args meth c cX6_hankelRank 5 RX6 D cA B0) (hr : meth.sig.returnType = (Option.some FieldType.int)) (htab : ∀ x ∈ c.exceptionTable.toList, False) {Γ : zSh} {x0 : Nat} {x1 : Int32} {x2 : Int32} {x3 : Int32} {σ2 : zSt} (kE : ∀ (H : Heap) (locs : List Loc) (ls : Array Slot), zO D cA B0 Γ σ2 (ZB B0) s.heap H locs → lv_has ls 5 [(0, .ref x0), (1, .int x1), (2, .int x2), (3, .int x3)] → W p l e rm_X6_hankelRank s m args below meth c H locs 2 12 Q (F0 m 77 ls [])) :
    ∀ (n : Nat) (x4 : Int32) (σ : zSt), loopM (fun q => f_X6_hankelRank_B34 Γ x0 x1 x2 x3 q.1 q.2) n (x4, σ) = some σ2 → ∀ (H : Heap) (locs : List Loc) (ls : Array Slot), zO D cA B0 Γ σ (ZB B0) s.heap H locs → lv_has ls 5 [(0, .ref x0), (1, .int x1), (2, .int x2), (3, .int x3), (4, .int x4)] → W p l e rm_X6_hankelRank s m args below meth c H locs 2 12 Q (F0 m 34 ls []) := by
  intro n
  induction n with
  | zero => intro x4 σ h; exact absurd h (by simp [loopM])
  | succ n ih =>
    intro x4 σ h H locs ls hw hl
    obtain ⟨r, h1, h2, h3⟩ := loopM_inv h
    exact t_X6_hankelRank_B34 hC hr htab h1 hw hl (fun z4 s2 e H locs ls hw hl => ih z4 s2 (h2 _ e) H locs ls hw hl) (fun s2 e H locs ls hw hl => by cases h3 _ e; exact kE H locs ls hw hl)
set_option maxHeartbeats 4000000 in
set_option maxRecDepth 100000 in
theorem t_X6_hankelRank_B26 (hC : zC p l s m args meth c cX6_hankelRank 5 RX6 D cA B0) (hr : meth.sig.returnType = (Option.some FieldType.int)) (htab : ∀ x ∈ c.exceptionTable.toList, False) {Γ : zSh} {x0 : Nat} {x1 : Int32} {x2 : Int32} {x3 : Int32} {σ : zSt} {out : ((Int32 × zSt) ⊕ (zSt))} (hf : f_X6_hankelRank_B26 Γ x0 x1 x2 x3 σ = some out) {H : Heap} {locs : List Loc} {ls : Array Slot} (hw : zO D cA B0 Γ σ (ZB B0) s.heap H locs) (hl : lv_has ls 5 [(0, .ref x0), (1, .int x1), (2, .int x2), (3, .int x3)])
    (kI : ∀ (z3 : Int32) (σ2 : zSt), out = .inl (z3, σ2) → ∀ (H : Heap) (locs : List Loc) (ls : Array Slot), zO D cA B0 Γ σ2 (ZB B0) s.heap H locs → lv_has ls 5 [(0, .ref x0), (1, .int x1), (2, .int x2), (3, .int z3)] → W p l e rm_X6_hankelRank s m args below meth c H locs 2 12 Q (F0 m 26 ls []))
    (kE : ∀ (σ2 : zSt), out = .inr σ2 → ∀ (H : Heap) (locs : List Loc) (ls : Array Slot), zO D cA B0 Γ σ2 (ZB B0) s.heap H locs → lv_has ls 5 [(0, .ref x0), (2, .int x2)] → W p l e rm_X6_hankelRank s m args below meth c H locs 2 12 Q (F0 m 83 ls [])) :
    W p l e rm_X6_hankelRank s m args below meth c H locs 2 12 Q (F0 m 26 ls []) := by
  have hx := hC.1
  have hb := hC.2.1
  unfold f_X6_hankelRank_B26 at hf
  refine lv_iload_n hx hb dX6_hankelRank_26 rfl (lv_at hl 3 rfl) ?_
  refine lv_iload_n hx hb dX6_hankelRank_27 rfl (lv_at hl 2 rfl) ?_
  refine lv_icmp_ge (tgt := 83) hx hb dX6_hankelRank_28 (by decide) (fun hc => ?_) (fun hc => ?_)
  · rw [if_pos hc] at hf
    exact kE  σ (Option.some.inj hf).symm _ _ _ hw (lv_sub hl [0, 2] rfl)
  · rw [if_neg hc] at hf
    refine lv_iconst (v := 0) hx hb dX6_hankelRank_31 (by decide) ?_
    refine lv_istore (lv' := [(4, .int 0), (0, .ref x0), (1, .int x1), (2, .int x2), (3, .int x3)]) hx hb dX6_hankelRank_32 hl (Nat.le_of_ble_eq_true rfl) rfl (fun ls hl => ?_)
    obtain ⟨σ18, hk, hf⟩ := lb0_inv hf
    refine l_X6_hankelRank_B34 hC hr htab (fun H locs ls hw hl => ?_) FUEL 0 σ hk _ _ _ hw (lv_sub hl [1, 2, 3, 4, 0] rfl)
    refine lv_iinc (v := (x3 + 1)) (lv' := [(3, .int (x3 + 1)), (0, .ref x0), (1, .int x1), (2, .int x2)]) hx hb dX6_hankelRank_77 hl (k := 3) rfl rfl (Nat.le_of_ble_eq_true rfl) rfl (fun ls hl => ?_)
    refine lv_goto (tgt := 26) hx hb dX6_hankelRank_80 (by decide) ?_
    exact kI (x3 + 1) σ18 (Option.some.inj hf).symm _ _ _ hw (lv_sub hl [1, 2, 3, 0] rfl)
set_option maxHeartbeats 4000000 in
theorem l_X6_hankelRank_B26 (hC : zC p l s m args meth c cX6_hankelRank 5 RX6 D cA B0) (hr : meth.sig.returnType = (Option.some FieldType.int)) (htab : ∀ x ∈ c.exceptionTable.toList, False) {Γ : zSh} {x0 : Nat} {x1 : Int32} {x2 : Int32} {σ2 : zSt} (kE : ∀ (H : Heap) (locs : List Loc) (ls : Array Slot), zO D cA B0 Γ σ2 (ZB B0) s.heap H locs → lv_has ls 5 [(0, .ref x0), (2, .int x2)] → W p l e rm_X6_hankelRank s m args below meth c H locs 2 12 Q (F0 m 83 ls [])) :
    ∀ (n : Nat) (x3 : Int32) (σ : zSt), loopM (fun q => f_X6_hankelRank_B26 Γ x0 x1 x2 q.1 q.2) n (x3, σ) = some σ2 → ∀ (H : Heap) (locs : List Loc) (ls : Array Slot), zO D cA B0 Γ σ (ZB B0) s.heap H locs → lv_has ls 5 [(0, .ref x0), (1, .int x1), (2, .int x2), (3, .int x3)] → W p l e rm_X6_hankelRank s m args below meth c H locs 2 12 Q (F0 m 26 ls []) := by
  intro n
  induction n with
  | zero => intro x3 σ h; exact absurd h (by simp [loopM])
  | succ n ih =>
    intro x3 σ h H locs ls hw hl
    obtain ⟨r, h1, h2, h3⟩ := loopM_inv h
    exact t_X6_hankelRank_B26 hC hr htab h1 hw hl (fun z3 s2 e H locs ls hw hl => ih z3 s2 (h2 _ e) H locs ls hw hl) (fun s2 e H locs ls hw hl => by cases h3 _ e; exact kE H locs ls hw hl)
set_option maxHeartbeats 4000000 in
set_option maxRecDepth 100000 in
theorem m_X6_hankelRank (h9 : l.stackTraces = false) {Γ : zSh} {a0 : Nat} {a1 : Int32} {a2 : Int32} {σ : zSt} {out : ((Int32 × zSt) ⊕ (Nat × zSt))} (hf : f_X6_hankelRank Γ a0 a1 a2 σ = some out) : vx_Met l yX6_hankelRank (wq yX6_hankelRank cX6_hankelRank 5 (Option.some FieldType.int)) rm_X6_hankelRank (zQ0 D cA B0 [.ref a0, .int a1, .int a2] Γ σ (ZB B0)) (zQx D cA B0 (fun r : Int32 => some (.int r)) Γ out (ZB B0)) (zXx D cA B0 Γ out (ZB B0)) 2 12 (FR B0) := by
  refine z_ofX h9 (by decide) (Nat.le_of_ble_eq_true rfl) ?_
  intro p e s m args below meth c ls hC hr htab hw hl
  have hx := hC.1
  have hb := hC.2.1
  have hl : lv_has ls 5 [(0, .ref a0), (1, .int a1), (2, .int a2)] := hl
  unfold f_X6_hankelRank at hf
  refine lv_iload_n hx hb dX6_hankelRank_0 rfl (lv_at hl 1 rfl) ?_
  obtain ⟨q, hk, hn, hxx⟩ := xbnd_inv hf
  refine z_xcallS (As := [.int a1]) (rest := []) (m_X6_checkSlot hC.2.2.2.2.2.2.2.2 hk) hC hw wd_X6_checkSlot lkM_X6_78 rfl ⟨rfl, rfl⟩ ⟨(Nat.le_of_ble_eq_true rfl), (Nat.le_of_ble_eq_true rfl)⟩ hl.1 rfl (Nat.le_of_ble_eq_true rfl) dX6_hankelRank_1 ⟨(Nat.le_of_ble_eq_true rfl), (Nat.le_of_ble_eq_true rfl)⟩ (fun u9 σ1 eq H locs hw => ?_) (fun k9 s9 eq H locs q9 ce9 hw e1 e2 e3 => z_xout hC hw (hxx _ _ eq) htab e1 e2 e3 (Nat.le_of_ble_eq_true rfl) (Nat.le_of_ble_eq_true rfl))
  have hf := hn _ _ eq
  refine lv_iload_n hx hb dX6_hankelRank_4 rfl (lv_at hl 2 rfl) ?_
  refine lv_iconst (v := 0) hx hb dX6_hankelRank_5 (by decide) ?_
  refine lv_bipush (v := 31) hx hb dX6_hankelRank_6 (by decide) ?_
  obtain ⟨q, hk, hn, hxx⟩ := xbnd_inv hf
  refine z_xcallS (As := [.int a2, .int 0, .int 31]) (rest := []) (m_X6_checkRange hC.2.2.2.2.2.2.2.2 hk) hC hw wd_X6_checkRange lkM_X6_81 rfl ⟨rfl, rfl⟩ ⟨(Nat.le_of_ble_eq_true rfl), (Nat.le_of_ble_eq_true rfl)⟩ hl.1 rfl (Nat.le_of_ble_eq_true rfl) dX6_hankelRank_8 ⟨(Nat.le_of_ble_eq_true rfl), (Nat.le_of_ble_eq_true rfl)⟩ (fun u9 σ2 eq H locs hw => ?_) (fun k9 s9 eq H locs q9 ce9 hw e1 e2 e3 => z_xout hC hw (hxx _ _ eq) htab e1 e2 e3 (Nat.le_of_ble_eq_true rfl) (Nat.le_of_ble_eq_true rfl))
  have hf := hn _ _ eq
  refine lv_aload_n hx hb dX6_hankelRank_11 rfl (lv_at hl 0 rfl) ?_
  obtain ⟨v3, hg, hf⟩ := gfR_inv hf
  refine r_gfR hC hw hg clX6 (Nat.le_of_ble_eq_true rfl) lkF_X6_50 rfl dX6_hankelRank_12 ?_
  refine lv_aload_n hx hb dX6_hankelRank_15 rfl (lv_at hl 0 rfl) ?_
  obtain ⟨v4, hg, hf⟩ := gfR_inv hf
  refine r_gfR hC hw hg clX6 (Nat.le_of_ble_eq_true rfl) lkF_X6_13 rfl dX6_hankelRank_16 ?_
  refine lv_iload_n hx hb dX6_hankelRank_19 rfl (lv_at hl 1 rfl) ?_
  obtain ⟨v5, hg, hf⟩ := ldA_inv hf
  refine r_ldA hC hw hg dX6_hankelRank_20 ?_
  obtain ⟨ho, hf⟩ := chk_inv hf
  obtain ⟨_, σ6, hk, hf⟩ := bnd_inv hf
  refine z_callV (As := [.ref v5]) (rest := []) (m_X4_start hC.2.2.2.2.2.2.2.2 hk) hC hw wd_X4_start lkM_X6_134 (isO_sh ho) rfl rfl ⟨rfl, rfl⟩ ⟨(Nat.le_of_ble_eq_true rfl), (Nat.le_of_ble_eq_true rfl)⟩ hl.1 rfl (Nat.le_of_ble_eq_true rfl) dX6_hankelRank_21 ⟨(Nat.le_of_ble_eq_true rfl), (Nat.le_of_ble_eq_true rfl)⟩ (fun H locs hw => ?_)
  refine lv_iconst (v := 0) hx hb dX6_hankelRank_24 (by decide) ?_
  refine lv_istore_n (lv' := [(3, .int 0), (0, .ref a0), (1, .int a1), (2, .int a2)]) hx hb dX6_hankelRank_25 rfl hl (Nat.le_of_ble_eq_true rfl) rfl (fun ls hl => ?_)
  obtain ⟨σ19, hk, hf⟩ := lb0_inv hf
  refine l_X6_hankelRank_B26 hC hr htab (fun H locs ls hw hl => ?_) FUEL 0 σ6 hk _ _ _ hw (lv_sub hl [1, 2, 3, 0] rfl)
  refine lv_aload_n hx hb dX6_hankelRank_83 rfl (lv_at hl 0 rfl) ?_
  obtain ⟨v20, hg, hf⟩ := gfR_inv hf
  refine r_gfR hC hw hg clX6 (Nat.le_of_ble_eq_true rfl) lkF_X6_64 rfl dX6_hankelRank_84 ?_
  refine lv_iload_n hx hb dX6_hankelRank_87 rfl (lv_at hl 1 rfl) ?_
  refine lv_iload_n hx hb dX6_hankelRank_88 rfl (lv_at hl 1 rfl) ?_
  obtain ⟨ho, hf⟩ := chk_inv hf
  obtain ⟨r22, σ21, hk, hf⟩ := bnd_inv hf
  refine z_callV (As := [.int a2, .int a2]) (rest := []) (m_X3_rank hC.2.2.2.2.2.2.2.2 hk) hC hw wd_X3_rank lkM_X6_221 (isO_sh ho) rfl rfl ⟨rfl, rfl⟩ ⟨(Nat.le_of_ble_eq_true rfl), (Nat.le_of_ble_eq_true rfl)⟩ hl.1 rfl (Nat.le_of_ble_eq_true rfl) dX6_hankelRank_89 ⟨(Nat.le_of_ble_eq_true rfl), (Nat.le_of_ble_eq_true rfl)⟩ (fun H locs hw => ?_)
  refine vx_ret ?_
  refine W.widen (k := 2) (n := 12) (Nat.le_of_ble_eq_true rfl) (Nat.le_of_ble_eq_true rfl) ?_
  exact W.iret hx hb hr (z_retx hw (Option.some.inj hf).symm rfl) hw.2.2.2.2.2 dX6_hankelRank_92 hC.2.2.2.2.2.1
end
