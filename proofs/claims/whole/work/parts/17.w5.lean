section
variable {p : Program} {l : Launch} {e : Env} {s : State} {m : MethodId} {args : Array Value} {below : List Frame} {meth : Method} {c : Code} {Q : State → Prop} {D : va_G} {cA : Nat → ClassId} {B0 : Nat} {Z : Nat → Prop}
set_option maxHeartbeats 4000000 in
set_option maxRecDepth 100000 in
theorem t_X7_scale_B24 (hC : zC p l s m args meth c cX7_scale 4 RX7 D cA B0) (hr : meth.sig.returnType = (Option.some FieldType.int)) {Γ : zSh} {x0 : Nat} {x1 : Int32} {x2 : Int32} {x3 : Int32} {σ : zSt} {out : ((Int32 × zSt) ⊕ (zSt))} (hf : f_X7_scale_B24 Γ x0 x1 x2 x3 σ = some out) {H : Heap} {locs : List Loc} {ls : Array Slot} (hw : zO D cA B0 Γ σ Z s.heap H locs) (hl : lv_has ls 4 [(0, .ref x0), (1, .int x1), (2, .int x2), (3, .int x3)])
    (kI : ∀ (z3 : Int32) (σ2 : zSt), out = .inl (z3, σ2) → ∀ (H : Heap) (locs : List Loc) (ls : Array Slot), zO D cA B0 Γ σ2 Z s.heap H locs → lv_has ls 4 [(0, .ref x0), (1, .int x1), (2, .int x2), (3, .int z3)] → W p l e rm_X7_scale s m args below meth c H locs 0 0 Q (F0 m 24 ls []))
    (kE : ∀ (σ2 : zSt), out = .inr σ2 → ∀ (H : Heap) (locs : List Loc) (ls : Array Slot), zO D cA B0 Γ σ2 Z s.heap H locs → lv_has ls 4 [(0, .ref x0), (1, .int x1)] → W p l e rm_X7_scale s m args below meth c H locs 0 0 Q (F0 m 65 ls [])) :
    W p l e rm_X7_scale s m args below meth c H locs 0 0 Q (F0 m 24 ls []) := by
  have hx := hC.1
  have hb := hC.2.1
  unfold f_X7_scale_B24 at hf
  refine lv_iload_n hx hb dX7_scale_24 rfl (lv_at hl 3 rfl) ?_
  refine lv_aload_n hx hb dX7_scale_25 rfl (lv_at hl 0 rfl) ?_
  refine lv_iload_n hx hb dX7_scale_26 rfl (lv_at hl 1 rfl) ?_
  obtain ⟨ho, hf⟩ := chk_inv hf
  obtain ⟨r9, σ8, hk, hf⟩ := bnd_inv hf
  refine z_callV (As := [.int x1]) (rest := [.int x3]) (m_X7_many hC.2.2.2.2.2.2.2.2 hk) hC hw wd_X7_many lkM_X7_78 (isO_sh ho) rfl rfl ⟨rfl, rfl⟩ ⟨(Nat.le_of_ble_eq_true rfl), (Nat.le_of_ble_eq_true rfl)⟩ hl.1 rfl (Nat.le_of_ble_eq_true rfl) dX7_scale_27 ⟨(Nat.le_of_ble_eq_true rfl), (Nat.le_of_ble_eq_true rfl)⟩ (fun H locs hw => ?_)
  refine lv_icmp_ge (tgt := 65) hx hb dX7_scale_30 (by decide) (fun hc => ?_) (fun hc => ?_)
  · rw [if_pos hc] at hf
    exact kE  σ8 (Option.some.inj hf).symm _ _ _ hw (lv_sub hl [0, 1] rfl)
  · rw [if_neg hc] at hf
    refine lv_aload_n hx hb dX7_scale_33 rfl (lv_at hl 0 rfl) ?_
    obtain ⟨v10, hg, hf⟩ := gfR_inv hf
    refine r_gfR hC hw hg clX7 (Nat.le_of_ble_eq_true rfl) lkF_X7_7 rfl dX7_scale_34 ?_
    refine lv_iload_n hx hb dX7_scale_37 rfl (lv_at hl 1 rfl) ?_
    refine lv_iload_n hx hb dX7_scale_38 rfl (lv_at hl 3 rfl) ?_
    obtain ⟨r12, σ11, hk, hf⟩ := bnd_inv hf
    refine z_callS (As := [.int x1, .int x3]) (rest := [.ref v10]) (m_X7_initialAt hC.2.2.2.2.2.2.2.2 hk) hC hw wd_X7_initialAt lkM_X7_82 rfl ⟨rfl, rfl⟩ ⟨(Nat.le_of_ble_eq_true rfl), (Nat.le_of_ble_eq_true rfl)⟩ hl.1 rfl (Nat.le_of_ble_eq_true rfl) dX7_scale_39 ⟨(Nat.le_of_ble_eq_true rfl), (Nat.le_of_ble_eq_true rfl)⟩ (fun H locs hw => ?_)
    refine lv_aload_n hx hb dX7_scale_42 rfl (lv_at hl 0 rfl) ?_
    obtain ⟨v13, hg, hf⟩ := gfR_inv hf
    refine r_gfR hC hw hg clX7 (Nat.le_of_ble_eq_true rfl) lkF_X7_7 rfl dX7_scale_43 ?_
    refine lv_iload_n hx hb dX7_scale_46 rfl (lv_at hl 1 rfl) ?_
    refine lv_iload_n hx hb dX7_scale_47 rfl (lv_at hl 3 rfl) ?_
    obtain ⟨r15, σ14, hk, hf⟩ := bnd_inv hf
    refine z_callS (As := [.int x1, .int x3]) (rest := [.ref v13, .int r12, .ref v10]) (m_X7_initialAt hC.2.2.2.2.2.2.2.2 hk) hC hw wd_X7_initialAt lkM_X7_82 rfl ⟨rfl, rfl⟩ ⟨(Nat.le_of_ble_eq_true rfl), (Nat.le_of_ble_eq_true rfl)⟩ hl.1 rfl (Nat.le_of_ble_eq_true rfl) dX7_scale_48 ⟨(Nat.le_of_ble_eq_true rfl), (Nat.le_of_ble_eq_true rfl)⟩ (fun H locs hw => ?_)
    obtain ⟨v16, hg, hf⟩ := ldI_inv hf
    refine r_ldI hC hw hg dX7_scale_51 ?_
    refine lv_iload_n hx hb dX7_scale_52 rfl (lv_at hl 2 rfl) ?_
    refine lv_imul hx hb dX7_scale_53 ?_
    refine lv_sipush (v := 10007) hx hb dX7_scale_54 (by decide) ?_
    obtain ⟨v17, hg, hf⟩ := rmI_inv hf
    refine r_rmI hC hg dX7_scale_57 ?_
    obtain ⟨σ18, hg, hf⟩ := stI_inv hf
    refine r_stI hC hw hg dX7_scale_58 (fun H locs hw => ?_)
    refine lv_iinc (v := (x3 + 1)) (lv' := [(3, .int (x3 + 1)), (0, .ref x0), (1, .int x1), (2, .int x2)]) hx hb dX7_scale_59 hl (k := 3) rfl rfl (Nat.le_of_ble_eq_true rfl) rfl (fun ls hl => ?_)
    refine lv_goto (tgt := 24) hx hb dX7_scale_62 (by decide) ?_
    exact kI (x3 + 1) σ18 (Option.some.inj hf).symm _ _ _ hw (lv_sub hl [1, 2, 3, 0] rfl)
set_option maxHeartbeats 4000000 in
theorem l_X7_scale_B24 (hC : zC p l s m args meth c cX7_scale 4 RX7 D cA B0) (hr : meth.sig.returnType = (Option.some FieldType.int)) {Γ : zSh} {x0 : Nat} {x1 : Int32} {x2 : Int32} {σ2 : zSt} (kE : ∀ (H : Heap) (locs : List Loc) (ls : Array Slot), zO D cA B0 Γ σ2 Z s.heap H locs → lv_has ls 4 [(0, .ref x0), (1, .int x1)] → W p l e rm_X7_scale s m args below meth c H locs 0 0 Q (F0 m 65 ls [])) :
    ∀ (n : Nat) (x3 : Int32) (σ : zSt), loopM (fun q => f_X7_scale_B24 Γ x0 x1 x2 q.1 q.2) n (x3, σ) = some σ2 → ∀ (H : Heap) (locs : List Loc) (ls : Array Slot), zO D cA B0 Γ σ Z s.heap H locs → lv_has ls 4 [(0, .ref x0), (1, .int x1), (2, .int x2), (3, .int x3)] → W p l e rm_X7_scale s m args below meth c H locs 0 0 Q (F0 m 24 ls []) := by
  intro n
  induction n with
  | zero => intro x3 σ h; exact absurd h (by simp [loopM])
  | succ n ih =>
    intro x3 σ h H locs ls hw hl
    obtain ⟨r, h1, h2, h3⟩ := loopM_inv h
    exact t_X7_scale_B24 hC hr h1 hw hl (fun z3 s2 e H locs ls hw hl => ih z3 s2 (h2 _ e) H locs ls hw hl) (fun s2 e H locs ls hw hl => by cases h3 _ e; exact kE H locs ls hw hl)
set_option maxHeartbeats 4000000 in
set_option maxRecDepth 100000 in
theorem m_X7_scale (h9 : l.stackTraces = false) {Γ : zSh} {a0 : Nat} {a1 : Int32} {a2 : Int32} {σ : zSt} {r : Int32} {σ2 : zSt} (hf : f_X7_scale Γ a0 a1 a2 σ = some (r, σ2)) : Met l yX7_scale (wq yX7_scale cX7_scale 4 (Option.some FieldType.int)) rm_X7_scale (zQ0 D cA B0 [.ref a0, .int a1, .int a2] Γ σ Z) (zQ1 D cA B0 (some (.int r)) Γ σ2 Z) 0 0 (FR B0) := by
  refine z_ofW h9 (by decide) (Nat.le_of_ble_eq_true rfl) ?_
  intro p e s m args below meth c ls hC hr _ hw hl
  have hx := hC.1
  have hb := hC.2.1
  have hl : lv_has ls 4 [(0, .ref a0), (1, .int a1), (2, .int a2)] := hl
  unfold f_X7_scale at hf
  refine lv_aload_n hx hb dX7_scale_0 rfl (lv_at hl 0 rfl) ?_
  refine lv_iload_n hx hb dX7_scale_1 rfl (lv_at hl 1 rfl) ?_
  obtain ⟨r2, σ1, hk, hf⟩ := bnd_inv hf
  refine z_callS (As := [.int a1]) (rest := [.ref a0]) (m_X7_isSlot hC.2.2.2.2.2.2.2.2 hk) hC hw wd_X7_isSlot lkM_X7_88 rfl ⟨rfl, rfl⟩ ⟨(Nat.le_of_ble_eq_true rfl), (Nat.le_of_ble_eq_true rfl)⟩ hl.1 rfl (Nat.le_of_ble_eq_true rfl) dX7_scale_2 ⟨(Nat.le_of_ble_eq_true rfl), (Nat.le_of_ble_eq_true rfl)⟩ (fun H locs hw => ?_)
  refine lv_iload_n hx hb dX7_scale_5 rfl (lv_at hl 2 rfl) ?_
  obtain ⟨r4, σ3, hk, hf⟩ := bnd_inv hf
  refine z_callS (As := [.int a2]) (rest := [.int r2, .ref a0]) (m_X7_isNumber hC.2.2.2.2.2.2.2.2 hk) hC hw wd_X7_isNumber lkM_X7_109 rfl ⟨rfl, rfl⟩ ⟨(Nat.le_of_ble_eq_true rfl), (Nat.le_of_ble_eq_true rfl)⟩ hl.1 rfl (Nat.le_of_ble_eq_true rfl) dX7_scale_6 ⟨(Nat.le_of_ble_eq_true rfl), (Nat.le_of_ble_eq_true rfl)⟩ (fun H locs hw => ?_)
  refine lv_iconst (v := 1) hx hb dX7_scale_9 (by decide) ?_
  obtain ⟨ho, hf⟩ := chk_inv hf
  obtain ⟨r6, σ5, hk, hf⟩ := bnd_inv hf
  refine z_callV (As := [.int r2, .int r4, .int 1]) (rest := []) (m_X7_goes hC.2.2.2.2.2.2.2.2 hk) hC hw wd_X7_goes lkM_X7_94 (isO_sh ho) rfl rfl ⟨rfl, rfl⟩ ⟨(Nat.le_of_ble_eq_true rfl), (Nat.le_of_ble_eq_true rfl)⟩ hl.1 rfl (Nat.le_of_ble_eq_true rfl) dX7_scale_10 ⟨(Nat.le_of_ble_eq_true rfl), (Nat.le_of_ble_eq_true rfl)⟩ (fun H locs hw => ?_)
  refine lv_if_ne (tgt := 18) hx hb dX7_scale_13 (by decide) (fun hc => ?_) (fun hc => ?_)
  · rw [if_neg hc] at hf
    refine lv_aload_n hx hb dX7_scale_18 rfl (lv_at hl 0 rfl) ?_
    obtain ⟨ho, hf⟩ := chk_inv hf
    obtain ⟨_, σ7, hk, hf⟩ := bnd_inv hf
    refine z_callV (As := []) (rest := []) (m_X7_save hC.2.2.2.2.2.2.2.2 hk) hC hw wd_X7_save lkM_X7_98 (isO_sh ho) rfl rfl ⟨rfl, rfl⟩ ⟨(Nat.le_of_ble_eq_true rfl), (Nat.le_of_ble_eq_true rfl)⟩ hl.1 rfl (Nat.le_of_ble_eq_true rfl) dX7_scale_19 ⟨(Nat.le_of_ble_eq_true rfl), (Nat.le_of_ble_eq_true rfl)⟩ (fun H locs hw => ?_)
    refine lv_iconst (v := 0) hx hb dX7_scale_22 (by decide) ?_
    refine lv_istore_n (lv' := [(3, .int 0), (0, .ref a0), (1, .int a1), (2, .int a2)]) hx hb dX7_scale_23 rfl hl (Nat.le_of_ble_eq_true rfl) rfl (fun ls hl => ?_)
    obtain ⟨σ19, hk, hf⟩ := lb0_inv hf
    refine l_X7_scale_B24 hC hr (fun H locs ls hw hl => ?_) FUEL 0 σ7 hk _ _ _ hw (lv_sub hl [1, 2, 3, 0] rfl)
    refine lv_aload_n hx hb dX7_scale_65 rfl (lv_at hl 0 rfl) ?_
    refine lv_iload_n hx hb dX7_scale_66 rfl (lv_at hl 1 rfl) ?_
    obtain ⟨ho, hf⟩ := chk_inv hf
    obtain ⟨r21, σ20, hk, hf⟩ := bnd_inv hf
    refine z_callV (As := [.int a1]) (rest := []) (m_X7_emptyWeight hC.2.2.2.2.2.2.2.2 hk) hC hw wd_X7_emptyWeight lkM_X7_140 (isO_sh ho) rfl rfl ⟨rfl, rfl⟩ ⟨(Nat.le_of_ble_eq_true rfl), (Nat.le_of_ble_eq_true rfl)⟩ hl.1 rfl (Nat.le_of_ble_eq_true rfl) dX7_scale_67 ⟨(Nat.le_of_ble_eq_true rfl), (Nat.le_of_ble_eq_true rfl)⟩ (fun H locs hw => ?_)
    first | (obtain ⟨rfl, rfl⟩ := sp_inv hf) | (obtain rfl := Option.some.inj hf)
    exact W.iret hx hb hr (z_ret hw rfl) hw.2.2.2.2.2 dX7_scale_70 hC.2.2.2.2.2.1
  · rw [if_pos hc] at hf
    refine lv_iconst (v := 0) hx hb dX7_scale_16 (by decide) ?_
    first | (obtain ⟨rfl, rfl⟩ := sp_inv hf) | (obtain rfl := Option.some.inj hf)
    exact W.iret hx hb hr (z_ret hw rfl) hw.2.2.2.2.2 dX7_scale_17 hC.2.2.2.2.2.1
set_option maxHeartbeats 4000000 in
set_option maxRecDepth 100000 in
theorem t_X7_eliminates_B19 (hC : zC p l s m args meth c cX7_eliminates 10 RX7 D cA B0) (hr : meth.sig.returnType = (Option.none : Option Jvm.ClassFile.FieldType)) {Γ : zSh} {x0 : Nat} {x1 : Int32} {x2 : Int32} {x3 : Int32} {x4 : Int32} {x5 : Int32} {x6 : Int32} {x7 : Int32} {σ : zSt} {out : ((Int32 × zSt) ⊕ (zSt))} (hf : f_X7_eliminates_B19 Γ x0 x1 x2 x3 x4 x5 x6 x7 σ = some out) {H : Heap} {locs : List Loc} {ls : Array Slot} (hw : zO D cA B0 Γ σ Z s.heap H locs) (hl : lv_has ls 10 [(0, .ref x0), (1, .int x1), (2, .int x2), (3, .int x3), (4, .int x4), (5, .int x5), (6, .int x6), (7, .int x7)])
    (kI : ∀ (z7 : Int32) (σ2 : zSt), out = .inl (z7, σ2) → ∀ (H : Heap) (locs : List Loc) (ls : Array Slot), zO D cA B0 Γ σ2 Z s.heap H locs → lv_has ls 10 [(0, .ref x0), (1, .int x1), (2, .int x2), (3, .int x3), (4, .int x4), (5, .int x5), (6, .int x6), (7, .int z7)] → W p l e rm_X7_eliminates s m args below meth c H locs 0 0 Q (F0 m 19 ls []))
    (kE : ∀ (σ2 : zSt), out = .inr σ2 → ∀ (H : Heap) (locs : List Loc) (ls : Array Slot), zO D cA B0 Γ σ2 Z s.heap H locs → lv_has ls 10 [(0, .ref x0), (2, .int x2), (3, .int x3), (4, .int x4), (5, .int x5)] → W p l e rm_X7_eliminates s m args below meth c H locs 0 0 Q (F0 m 91 ls [])) :
    W p l e rm_X7_eliminates s m args below meth c H locs 0 0 Q (F0 m 19 ls []) := by
  have hx := hC.1
  have hb := hC.2.1
  unfold f_X7_eliminates_B19 at hf
  refine lv_iload hx hb dX7_eliminates_19 (lv_at hl 7 rfl) ?_
  refine lv_iload hx hb dX7_eliminates_21 (lv_at hl 5 rfl) ?_
  refine lv_icmp_ge (tgt := 91) hx hb dX7_eliminates_23 (by decide) (fun hc => ?_) (fun hc => ?_)
  · rw [if_pos hc] at hf
    exact kE  σ (Option.some.inj hf).symm _ _ _ hw (lv_sub hl [0, 2, 3, 4, 5] rfl)
  · rw [if_neg hc] at hf
    refine lv_aload_n hx hb dX7_eliminates_26 rfl (lv_at hl 0 rfl) ?_
    obtain ⟨v5, hg, hf⟩ := gfR_inv hf
    refine r_gfR hC hw hg clX7 (Nat.le_of_ble_eq_true rfl) lkF_X7_43 rfl dX7_eliminates_27 ?_
    refine lv_bipush (v := 32) hx hb dX7_eliminates_30 (by decide) ?_
    refine lv_iload_n hx hb dX7_eliminates_32 rfl (lv_at hl 1 rfl) ?_
    refine lv_imul hx hb dX7_eliminates_33 ?_
    refine lv_iload hx hb dX7_eliminates_34 (lv_at hl 7 rfl) ?_
    refine lv_iadd hx hb dX7_eliminates_36 ?_
    obtain ⟨v6, hg, hf⟩ := ldI_inv hf
    refine r_ldI hC hw hg dX7_eliminates_37 ?_
    refine lv_iload hx hb dX7_eliminates_38 (lv_at hl 6 rfl) ?_
    refine lv_imul hx hb dX7_eliminates_40 ?_
    refine lv_sipush (v := 10007) hx hb dX7_eliminates_41 (by decide) ?_
    obtain ⟨v7, hg, hf⟩ := rmI_inv hf
    refine r_rmI hC hg dX7_eliminates_44 ?_
    refine lv_istore (lv' := [(8, .int v7), (0, .ref x0), (1, .int x1), (2, .int x2), (3, .int x3), (4, .int x4), (5, .int x5), (6, .int x6), (7, .int x7)]) hx hb dX7_eliminates_45 hl (Nat.le_of_ble_eq_true rfl) rfl (fun ls hl => ?_)
    refine lv_aload_n hx hb dX7_eliminates_47 rfl (lv_at hl 1 rfl) ?_
    obtain ⟨v8, hg, hf⟩ := gfR_inv hf
    refine r_gfR hC hw hg clX7 (Nat.le_of_ble_eq_true rfl) lkF_X7_43 rfl dX7_eliminates_48 ?_
    refine lv_bipush (v := 32) hx hb dX7_eliminates_51 (by decide) ?_
    refine lv_iload_n hx hb dX7_eliminates_53 rfl (lv_at hl 2 rfl) ?_
    refine lv_imul hx hb dX7_eliminates_54 ?_
    refine lv_iload hx hb dX7_eliminates_55 (lv_at hl 8 rfl) ?_
    refine lv_iadd hx hb dX7_eliminates_57 ?_
    refine lv_aload_n hx hb dX7_eliminates_58 rfl (lv_at hl 1 rfl) ?_
    obtain ⟨v9, hg, hf⟩ := gfR_inv hf
    refine r_gfR hC hw hg clX7 (Nat.le_of_ble_eq_true rfl) lkF_X7_43 rfl dX7_eliminates_59 ?_
    refine lv_bipush (v := 32) hx hb dX7_eliminates_62 (by decide) ?_
    refine lv_iload_n hx hb dX7_eliminates_64 rfl (lv_at hl 3 rfl) ?_
    refine lv_imul hx hb dX7_eliminates_65 ?_
    refine lv_iload hx hb dX7_eliminates_66 (lv_at hl 8 rfl) ?_
    refine lv_iadd hx hb dX7_eliminates_68 ?_
    obtain ⟨v10, hg, hf⟩ := ldI_inv hf
    refine r_ldI hC hw hg dX7_eliminates_69 ?_
    obtain ⟨σ11, hg, hf⟩ := stI_inv hf
    refine r_stI hC hw hg dX7_eliminates_70 (fun H locs hw => ?_)
    refine lv_aload_n hx hb dX7_eliminates_71 rfl (lv_at hl 1 rfl) ?_
    obtain ⟨v12, hg, hf⟩ := gfR_inv hf
    refine r_gfR hC hw hg clX7 (Nat.le_of_ble_eq_true rfl) lkF_X7_43 rfl dX7_eliminates_72 ?_
    refine lv_bipush (v := 32) hx hb dX7_eliminates_75 (by decide) ?_
    refine lv_iload_n hx hb dX7_eliminates_77 rfl (lv_at hl 3 rfl) ?_
    refine lv_imul hx hb dX7_eliminates_78 ?_
    refine lv_iload hx hb dX7_eliminates_79 (lv_at hl 8 rfl) ?_
    refine lv_iadd hx hb dX7_eliminates_81 ?_
    refine lv_iload hx hb dX7_eliminates_82 (lv_at hl 0 rfl) ?_
    obtain ⟨σ13, hg, hf⟩ := stI_inv hf
    refine r_stI hC hw hg dX7_eliminates_84 (fun H locs hw => ?_)
    refine lv_iinc (v := (x7 + 1)) (lv' := [(7, .int (x7 + 1)), (8, .int v7), (0, .ref x0), (1, .int x1), (2, .int x2), (3, .int x3), (4, .int x4), (5, .int x5), (6, .int x6)]) hx hb dX7_eliminates_85 hl (k := 8) rfl rfl (Nat.le_of_ble_eq_true rfl) rfl (fun ls hl => ?_)
    refine lv_goto (tgt := 19) hx hb dX7_eliminates_88 (by decide) ?_
    exact kI (x7 + 1) σ13 (Option.some.inj hf).symm _ _ _ hw (lv_sub hl [2, 3, 4, 5, 6, 7, 8, 0] rfl)
set_option maxHeartbeats 4000000 in
theorem l_X7_eliminates_B19 (hC : zC p l s m args meth c cX7_eliminates 10 RX7 D cA B0) (hr : meth.sig.returnType = (Option.none : Option Jvm.ClassFile.FieldType)) {Γ : zSh} {x0 : Nat} {x1 : Int32} {x2 : Int32} {x3 : Int32} {x4 : Int32} {x5 : Int32} {x6 : Int32} {σ2 : zSt} (kE : ∀ (H : Heap) (locs : List Loc) (ls : Array Slot), zO D cA B0 Γ σ2 Z s.heap H locs → lv_has ls 10 [(0, .ref x0), (2, .int x2), (3, .int x3), (4, .int x4), (5, .int x5)] → W p l e rm_X7_eliminates s m args below meth c H locs 0 0 Q (F0 m 91 ls [])) :
    ∀ (n : Nat) (x7 : Int32) (σ : zSt), loopM (fun q => f_X7_eliminates_B19 Γ x0 x1 x2 x3 x4 x5 x6 q.1 q.2) n (x7, σ) = some σ2 → ∀ (H : Heap) (locs : List Loc) (ls : Array Slot), zO D cA B0 Γ σ Z s.heap H locs → lv_has ls 10 [(0, .ref x0), (1, .int x1), (2, .int x2), (3, .int x3), (4, .int x4), (5, .int x5), (6, .int x6), (7, .int x7)] → W p l e rm_X7_eliminates s m args below meth c H locs 0 0 Q (F0 m 19 ls []) := by
  intro n
  induction n with
  | zero => intro x7 σ h; exact absurd h (by simp [loopM])
  | succ n ih =>
    intro x7 σ h H locs ls hw hl
    obtain ⟨r, h1, h2, h3⟩ := loopM_inv h
    exact t_X7_eliminates_B19 hC hr h1 hw hl (fun z7 s2 e H locs ls hw hl => ih z7 s2 (h2 _ e) H locs ls hw hl) (fun s2 e H locs ls hw hl => by cases h3 _ e; exact kE H locs ls hw hl)
set_option maxHeartbeats 4000000 in
set_option maxRecDepth 100000 in
theorem t_X7_eliminates_B120 (hC : zC p l s m args meth c cX7_eliminates 10 RX7 D cA B0) (hr : meth.sig.returnType = (Option.none : Option Jvm.ClassFile.FieldType)) {Γ : zSh} {x0 : Nat} {x2 : Int32} {x3 : Int32} {x4 : Int32} {x5 : Int32} {x7 : Int32} {x8 : Int32} {x9 : Int32} {σ : zSt} {out : ((Int32 × zSt) ⊕ (zSt))} (hf : f_X7_eliminates_B120 Γ x0 x2 x3 x4 x5 x7 x8 x9 σ = some out) {H : Heap} {locs : List Loc} {ls : Array Slot} (hw : zO D cA B0 Γ σ Z s.heap H locs) (hl : lv_has ls 10 [(0, .ref x0), (2, .int x2), (3, .int x3), (4, .int x4), (5, .int x5), (7, .int x7), (8, .int x8), (9, .int x9)])
    (kI : ∀ (z9 : Int32) (σ2 : zSt), out = .inl (z9, σ2) → ∀ (H : Heap) (locs : List Loc) (ls : Array Slot), zO D cA B0 Γ σ2 Z s.heap H locs → lv_has ls 10 [(0, .ref x0), (2, .int x2), (3, .int x3), (4, .int x4), (5, .int x5), (7, .int x7), (8, .int x8), (9, .int z9)] → W p l e rm_X7_eliminates s m args below meth c H locs 0 0 Q (F0 m 120 ls []))
    (kE : ∀ (σ2 : zSt), out = .inr σ2 → ∀ (H : Heap) (locs : List Loc) (ls : Array Slot), zO D cA B0 Γ σ2 Z s.heap H locs → lv_has ls 10 [(0, .ref x0), (2, .int x2), (3, .int x3), (4, .int x4), (5, .int x5), (7, .int x7)] → W p l e rm_X7_eliminates s m args below meth c H locs 0 0 Q (F0 m 188 ls [])) :
    W p l e rm_X7_eliminates s m args below meth c H locs 0 0 Q (F0 m 120 ls []) := by
  have hx := hC.1
  have hb := hC.2.1
  unfold f_X7_eliminates_B120 at hf
  refine lv_iload hx hb dX7_eliminates_120 (lv_at hl 7 rfl) ?_
  refine lv_iload hx hb dX7_eliminates_122 (lv_at hl 4 rfl) ?_
  refine lv_icmp_ge (tgt := 188) hx hb dX7_eliminates_124 (by decide) (fun hc => ?_) (fun hc => ?_)
  · rw [if_pos hc] at hf
    exact kE  σ (Option.some.inj hf).symm _ _ _ hw (lv_sub hl [0, 1, 2, 3, 4, 5] rfl)
  · rw [if_neg hc] at hf
    refine lv_iload hx hb dX7_eliminates_127 (lv_at hl 6 rfl) ?_
    refine lv_if_le (tgt := 188) hx hb dX7_eliminates_129 (by decide) (fun hc => ?_) (fun hc => ?_)
    · rw [if_pos hc] at hf
      exact kE  σ (Option.some.inj hf).symm _ _ _ hw (lv_sub hl [0, 1, 2, 3, 4, 5] rfl)
    · rw [if_neg hc] at hf
      refine lv_aload_n hx hb dX7_eliminates_132 rfl (lv_at hl 0 rfl) ?_
      obtain ⟨v17, hg, hf⟩ := gfR_inv hf
      refine r_gfR hC hw hg clX7 (Nat.le_of_ble_eq_true rfl) lkF_X7_43 rfl dX7_eliminates_133 ?_
      refine lv_bipush (v := 32) hx hb dX7_eliminates_136 (by decide) ?_
      refine lv_iload hx hb dX7_eliminates_138 (lv_at hl 5 rfl) ?_
      refine lv_imul hx hb dX7_eliminates_140 ?_
      refine lv_iload hx hb dX7_eliminates_141 (lv_at hl 7 rfl) ?_
      refine lv_iadd hx hb dX7_eliminates_143 ?_
      refine lv_aload_n hx hb dX7_eliminates_144 rfl (lv_at hl 0 rfl) ?_
      obtain ⟨v18, hg, hf⟩ := gfR_inv hf
      refine r_gfR hC hw hg clX7 (Nat.le_of_ble_eq_true rfl) lkF_X7_43 rfl dX7_eliminates_145 ?_
      refine lv_bipush (v := 32) hx hb dX7_eliminates_148 (by decide) ?_
      refine lv_iload hx hb dX7_eliminates_150 (lv_at hl 5 rfl) ?_
      refine lv_imul hx hb dX7_eliminates_152 ?_
      refine lv_iload hx hb dX7_eliminates_153 (lv_at hl 7 rfl) ?_
      refine lv_iadd hx hb dX7_eliminates_155 ?_
      obtain ⟨v19, hg, hf⟩ := ldI_inv hf
      refine r_ldI hC hw hg dX7_eliminates_156 ?_
      refine lv_sipush (v := 10007) hx hb dX7_eliminates_157 (by decide) ?_
      refine lv_iload hx hb dX7_eliminates_160 (lv_at hl 6 rfl) ?_
      refine lv_isub hx hb dX7_eliminates_162 ?_
      refine lv_aload_n hx hb dX7_eliminates_163 rfl (lv_at hl 0 rfl) ?_
      obtain ⟨v20, hg, hf⟩ := gfR_inv hf
      refine r_gfR hC hw hg clX7 (Nat.le_of_ble_eq_true rfl) lkF_X7_43 rfl dX7_eliminates_164 ?_
      refine lv_bipush (v := 32) hx hb dX7_eliminates_167 (by decide) ?_
      refine lv_iload_n hx hb dX7_eliminates_169 rfl (lv_at hl 1 rfl) ?_
      refine lv_imul hx hb dX7_eliminates_170 ?_
      refine lv_iload hx hb dX7_eliminates_171 (lv_at hl 7 rfl) ?_
      refine lv_iadd hx hb dX7_eliminates_173 ?_
      obtain ⟨v21, hg, hf⟩ := ldI_inv hf
      refine r_ldI hC hw hg dX7_eliminates_174 ?_
      refine lv_imul hx hb dX7_eliminates_175 ?_
      refine lv_iadd hx hb dX7_eliminates_176 ?_
      refine lv_sipush (v := 10007) hx hb dX7_eliminates_177 (by decide) ?_
      obtain ⟨v22, hg, hf⟩ := rmI_inv hf
      refine r_rmI hC hg dX7_eliminates_180 ?_
      obtain ⟨σ23, hg, hf⟩ := stI_inv hf
      refine r_stI hC hw hg dX7_eliminates_181 (fun H locs hw => ?_)
      refine lv_iinc (v := (x9 + 1)) (lv' := [(9, .int (x9 + 1)), (0, .ref x0), (2, .int x2), (3, .int x3), (4, .int x4), (5, .int x5), (7, .int x7), (8, .int x8)]) hx hb dX7_eliminates_182 hl (k := 7) rfl rfl (Nat.le_of_ble_eq_true rfl) rfl (fun ls hl => ?_)
      refine lv_goto (tgt := 120) hx hb dX7_eliminates_185 (by decide) ?_
      exact kI (x9 + 1) σ23 (Option.some.inj hf).symm _ _ _ hw (lv_sub hl [1, 2, 3, 4, 5, 6, 7, 0] rfl)
set_option maxHeartbeats 4000000 in
theorem l_X7_eliminates_B120 (hC : zC p l s m args meth c cX7_eliminates 10 RX7 D cA B0) (hr : meth.sig.returnType = (Option.none : Option Jvm.ClassFile.FieldType)) {Γ : zSh} {x0 : Nat} {x2 : Int32} {x3 : Int32} {x4 : Int32} {x5 : Int32} {x7 : Int32} {x8 : Int32} {σ2 : zSt} (kE : ∀ (H : Heap) (locs : List Loc) (ls : Array Slot), zO D cA B0 Γ σ2 Z s.heap H locs → lv_has ls 10 [(0, .ref x0), (2, .int x2), (3, .int x3), (4, .int x4), (5, .int x5), (7, .int x7)] → W p l e rm_X7_eliminates s m args below meth c H locs 0 0 Q (F0 m 188 ls [])) :
    ∀ (n : Nat) (x9 : Int32) (σ : zSt), loopM (fun q => f_X7_eliminates_B120 Γ x0 x2 x3 x4 x5 x7 x8 q.1 q.2) n (x9, σ) = some σ2 → ∀ (H : Heap) (locs : List Loc) (ls : Array Slot), zO D cA B0 Γ σ Z s.heap H locs → lv_has ls 10 [(0, .ref x0), (2, .int x2), (3, .int x3), (4, .int x4), (5, .int x5), (7, .int x7), (8, .int x8), (9, .int x9)] → W p l e rm_X7_eliminates s m args below meth c H locs 0 0 Q (F0 m 120 ls []) := by
  intro n
  induction n with
  | zero => intro x9 σ h; exact absurd h (by simp [loopM])
  | succ n ih =>
    intro x9 σ h H locs ls hw hl
    obtain ⟨r, h1, h2, h3⟩ := loopM_inv h
    exact t_X7_eliminates_B120 hC hr h1 hw hl (fun z9 s2 e H locs ls hw hl => ih z9 s2 (h2 _ e) H locs ls hw hl) (fun s2 e H locs ls hw hl => by cases h3 _ e; exact kE H locs ls hw hl)
set_option maxHeartbeats 4000000 in
set_option maxRecDepth 100000 in
theorem t_X7_eliminates_B96 (hC : zC p l s m args meth c cX7_eliminates 10 RX7 D cA B0) (hr : meth.sig.returnType = (Option.none : Option Jvm.ClassFile.FieldType)) {Γ : zSh} {x0 : Nat} {x2 : Int32} {x3 : Int32} {x4 : Int32} {x5 : Int32} {x7 : Int32} {σ : zSt} {out : ((Int32 × zSt) ⊕ (zSt))} (hf : f_X7_eliminates_B96 Γ x0 x2 x3 x4 x5 x7 σ = some out) {H : Heap} {locs : List Loc} {ls : Array Slot} (hw : zO D cA B0 Γ σ Z s.heap H locs) (hl : lv_has ls 10 [(0, .ref x0), (2, .int x2), (3, .int x3), (4, .int x4), (5, .int x5), (7, .int x7)])
    (kI : ∀ (z7 : Int32) (σ2 : zSt), out = .inl (z7, σ2) → ∀ (H : Heap) (locs : List Loc) (ls : Array Slot), zO D cA B0 Γ σ2 Z s.heap H locs → lv_has ls 10 [(0, .ref x0), (2, .int x2), (3, .int x3), (4, .int x4), (5, .int x5), (7, .int z7)] → W p l e rm_X7_eliminates s m args below meth c H locs 0 0 Q (F0 m 96 ls []))
    (kE : ∀ (σ2 : zSt), out = .inr σ2 → ∀ (H : Heap) (locs : List Loc) (ls : Array Slot), zO D cA B0 Γ σ2 Z s.heap H locs → lv_has ls 10 [] → W p l e rm_X7_eliminates s m args below meth c H locs 0 0 Q (F0 m 194 ls [])) :
    W p l e rm_X7_eliminates s m args below meth c H locs 0 0 Q (F0 m 96 ls []) := by
  have hx := hC.1
  have hb := hC.2.1
  unfold f_X7_eliminates_B96 at hf
  refine lv_iload hx hb dX7_eliminates_96 (lv_at hl 5 rfl) ?_
  refine lv_iload hx hb dX7_eliminates_98 (lv_at hl 3 rfl) ?_
  refine lv_icmp_ge (tgt := 194) hx hb dX7_eliminates_100 (by decide) (fun hc => ?_) (fun hc => ?_)
  · rw [if_pos hc] at hf
    exact kE  σ (Option.some.inj hf).symm _ _ _ hw (lv_sub hl [] rfl)
  · rw [if_neg hc] at hf
    refine lv_aload_n hx hb dX7_eliminates_103 rfl (lv_at hl 0 rfl) ?_
    obtain ⟨v15, hg, hf⟩ := gfR_inv hf
    refine r_gfR hC hw hg clX7 (Nat.le_of_ble_eq_true rfl) lkF_X7_43 rfl dX7_eliminates_104 ?_
    refine lv_bipush (v := 32) hx hb dX7_eliminates_107 (by decide) ?_
    refine lv_iload hx hb dX7_eliminates_109 (lv_at hl 5 rfl) ?_
    refine lv_imul hx hb dX7_eliminates_111 ?_
    refine lv_iload_n hx hb dX7_eliminates_112 rfl (lv_at hl 2 rfl) ?_
    refine lv_iadd hx hb dX7_eliminates_113 ?_
    obtain ⟨v16, hg, hf⟩ := ldI_inv hf
    refine r_ldI hC hw hg dX7_eliminates_114 ?_
    refine lv_istore (lv' := [(8, .int v16), (0, .ref x0), (2, .int x2), (3, .int x3), (4, .int x4), (5, .int x5), (7, .int x7)]) hx hb dX7_eliminates_115 hl (Nat.le_of_ble_eq_true rfl) rfl (fun ls hl => ?_)
    refine lv_iconst (v := 0) hx hb dX7_eliminates_117 (by decide) ?_
    refine lv_istore (lv' := [(9, .int 0), (8, .int v16), (0, .ref x0), (2, .int x2), (3, .int x3), (4, .int x4), (5, .int x5), (7, .int x7)]) hx hb dX7_eliminates_118 hl (Nat.le_of_ble_eq_true rfl) rfl (fun ls hl => ?_)
    obtain ⟨σ24, hk, hf⟩ := lb0_inv hf
    refine l_X7_eliminates_B120 hC hr (fun H locs ls hw hl => ?_) FUEL 0 σ hk _ _ _ hw (lv_sub hl [2, 3, 4, 5, 6, 7, 1, 0] rfl)
    refine lv_iinc (v := (x7 + 1)) (lv' := [(7, .int (x7 + 1)), (0, .ref x0), (2, .int x2), (3, .int x3), (4, .int x4), (5, .int x5)]) hx hb dX7_eliminates_188 hl (k := 5) rfl rfl (Nat.le_of_ble_eq_true rfl) rfl (fun ls hl => ?_)
    refine lv_goto (tgt := 96) hx hb dX7_eliminates_191 (by decide) ?_
    exact kI (x7 + 1) σ24 (Option.some.inj hf).symm _ _ _ hw (lv_sub hl [1, 2, 3, 4, 5, 0] rfl)
set_option maxHeartbeats 4000000 in
theorem l_X7_eliminates_B96 (hC : zC p l s m args meth c cX7_eliminates 10 RX7 D cA B0) (hr : meth.sig.returnType = (Option.none : Option Jvm.ClassFile.FieldType)) {Γ : zSh} {x0 : Nat} {x2 : Int32} {x3 : Int32} {x4 : Int32} {x5 : Int32} {σ2 : zSt} (kE : ∀ (H : Heap) (locs : List Loc) (ls : Array Slot), zO D cA B0 Γ σ2 Z s.heap H locs → lv_has ls 10 [] → W p l e rm_X7_eliminates s m args below meth c H locs 0 0 Q (F0 m 194 ls [])) :
    ∀ (n : Nat) (x7 : Int32) (σ : zSt), loopM (fun q => f_X7_eliminates_B96 Γ x0 x2 x3 x4 x5 q.1 q.2) n (x7, σ) = some σ2 → ∀ (H : Heap) (locs : List Loc) (ls : Array Slot), zO D cA B0 Γ σ Z s.heap H locs → lv_has ls 10 [(0, .ref x0), (2, .int x2), (3, .int x3), (4, .int x4), (5, .int x5), (7, .int x7)] → W p l e rm_X7_eliminates s m args below meth c H locs 0 0 Q (F0 m 96 ls []) := by
  intro n
  induction n with
  | zero => intro x7 σ h; exact absurd h (by simp [loopM])
  | succ n ih =>
    intro x7 σ h H locs ls hw hl
    obtain ⟨r, h1, h2, h3⟩ := loopM_inv h
    exact t_X7_eliminates_B96 hC hr h1 hw hl (fun z7 s2 e H locs ls hw hl => ih z7 s2 (h2 _ e) H locs ls hw hl) (fun s2 e H locs ls hw hl => by cases h3 _ e; exact kE H locs ls hw hl)
set_option maxHeartbeats 4000000 in
set_option maxRecDepth 100000 in
theorem m_X7_eliminates (h9 : l.stackTraces = false) {Γ : zSh} {a0 : Nat} {a1 : Int32} {a2 : Int32} {a3 : Int32} {a4 : Int32} {a5 : Int32} {σ : zSt} {r : Unit} {σ2 : zSt} (hf : f_X7_eliminates Γ a0 a1 a2 a3 a4 a5 σ = some (r, σ2)) : Met l yX7_eliminates (wq yX7_eliminates cX7_eliminates 10 (Option.none : Option Jvm.ClassFile.FieldType)) rm_X7_eliminates (zQ0 D cA B0 [.ref a0, .int a1, .int a2, .int a3, .int a4, .int a5] Γ σ Z) (zQ1 D cA B0 (none) Γ σ2 Z) 0 0 (FR B0) := by
  refine z_ofW h9 (by decide) (Nat.le_of_ble_eq_true rfl) ?_
  intro p e s m args below meth c ls hC hr _ hw hl
  have hx := hC.1
  have hb := hC.2.1
  have hl : lv_has ls 10 [(0, .ref a0), (1, .int a1), (2, .int a2), (3, .int a3), (4, .int a4), (5, .int a5)] := hl
  unfold f_X7_eliminates at hf
  refine lv_aload_n hx hb dX7_eliminates_0 rfl (lv_at hl 0 rfl) ?_
  obtain ⟨v1, hg, hf⟩ := gfR_inv hf
  refine r_gfR hC hw hg clX7 (Nat.le_of_ble_eq_true rfl) lkF_X7_43 rfl dX7_eliminates_1 ?_
  refine lv_bipush (v := 32) hx hb dX7_eliminates_4 (by decide) ?_
  refine lv_iload_n hx hb dX7_eliminates_6 rfl (lv_at hl 1 rfl) ?_
  refine lv_imul hx hb dX7_eliminates_7 ?_
  refine lv_iload_n hx hb dX7_eliminates_8 rfl (lv_at hl 3 rfl) ?_
  refine lv_iadd hx hb dX7_eliminates_9 ?_
  obtain ⟨v2, hg, hf⟩ := ldI_inv hf
  refine r_ldI hC hw hg dX7_eliminates_10 ?_
  obtain ⟨r4, σ3, hk, hf⟩ := bnd_inv hf
  refine z_callS (As := [.int v2]) (rest := []) (m_X7_inverted hC.2.2.2.2.2.2.2.2 hk) hC hw wd_X7_inverted lkM_X7_173 rfl ⟨rfl, rfl⟩ ⟨(Nat.le_of_ble_eq_true rfl), (Nat.le_of_ble_eq_true rfl)⟩ hl.1 rfl (Nat.le_of_ble_eq_true rfl) dX7_eliminates_11 ⟨(Nat.le_of_ble_eq_true rfl), (Nat.le_of_ble_eq_true rfl)⟩ (fun H locs hw => ?_)
  refine lv_istore (lv' := [(6, .int r4), (0, .ref a0), (1, .int a1), (2, .int a2), (3, .int a3), (4, .int a4), (5, .int a5)]) hx hb dX7_eliminates_14 hl (Nat.le_of_ble_eq_true rfl) rfl (fun ls hl => ?_)
  refine lv_iconst (v := 0) hx hb dX7_eliminates_16 (by decide) ?_
  refine lv_istore (lv' := [(7, .int 0), (6, .int r4), (0, .ref a0), (1, .int a1), (2, .int a2), (3, .int a3), (4, .int a4), (5, .int a5)]) hx hb dX7_eliminates_17 hl (Nat.le_of_ble_eq_true rfl) rfl (fun ls hl => ?_)
  obtain ⟨σ14, hk, hf⟩ := lb0_inv hf
  refine l_X7_eliminates_B19 hC hr (fun H locs ls hw hl => ?_) FUEL 0 σ3 hk _ _ _ hw (lv_sub hl [2, 3, 4, 5, 6, 7, 1, 0] rfl)
  refine lv_iload_n hx hb dX7_eliminates_91 rfl (lv_at hl 1 rfl) ?_
  refine lv_iconst (v := 1) hx hb dX7_eliminates_92 (by decide) ?_
  refine lv_iadd hx hb dX7_eliminates_93 ?_
  refine lv_istore (lv' := [(7, .int (a2 + 1)), (0, .ref a0), (2, .int a2), (3, .int a3), (4, .int a4), (5, .int a5)]) hx hb dX7_eliminates_94 hl (Nat.le_of_ble_eq_true rfl) rfl (fun ls hl => ?_)
  obtain ⟨σ25, hk, hf⟩ := lb0_inv hf
  refine l_X7_eliminates_B96 hC hr (fun H locs ls hw hl => ?_) FUEL (a2 + 1) σ14 hk _ _ _ hw (lv_sub hl [1, 2, 3, 4, 5, 0] rfl)
  first | (obtain ⟨rfl, rfl⟩ := sp_inv hf) | (obtain rfl := Option.some.inj hf)
  exact W.vret hx hb hr (z_ret hw rfl) hw.2.2.2.2.2 dX7_eliminates_194 hC.2.2.2.2.2.1
set_option maxHeartbeats 4000000 in
set_option maxRecDepth 100000 in
theorem t_X7_rank_B19 (hC : zC p l s m args meth c cX7_rank 6 RX7 D cA B0) (hr : meth.sig.returnType = (Option.some FieldType.int)) {Γ : zSh} {x0 : Nat} {x1 : Int32} {x2 : Int32} {x3 : Int32} {x4 : Int32} {x5 : Int32} {σ : zSt} {out : ((Int32 × zSt) ⊕ (Int32 × zSt))} (hf : f_X7_rank_B19 Γ x0 x1 x2 x3 x4 x5 σ = some out) {H : Heap} {locs : List Loc} {ls : Array Slot} (hw : zO D cA B0 Γ σ Z s.heap H locs) (hl : lv_has ls 6 [(0, .ref x0), (1, .int x1), (2, .int x2), (3, .int x3), (4, .int x4), (5, .int x5)])
    (kI : ∀ (z5 : Int32) (σ2 : zSt), out = .inl (z5, σ2) → ∀ (H : Heap) (locs : List Loc) (ls : Array Slot), zO D cA B0 Γ σ2 Z s.heap H locs → lv_has ls 6 [(0, .ref x0), (1, .int x1), (2, .int x2), (3, .int x3), (4, .int x4), (5, .int z5)] → W p l e rm_X7_rank s m args below meth c H locs 0 0 Q (F0 m 19 ls []))
    (kE : ∀ (z5 : Int32) (σ2 : zSt), out = .inr (z5, σ2) → ∀ (H : Heap) (locs : List Loc) (ls : Array Slot), zO D cA B0 Γ σ2 Z s.heap H locs → lv_has ls 6 [(0, .ref x0), (1, .int x1), (2, .int x2), (3, .int x3), (4, .int x4), (5, .int z5)] → W p l e rm_X7_rank s m args below meth c H locs 0 0 Q (F0 m 47 ls [])) :
    W p l e rm_X7_rank s m args below meth c H locs 0 0 Q (F0 m 19 ls []) := by
  have hx := hC.1
  have hb := hC.2.1
  unfold f_X7_rank_B19 at hf
  refine lv_iload hx hb dX7_rank_19 (lv_at hl 5 rfl) ?_
  refine lv_iload_n hx hb dX7_rank_21 rfl (lv_at hl 1 rfl) ?_
  refine lv_icmp_ge (tgt := 47) hx hb dX7_rank_22 (by decide) (fun hc => ?_) (fun hc => ?_)
  · rw [if_pos hc] at hf
    exact kE x5 σ (Option.some.inj hf).symm _ _ _ hw (lv_sub hl [0, 1, 2, 3, 4, 5] rfl)
  · rw [if_neg hc] at hf
    refine lv_aload_n hx hb dX7_rank_25 rfl (lv_at hl 0 rfl) ?_
    obtain ⟨v1, hg, hf⟩ := gfR_inv hf
    refine r_gfR hC hw hg clX7 (Nat.le_of_ble_eq_true rfl) lkF_X7_43 rfl dX7_rank_26 ?_
    refine lv_bipush (v := 32) hx hb dX7_rank_29 (by decide) ?_
    refine lv_iload hx hb dX7_rank_31 (lv_at hl 5 rfl) ?_
    refine lv_imul hx hb dX7_rank_33 ?_
    refine lv_iload hx hb dX7_rank_34 (lv_at hl 4 rfl) ?_
    refine lv_iadd hx hb dX7_rank_36 ?_
    obtain ⟨v2, hg, hf⟩ := ldI_inv hf
    refine r_ldI hC hw hg dX7_rank_37 ?_
    refine lv_if_ne (tgt := 47) hx hb dX7_rank_38 (by decide) (fun hc => ?_) (fun hc => ?_)
    · rw [if_neg hc] at hf
      exact kE x5 σ (Option.some.inj hf).symm _ _ _ hw (lv_sub hl [0, 1, 2, 3, 4, 5] rfl)
    · rw [if_pos hc] at hf
      refine lv_iinc (v := (x5 + 1)) (lv' := [(5, .int (x5 + 1)), (0, .ref x0), (1, .int x1), (2, .int x2), (3, .int x3), (4, .int x4)]) hx hb dX7_rank_41 hl (k := 5) rfl rfl (Nat.le_of_ble_eq_true rfl) rfl (fun ls hl => ?_)
      refine lv_goto (tgt := 19) hx hb dX7_rank_44 (by decide) ?_
      exact kI (x5 + 1) σ (Option.some.inj hf).symm _ _ _ hw (lv_sub hl [1, 2, 3, 4, 5, 0] rfl)
set_option maxHeartbeats 4000000 in
theorem l_X7_rank_B19 (hC : zC p l s m args meth c cX7_rank 6 RX7 D cA B0) (hr : meth.sig.returnType = (Option.some FieldType.int)) {Γ : zSh} {x0 : Nat} {x1 : Int32} {x2 : Int32} {x3 : Int32} {x4 : Int32} {w5 : Int32} {σ2 : zSt} (kE : ∀ (H : Heap) (locs : List Loc) (ls : Array Slot), zO D cA B0 Γ σ2 Z s.heap H locs → lv_has ls 6 [(0, .ref x0), (1, .int x1), (2, .int x2), (3, .int x3), (4, .int x4), (5, .int w5)] → W p l e rm_X7_rank s m args below meth c H locs 0 0 Q (F0 m 47 ls [])) :
    ∀ (n : Nat) (x5 : Int32) (σ : zSt), loopM (fun q => f_X7_rank_B19 Γ x0 x1 x2 x3 x4 q.1 q.2) n (x5, σ) = some (w5, σ2) → ∀ (H : Heap) (locs : List Loc) (ls : Array Slot), zO D cA B0 Γ σ Z s.heap H locs → lv_has ls 6 [(0, .ref x0), (1, .int x1), (2, .int x2), (3, .int x3), (4, .int x4), (5, .int x5)] → W p l e rm_X7_rank s m args below meth c H locs 0 0 Q (F0 m 19 ls []) := by
  intro n
  induction n with
  | zero => intro x5 σ h; exact absurd h (by simp [loopM])
  | succ n ih =>
    intro x5 σ h H locs ls hw hl
    obtain ⟨r, h1, h2, h3⟩ := loopM_inv h
    exact t_X7_rank_B19 hC hr h1 hw hl (fun z5 s2 e H locs ls hw hl => ih z5 s2 (h2 _ e) H locs ls hw hl) (fun z5 s2 e H locs ls hw hl => by cases h3 _ e; exact kE H locs ls hw hl)
set_option maxHeartbeats 4000000 in
set_option maxRecDepth 100000 in
theorem t_X7_rank_B5_L67 (hC : zC p l s m args meth c cX7_rank 6 RX7 D cA B0) (hr : meth.sig.returnType = (Option.some FieldType.int)) {Γ : zSh} {x0 : Nat} {x1 : Int32} {x2 : Int32} {x3 : Int32} {x4 : Int32}  {σ : zSt} {out : ((Int32 × Int32 × zSt) ⊕ (Int32 × zSt))} (hf : f_X7_rank_B5_L67 Γ x0 x1 x2 x3 x4 σ = some out) {H : Heap} {locs : List Loc} {ls : Array Slot} (hw : zO D cA B0 Γ σ Z s.heap H locs) (hl : lv_has ls 6 [(0, .ref x0), (1, .int x1), (2, .int x2), (3, .int x3), (4, .int x4)])
    (kI : ∀ (z3 : Int32) (z4 : Int32) (σ2 : zSt), out = .inl (z3, z4, σ2) → ∀ (H : Heap) (locs : List Loc) (ls : Array Slot), zO D cA B0 Γ σ2 Z s.heap H locs → lv_has ls 6 [(0, .ref x0), (1, .int x1), (2, .int x2), (3, .int z3), (4, .int z4)] → W p l e rm_X7_rank s m args below meth c H locs 0 0 Q (F0 m 5 ls []))
    (kE : ∀ (z3 : Int32) (σ2 : zSt), out = .inr (z3, σ2) → ∀ (H : Heap) (locs : List Loc) (ls : Array Slot), zO D cA B0 Γ σ2 Z s.heap H locs → lv_has ls 6 [(3, .int z3)] → W p l e rm_X7_rank s m args below meth c H locs 0 0 Q (F0 m 73 ls [])) :
    W p l e rm_X7_rank s m args below meth c H locs 0 0 Q (F0 m 67 ls []) := by
  have hx := hC.1
  have hb := hC.2.1
  unfold f_X7_rank_B5_L67 at hf
  refine lv_iinc (v := (x4 + 1)) (lv' := [(4, .int (x4 + 1)), (0, .ref x0), (1, .int x1), (2, .int x2), (3, .int x3)]) hx hb dX7_rank_67 hl (k := 4) rfl rfl (Nat.le_of_ble_eq_true rfl) rfl (fun ls hl => ?_)
  refine lv_goto (tgt := 5) hx hb dX7_rank_70 (by decide) ?_
  exact kI x3 (x4 + 1) σ (Option.some.inj hf).symm _ _ _ hw (lv_sub hl [1, 2, 3, 4, 0] rfl)
set_option maxHeartbeats 4000000 in
set_option maxRecDepth 100000 in
theorem t_X7_rank_B5 (hC : zC p l s m args meth c cX7_rank 6 RX7 D cA B0) (hr : meth.sig.returnType = (Option.some FieldType.int)) {Γ : zSh} {x0 : Nat} {x1 : Int32} {x2 : Int32} {x3 : Int32} {x4 : Int32} {σ : zSt} {out : ((Int32 × Int32 × zSt) ⊕ (Int32 × zSt))} (hf : f_X7_rank_B5 Γ x0 x1 x2 x3 x4 σ = some out) {H : Heap} {locs : List Loc} {ls : Array Slot} (hw : zO D cA B0 Γ σ Z s.heap H locs) (hl : lv_has ls 6 [(0, .ref x0), (1, .int x1), (2, .int x2), (3, .int x3), (4, .int x4)])
    (kI : ∀ (z3 : Int32) (z4 : Int32) (σ2 : zSt), out = .inl (z3, z4, σ2) → ∀ (H : Heap) (locs : List Loc) (ls : Array Slot), zO D cA B0 Γ σ2 Z s.heap H locs → lv_has ls 6 [(0, .ref x0), (1, .int x1), (2, .int x2), (3, .int z3), (4, .int z4)] → W p l e rm_X7_rank s m args below meth c H locs 0 0 Q (F0 m 5 ls []))
    (kE : ∀ (z3 : Int32) (σ2 : zSt), out = .inr (z3, σ2) → ∀ (H : Heap) (locs : List Loc) (ls : Array Slot), zO D cA B0 Γ σ2 Z s.heap H locs → lv_has ls 6 [(3, .int z3)] → W p l e rm_X7_rank s m args below meth c H locs 0 0 Q (F0 m 73 ls [])) :
    W p l e rm_X7_rank s m args below meth c H locs 0 0 Q (F0 m 5 ls []) := by
  have hx := hC.1
  have hb := hC.2.1
  unfold f_X7_rank_B5 at hf
  refine lv_iload hx hb dX7_rank_5 (lv_at hl 4 rfl) ?_
  refine lv_iload_n hx hb dX7_rank_7 rfl (lv_at hl 2 rfl) ?_
  refine lv_icmp_ge (tgt := 73) hx hb dX7_rank_8 (by decide) (fun hc => ?_) (fun hc => ?_)
  · rw [if_pos hc] at hf
    exact kE x3 σ (Option.some.inj hf).symm _ _ _ hw (lv_sub hl [3] rfl)
  · rw [if_neg hc] at hf
    refine lv_iload_n hx hb dX7_rank_11 rfl (lv_at hl 3 rfl) ?_
    refine lv_iload_n hx hb dX7_rank_12 rfl (lv_at hl 1 rfl) ?_
    refine lv_icmp_ge (tgt := 73) hx hb dX7_rank_13 (by decide) (fun hc => ?_) (fun hc => ?_)
    · rw [if_pos hc] at hf
      exact kE x3 σ (Option.some.inj hf).symm _ _ _ hw (lv_sub hl [3] rfl)
    · rw [if_neg hc] at hf
      refine lv_iload_n hx hb dX7_rank_16 rfl (lv_at hl 3 rfl) ?_
      refine lv_istore (lv' := [(5, .int x3), (0, .ref x0), (1, .int x1), (2, .int x2), (3, .int x3), (4, .int x4)]) hx hb dX7_rank_17 hl (Nat.le_of_ble_eq_true rfl) rfl (fun ls hl => ?_)
      obtain ⟨w4, σ3, hk, hf⟩ := lb1_inv hf
      refine l_X7_rank_B19 hC hr (fun H locs ls hw hl => ?_) FUEL x3 σ hk _ _ _ hw (lv_sub hl [1, 2, 3, 4, 5, 0] rfl)
      refine lv_iload hx hb dX7_rank_47 (lv_at hl 5 rfl) ?_
      refine lv_iload_n hx hb dX7_rank_49 rfl (lv_at hl 1 rfl) ?_
      refine lv_icmp_ge (tgt := 67) hx hb dX7_rank_50 (by decide) (fun hc => ?_) (fun hc => ?_)
      · rw [if_pos hc] at hf
        exact t_X7_rank_B5_L67 hC hr hf hw (lv_sub hl [0, 1, 2, 3, 4] rfl) kI kE
      · rw [if_neg hc] at hf
        refine lv_aload_n hx hb dX7_rank_53 rfl (lv_at hl 0 rfl) ?_
        refine lv_iload hx hb dX7_rank_54 (lv_at hl 5 rfl) ?_
        refine lv_iload_n hx hb dX7_rank_56 rfl (lv_at hl 3 rfl) ?_
        refine lv_iload hx hb dX7_rank_57 (lv_at hl 4 rfl) ?_
        refine lv_iload_n hx hb dX7_rank_59 rfl (lv_at hl 1 rfl) ?_
        refine lv_iload_n hx hb dX7_rank_60 rfl (lv_at hl 2 rfl) ?_
        obtain ⟨ho, hf⟩ := chk_inv hf
        obtain ⟨_, σ5, hk, hf⟩ := bnd_inv hf
        refine z_callV (As := [.int w4, .int x3, .int x4, .int x1, .int x2]) (rest := []) (m_X7_eliminates hC.2.2.2.2.2.2.2.2 hk) hC hw wd_X7_eliminates lkM_X7_244 (isO_sh ho) rfl rfl ⟨rfl, rfl⟩ ⟨(Nat.le_of_ble_eq_true rfl), (Nat.le_of_ble_eq_true rfl)⟩ hl.1 rfl (Nat.le_of_ble_eq_true rfl) dX7_rank_61 ⟨(Nat.le_of_ble_eq_true rfl), (Nat.le_of_ble_eq_true rfl)⟩ (fun H locs hw => ?_)
        refine lv_iinc (v := (x3 + 1)) (lv' := [(3, .int (x3 + 1)), (0, .ref x0), (1, .int x1), (2, .int x2), (4, .int x4), (5, .int w4)]) hx hb dX7_rank_64 hl (k := 3) rfl rfl (Nat.le_of_ble_eq_true rfl) rfl (fun ls hl => ?_)
        exact t_X7_rank_B5_L67 hC hr hf hw (lv_sub hl [1, 2, 3, 0, 4] rfl) kI kE
set_option maxHeartbeats 4000000 in
theorem l_X7_rank_B5 (hC : zC p l s m args meth c cX7_rank 6 RX7 D cA B0) (hr : meth.sig.returnType = (Option.some FieldType.int)) {Γ : zSh} {x0 : Nat} {x1 : Int32} {x2 : Int32} {w3 : Int32} {σ2 : zSt} (kE : ∀ (H : Heap) (locs : List Loc) (ls : Array Slot), zO D cA B0 Γ σ2 Z s.heap H locs → lv_has ls 6 [(3, .int w3)] → W p l e rm_X7_rank s m args below meth c H locs 0 0 Q (F0 m 73 ls [])) :
    ∀ (n : Nat) (x3 : Int32) (x4 : Int32) (σ : zSt), loopM (fun q => f_X7_rank_B5 Γ x0 x1 x2 q.1 q.2.1 q.2.2) n (x3, x4, σ) = some (w3, σ2) → ∀ (H : Heap) (locs : List Loc) (ls : Array Slot), zO D cA B0 Γ σ Z s.heap H locs → lv_has ls 6 [(0, .ref x0), (1, .int x1), (2, .int x2), (3, .int x3), (4, .int x4)] → W p l e rm_X7_rank s m args below meth c H locs 0 0 Q (F0 m 5 ls []) := by
  intro n
  induction n with
  | zero => intro x3 x4 σ h; exact absurd h (by simp [loopM])
  | succ n ih =>
    intro x3 x4 σ h H locs ls hw hl
    obtain ⟨r, h1, h2, h3⟩ := loopM_inv h
    exact t_X7_rank_B5 hC hr h1 hw hl (fun z3 z4 s2 e H locs ls hw hl => ih z3 z4 s2 (h2 _ e) H locs ls hw hl) (fun z3 s2 e H locs ls hw hl => by cases h3 _ e; exact kE H locs ls hw hl)
set_option maxHeartbeats 4000000 in
set_option maxRecDepth 100000 in
theorem m_X7_rank (h9 : l.stackTraces = false) {Γ : zSh} {a0 : Nat} {a1 : Int32} {a2 : Int32} {σ : zSt} {r : Int32} {σ2 : zSt} (hf : f_X7_rank Γ a0 a1 a2 σ = some (r, σ2)) : Met l yX7_rank (wq yX7_rank cX7_rank 6 (Option.some FieldType.int)) rm_X7_rank (zQ0 D cA B0 [.ref a0, .int a1, .int a2] Γ σ Z) (zQ1 D cA B0 (some (.int r)) Γ σ2 Z) 0 0 (FR B0) := by
  refine z_ofW h9 (by decide) (Nat.le_of_ble_eq_true rfl) ?_
  intro p e s m args below meth c ls hC hr _ hw hl
  have hx := hC.1
  have hb := hC.2.1
  have hl : lv_has ls 6 [(0, .ref a0), (1, .int a1), (2, .int a2)] := hl
  unfold f_X7_rank at hf
  refine lv_iconst (v := 0) hx hb dX7_rank_0 (by decide) ?_
  refine lv_istore_n (lv' := [(3, .int 0), (0, .ref a0), (1, .int a1), (2, .int a2)]) hx hb dX7_rank_1 rfl hl (Nat.le_of_ble_eq_true rfl) rfl (fun ls hl => ?_)
  refine lv_iconst (v := 0) hx hb dX7_rank_2 (by decide) ?_
  refine lv_istore (lv' := [(4, .int 0), (3, .int 0), (0, .ref a0), (1, .int a1), (2, .int a2)]) hx hb dX7_rank_3 hl (Nat.le_of_ble_eq_true rfl) rfl (fun ls hl => ?_)
  obtain ⟨w7, σ6, hk, hf⟩ := lb1_inv hf
  refine l_X7_rank_B5 hC hr (fun H locs ls hw hl => ?_) FUEL 0 0 σ hk _ _ _ hw (lv_sub hl [2, 3, 4, 1, 0] rfl)
  refine lv_iload_n hx hb dX7_rank_73 rfl (lv_at hl 0 rfl) ?_
  first | (obtain ⟨rfl, rfl⟩ := sp_inv hf) | (obtain rfl := Option.some.inj hf)
  exact W.iret hx hb hr (z_ret hw rfl) hw.2.2.2.2.2 dX7_rank_74 hC.2.2.2.2.2.1
set_option maxHeartbeats 4000000 in
set_option maxRecDepth 100000 in
theorem t_X7_hankelRank_B33 (hC : zC p l s m args meth c cX7_hankelRank 5 RX7 D cA B0) (hr : meth.sig.returnType = (Option.some FieldType.int)) {Γ : zSh} {x0 : Nat} {x1 : Int32} {x2 : Int32} {x3 : Int32} {x4 : Int32} {σ : zSt} {out : ((Int32 × zSt) ⊕ (zSt))} (hf : f_X7_hankelRank_B33 Γ x0 x1 x2 x3 x4 σ = some out) {H : Heap} {locs : List Loc} {ls : Array Slot} (hw : zO D cA B0 Γ σ Z s.heap H locs) (hl : lv_has ls 5 [(0, .ref x0), (1, .int x1), (2, .int x2), (3, .int x3), (4, .int x4)])
    (kI : ∀ (z4 : Int32) (σ2 : zSt), out = .inl (z4, σ2) → ∀ (H : Heap) (locs : List Loc) (ls : Array Slot), zO D cA B0 Γ σ2 Z s.heap H locs → lv_has ls 5 [(0, .ref x0), (1, .int x1), (2, .int x2), (3, .int x3), (4, .int z4)] → W p l e rm_X7_hankelRank s m args below meth c H locs 0 0 Q (F0 m 33 ls []))
    (kE : ∀ (σ2 : zSt), out = .inr σ2 → ∀ (H : Heap) (locs : List Loc) (ls : Array Slot), zO D cA B0 Γ σ2 Z s.heap H locs → lv_has ls 5 [(0, .ref x0), (1, .int x1), (2, .int x2), (3, .int x3)] → W p l e rm_X7_hankelRank s m args below meth c H locs 0 0 Q (F0 m 82 ls [])) :
    W p l e rm_X7_hankelRank s m args below meth c H locs 0 0 Q (F0 m 33 ls []) := by
  have hx := hC.1
  have hb := hC.2.1
  unfold f_X7_hankelRank_B33 at hf
  refine lv_iload hx hb dX7_hankelRank_33 (lv_at hl 4 rfl) ?_
  refine lv_iload_n hx hb dX7_hankelRank_35 rfl (lv_at hl 2 rfl) ?_
  refine lv_icmp_ge (tgt := 82) hx hb dX7_hankelRank_36 (by decide) (fun hc => ?_) (fun hc => ?_)
  · rw [if_pos hc] at hf
    exact kE  σ (Option.some.inj hf).symm _ _ _ hw (lv_sub hl [0, 1, 2, 3] rfl)
  · rw [if_neg hc] at hf
    refine lv_aload_n hx hb dX7_hankelRank_39 rfl (lv_at hl 0 rfl) ?_
    refine lv_iload_n hx hb dX7_hankelRank_40 rfl (lv_at hl 1 rfl) ?_
    refine lv_iconst (v := 0) hx hb dX7_hankelRank_41 (by decide) ?_
    obtain ⟨ho, hf⟩ := chk_inv hf
    obtain ⟨_, σ7, hk, hf⟩ := bnd_inv hf
    refine z_callV (As := [.int x1, .int 0]) (rest := []) (m_X7_laysInitial hC.2.2.2.2.2.2.2.2 hk) hC hw wd_X7_laysInitial lkM_X7_147 (isO_sh ho) rfl rfl ⟨rfl, rfl⟩ ⟨(Nat.le_of_ble_eq_true rfl), (Nat.le_of_ble_eq_true rfl)⟩ hl.1 rfl (Nat.le_of_ble_eq_true rfl) dX7_hankelRank_42 ⟨(Nat.le_of_ble_eq_true rfl), (Nat.le_of_ble_eq_true rfl)⟩ (fun H locs hw => ?_)
    refine lv_aload_n hx hb dX7_hankelRank_45 rfl (lv_at hl 0 rfl) ?_
    refine lv_iload_n hx hb dX7_hankelRank_46 rfl (lv_at hl 1 rfl) ?_
    refine lv_iload_n hx hb dX7_hankelRank_47 rfl (lv_at hl 3 rfl) ?_
    obtain ⟨ho, hf⟩ := chk_inv hf
    obtain ⟨_, σ8, hk, hf⟩ := bnd_inv hf
    refine z_callV (As := [.int x1, .int x3]) (rest := []) (m_X7_passesWord hC.2.2.2.2.2.2.2.2 hk) hC hw wd_X7_passesWord lkM_X7_150 (isO_sh ho) rfl rfl ⟨rfl, rfl⟩ ⟨(Nat.le_of_ble_eq_true rfl), (Nat.le_of_ble_eq_true rfl)⟩ hl.1 rfl (Nat.le_of_ble_eq_true rfl) dX7_hankelRank_48 ⟨(Nat.le_of_ble_eq_true rfl), (Nat.le_of_ble_eq_true rfl)⟩ (fun H locs hw => ?_)
    refine lv_aload_n hx hb dX7_hankelRank_51 rfl (lv_at hl 0 rfl) ?_
    refine lv_iload_n hx hb dX7_hankelRank_52 rfl (lv_at hl 1 rfl) ?_
    refine lv_iload hx hb dX7_hankelRank_53 (lv_at hl 4 rfl) ?_
    obtain ⟨ho, hf⟩ := chk_inv hf
    obtain ⟨_, σ9, hk, hf⟩ := bnd_inv hf
    refine z_callV (As := [.int x1, .int x4]) (rest := []) (m_X7_passesWord hC.2.2.2.2.2.2.2.2 hk) hC hw wd_X7_passesWord lkM_X7_150 (isO_sh ho) rfl rfl ⟨rfl, rfl⟩ ⟨(Nat.le_of_ble_eq_true rfl), (Nat.le_of_ble_eq_true rfl)⟩ hl.1 rfl (Nat.le_of_ble_eq_true rfl) dX7_hankelRank_55 ⟨(Nat.le_of_ble_eq_true rfl), (Nat.le_of_ble_eq_true rfl)⟩ (fun H locs hw => ?_)
    refine lv_aload_n hx hb dX7_hankelRank_58 rfl (lv_at hl 0 rfl) ?_
    obtain ⟨v10, hg, hf⟩ := gfR_inv hf
    refine r_gfR hC hw hg clX7 (Nat.le_of_ble_eq_true rfl) lkF_X7_43 rfl dX7_hankelRank_59 ?_
    refine lv_bipush (v := 32) hx hb dX7_hankelRank_62 (by decide) ?_
    refine lv_iload_n hx hb dX7_hankelRank_64 rfl (lv_at hl 3 rfl) ?_
    refine lv_imul hx hb dX7_hankelRank_65 ?_
    refine lv_iload hx hb dX7_hankelRank_66 (lv_at hl 4 rfl) ?_
    refine lv_iadd hx hb dX7_hankelRank_68 ?_
    refine lv_aload_n hx hb dX7_hankelRank_69 rfl (lv_at hl 0 rfl) ?_
    refine lv_iload_n hx hb dX7_hankelRank_70 rfl (lv_at hl 1 rfl) ?_
    refine lv_iconst (v := 0) hx hb dX7_hankelRank_71 (by decide) ?_
    obtain ⟨ho, hf⟩ := chk_inv hf
    obtain ⟨r12, σ11, hk, hf⟩ := bnd_inv hf
    refine z_callV (As := [.int x1, .int 0]) (rest := [.int ((32 * x3) + x4), .ref v10]) (m_X7_ends hC.2.2.2.2.2.2.2.2 hk) hC hw wd_X7_ends lkM_X7_153 (isO_sh ho) rfl rfl ⟨rfl, rfl⟩ ⟨(Nat.le_of_ble_eq_true rfl), (Nat.le_of_ble_eq_true rfl)⟩ hl.1 rfl (Nat.le_of_ble_eq_true rfl) dX7_hankelRank_72 ⟨(Nat.le_of_ble_eq_true rfl), (Nat.le_of_ble_eq_true rfl)⟩ (fun H locs hw => ?_)
    obtain ⟨σ13, hg, hf⟩ := stI_inv hf
    refine r_stI hC hw hg dX7_hankelRank_75 (fun H locs hw => ?_)
    refine lv_iinc (v := (x4 + 1)) (lv' := [(4, .int (x4 + 1)), (0, .ref x0), (1, .int x1), (2, .int x2), (3, .int x3)]) hx hb dX7_hankelRank_76 hl (k := 4) rfl rfl (Nat.le_of_ble_eq_true rfl) rfl (fun ls hl => ?_)
    refine lv_goto (tgt := 33) hx hb dX7_hankelRank_79 (by decide) ?_
    exact kI (x4 + 1) σ13 (Option.some.inj hf).symm _ _ _ hw (lv_sub hl [1, 2, 3, 4, 0] rfl)
set_option maxHeartbeats 4000000 in
theorem l_X7_hankelRank_B33 (hC : zC p l s m args meth c cX7_hankelRank 5 RX7 D cA B0) (hr : meth.sig.returnType = (Option.some FieldType.int)) {Γ : zSh} {x0 : Nat} {x1 : Int32} {x2 : Int32} {x3 : Int32} {σ2 : zSt} (kE : ∀ (H : Heap) (locs : List Loc) (ls : Array Slot), zO D cA B0 Γ σ2 Z s.heap H locs → lv_has ls 5 [(0, .ref x0), (1, .int x1), (2, .int x2), (3, .int x3)] → W p l e rm_X7_hankelRank s m args below meth c H locs 0 0 Q (F0 m 82 ls [])) :
    ∀ (n : Nat) (x4 : Int32) (σ : zSt), loopM (fun q => f_X7_hankelRank_B33 Γ x0 x1 x2 x3 q.1 q.2) n (x4, σ) = some σ2 → ∀ (H : Heap) (locs : List Loc) (ls : Array Slot), zO D cA B0 Γ σ Z s.heap H locs → lv_has ls 5 [(0, .ref x0), (1, .int x1), (2, .int x2), (3, .int x3), (4, .int x4)] → W p l e rm_X7_hankelRank s m args below meth c H locs 0 0 Q (F0 m 33 ls []) := by
  intro n
  induction n with
  | zero => intro x4 σ h; exact absurd h (by simp [loopM])
  | succ n ih =>
    intro x4 σ h H locs ls hw hl
    obtain ⟨r, h1, h2, h3⟩ := loopM_inv h
    exact t_X7_hankelRank_B33 hC hr h1 hw hl (fun z4 s2 e H locs ls hw hl => ih z4 s2 (h2 _ e) H locs ls hw hl) (fun s2 e H locs ls hw hl => by cases h3 _ e; exact kE H locs ls hw hl)
set_option maxHeartbeats 4000000 in
set_option maxRecDepth 100000 in
theorem t_X7_hankelRank_B25 (hC : zC p l s m args meth c cX7_hankelRank 5 RX7 D cA B0) (hr : meth.sig.returnType = (Option.some FieldType.int)) {Γ : zSh} {x0 : Nat} {x1 : Int32} {x2 : Int32} {x3 : Int32} {σ : zSt} {out : ((Int32 × zSt) ⊕ (zSt))} (hf : f_X7_hankelRank_B25 Γ x0 x1 x2 x3 σ = some out) {H : Heap} {locs : List Loc} {ls : Array Slot} (hw : zO D cA B0 Γ σ Z s.heap H locs) (hl : lv_has ls 5 [(0, .ref x0), (1, .int x1), (2, .int x2), (3, .int x3)])
    (kI : ∀ (z3 : Int32) (σ2 : zSt), out = .inl (z3, σ2) → ∀ (H : Heap) (locs : List Loc) (ls : Array Slot), zO D cA B0 Γ σ2 Z s.heap H locs → lv_has ls 5 [(0, .ref x0), (1, .int x1), (2, .int x2), (3, .int z3)] → W p l e rm_X7_hankelRank s m args below meth c H locs 0 0 Q (F0 m 25 ls []))
    (kE : ∀ (σ2 : zSt), out = .inr σ2 → ∀ (H : Heap) (locs : List Loc) (ls : Array Slot), zO D cA B0 Γ σ2 Z s.heap H locs → lv_has ls 5 [(0, .ref x0), (2, .int x2)] → W p l e rm_X7_hankelRank s m args below meth c H locs 0 0 Q (F0 m 88 ls [])) :
    W p l e rm_X7_hankelRank s m args below meth c H locs 0 0 Q (F0 m 25 ls []) := by
  have hx := hC.1
  have hb := hC.2.1
  unfold f_X7_hankelRank_B25 at hf
  refine lv_iload_n hx hb dX7_hankelRank_25 rfl (lv_at hl 3 rfl) ?_
  refine lv_iload_n hx hb dX7_hankelRank_26 rfl (lv_at hl 2 rfl) ?_
  refine lv_icmp_ge (tgt := 88) hx hb dX7_hankelRank_27 (by decide) (fun hc => ?_) (fun hc => ?_)
  · rw [if_pos hc] at hf
    exact kE  σ (Option.some.inj hf).symm _ _ _ hw (lv_sub hl [0, 2] rfl)
  · rw [if_neg hc] at hf
    refine lv_iconst (v := 0) hx hb dX7_hankelRank_30 (by decide) ?_
    refine lv_istore (lv' := [(4, .int 0), (0, .ref x0), (1, .int x1), (2, .int x2), (3, .int x3)]) hx hb dX7_hankelRank_31 hl (Nat.le_of_ble_eq_true rfl) rfl (fun ls hl => ?_)
    obtain ⟨σ14, hk, hf⟩ := lb0_inv hf
    refine l_X7_hankelRank_B33 hC hr (fun H locs ls hw hl => ?_) FUEL 0 σ hk _ _ _ hw (lv_sub hl [1, 2, 3, 4, 0] rfl)
    refine lv_iinc (v := (x3 + 1)) (lv' := [(3, .int (x3 + 1)), (0, .ref x0), (1, .int x1), (2, .int x2)]) hx hb dX7_hankelRank_82 hl (k := 3) rfl rfl (Nat.le_of_ble_eq_true rfl) rfl (fun ls hl => ?_)
    refine lv_goto (tgt := 25) hx hb dX7_hankelRank_85 (by decide) ?_
    exact kI (x3 + 1) σ14 (Option.some.inj hf).symm _ _ _ hw (lv_sub hl [1, 2, 3, 0] rfl)
set_option maxHeartbeats 4000000 in
theorem l_X7_hankelRank_B25 (hC : zC p l s m args meth c cX7_hankelRank 5 RX7 D cA B0) (hr : meth.sig.returnType = (Option.some FieldType.int)) {Γ : zSh} {x0 : Nat} {x1 : Int32} {x2 : Int32} {σ2 : zSt} (kE : ∀ (H : Heap) (locs : List Loc) (ls : Array Slot), zO D cA B0 Γ σ2 Z s.heap H locs → lv_has ls 5 [(0, .ref x0), (2, .int x2)] → W p l e rm_X7_hankelRank s m args below meth c H locs 0 0 Q (F0 m 88 ls [])) :
    ∀ (n : Nat) (x3 : Int32) (σ : zSt), loopM (fun q => f_X7_hankelRank_B25 Γ x0 x1 x2 q.1 q.2) n (x3, σ) = some σ2 → ∀ (H : Heap) (locs : List Loc) (ls : Array Slot), zO D cA B0 Γ σ Z s.heap H locs → lv_has ls 5 [(0, .ref x0), (1, .int x1), (2, .int x2), (3, .int x3)] → W p l e rm_X7_hankelRank s m args below meth c H locs 0 0 Q (F0 m 25 ls []) := by
  intro n
  induction n with
  | zero => intro x3 σ h; exact absurd h (by simp [loopM])
  | succ n ih =>
    intro x3 σ h H locs ls hw hl
    obtain ⟨r, h1, h2, h3⟩ := loopM_inv h
    exact t_X7_hankelRank_B25 hC hr h1 hw hl (fun z3 s2 e H locs ls hw hl => ih z3 s2 (h2 _ e) H locs ls hw hl) (fun s2 e H locs ls hw hl => by cases h3 _ e; exact kE H locs ls hw hl)
set_option maxHeartbeats 4000000 in
set_option maxRecDepth 100000 in
theorem m_X7_hankelRank (h9 : l.stackTraces = false) {Γ : zSh} {a0 : Nat} {a1 : Int32} {a2 : Int32} {σ : zSt} {r : Int32} {σ2 : zSt} (hf : f_X7_hankelRank Γ a0 a1 a2 σ = some (r, σ2)) : Met l yX7_hankelRank (wq yX7_hankelRank cX7_hankelRank 5 (Option.some FieldType.int)) rm_X7_hankelRank (zQ0 D cA B0 [.ref a0, .int a1, .int a2] Γ σ Z) (zQ1 D cA B0 (some (.int r)) Γ σ2 Z) 0 0 (FR B0) := by
  refine z_ofW h9 (by decide) (Nat.le_of_ble_eq_true rfl) ?_
  intro p e s m args below meth c ls hC hr _ hw hl
  have hx := hC.1
  have hb := hC.2.1
  have hl : lv_has ls 5 [(0, .ref a0), (1, .int a1), (2, .int a2)] := hl
  unfold f_X7_hankelRank at hf
  refine lv_aload_n hx hb dX7_hankelRank_0 rfl (lv_at hl 0 rfl) ?_
  refine lv_iload_n hx hb dX7_hankelRank_1 rfl (lv_at hl 1 rfl) ?_
  obtain ⟨r2, σ1, hk, hf⟩ := bnd_inv hf
  refine z_callS (As := [.int a1]) (rest := [.ref a0]) (m_X7_isSlot hC.2.2.2.2.2.2.2.2 hk) hC hw wd_X7_isSlot lkM_X7_88 rfl ⟨rfl, rfl⟩ ⟨(Nat.le_of_ble_eq_true rfl), (Nat.le_of_ble_eq_true rfl)⟩ hl.1 rfl (Nat.le_of_ble_eq_true rfl) dX7_hankelRank_2 ⟨(Nat.le_of_ble_eq_true rfl), (Nat.le_of_ble_eq_true rfl)⟩ (fun H locs hw => ?_)
  refine lv_iload_n hx hb dX7_hankelRank_5 rfl (lv_at hl 2 rfl) ?_
  refine lv_i2l hx hb dX7_hankelRank_6 rfl ?_
  refine lv_lconst (v := 0) hx hb dX7_hankelRank_7 (by decide) ?_
  refine lv_ldc2 (v := 31) hx hb hC.2.2.2.1 (hC.2.2.2.2.1 _ lkJ_X7_248) dX7_hankelRank_8 ?_
  obtain ⟨r4, σ3, hk, hf⟩ := bnd_inv hf
  refine z_callS (As := [.long (a2.toInt64), .long 0, .long 31]) (rest := [.int r2, .ref a0]) (m_X7_in hC.2.2.2.2.2.2.2.2 hk) hC hw wd_X7_in lkM_X7_68 rfl ⟨rfl, rfl⟩ ⟨(Nat.le_of_ble_eq_true rfl), (Nat.le_of_ble_eq_true rfl)⟩ hl.1 rfl (Nat.le_of_ble_eq_true rfl) dX7_hankelRank_11 ⟨(Nat.le_of_ble_eq_true rfl), (Nat.le_of_ble_eq_true rfl)⟩ (fun H locs hw => ?_)
  refine lv_iconst (v := 1) hx hb dX7_hankelRank_14 (by decide) ?_
  obtain ⟨ho, hf⟩ := chk_inv hf
  obtain ⟨r6, σ5, hk, hf⟩ := bnd_inv hf
  refine z_callV (As := [.int r2, .int r4, .int 1]) (rest := []) (m_X7_goes hC.2.2.2.2.2.2.2.2 hk) hC hw wd_X7_goes lkM_X7_94 (isO_sh ho) rfl rfl ⟨rfl, rfl⟩ ⟨(Nat.le_of_ble_eq_true rfl), (Nat.le_of_ble_eq_true rfl)⟩ hl.1 rfl (Nat.le_of_ble_eq_true rfl) dX7_hankelRank_15 ⟨(Nat.le_of_ble_eq_true rfl), (Nat.le_of_ble_eq_true rfl)⟩ (fun H locs hw => ?_)
  refine lv_if_ne (tgt := 23) hx hb dX7_hankelRank_18 (by decide) (fun hc => ?_) (fun hc => ?_)
  · rw [if_neg hc] at hf
    refine lv_iconst (v := 0) hx hb dX7_hankelRank_23 (by decide) ?_
    refine lv_istore_n (lv' := [(3, .int 0), (0, .ref a0), (1, .int a1), (2, .int a2)]) hx hb dX7_hankelRank_24 rfl hl (Nat.le_of_ble_eq_true rfl) rfl (fun ls hl => ?_)
    obtain ⟨σ15, hk, hf⟩ := lb0_inv hf
    refine l_X7_hankelRank_B25 hC hr (fun H locs ls hw hl => ?_) FUEL 0 σ5 hk _ _ _ hw (lv_sub hl [1, 2, 3, 0] rfl)
    refine lv_aload_n hx hb dX7_hankelRank_88 rfl (lv_at hl 0 rfl) ?_
    refine lv_iload_n hx hb dX7_hankelRank_89 rfl (lv_at hl 1 rfl) ?_
    refine lv_iload_n hx hb dX7_hankelRank_90 rfl (lv_at hl 1 rfl) ?_
    obtain ⟨ho, hf⟩ := chk_inv hf
    obtain ⟨r17, σ16, hk, hf⟩ := bnd_inv hf
    refine z_callV (As := [.int a2, .int a2]) (rest := []) (m_X7_rank hC.2.2.2.2.2.2.2.2 hk) hC hw wd_X7_rank lkM_X7_250 (isO_sh ho) rfl rfl ⟨rfl, rfl⟩ ⟨(Nat.le_of_ble_eq_true rfl), (Nat.le_of_ble_eq_true rfl)⟩ hl.1 rfl (Nat.le_of_ble_eq_true rfl) dX7_hankelRank_91 ⟨(Nat.le_of_ble_eq_true rfl), (Nat.le_of_ble_eq_true rfl)⟩ (fun H locs hw => ?_)
    first | (obtain ⟨rfl, rfl⟩ := sp_inv hf) | (obtain rfl := Option.some.inj hf)
    exact W.iret hx hb hr (z_ret hw rfl) hw.2.2.2.2.2 dX7_hankelRank_94 hC.2.2.2.2.2.1
  · rw [if_pos hc] at hf
    refine lv_iconst (v := 0) hx hb dX7_hankelRank_21 (by decide) ?_
    first | (obtain ⟨rfl, rfl⟩ := sp_inv hf) | (obtain rfl := Option.some.inj hf)
    exact W.iret hx hb hr (z_ret hw rfl) hw.2.2.2.2.2 dX7_hankelRank_22 hC.2.2.2.2.2.1
set_option maxHeartbeats 4000000 in
set_option maxRecDepth 100000 in
theorem t_X7_laysTotals_B10 (hC : zC p l s m args meth c cX7_laysTotals 4 RX7 D cA B0) (hr : meth.sig.returnType = (Option.none : Option Jvm.ClassFile.FieldType)) {Γ : zSh} {x0 : Nat} {x1 : Int32} {x2 : Int32} {x3 : Int32} {σ : zSt} {out : ((Int32 × zSt) ⊕ (zSt))} (hf : f_X7_laysTotals_B10 Γ x0 x1 x2 x3 σ = some out) {H : Heap} {locs : List Loc} {ls : Array Slot} (hw : zO D cA B0 Γ σ Z s.heap H locs) (hl : lv_has ls 4 [(0, .ref x0), (1, .int x1), (2, .int x2), (3, .int x3)])
    (kI : ∀ (z3 : Int32) (σ2 : zSt), out = .inl (z3, σ2) → ∀ (H : Heap) (locs : List Loc) (ls : Array Slot), zO D cA B0 Γ σ2 Z s.heap H locs → lv_has ls 4 [(0, .ref x0), (1, .int x1), (2, .int x2), (3, .int z3)] → W p l e rm_X7_laysTotals s m args below meth c H locs 0 0 Q (F0 m 10 ls []))
    (kE : ∀ (σ2 : zSt), out = .inr σ2 → ∀ (H : Heap) (locs : List Loc) (ls : Array Slot), zO D cA B0 Γ σ2 Z s.heap H locs → lv_has ls 4 [(0, .ref x0), (1, .int x1), (2, .int x2)] → W p l e rm_X7_laysTotals s m args below meth c H locs 0 0 Q (F0 m 40 ls [])) :
    W p l e rm_X7_laysTotals s m args below meth c H locs 0 0 Q (F0 m 10 ls []) := by
  have hx := hC.1
  have hb := hC.2.1
  unfold f_X7_laysTotals_B10 at hf
  refine lv_iload_n hx hb dX7_laysTotals_10 rfl (lv_at hl 3 rfl) ?_
  refine lv_iload_n hx hb dX7_laysTotals_11 rfl (lv_at hl 1 rfl) ?_
  refine lv_icmp_gt (tgt := 40) hx hb dX7_laysTotals_12 (by decide) (fun hc => ?_) (fun hc => ?_)
  · rw [if_pos hc] at hf
    exact kE  σ (Option.some.inj hf).symm _ _ _ hw (lv_sub hl [0, 1, 2] rfl)
  · rw [if_neg hc] at hf
    refine lv_aload_n hx hb dX7_laysTotals_15 rfl (lv_at hl 0 rfl) ?_
    obtain ⟨v1, hg, hf⟩ := gfR_inv hf
    refine r_gfR hC hw hg clX7 (Nat.le_of_ble_eq_true rfl) lkF_X7_43 rfl dX7_laysTotals_16 ?_
    refine lv_bipush (v := 32) hx hb dX7_laysTotals_19 (by decide) ?_
    refine lv_iload_n hx hb dX7_laysTotals_21 rfl (lv_at hl 2 rfl) ?_
    refine lv_imul hx hb dX7_laysTotals_22 ?_
    refine lv_iload_n hx hb dX7_laysTotals_23 rfl (lv_at hl 3 rfl) ?_
    refine lv_iadd hx hb dX7_laysTotals_24 ?_
    refine lv_aload_n hx hb dX7_laysTotals_25 rfl (lv_at hl 0 rfl) ?_
    obtain ⟨v2, hg, hf⟩ := gfR_inv hf
    refine r_gfR hC hw hg clX7 (Nat.le_of_ble_eq_true rfl) lkF_X7_46 rfl dX7_laysTotals_26 ?_
    refine lv_iload_n hx hb dX7_laysTotals_29 rfl (lv_at hl 2 rfl) ?_
    refine lv_iload_n hx hb dX7_laysTotals_30 rfl (lv_at hl 3 rfl) ?_
    refine lv_iadd hx hb dX7_laysTotals_31 ?_
    obtain ⟨v3, hg, hf⟩ := ldI_inv hf
    refine r_ldI hC hw hg dX7_laysTotals_32 ?_
    obtain ⟨σ4, hg, hf⟩ := stI_inv hf
    refine r_stI hC hw hg dX7_laysTotals_33 (fun H locs hw => ?_)
    refine lv_iinc (v := (x3 + 1)) (lv' := [(3, .int (x3 + 1)), (0, .ref x0), (1, .int x1), (2, .int x2)]) hx hb dX7_laysTotals_34 hl (k := 3) rfl rfl (Nat.le_of_ble_eq_true rfl) rfl (fun ls hl => ?_)
    refine lv_goto (tgt := 10) hx hb dX7_laysTotals_37 (by decide) ?_
    exact kI (x3 + 1) σ4 (Option.some.inj hf).symm _ _ _ hw (lv_sub hl [1, 2, 3, 0] rfl)
set_option maxHeartbeats 4000000 in
theorem l_X7_laysTotals_B10 (hC : zC p l s m args meth c cX7_laysTotals 4 RX7 D cA B0) (hr : meth.sig.returnType = (Option.none : Option Jvm.ClassFile.FieldType)) {Γ : zSh} {x0 : Nat} {x1 : Int32} {x2 : Int32} {σ2 : zSt} (kE : ∀ (H : Heap) (locs : List Loc) (ls : Array Slot), zO D cA B0 Γ σ2 Z s.heap H locs → lv_has ls 4 [(0, .ref x0), (1, .int x1), (2, .int x2)] → W p l e rm_X7_laysTotals s m args below meth c H locs 0 0 Q (F0 m 40 ls [])) :
    ∀ (n : Nat) (x3 : Int32) (σ : zSt), loopM (fun q => f_X7_laysTotals_B10 Γ x0 x1 x2 q.1 q.2) n (x3, σ) = some σ2 → ∀ (H : Heap) (locs : List Loc) (ls : Array Slot), zO D cA B0 Γ σ Z s.heap H locs → lv_has ls 4 [(0, .ref x0), (1, .int x1), (2, .int x2), (3, .int x3)] → W p l e rm_X7_laysTotals s m args below meth c H locs 0 0 Q (F0 m 10 ls []) := by
  intro n
  induction n with
  | zero => intro x3 σ h; exact absurd h (by simp [loopM])
  | succ n ih =>
    intro x3 σ h H locs ls hw hl
    obtain ⟨r, h1, h2, h3⟩ := loopM_inv h
    exact t_X7_laysTotals_B10 hC hr h1 hw hl (fun z3 s2 e H locs ls hw hl => ih z3 s2 (h2 _ e) H locs ls hw hl) (fun s2 e H locs ls hw hl => by cases h3 _ e; exact kE H locs ls hw hl)
set_option maxHeartbeats 4000000 in
set_option maxRecDepth 100000 in
theorem t_X7_laysTotals_B2 (hC : zC p l s m args meth c cX7_laysTotals 4 RX7 D cA B0) (hr : meth.sig.returnType = (Option.none : Option Jvm.ClassFile.FieldType)) {Γ : zSh} {x0 : Nat} {x1 : Int32} {x2 : Int32} {σ : zSt} {out : ((Int32 × zSt) ⊕ (zSt))} (hf : f_X7_laysTotals_B2 Γ x0 x1 x2 σ = some out) {H : Heap} {locs : List Loc} {ls : Array Slot} (hw : zO D cA B0 Γ σ Z s.heap H locs) (hl : lv_has ls 4 [(0, .ref x0), (1, .int x1), (2, .int x2)])
    (kI : ∀ (z2 : Int32) (σ2 : zSt), out = .inl (z2, σ2) → ∀ (H : Heap) (locs : List Loc) (ls : Array Slot), zO D cA B0 Γ σ2 Z s.heap H locs → lv_has ls 4 [(0, .ref x0), (1, .int x1), (2, .int z2)] → W p l e rm_X7_laysTotals s m args below meth c H locs 0 0 Q (F0 m 2 ls []))
    (kE : ∀ (σ2 : zSt), out = .inr σ2 → ∀ (H : Heap) (locs : List Loc) (ls : Array Slot), zO D cA B0 Γ σ2 Z s.heap H locs → lv_has ls 4 [] → W p l e rm_X7_laysTotals s m args below meth c H locs 0 0 Q (F0 m 46 ls [])) :
    W p l e rm_X7_laysTotals s m args below meth c H locs 0 0 Q (F0 m 2 ls []) := by
  have hx := hC.1
  have hb := hC.2.1
  unfold f_X7_laysTotals_B2 at hf
  refine lv_iload_n hx hb dX7_laysTotals_2 rfl (lv_at hl 2 rfl) ?_
  refine lv_bipush (v := 31) hx hb dX7_laysTotals_3 (by decide) ?_
  refine lv_icmp_ge (tgt := 46) hx hb dX7_laysTotals_5 (by decide) (fun hc => ?_) (fun hc => ?_)
  · rw [if_pos hc] at hf
    exact kE  σ (Option.some.inj hf).symm _ _ _ hw (lv_sub hl [] rfl)
  · rw [if_neg hc] at hf
    refine lv_iconst (v := 0) hx hb dX7_laysTotals_8 (by decide) ?_
    refine lv_istore_n (lv' := [(3, .int 0), (0, .ref x0), (1, .int x1), (2, .int x2)]) hx hb dX7_laysTotals_9 rfl hl (Nat.le_of_ble_eq_true rfl) rfl (fun ls hl => ?_)
    obtain ⟨σ5, hk, hf⟩ := lb0_inv hf
    refine l_X7_laysTotals_B10 hC hr (fun H locs ls hw hl => ?_) FUEL 0 σ hk _ _ _ hw (lv_sub hl [1, 2, 3, 0] rfl)
    refine lv_iinc (v := (x2 + 1)) (lv' := [(2, .int (x2 + 1)), (0, .ref x0), (1, .int x1)]) hx hb dX7_laysTotals_40 hl (k := 2) rfl rfl (Nat.le_of_ble_eq_true rfl) rfl (fun ls hl => ?_)
    refine lv_goto (tgt := 2) hx hb dX7_laysTotals_43 (by decide) ?_
    exact kI (x2 + 1) σ5 (Option.some.inj hf).symm _ _ _ hw (lv_sub hl [1, 2, 0] rfl)
set_option maxHeartbeats 4000000 in
theorem l_X7_laysTotals_B2 (hC : zC p l s m args meth c cX7_laysTotals 4 RX7 D cA B0) (hr : meth.sig.returnType = (Option.none : Option Jvm.ClassFile.FieldType)) {Γ : zSh} {x0 : Nat} {x1 : Int32} {σ2 : zSt} (kE : ∀ (H : Heap) (locs : List Loc) (ls : Array Slot), zO D cA B0 Γ σ2 Z s.heap H locs → lv_has ls 4 [] → W p l e rm_X7_laysTotals s m args below meth c H locs 0 0 Q (F0 m 46 ls [])) :
    ∀ (n : Nat) (x2 : Int32) (σ : zSt), loopM (fun q => f_X7_laysTotals_B2 Γ x0 x1 q.1 q.2) n (x2, σ) = some σ2 → ∀ (H : Heap) (locs : List Loc) (ls : Array Slot), zO D cA B0 Γ σ Z s.heap H locs → lv_has ls 4 [(0, .ref x0), (1, .int x1), (2, .int x2)] → W p l e rm_X7_laysTotals s m args below meth c H locs 0 0 Q (F0 m 2 ls []) := by
  intro n
  induction n with
  | zero => intro x2 σ h; exact absurd h (by simp [loopM])
  | succ n ih =>
    intro x2 σ h H locs ls hw hl
    obtain ⟨r, h1, h2, h3⟩ := loopM_inv h
    exact t_X7_laysTotals_B2 hC hr h1 hw hl (fun z2 s2 e H locs ls hw hl => ih z2 s2 (h2 _ e) H locs ls hw hl) (fun s2 e H locs ls hw hl => by cases h3 _ e; exact kE H locs ls hw hl)
set_option maxHeartbeats 4000000 in
set_option maxRecDepth 100000 in
theorem m_X7_laysTotals (h9 : l.stackTraces = false) {Γ : zSh} {a0 : Nat} {a1 : Int32} {σ : zSt} {r : Unit} {σ2 : zSt} (hf : f_X7_laysTotals Γ a0 a1 σ = some (r, σ2)) : Met l yX7_laysTotals (wq yX7_laysTotals cX7_laysTotals 4 (Option.none : Option Jvm.ClassFile.FieldType)) rm_X7_laysTotals (zQ0 D cA B0 [.ref a0, .int a1] Γ σ Z) (zQ1 D cA B0 (none) Γ σ2 Z) 0 0 (FR B0) := by
  refine z_ofW h9 (by decide) (Nat.le_of_ble_eq_true rfl) ?_
  intro p e s m args below meth c ls hC hr _ hw hl
  have hx := hC.1
  have hb := hC.2.1
  have hl : lv_has ls 4 [(0, .ref a0), (1, .int a1)] := hl
  unfold f_X7_laysTotals at hf
  refine lv_iconst (v := 0) hx hb dX7_laysTotals_0 (by decide) ?_
  refine lv_istore_n (lv' := [(2, .int 0), (0, .ref a0), (1, .int a1)]) hx hb dX7_laysTotals_1 rfl hl (Nat.le_of_ble_eq_true rfl) rfl (fun ls hl => ?_)
  obtain ⟨σ6, hk, hf⟩ := lb0_inv hf
  refine l_X7_laysTotals_B2 hC hr (fun H locs ls hw hl => ?_) FUEL 0 σ hk _ _ _ hw (lv_sub hl [1, 2, 0] rfl)
  first | (obtain ⟨rfl, rfl⟩ := sp_inv hf) | (obtain rfl := Option.some.inj hf)
  exact W.vret hx hb hr (z_ret hw rfl) hw.2.2.2.2.2 dX7_laysTotals_46 hC.2.2.2.2.2.1
set_option maxHeartbeats 4000000 in
set_option maxRecDepth 100000 in
theorem t_X7_recurs_B31 (hC : zC p l s m args meth c cX7_recurs 4 RX7 D cA B0) (hr : meth.sig.returnType = (Option.some FieldType.boolean)) {Γ : zSh} {x0 : Nat} {x1 : Int32} {x2 : Int32} {x3 : Int32} {σ : zSt} {out : ((Int32 × zSt) ⊕ (zSt))} (hf : f_X7_recurs_B31 Γ x0 x1 x2 x3 σ = some out) {H : Heap} {locs : List Loc} {ls : Array Slot} (hw : zO D cA B0 Γ σ Z s.heap H locs) (hl : lv_has ls 4 [(0, .ref x0), (1, .int x1), (2, .int x2), (3, .int x3)])
    (kI : ∀ (z3 : Int32) (σ2 : zSt), out = .inl (z3, σ2) → ∀ (H : Heap) (locs : List Loc) (ls : Array Slot), zO D cA B0 Γ σ2 Z s.heap H locs → lv_has ls 4 [(0, .ref x0), (1, .int x1), (2, .int x2), (3, .int z3)] → W p l e rm_X7_recurs s m args below meth c H locs 0 0 Q (F0 m 31 ls []))
    (kE : ∀ (σ2 : zSt), out = .inr σ2 → ∀ (H : Heap) (locs : List Loc) (ls : Array Slot), zO D cA B0 Γ σ2 Z s.heap H locs → lv_has ls 4 [(0, .ref x0), (2, .int x2)] → W p l e rm_X7_recurs s m args below meth c H locs 0 0 Q (F0 m 62 ls [])) :
    W p l e rm_X7_recurs s m args below meth c H locs 0 0 Q (F0 m 31 ls []) := by
  have hx := hC.1
  have hb := hC.2.1
  unfold f_X7_recurs_B31 at hf
  refine lv_iload_n hx hb dX7_recurs_31 rfl (lv_at hl 3 rfl) ?_
  refine lv_bipush (v := 43) hx hb dX7_recurs_32 (by decide) ?_
  refine lv_icmp_ge (tgt := 62) hx hb dX7_recurs_34 (by decide) (fun hc => ?_) (fun hc => ?_)
  · rw [if_pos hc] at hf
    exact kE  σ (Option.some.inj hf).symm _ _ _ hw (lv_sub hl [0, 2] rfl)
  · rw [if_neg hc] at hf
    refine lv_aload_n hx hb dX7_recurs_37 rfl (lv_at hl 0 rfl) ?_
    obtain ⟨v8, hg, hf⟩ := gfR_inv hf
    refine r_gfR hC hw hg clX7 (Nat.le_of_ble_eq_true rfl) lkF_X7_46 rfl dX7_recurs_38 ?_
    refine lv_iload_n hx hb dX7_recurs_41 rfl (lv_at hl 3 rfl) ?_
    refine lv_aload_n hx hb dX7_recurs_42 rfl (lv_at hl 0 rfl) ?_
    refine lv_iload_n hx hb dX7_recurs_43 rfl (lv_at hl 1 rfl) ?_
    refine lv_iconst (v := 0) hx hb dX7_recurs_44 (by decide) ?_
    obtain ⟨ho, hf⟩ := chk_inv hf
    obtain ⟨r10, σ9, hk, hf⟩ := bnd_inv hf
    refine z_callV (As := [.int x1, .int 0]) (rest := [.int x3, .ref v8]) (m_X7_ends hC.2.2.2.2.2.2.2.2 hk) hC hw wd_X7_ends lkM_X7_153 (isO_sh ho) rfl rfl ⟨rfl, rfl⟩ ⟨(Nat.le_of_ble_eq_true rfl), (Nat.le_of_ble_eq_true rfl)⟩ hl.1 rfl (Nat.le_of_ble_eq_true rfl) dX7_recurs_45 ⟨(Nat.le_of_ble_eq_true rfl), (Nat.le_of_ble_eq_true rfl)⟩ (fun H locs hw => ?_)
    obtain ⟨σ11, hg, hf⟩ := stI_inv hf
    refine r_stI hC hw hg dX7_recurs_48 (fun H locs hw => ?_)
    refine lv_aload_n hx hb dX7_recurs_49 rfl (lv_at hl 0 rfl) ?_
    refine lv_iload_n hx hb dX7_recurs_50 rfl (lv_at hl 1 rfl) ?_
    refine lv_iconst (v := 0) hx hb dX7_recurs_51 (by decide) ?_
    refine lv_iconst (v := 2) hx hb dX7_recurs_52 (by decide) ?_
    obtain ⟨ho, hf⟩ := chk_inv hf
    obtain ⟨_, σ12, hk, hf⟩ := bnd_inv hf
    refine z_callV (As := [.int x1, .int 0, .int 2]) (rest := []) (m_X7_passes hC.2.2.2.2.2.2.2.2 hk) hC hw wd_X7_passes lkM_X7_143 (isO_sh ho) rfl rfl ⟨rfl, rfl⟩ ⟨(Nat.le_of_ble_eq_true rfl), (Nat.le_of_ble_eq_true rfl)⟩ hl.1 rfl (Nat.le_of_ble_eq_true rfl) dX7_recurs_53 ⟨(Nat.le_of_ble_eq_true rfl), (Nat.le_of_ble_eq_true rfl)⟩ (fun H locs hw => ?_)
    refine lv_iinc (v := (x3 + 1)) (lv' := [(3, .int (x3 + 1)), (0, .ref x0), (1, .int x1), (2, .int x2)]) hx hb dX7_recurs_56 hl (k := 3) rfl rfl (Nat.le_of_ble_eq_true rfl) rfl (fun ls hl => ?_)
    refine lv_goto (tgt := 31) hx hb dX7_recurs_59 (by decide) ?_
    exact kI (x3 + 1) σ12 (Option.some.inj hf).symm _ _ _ hw (lv_sub hl [1, 2, 3, 0] rfl)
set_option maxHeartbeats 4000000 in
theorem l_X7_recurs_B31 (hC : zC p l s m args meth c cX7_recurs 4 RX7 D cA B0) (hr : meth.sig.returnType = (Option.some FieldType.boolean)) {Γ : zSh} {x0 : Nat} {x1 : Int32} {x2 : Int32} {σ2 : zSt} (kE : ∀ (H : Heap) (locs : List Loc) (ls : Array Slot), zO D cA B0 Γ σ2 Z s.heap H locs → lv_has ls 4 [(0, .ref x0), (2, .int x2)] → W p l e rm_X7_recurs s m args below meth c H locs 0 0 Q (F0 m 62 ls [])) :
    ∀ (n : Nat) (x3 : Int32) (σ : zSt), loopM (fun q => f_X7_recurs_B31 Γ x0 x1 x2 q.1 q.2) n (x3, σ) = some σ2 → ∀ (H : Heap) (locs : List Loc) (ls : Array Slot), zO D cA B0 Γ σ Z s.heap H locs → lv_has ls 4 [(0, .ref x0), (1, .int x1), (2, .int x2), (3, .int x3)] → W p l e rm_X7_recurs s m args below meth c H locs 0 0 Q (F0 m 31 ls []) := by
  intro n
  induction n with
  | zero => intro x3 σ h; exact absurd h (by simp [loopM])
  | succ n ih =>
    intro x3 σ h H locs ls hw hl
    obtain ⟨r, h1, h2, h3⟩ := loopM_inv h
    exact t_X7_recurs_B31 hC hr h1 hw hl (fun z3 s2 e H locs ls hw hl => ih z3 s2 (h2 _ e) H locs ls hw hl) (fun s2 e H locs ls hw hl => by cases h3 _ e; exact kE H locs ls hw hl)
set_option maxHeartbeats 4000000 in
set_option maxRecDepth 100000 in
theorem t_X7_recurs_L98 (hC : zC p l s m args meth c cX7_recurs 4 RX7 D cA B0) (hr : meth.sig.returnType = (Option.some FieldType.boolean)) {Γ : zSh} {s0 : Int32} {σ : zSt} {out : (Int32 × zSt)} (hf : f_X7_recurs_L98 Γ s0 σ = some out) {H : Heap} {locs : List Loc} {ls : Array Slot} (hw : zO D cA B0 Γ σ Z s.heap H locs) (hl : lv_has ls 4 []) :
    W p l e rm_X7_recurs s m args below meth c H locs 0 0 (MQ below (zQ1 D cA B0 (some (.int out.1)) Γ out.2 Z) args s 0 0 (FR B0)) (F0 m 98 ls [.int s0]) := by
  have hx := hC.1
  have hb := hC.2.1
  unfold f_X7_recurs_L98 at hf
  obtain ⟨hz, hf⟩ := chk_inv hf
  first | (obtain ⟨rfl, rfl⟩ := sp_inv hf) | (obtain rfl := Option.some.inj hf)
  exact W.zret hx hb hr (isB_n hz).1 (z_ret hw rfl) hw.2.2.2.2.2 dX7_recurs_98 hC.2.2.2.2.2.1
set_option maxHeartbeats 4000000 in
set_option maxRecDepth 100000 in
theorem m_X7_recurs (h9 : l.stackTraces = false) {Γ : zSh} {a0 : Nat} {a1 : Int32} {a2 : Int32} {σ : zSt} {r : Int32} {σ2 : zSt} (hf : f_X7_recurs Γ a0 a1 a2 σ = some (r, σ2)) : Met l yX7_recurs (wq yX7_recurs cX7_recurs 4 (Option.some FieldType.boolean)) rm_X7_recurs (zQ0 D cA B0 [.ref a0, .int a1, .int a2] Γ σ Z) (zQ1 D cA B0 (some (.int r)) Γ σ2 Z) 0 0 (FR B0) := by
  refine z_ofW h9 (by decide) (Nat.le_of_ble_eq_true rfl) ?_
  intro p e s m args below meth c ls hC hr _ hw hl
  have hx := hC.1
  have hb := hC.2.1
  have hl : lv_has ls 4 [(0, .ref a0), (1, .int a1), (2, .int a2)] := hl
  unfold f_X7_recurs at hf
  refine lv_aload_n hx hb dX7_recurs_0 rfl (lv_at hl 0 rfl) ?_
  refine lv_iload_n hx hb dX7_recurs_1 rfl (lv_at hl 1 rfl) ?_
  obtain ⟨r2, σ1, hk, hf⟩ := bnd_inv hf
  refine z_callS (As := [.int a1]) (rest := [.ref a0]) (m_X7_isSlot hC.2.2.2.2.2.2.2.2 hk) hC hw wd_X7_isSlot lkM_X7_88 rfl ⟨rfl, rfl⟩ ⟨(Nat.le_of_ble_eq_true rfl), (Nat.le_of_ble_eq_true rfl)⟩ hl.1 rfl (Nat.le_of_ble_eq_true rfl) dX7_recurs_2 ⟨(Nat.le_of_ble_eq_true rfl), (Nat.le_of_ble_eq_true rfl)⟩ (fun H locs hw => ?_)
  refine lv_iload_n hx hb dX7_recurs_5 rfl (lv_at hl 2 rfl) ?_
  refine lv_i2l hx hb dX7_recurs_6 rfl ?_
  refine lv_lconst (v := 1) hx hb dX7_recurs_7 (by decide) ?_
  refine lv_ldc2 (v := 12) hx hb hC.2.2.2.1 (hC.2.2.2.2.1 _ lkJ_X7_92) dX7_recurs_8 ?_
  obtain ⟨r4, σ3, hk, hf⟩ := bnd_inv hf
  refine z_callS (As := [.long (a2.toInt64), .long 1, .long 12]) (rest := [.int r2, .ref a0]) (m_X7_in hC.2.2.2.2.2.2.2.2 hk) hC hw wd_X7_in lkM_X7_68 rfl ⟨rfl, rfl⟩ ⟨(Nat.le_of_ble_eq_true rfl), (Nat.le_of_ble_eq_true rfl)⟩ hl.1 rfl (Nat.le_of_ble_eq_true rfl) dX7_recurs_11 ⟨(Nat.le_of_ble_eq_true rfl), (Nat.le_of_ble_eq_true rfl)⟩ (fun H locs hw => ?_)
  refine lv_iconst (v := 1) hx hb dX7_recurs_14 (by decide) ?_
  obtain ⟨ho, hf⟩ := chk_inv hf
  obtain ⟨r6, σ5, hk, hf⟩ := bnd_inv hf
  refine z_callV (As := [.int r2, .int r4, .int 1]) (rest := []) (m_X7_goes hC.2.2.2.2.2.2.2.2 hk) hC hw wd_X7_goes lkM_X7_94 (isO_sh ho) rfl rfl ⟨rfl, rfl⟩ ⟨(Nat.le_of_ble_eq_true rfl), (Nat.le_of_ble_eq_true rfl)⟩ hl.1 rfl (Nat.le_of_ble_eq_true rfl) dX7_recurs_15 ⟨(Nat.le_of_ble_eq_true rfl), (Nat.le_of_ble_eq_true rfl)⟩ (fun H locs hw => ?_)
  refine lv_if_ne (tgt := 23) hx hb dX7_recurs_18 (by decide) (fun hc => ?_) (fun hc => ?_)
  · rw [if_neg hc] at hf
    refine lv_aload_n hx hb dX7_recurs_23 rfl (lv_at hl 0 rfl) ?_
    refine lv_iload_n hx hb dX7_recurs_24 rfl (lv_at hl 1 rfl) ?_
    refine lv_iconst (v := 0) hx hb dX7_recurs_25 (by decide) ?_
    obtain ⟨ho, hf⟩ := chk_inv hf
    obtain ⟨_, σ7, hk, hf⟩ := bnd_inv hf
    refine z_callV (As := [.int a1, .int 0]) (rest := []) (m_X7_laysInitial hC.2.2.2.2.2.2.2.2 hk) hC hw wd_X7_laysInitial lkM_X7_147 (isO_sh ho) rfl rfl ⟨rfl, rfl⟩ ⟨(Nat.le_of_ble_eq_true rfl), (Nat.le_of_ble_eq_true rfl)⟩ hl.1 rfl (Nat.le_of_ble_eq_true rfl) dX7_recurs_26 ⟨(Nat.le_of_ble_eq_true rfl), (Nat.le_of_ble_eq_true rfl)⟩ (fun H locs hw => ?_)
    refine lv_iconst (v := 0) hx hb dX7_recurs_29 (by decide) ?_
    refine lv_istore_n (lv' := [(3, .int 0), (0, .ref a0), (1, .int a1), (2, .int a2)]) hx hb dX7_recurs_30 rfl hl (Nat.le_of_ble_eq_true rfl) rfl (fun ls hl => ?_)
    obtain ⟨σ13, hk, hf⟩ := lb0_inv hf
    refine l_X7_recurs_B31 hC hr (fun H locs ls hw hl => ?_) FUEL 0 σ7 hk _ _ _ hw (lv_sub hl [1, 2, 3, 0] rfl)
    refine lv_aload_n hx hb dX7_recurs_62 rfl (lv_at hl 0 rfl) ?_
    refine lv_iload_n hx hb dX7_recurs_63 rfl (lv_at hl 1 rfl) ?_
    obtain ⟨ho, hf⟩ := chk_inv hf
    obtain ⟨_, σ14, hk, hf⟩ := bnd_inv hf
    refine z_callV (As := [.int a2]) (rest := []) (m_X7_laysTotals hC.2.2.2.2.2.2.2.2 hk) hC hw wd_X7_laysTotals lkM_X7_253 (isO_sh ho) rfl rfl ⟨rfl, rfl⟩ ⟨(Nat.le_of_ble_eq_true rfl), (Nat.le_of_ble_eq_true rfl)⟩ hl.1 rfl (Nat.le_of_ble_eq_true rfl) dX7_recurs_64 ⟨(Nat.le_of_ble_eq_true rfl), (Nat.le_of_ble_eq_true rfl)⟩ (fun H locs hw => ?_)
    refine lv_aload_n hx hb dX7_recurs_67 rfl (lv_at hl 0 rfl) ?_
    refine lv_bipush (v := 31) hx hb dX7_recurs_68 (by decide) ?_
    refine lv_iload_n hx hb dX7_recurs_70 rfl (lv_at hl 1 rfl) ?_
    obtain ⟨ho, hf⟩ := chk_inv hf
    obtain ⟨r16, σ15, hk, hf⟩ := bnd_inv hf
    refine z_callV (As := [.int 31, .int a2]) (rest := []) (m_X7_rank hC.2.2.2.2.2.2.2.2 hk) hC hw wd_X7_rank lkM_X7_250 (isO_sh ho) rfl rfl ⟨rfl, rfl⟩ ⟨(Nat.le_of_ble_eq_true rfl), (Nat.le_of_ble_eq_true rfl)⟩ hl.1 rfl (Nat.le_of_ble_eq_true rfl) dX7_recurs_71 ⟨(Nat.le_of_ble_eq_true rfl), (Nat.le_of_ble_eq_true rfl)⟩ (fun H locs hw => ?_)
    refine lv_istore_n (lv' := [(3, .int r16), (0, .ref a0), (2, .int a2)]) hx hb dX7_recurs_74 rfl hl (Nat.le_of_ble_eq_true rfl) rfl (fun ls hl => ?_)
    refine lv_aload_n hx hb dX7_recurs_75 rfl (lv_at hl 1 rfl) ?_
    refine lv_iload_n hx hb dX7_recurs_76 rfl (lv_at hl 2 rfl) ?_
    obtain ⟨ho, hf⟩ := chk_inv hf
    obtain ⟨_, σ17, hk, hf⟩ := bnd_inv hf
    refine z_callV (As := [.int a2]) (rest := []) (m_X7_laysTotals hC.2.2.2.2.2.2.2.2 hk) hC hw wd_X7_laysTotals lkM_X7_253 (isO_sh ho) rfl rfl ⟨rfl, rfl⟩ ⟨(Nat.le_of_ble_eq_true rfl), (Nat.le_of_ble_eq_true rfl)⟩ hl.1 rfl (Nat.le_of_ble_eq_true rfl) dX7_recurs_77 ⟨(Nat.le_of_ble_eq_true rfl), (Nat.le_of_ble_eq_true rfl)⟩ (fun H locs hw => ?_)
    refine lv_aload_n hx hb dX7_recurs_80 rfl (lv_at hl 1 rfl) ?_
    refine lv_bipush (v := 31) hx hb dX7_recurs_81 (by decide) ?_
    refine lv_iload_n hx hb dX7_recurs_83 rfl (lv_at hl 2 rfl) ?_
    refine lv_iconst (v := 1) hx hb dX7_recurs_84 (by decide) ?_
    refine lv_iadd hx hb dX7_recurs_85 ?_
    obtain ⟨ho, hf⟩ := chk_inv hf
    obtain ⟨r19, σ18, hk, hf⟩ := bnd_inv hf
    refine z_callV (As := [.int 31, .int (a2 + 1)]) (rest := []) (m_X7_rank hC.2.2.2.2.2.2.2.2 hk) hC hw wd_X7_rank lkM_X7_250 (isO_sh ho) rfl rfl ⟨rfl, rfl⟩ ⟨(Nat.le_of_ble_eq_true rfl), (Nat.le_of_ble_eq_true rfl)⟩ hl.1 rfl (Nat.le_of_ble_eq_true rfl) dX7_recurs_86 ⟨(Nat.le_of_ble_eq_true rfl), (Nat.le_of_ble_eq_true rfl)⟩ (fun H locs hw => ?_)
    refine lv_iload_n hx hb dX7_recurs_89 rfl (lv_at hl 0 rfl) ?_
    refine lv_icmp_ne (tgt := 97) hx hb dX7_recurs_90 (by decide) (fun hc => ?_) (fun hc => ?_)
    · rw [if_neg hc] at hf
      refine lv_iconst (v := 0) hx hb dX7_recurs_97 (by decide) ?_
      exact t_X7_recurs_L98 hC hr hf hw (lv_sub hl [] rfl)
    · rw [if_pos hc] at hf
      refine lv_iconst (v := 1) hx hb dX7_recurs_93 (by decide) ?_
      refine lv_goto (tgt := 98) hx hb dX7_recurs_94 (by decide) ?_
      exact t_X7_recurs_L98 hC hr hf hw (lv_sub hl [] rfl)
  · rw [if_pos hc] at hf
    refine lv_iconst (v := 0) hx hb dX7_recurs_21 (by decide) ?_
    obtain ⟨hz, hf⟩ := chk_inv hf
    first | (obtain ⟨rfl, rfl⟩ := sp_inv hf) | (obtain rfl := Option.some.inj hf)
    exact W.zret hx hb hr (isB_n hz).1 (z_ret hw rfl) hw.2.2.2.2.2 dX7_recurs_22 hC.2.2.2.2.2.1
set_option maxHeartbeats 4000000 in
set_option maxRecDepth 100000 in
theorem t_X7_inverse_L26 (hC : zC p l s m args meth c cX7_inverse 2 RX7 D cA B0) (hr : meth.sig.returnType = (Option.some FieldType.int)) {Γ : zSh} {s0 : Int32} {σ : zSt} {out : (Int32 × zSt)} (hf : f_X7_inverse_L26 Γ s0 σ = some out) {H : Heap} {locs : List Loc} {ls : Array Slot} (hw : zO D cA B0 Γ σ Z s.heap H locs) (hl : lv_has ls 2 []) :
    W p l e rm_X7_inverse s m args below meth c H locs 0 0 (MQ below (zQ1 D cA B0 (some (.int out.1)) Γ out.2 Z) args s 0 0 (FR B0)) (F0 m 26 ls [.int s0]) := by
  have hx := hC.1
  have hb := hC.2.1
  unfold f_X7_inverse_L26 at hf
  first | (obtain ⟨rfl, rfl⟩ := sp_inv hf) | (obtain rfl := Option.some.inj hf)
  exact W.iret hx hb hr (z_ret hw rfl) hw.2.2.2.2.2 dX7_inverse_26 hC.2.2.2.2.2.1
set_option maxHeartbeats 4000000 in
set_option maxRecDepth 100000 in
theorem m_X7_inverse (h9 : l.stackTraces = false) {Γ : zSh} {a0 : Nat} {a1 : Int32} {σ : zSt} {r : Int32} {σ2 : zSt} (hf : f_X7_inverse Γ a0 a1 σ = some (r, σ2)) : Met l yX7_inverse (wq yX7_inverse cX7_inverse 2 (Option.some FieldType.int)) rm_X7_inverse (zQ0 D cA B0 [.ref a0, .int a1] Γ σ Z) (zQ1 D cA B0 (some (.int r)) Γ σ2 Z) 0 0 (FR B0) := by
  refine z_ofW h9 (by decide) (Nat.le_of_ble_eq_true rfl) ?_
  intro p e s m args below meth c ls hC hr _ hw hl
  have hx := hC.1
  have hb := hC.2.1
  have hl : lv_has ls 2 [(0, .ref a0), (1, .int a1)] := hl
  unfold f_X7_inverse at hf
  refine lv_aload_n hx hb dX7_inverse_0 rfl (lv_at hl 0 rfl) ?_
  refine lv_iload_n hx hb dX7_inverse_1 rfl (lv_at hl 1 rfl) ?_
  refine lv_i2l hx hb dX7_inverse_2 rfl ?_
  refine lv_lconst (v := 1) hx hb dX7_inverse_3 (by decide) ?_
  refine lv_ldc2 (v := 10006) hx hb hC.2.2.2.1 (hC.2.2.2.2.1 _ lkJ_X7_72) dX7_inverse_4 ?_
  obtain ⟨r2, σ1, hk, hf⟩ := bnd_inv hf
  refine z_callS (As := [.long (a1.toInt64), .long 1, .long 10006]) (rest := [.ref a0]) (m_X7_in hC.2.2.2.2.2.2.2.2 hk) hC hw wd_X7_in lkM_X7_68 rfl ⟨rfl, rfl⟩ ⟨(Nat.le_of_ble_eq_true rfl), (Nat.le_of_ble_eq_true rfl)⟩ hl.1 rfl (Nat.le_of_ble_eq_true rfl) dX7_inverse_7 ⟨(Nat.le_of_ble_eq_true rfl), (Nat.le_of_ble_eq_true rfl)⟩ (fun H locs hw => ?_)
  refine lv_iconst (v := 1) hx hb dX7_inverse_10 (by decide) ?_
  refine lv_iconst (v := 1) hx hb dX7_inverse_11 (by decide) ?_
  obtain ⟨ho, hf⟩ := chk_inv hf
  obtain ⟨r4, σ3, hk, hf⟩ := bnd_inv hf
  refine z_callV (As := [.int r2, .int 1, .int 1]) (rest := []) (m_X7_goes hC.2.2.2.2.2.2.2.2 hk) hC hw wd_X7_goes lkM_X7_94 (isO_sh ho) rfl rfl ⟨rfl, rfl⟩ ⟨(Nat.le_of_ble_eq_true rfl), (Nat.le_of_ble_eq_true rfl)⟩ hl.1 rfl (Nat.le_of_ble_eq_true rfl) dX7_inverse_12 ⟨(Nat.le_of_ble_eq_true rfl), (Nat.le_of_ble_eq_true rfl)⟩ (fun H locs hw => ?_)
  refine lv_if_eq (tgt := 25) hx hb dX7_inverse_15 (by decide) (fun hc => ?_) (fun hc => ?_)
  · rw [if_pos hc] at hf
    refine lv_iconst (v := 0) hx hb dX7_inverse_25 (by decide) ?_
    exact t_X7_inverse_L26 hC hr hf hw (lv_sub hl [] rfl)
  · rw [if_neg hc] at hf
    refine lv_iload_n hx hb dX7_inverse_18 rfl (lv_at hl 1 rfl) ?_
    obtain ⟨r6, σ5, hk, hf⟩ := bnd_inv hf
    refine z_callS (As := [.int a1]) (rest := []) (m_X7_inverted hC.2.2.2.2.2.2.2.2 hk) hC hw wd_X7_inverted lkM_X7_173 rfl ⟨rfl, rfl⟩ ⟨(Nat.le_of_ble_eq_true rfl), (Nat.le_of_ble_eq_true rfl)⟩ hl.1 rfl (Nat.le_of_ble_eq_true rfl) dX7_inverse_19 ⟨(Nat.le_of_ble_eq_true rfl), (Nat.le_of_ble_eq_true rfl)⟩ (fun H locs hw => ?_)
    refine lv_goto (tgt := 26) hx hb dX7_inverse_22 (by decide) ?_
    exact t_X7_inverse_L26 hC hr hf hw (lv_sub hl [] rfl)
set_option maxHeartbeats 4000000 in
set_option maxRecDepth 100000 in
theorem t_X7_append_L24 (hC : zC p l s m args meth c cX7_append 2 RX7 D cA B0) (hr : meth.sig.returnType = (Option.some FieldType.int)) {Γ : zSh} {x0 : Nat} {x1 : Int32} {s0 : Int32} {s1 : Int32} {s2 : Nat} {σ : zSt} {out : (Int32 × zSt)} (hf : f_X7_append_L24 Γ x0 x1 s0 s1 s2 σ = some out) {H : Heap} {locs : List Loc} {ls : Array Slot} (hw : zO D cA B0 Γ σ Z s.heap H locs) (hl : lv_has ls 2 [(0, .ref x0), (1, .int x1)]) :
    W p l e rm_X7_append s m args below meth c H locs 0 0 (MQ below (zQ1 D cA B0 (some (.int out.1)) Γ out.2 Z) args s 0 0 (FR B0)) (F0 m 24 ls [.int s0, .int s1, .ref s2]) := by
  have hx := hC.1
  have hb := hC.2.1
  unfold f_X7_append_L24 at hf
  refine lv_iconst (v := 1) hx hb dX7_append_24 (by decide) ?_
  obtain ⟨ho, hf⟩ := chk_inv hf
  obtain ⟨r5, σ4, hk, hf⟩ := bnd_inv hf
  refine z_callV (As := [.int s1, .int s0, .int 1]) (rest := []) (m_X7_goes hC.2.2.2.2.2.2.2.2 hk) hC hw wd_X7_goes lkM_X7_94 (isO_sh ho) rfl rfl ⟨rfl, rfl⟩ ⟨(Nat.le_of_ble_eq_true rfl), (Nat.le_of_ble_eq_true rfl)⟩ hl.1 rfl (Nat.le_of_ble_eq_true rfl) dX7_append_25 ⟨(Nat.le_of_ble_eq_true rfl), (Nat.le_of_ble_eq_true rfl)⟩ (fun H locs hw => ?_)
  refine lv_if_ne (tgt := 33) hx hb dX7_append_28 (by decide) (fun hc => ?_) (fun hc => ?_)
  · rw [if_neg hc] at hf
    refine lv_aload_n hx hb dX7_append_33 rfl (lv_at hl 0 rfl) ?_
    obtain ⟨v6, hg, hf⟩ := gfR_inv hf
    refine r_gfR hC hw hg clX7 (Nat.le_of_ble_eq_true rfl) lkF_X7_49 rfl dX7_append_34 ?_
    refine lv_aload_n hx hb dX7_append_37 rfl (lv_at hl 0 rfl) ?_
    obtain ⟨v7, hg, hf⟩ := gfI_inv hf
    refine r_gfI hC hw hg clX7 (Nat.le_of_ble_eq_true rfl) lkF_X7_259 rfl dX7_append_38 ?_
    refine lv_iload_n hx hb dX7_append_41 rfl (lv_at hl 1 rfl) ?_
    obtain ⟨σ8, hg, hf⟩ := stI_inv hf
    refine r_stI hC hw hg dX7_append_42 (fun H locs hw => ?_)
    refine lv_aload_n hx hb dX7_append_43 rfl (lv_at hl 0 rfl) ?_
    refine lv_dup hx hb dX7_append_44 rfl ?_
    obtain ⟨v9, hg, hf⟩ := gfI_inv hf
    refine r_gfI hC hw hg clX7 (Nat.le_of_ble_eq_true rfl) lkF_X7_259 rfl dX7_append_45 ?_
    refine lv_iconst (v := 1) hx hb dX7_append_48 (by decide) ?_
    refine lv_iadd hx hb dX7_append_49 ?_
    obtain ⟨σ10, hg, hf⟩ := pfI_inv hf
    refine r_pfI hC hw hg clX7 (Nat.le_of_ble_eq_true rfl) lkF_X7_259 rfl rfl rfl dX7_append_50 (fun H locs hw => ?_)
    refine lv_aload_n hx hb dX7_append_53 rfl (lv_at hl 0 rfl) ?_
    obtain ⟨v11, hg, hf⟩ := gfI_inv hf
    refine r_gfI hC hw hg clX7 (Nat.le_of_ble_eq_true rfl) lkF_X7_259 rfl dX7_append_54 ?_
    first | (obtain ⟨rfl, rfl⟩ := sp_inv hf) | (obtain rfl := Option.some.inj hf)
    exact W.iret hx hb hr (z_ret hw rfl) hw.2.2.2.2.2 dX7_append_57 hC.2.2.2.2.2.1
  · rw [if_pos hc] at hf
    refine lv_iconst (v := 0) hx hb dX7_append_31 (by decide) ?_
    first | (obtain ⟨rfl, rfl⟩ := sp_inv hf) | (obtain rfl := Option.some.inj hf)
    exact W.iret hx hb hr (z_ret hw rfl) hw.2.2.2.2.2 dX7_append_32 hC.2.2.2.2.2.1
set_option maxHeartbeats 4000000 in
set_option maxRecDepth 100000 in
theorem m_X7_append (h9 : l.stackTraces = false) {Γ : zSh} {a0 : Nat} {a1 : Int32} {σ : zSt} {r : Int32} {σ2 : zSt} (hf : f_X7_append Γ a0 a1 σ = some (r, σ2)) : Met l yX7_append (wq yX7_append cX7_append 2 (Option.some FieldType.int)) rm_X7_append (zQ0 D cA B0 [.ref a0, .int a1] Γ σ Z) (zQ1 D cA B0 (some (.int r)) Γ σ2 Z) 0 0 (FR B0) := by
  refine z_ofW h9 (by decide) (Nat.le_of_ble_eq_true rfl) ?_
  intro p e s m args below meth c ls hC hr _ hw hl
  have hx := hC.1
  have hb := hC.2.1
  have hl : lv_has ls 2 [(0, .ref a0), (1, .int a1)] := hl
  unfold f_X7_append at hf
  refine lv_aload_n hx hb dX7_append_0 rfl (lv_at hl 0 rfl) ?_
  refine lv_iload_n hx hb dX7_append_1 rfl (lv_at hl 1 rfl) ?_
  refine lv_i2l hx hb dX7_append_2 rfl ?_
  refine lv_lconst (v := 0) hx hb dX7_append_3 (by decide) ?_
  refine lv_ldc2 (v := 127) hx hb hC.2.2.2.1 (hC.2.2.2.2.1 _ lkJ_X7_257) dX7_append_4 ?_
  obtain ⟨r2, σ1, hk, hf⟩ := bnd_inv hf
  refine z_callS (As := [.long (a1.toInt64), .long 0, .long 127]) (rest := [.ref a0]) (m_X7_in hC.2.2.2.2.2.2.2.2 hk) hC hw wd_X7_in lkM_X7_68 rfl ⟨rfl, rfl⟩ ⟨(Nat.le_of_ble_eq_true rfl), (Nat.le_of_ble_eq_true rfl)⟩ hl.1 rfl (Nat.le_of_ble_eq_true rfl) dX7_append_7 ⟨(Nat.le_of_ble_eq_true rfl), (Nat.le_of_ble_eq_true rfl)⟩ (fun H locs hw => ?_)
  refine lv_aload_n hx hb dX7_append_10 rfl (lv_at hl 0 rfl) ?_
  obtain ⟨v3, hg, hf⟩ := gfI_inv hf
  refine r_gfI hC hw hg clX7 (Nat.le_of_ble_eq_true rfl) lkF_X7_259 rfl dX7_append_11 ?_
  refine lv_bipush (v := 60) hx hb dX7_append_14 (by decide) ?_
  refine lv_icmp_ge (tgt := 23) hx hb dX7_append_16 (by decide) (fun hc => ?_) (fun hc => ?_)
  · rw [if_pos hc] at hf
    refine lv_iconst (v := 0) hx hb dX7_append_23 (by decide) ?_
    exact t_X7_append_L24 hC hr hf hw (lv_sub hl [0, 1] rfl)
  · rw [if_neg hc] at hf
    refine lv_iconst (v := 1) hx hb dX7_append_19 (by decide) ?_
    refine lv_goto (tgt := 24) hx hb dX7_append_20 (by decide) ?_
    exact t_X7_append_L24 hC hr hf hw (lv_sub hl [0, 1] rfl)
set_option maxHeartbeats 4000000 in
set_option maxRecDepth 100000 in
theorem m_X7_clearText (h9 : l.stackTraces = false) {Γ : zSh} {a0 : Nat} {σ : zSt} {r : Int32} {σ2 : zSt} (hf : f_X7_clearText Γ a0 σ = some (r, σ2)) : Met l yX7_clearText (wq yX7_clearText cX7_clearText 2 (Option.some FieldType.int)) rm_X7_clearText (zQ0 D cA B0 [.ref a0] Γ σ Z) (zQ1 D cA B0 (some (.int r)) Γ σ2 Z) 0 0 (FR B0) := by
  refine z_ofW h9 (by decide) (Nat.le_of_ble_eq_true rfl) ?_
  intro p e s m args below meth c ls hC hr _ hw hl
  have hx := hC.1
  have hb := hC.2.1
  have hl : lv_has ls 2 [(0, .ref a0)] := hl
  unfold f_X7_clearText at hf
  refine lv_aload_n hx hb dX7_clearText_0 rfl (lv_at hl 0 rfl) ?_
  refine lv_iconst (v := 0) hx hb dX7_clearText_1 (by decide) ?_
  obtain ⟨σ1, hg, hf⟩ := pfI_inv hf
  refine r_pfI hC hw hg clX7 (Nat.le_of_ble_eq_true rfl) lkF_X7_59 rfl rfl rfl dX7_clearText_2 (fun H locs hw => ?_)
  refine lv_aload_n hx hb dX7_clearText_5 rfl (lv_at hl 0 rfl) ?_
  obtain ⟨v2, hg, hf⟩ := gfI_inv hf
  refine r_gfI hC hw hg clX7 (Nat.le_of_ble_eq_true rfl) lkF_X7_259 rfl dX7_clearText_6 ?_
  refine lv_istore_n (lv' := [(1, .int v2), (0, .ref a0)]) hx hb dX7_clearText_9 rfl hl (Nat.le_of_ble_eq_true rfl) rfl (fun ls hl => ?_)
  refine lv_aload_n hx hb dX7_clearText_10 rfl (lv_at hl 1 rfl) ?_
  refine lv_iconst (v := 0) hx hb dX7_clearText_11 (by decide) ?_
  obtain ⟨σ3, hg, hf⟩ := pfI_inv hf
  refine r_pfI hC hw hg clX7 (Nat.le_of_ble_eq_true rfl) lkF_X7_259 rfl rfl rfl dX7_clearText_12 (fun H locs hw => ?_)
  refine lv_iload_n hx hb dX7_clearText_15 rfl (lv_at hl 0 rfl) ?_
  first | (obtain ⟨rfl, rfl⟩ := sp_inv hf) | (obtain rfl := Option.some.inj hf)
  exact W.iret hx hb hr (z_ret hw rfl) hw.2.2.2.2.2 dX7_clearText_16 hC.2.2.2.2.2.1
set_option maxHeartbeats 4000000 in
set_option maxRecDepth 100000 in
theorem t_X7_operates_L48 (hC : zC p l s m args meth c cX7_operates 4 RX7 D cA B0) (hr : meth.sig.returnType = (Option.none : Option Jvm.ClassFile.FieldType)) {Γ : zSh}  {σ : zSt} {out : (Unit × zSt)} (hf : f_X7_operates_L48 Γ  σ = some out) {H : Heap} {locs : List Loc} {ls : Array Slot} (hw : zO D cA B0 Γ σ Z s.heap H locs) (hl : lv_has ls 4 []) :
    W p l e rm_X7_operates s m args below meth c H locs 0 0 (MQ below (zQ1 D cA B0 (none) Γ out.2 Z) args s 0 0 (FR B0)) (F0 m 48 ls []) := by
  have hx := hC.1
  have hb := hC.2.1
  unfold f_X7_operates_L48 at hf
  first | (obtain ⟨rfl, rfl⟩ := sp_inv hf) | (obtain rfl := Option.some.inj hf)
  exact W.vret hx hb hr (z_ret hw rfl) hw.2.2.2.2.2 dX7_operates_48 hC.2.2.2.2.2.1
set_option maxHeartbeats 4000000 in
set_option maxRecDepth 100000 in
theorem t_X7_operates_L25 (hC : zC p l s m args meth c cX7_operates 4 RX7 D cA B0) (hr : meth.sig.returnType = (Option.none : Option Jvm.ClassFile.FieldType)) {Γ : zSh} {x0 : Nat} {x1 : Int32} {x2 : Int32} {x3 : Int32} {s0 : Int32} {s1 : Nat} {σ : zSt} {out : (Unit × zSt)} (hf : f_X7_operates_L25 Γ x0 x1 x2 x3 s0 s1 σ = some out) {H : Heap} {locs : List Loc} {ls : Array Slot} (hw : zO D cA B0 Γ σ Z s.heap H locs) (hl : lv_has ls 4 [(0, .ref x0), (1, .int x1), (2, .int x2), (3, .int x3)]) :
    W p l e rm_X7_operates s m args below meth c H locs 0 0 (MQ below (zQ1 D cA B0 (none) Γ out.2 Z) args s 0 0 (FR B0)) (F0 m 25 ls [.int s0, .ref s1]) := by
  have hx := hC.1
  have hb := hC.2.1
  unfold f_X7_operates_L25 at hf
  obtain ⟨σ2, hg, hf⟩ := pfZ_inv hf
  refine r_pfZ hC hw hg clX7 (Nat.le_of_ble_eq_true rfl) lkF_X7_262 rfl rfl rfl dX7_operates_25 (fun H locs hw => ?_)
  refine lv_aload_n hx hb dX7_operates_28 rfl (lv_at hl 0 rfl) ?_
  obtain ⟨v3, hg, hf⟩ := gfI_inv hf
  refine r_gfI hC hw hg clX7 (Nat.le_of_ble_eq_true rfl) lkF_X7_262 rfl dX7_operates_29 ?_
  refine lv_if_ne (tgt := 48) hx hb dX7_operates_32 (by decide) (fun hc => ?_) (fun hc => ?_)
  · rw [if_neg hc] at hf
    exact t_X7_operates_L48 hC hr hf hw (lv_sub hl [] rfl)
  · rw [if_pos hc] at hf
    refine lv_aload_n hx hb dX7_operates_35 rfl (lv_at hl 0 rfl) ?_
    refine lv_iload_n hx hb dX7_operates_36 rfl (lv_at hl 1 rfl) ?_
    refine lv_iload_n hx hb dX7_operates_37 rfl (lv_at hl 2 rfl) ?_
    refine lv_iload_n hx hb dX7_operates_38 rfl (lv_at hl 3 rfl) ?_
    obtain ⟨ho, hf⟩ := chk_inv hf
    obtain ⟨_, σ4, hk, hf⟩ := bnd_inv hf
    refine z_callV (As := [.int x1, .int x2, .int x3]) (rest := []) (m_X7_combines hC.2.2.2.2.2.2.2.2 hk) hC hw wd_X7_combines lkM_X7_227 (isO_sh ho) rfl rfl ⟨rfl, rfl⟩ ⟨(Nat.le_of_ble_eq_true rfl), (Nat.le_of_ble_eq_true rfl)⟩ hl.1 rfl (Nat.le_of_ble_eq_true rfl) dX7_operates_39 ⟨(Nat.le_of_ble_eq_true rfl), (Nat.le_of_ble_eq_true rfl)⟩ (fun H locs hw => ?_)
    refine lv_aload_n hx hb dX7_operates_42 rfl (lv_at hl 0 rfl) ?_
    refine lv_iconst (v := 5) hx hb dX7_operates_43 (by decide) ?_
    refine lv_iload_n hx hb dX7_operates_44 rfl (lv_at hl 1 rfl) ?_
    obtain ⟨ho, hf⟩ := chk_inv hf
    obtain ⟨_, σ5, hk, hf⟩ := bnd_inv hf
    refine z_callV (As := [.int 5, .int x1]) (rest := []) (m_X7_minimizes hC.2.2.2.2.2.2.2.2 hk) hC hw wd_X7_minimizes lkM_X7_198 (isO_sh ho) rfl rfl ⟨rfl, rfl⟩ ⟨(Nat.le_of_ble_eq_true rfl), (Nat.le_of_ble_eq_true rfl)⟩ hl.1 rfl (Nat.le_of_ble_eq_true rfl) dX7_operates_45 ⟨(Nat.le_of_ble_eq_true rfl), (Nat.le_of_ble_eq_true rfl)⟩ (fun H locs hw => ?_)
    exact t_X7_operates_L48 hC hr hf hw (lv_sub hl [] rfl)
set_option maxHeartbeats 4000000 in
set_option maxRecDepth 100000 in
theorem t_X7_operates_L20 (hC : zC p l s m args meth c cX7_operates 4 RX7 D cA B0) (hr : meth.sig.returnType = (Option.none : Option Jvm.ClassFile.FieldType)) {Γ : zSh} {x0 : Nat} {x1 : Int32} {x2 : Int32} {x3 : Int32} {s0 : Nat} {σ : zSt} {out : (Unit × zSt)} (hf : f_X7_operates_L20 Γ x0 x1 x2 x3 s0 σ = some out) {H : Heap} {locs : List Loc} {ls : Array Slot} (hw : zO D cA B0 Γ σ Z s.heap H locs) (hl : lv_has ls 4 [(0, .ref x0), (1, .int x1), (2, .int x2), (3, .int x3)]) :
    W p l e rm_X7_operates s m args below meth c H locs 0 0 (MQ below (zQ1 D cA B0 (none) Γ out.2 Z) args s 0 0 (FR B0)) (F0 m 20 ls [.ref s0]) := by
  have hx := hC.1
  have hb := hC.2.1
  unfold f_X7_operates_L20 at hf
  refine lv_iconst (v := 1) hx hb dX7_operates_20 (by decide) ?_
  refine lv_goto (tgt := 25) hx hb dX7_operates_21 (by decide) ?_
  exact t_X7_operates_L25 hC hr hf hw (lv_sub hl [0, 1, 2, 3] rfl)
set_option maxHeartbeats 4000000 in
set_option maxRecDepth 100000 in
theorem m_X7_operates (h9 : l.stackTraces = false) {Γ : zSh} {a0 : Nat} {a1 : Int32} {a2 : Int32} {a3 : Int32} {σ : zSt} {r : Unit} {σ2 : zSt} (hf : f_X7_operates Γ a0 a1 a2 a3 σ = some (r, σ2)) : Met l yX7_operates (wq yX7_operates cX7_operates 4 (Option.none : Option Jvm.ClassFile.FieldType)) rm_X7_operates (zQ0 D cA B0 [.ref a0, .int a1, .int a2, .int a3] Γ σ Z) (zQ1 D cA B0 (none) Γ σ2 Z) 0 0 (FR B0) := by
  refine z_ofW h9 (by decide) (Nat.le_of_ble_eq_true rfl) ?_
  intro p e s m args below meth c ls hC hr _ hw hl
  have hx := hC.1
  have hb := hC.2.1
  have hl : lv_has ls 4 [(0, .ref a0), (1, .int a1), (2, .int a2), (3, .int a3)] := hl
  unfold f_X7_operates at hf
  refine lv_aload_n hx hb dX7_operates_0 rfl (lv_at hl 0 rfl) ?_
  refine lv_aload_n hx hb dX7_operates_1 rfl (lv_at hl 0 rfl) ?_
  obtain ⟨v1, hg, hf⟩ := gfI_inv hf
  refine r_gfI hC hw hg clX7 (Nat.le_of_ble_eq_true rfl) lkF_X7_262 rfl dX7_operates_2 ?_
  refine lv_if_ne (tgt := 20) hx hb dX7_operates_5 (by decide) (fun hc => ?_) (fun hc => ?_)
  · rw [if_neg hc] at hf
    exact t_X7_operates_L20 hC hr hf hw (lv_sub hl [0, 1, 2, 3] rfl)
  · rw [if_pos hc] at hf
    refine lv_aload_n hx hb dX7_operates_8 rfl (lv_at hl 0 rfl) ?_
    refine lv_iload_n hx hb dX7_operates_9 rfl (lv_at hl 1 rfl) ?_
    refine lv_iload_n hx hb dX7_operates_10 rfl (lv_at hl 2 rfl) ?_
    refine lv_iload_n hx hb dX7_operates_11 rfl (lv_at hl 3 rfl) ?_
    obtain ⟨ho, hf⟩ := chk_inv hf
    obtain ⟨r7, σ6, hk, hf⟩ := bnd_inv hf
    refine z_callV (As := [.int a1, .int a2, .int a3]) (rest := [.ref a0]) (m_X7_manyOf hC.2.2.2.2.2.2.2.2 hk) hC hw wd_X7_manyOf lkM_X7_224 (isO_sh ho) rfl rfl ⟨rfl, rfl⟩ ⟨(Nat.le_of_ble_eq_true rfl), (Nat.le_of_ble_eq_true rfl)⟩ hl.1 rfl (Nat.le_of_ble_eq_true rfl) dX7_operates_12 ⟨(Nat.le_of_ble_eq_true rfl), (Nat.le_of_ble_eq_true rfl)⟩ (fun H locs hw => ?_)
    refine lv_bipush (v := 12) hx hb dX7_operates_15 (by decide) ?_
    refine lv_icmp_le (tgt := 24) hx hb dX7_operates_17 (by decide) (fun hc => ?_) (fun hc => ?_)
    · rw [if_pos hc] at hf
      refine lv_iconst (v := 0) hx hb dX7_operates_24 (by decide) ?_
      exact t_X7_operates_L25 hC hr hf hw (lv_sub hl [0, 1, 2, 3] rfl)
    · rw [if_neg hc] at hf
      exact t_X7_operates_L20 hC hr hf hw (lv_sub hl [0, 1, 2, 3] rfl)
set_option maxHeartbeats 4000000 in
set_option maxRecDepth 100000 in
theorem t_X7_endsFactor_L48 (hC : zC p l s m args meth c cX7_endsFactor 2 RX7 D cA B0) (hr : meth.sig.returnType = (Option.none : Option Jvm.ClassFile.FieldType)) {Γ : zSh} {x0 : Nat} {σ : zSt} {out : (Unit × zSt)} (hf : f_X7_endsFactor_L48 Γ x0 σ = some out) {H : Heap} {locs : List Loc} {ls : Array Slot} (hw : zO D cA B0 Γ σ Z s.heap H locs) (hl : lv_has ls 2 [(0, .ref x0)]) :
    W p l e rm_X7_endsFactor s m args below meth c H locs 0 0 (MQ below (zQ1 D cA B0 (none) Γ out.2 Z) args s 0 0 (FR B0)) (F0 m 48 ls []) := by
  have hx := hC.1
  have hb := hC.2.1
  unfold f_X7_endsFactor_L48 at hf
  refine lv_aload_n hx hb dX7_endsFactor_48 rfl (lv_at hl 0 rfl) ?_
  refine lv_iconst (v := 0) hx hb dX7_endsFactor_49 (by decide) ?_
  obtain ⟨σ9, hg, hf⟩ := pfZ_inv hf
  refine r_pfZ hC hw hg clX7 (Nat.le_of_ble_eq_true rfl) lkF_X7_272 rfl rfl rfl dX7_endsFactor_50 (fun H locs hw => ?_)
  first | (obtain ⟨rfl, rfl⟩ := sp_inv hf) | (obtain rfl := Option.some.inj hf)
  exact W.vret hx hb hr (z_ret hw rfl) hw.2.2.2.2.2 dX7_endsFactor_53 hC.2.2.2.2.2.1
set_option maxHeartbeats 4000000 in
set_option maxRecDepth 100000 in
theorem m_X7_endsFactor (h9 : l.stackTraces = false) {Γ : zSh} {a0 : Nat} {σ : zSt} {r : Unit} {σ2 : zSt} (hf : f_X7_endsFactor Γ a0 σ = some (r, σ2)) : Met l yX7_endsFactor (wq yX7_endsFactor cX7_endsFactor 2 (Option.none : Option Jvm.ClassFile.FieldType)) rm_X7_endsFactor (zQ0 D cA B0 [.ref a0] Γ σ Z) (zQ1 D cA B0 (none) Γ σ2 Z) 0 0 (FR B0) := by
  refine z_ofW h9 (by decide) (Nat.le_of_ble_eq_true rfl) ?_
  intro p e s m args below meth c ls hC hr _ hw hl
  have hx := hC.1
  have hb := hC.2.1
  have hl : lv_has ls 2 [(0, .ref a0)] := hl
  unfold f_X7_endsFactor at hf
  refine lv_bipush (v := 9) hx hb dX7_endsFactor_0 (by decide) ?_
  refine lv_iconst (v := 2) hx hb dX7_endsFactor_2 (by decide) ?_
  refine lv_aload_n hx hb dX7_endsFactor_3 rfl (lv_at hl 0 rfl) ?_
  obtain ⟨v1, hg, hf⟩ := gfI_inv hf
  refine r_gfI hC hw hg clX7 (Nat.le_of_ble_eq_true rfl) lkF_X7_266 rfl dX7_endsFactor_4 ?_
  refine lv_imul hx hb dX7_endsFactor_7 ?_
  refine lv_iadd hx hb dX7_endsFactor_8 ?_
  refine lv_istore_n (lv' := [(1, .int (9 + (2 * v1))), (0, .ref a0)]) hx hb dX7_endsFactor_9 rfl hl (Nat.le_of_ble_eq_true rfl) rfl (fun ls hl => ?_)
  refine lv_aload_n hx hb dX7_endsFactor_10 rfl (lv_at hl 1 rfl) ?_
  obtain ⟨v2, hg, hf⟩ := gfR_inv hf
  refine r_gfR hC hw hg clX7 (Nat.le_of_ble_eq_true rfl) lkF_X7_56 rfl dX7_endsFactor_11 ?_
  refine lv_aload_n hx hb dX7_endsFactor_14 rfl (lv_at hl 1 rfl) ?_
  obtain ⟨v3, hg, hf⟩ := gfI_inv hf
  refine r_gfI hC hw hg clX7 (Nat.le_of_ble_eq_true rfl) lkF_X7_266 rfl dX7_endsFactor_15 ?_
  obtain ⟨v4, hg, hf⟩ := ldZ_inv hf
  refine r_ldZ hC hw hg dX7_endsFactor_18 ?_
  refine lv_if_eq (tgt := 32) hx hb dX7_endsFactor_19 (by decide) (fun hc => ?_) (fun hc => ?_)
  · rw [if_pos hc] at hf
    refine lv_aload_n hx hb dX7_endsFactor_32 rfl (lv_at hl 1 rfl) ?_
    refine lv_iconst (v := 4) hx hb dX7_endsFactor_33 (by decide) ?_
    refine lv_iload_n hx hb dX7_endsFactor_34 rfl (lv_at hl 0 rfl) ?_
    obtain ⟨ho, hf⟩ := chk_inv hf
    obtain ⟨_, σ5, hk, hf⟩ := bnd_inv hf
    refine z_callV (As := [.int 4, .int (9 + (2 * v1))]) (rest := []) (m_X7_copies hC.2.2.2.2.2.2.2.2 hk) hC hw wd_X7_copies lkM_X7_230 (isO_sh ho) rfl rfl ⟨rfl, rfl⟩ ⟨(Nat.le_of_ble_eq_true rfl), (Nat.le_of_ble_eq_true rfl)⟩ hl.1 rfl (Nat.le_of_ble_eq_true rfl) dX7_endsFactor_35 ⟨(Nat.le_of_ble_eq_true rfl), (Nat.le_of_ble_eq_true rfl)⟩ (fun H locs hw => ?_)
    refine lv_aload_n hx hb dX7_endsFactor_38 rfl (lv_at hl 1 rfl) ?_
    obtain ⟨v6, hg, hf⟩ := gfR_inv hf
    refine r_gfR hC hw hg clX7 (Nat.le_of_ble_eq_true rfl) lkF_X7_56 rfl dX7_endsFactor_39 ?_
    refine lv_aload_n hx hb dX7_endsFactor_42 rfl (lv_at hl 1 rfl) ?_
    obtain ⟨v7, hg, hf⟩ := gfI_inv hf
    refine r_gfI hC hw hg clX7 (Nat.le_of_ble_eq_true rfl) lkF_X7_266 rfl dX7_endsFactor_43 ?_
    refine lv_iconst (v := 1) hx hb dX7_endsFactor_46 (by decide) ?_
    obtain ⟨σ8, hg, hf⟩ := stZ_inv hf
    refine r_stZ hC hw hg dX7_endsFactor_47 (fun H locs hw => ?_)
    exact t_X7_endsFactor_L48 hC hr hf hw (lv_sub hl [1] rfl)
  · rw [if_neg hc] at hf
    refine lv_aload_n hx hb dX7_endsFactor_22 rfl (lv_at hl 1 rfl) ?_
    refine lv_iload_n hx hb dX7_endsFactor_23 rfl (lv_at hl 0 rfl) ?_
    refine lv_iconst (v := 4) hx hb dX7_endsFactor_24 (by decide) ?_
    refine lv_iconst (v := 2) hx hb dX7_endsFactor_25 (by decide) ?_
    obtain ⟨ho, hf⟩ := chk_inv hf
    obtain ⟨_, σ10, hk, hf⟩ := bnd_inv hf
    refine z_callV (As := [.int (9 + (2 * v1)), .int 4, .int 2]) (rest := []) (m_X7_operates hC.2.2.2.2.2.2.2.2 hk) hC hw wd_X7_operates lkM_X7_269 (isO_sh ho) rfl rfl ⟨rfl, rfl⟩ ⟨(Nat.le_of_ble_eq_true rfl), (Nat.le_of_ble_eq_true rfl)⟩ hl.1 rfl (Nat.le_of_ble_eq_true rfl) dX7_endsFactor_26 ⟨(Nat.le_of_ble_eq_true rfl), (Nat.le_of_ble_eq_true rfl)⟩ (fun H locs hw => ?_)
    refine lv_goto (tgt := 48) hx hb dX7_endsFactor_29 (by decide) ?_
    exact t_X7_endsFactor_L48 hC hr hf hw (lv_sub hl [1] rfl)
set_option maxHeartbeats 4000000 in
set_option maxRecDepth 100000 in
theorem t_X7_endsProduct_L68 (hC : zC p l s m args meth c cX7_endsProduct 2 RX7 D cA B0) (hr : meth.sig.returnType = (Option.none : Option Jvm.ClassFile.FieldType)) {Γ : zSh} {x0 : Nat} {σ : zSt} {out : (Unit × zSt)} (hf : f_X7_endsProduct_L68 Γ x0 σ = some out) {H : Heap} {locs : List Loc} {ls : Array Slot} (hw : zO D cA B0 Γ σ Z s.heap H locs) (hl : lv_has ls 2 [(0, .ref x0)]) :
    W p l e rm_X7_endsProduct s m args below meth c H locs 0 0 (MQ below (zQ1 D cA B0 (none) Γ out.2 Z) args s 0 0 (FR B0)) (F0 m 68 ls []) := by
  have hx := hC.1
  have hb := hC.2.1
  unfold f_X7_endsProduct_L68 at hf
  refine lv_aload_n hx hb dX7_endsProduct_68 rfl (lv_at hl 0 rfl) ?_
  obtain ⟨v11, hg, hf⟩ := gfR_inv hf
  refine r_gfR hC hw hg clX7 (Nat.le_of_ble_eq_true rfl) lkF_X7_56 rfl dX7_endsProduct_69 ?_
  refine lv_aload_n hx hb dX7_endsProduct_72 rfl (lv_at hl 0 rfl) ?_
  obtain ⟨v12, hg, hf⟩ := gfI_inv hf
  refine r_gfI hC hw hg clX7 (Nat.le_of_ble_eq_true rfl) lkF_X7_266 rfl dX7_endsProduct_73 ?_
  refine lv_iconst (v := 0) hx hb dX7_endsProduct_76 (by decide) ?_
  obtain ⟨σ13, hg, hf⟩ := stZ_inv hf
  refine r_stZ hC hw hg dX7_endsProduct_77 (fun H locs hw => ?_)
  first | (obtain ⟨rfl, rfl⟩ := sp_inv hf) | (obtain rfl := Option.some.inj hf)
  exact W.vret hx hb hr (z_ret hw rfl) hw.2.2.2.2.2 dX7_endsProduct_78 hC.2.2.2.2.2.1
set_option maxHeartbeats 4000000 in
set_option maxRecDepth 100000 in
theorem m_X7_endsProduct (h9 : l.stackTraces = false) {Γ : zSh} {a0 : Nat} {σ : zSt} {r : Unit} {σ2 : zSt} (hf : f_X7_endsProduct Γ a0 σ = some (r, σ2)) : Met l yX7_endsProduct (wq yX7_endsProduct cX7_endsProduct 2 (Option.none : Option Jvm.ClassFile.FieldType)) rm_X7_endsProduct (zQ0 D cA B0 [.ref a0] Γ σ Z) (zQ1 D cA B0 (none) Γ σ2 Z) 0 0 (FR B0) := by
  refine z_ofW h9 (by decide) (Nat.le_of_ble_eq_true rfl) ?_
  intro p e s m args below meth c ls hC hr _ hw hl
  have hx := hC.1
  have hb := hC.2.1
  have hl : lv_has ls 2 [(0, .ref a0)] := hl
  unfold f_X7_endsProduct at hf
  refine lv_aload_n hx hb dX7_endsProduct_0 rfl (lv_at hl 0 rfl) ?_
  obtain ⟨ho, hf⟩ := chk_inv hf
  obtain ⟨_, σ1, hk, hf⟩ := bnd_inv hf
  refine z_callV (As := []) (rest := []) (m_X7_endsFactor hC.2.2.2.2.2.2.2.2 hk) hC hw wd_X7_endsFactor lkM_X7_275 (isO_sh ho) rfl rfl ⟨rfl, rfl⟩ ⟨(Nat.le_of_ble_eq_true rfl), (Nat.le_of_ble_eq_true rfl)⟩ hl.1 rfl (Nat.le_of_ble_eq_true rfl) dX7_endsProduct_1 ⟨(Nat.le_of_ble_eq_true rfl), (Nat.le_of_ble_eq_true rfl)⟩ (fun H locs hw => ?_)
  refine lv_bipush (v := 8) hx hb dX7_endsProduct_4 (by decide) ?_
  refine lv_iconst (v := 2) hx hb dX7_endsProduct_6 (by decide) ?_
  refine lv_aload_n hx hb dX7_endsProduct_7 rfl (lv_at hl 0 rfl) ?_
  obtain ⟨v2, hg, hf⟩ := gfI_inv hf
  refine r_gfI hC hw hg clX7 (Nat.le_of_ble_eq_true rfl) lkF_X7_266 rfl dX7_endsProduct_8 ?_
  refine lv_imul hx hb dX7_endsProduct_11 ?_
  refine lv_iadd hx hb dX7_endsProduct_12 ?_
  refine lv_istore_n (lv' := [(1, .int (8 + (2 * v2))), (0, .ref a0)]) hx hb dX7_endsProduct_13 rfl hl (Nat.le_of_ble_eq_true rfl) rfl (fun ls hl => ?_)
  refine lv_aload_n hx hb dX7_endsProduct_14 rfl (lv_at hl 1 rfl) ?_
  obtain ⟨v3, hg, hf⟩ := gfR_inv hf
  refine r_gfR hC hw hg clX7 (Nat.le_of_ble_eq_true rfl) lkF_X7_52 rfl dX7_endsProduct_15 ?_
  refine lv_aload_n hx hb dX7_endsProduct_18 rfl (lv_at hl 1 rfl) ?_
  obtain ⟨v4, hg, hf⟩ := gfI_inv hf
  refine r_gfI hC hw hg clX7 (Nat.le_of_ble_eq_true rfl) lkF_X7_266 rfl dX7_endsProduct_19 ?_
  obtain ⟨v5, hg, hf⟩ := ldZ_inv hf
  refine r_ldZ hC hw hg dX7_endsProduct_22 ?_
  refine lv_if_eq (tgt := 44) hx hb dX7_endsProduct_23 (by decide) (fun hc => ?_) (fun hc => ?_)
  · rw [if_pos hc] at hf
    refine lv_aload_n hx hb dX7_endsProduct_44 rfl (lv_at hl 1 rfl) ?_
    refine lv_bipush (v := 9) hx hb dX7_endsProduct_45 (by decide) ?_
    refine lv_iconst (v := 2) hx hb dX7_endsProduct_47 (by decide) ?_
    refine lv_aload_n hx hb dX7_endsProduct_48 rfl (lv_at hl 1 rfl) ?_
    obtain ⟨v6, hg, hf⟩ := gfI_inv hf
    refine r_gfI hC hw hg clX7 (Nat.le_of_ble_eq_true rfl) lkF_X7_266 rfl dX7_endsProduct_49 ?_
    refine lv_imul hx hb dX7_endsProduct_52 ?_
    refine lv_iadd hx hb dX7_endsProduct_53 ?_
    refine lv_iload_n hx hb dX7_endsProduct_54 rfl (lv_at hl 0 rfl) ?_
    obtain ⟨ho, hf⟩ := chk_inv hf
    obtain ⟨_, σ7, hk, hf⟩ := bnd_inv hf
    refine z_callV (As := [.int (9 + (2 * v6)), .int (8 + (2 * v2))]) (rest := []) (m_X7_copies hC.2.2.2.2.2.2.2.2 hk) hC hw wd_X7_copies lkM_X7_230 (isO_sh ho) rfl rfl ⟨rfl, rfl⟩ ⟨(Nat.le_of_ble_eq_true rfl), (Nat.le_of_ble_eq_true rfl)⟩ hl.1 rfl (Nat.le_of_ble_eq_true rfl) dX7_endsProduct_55 ⟨(Nat.le_of_ble_eq_true rfl), (Nat.le_of_ble_eq_true rfl)⟩ (fun H locs hw => ?_)
    refine lv_aload_n hx hb dX7_endsProduct_58 rfl (lv_at hl 1 rfl) ?_
    obtain ⟨v8, hg, hf⟩ := gfR_inv hf
    refine r_gfR hC hw hg clX7 (Nat.le_of_ble_eq_true rfl) lkF_X7_52 rfl dX7_endsProduct_59 ?_
    refine lv_aload_n hx hb dX7_endsProduct_62 rfl (lv_at hl 1 rfl) ?_
    obtain ⟨v9, hg, hf⟩ := gfI_inv hf
    refine r_gfI hC hw hg clX7 (Nat.le_of_ble_eq_true rfl) lkF_X7_266 rfl dX7_endsProduct_63 ?_
    refine lv_iconst (v := 1) hx hb dX7_endsProduct_66 (by decide) ?_
    obtain ⟨σ10, hg, hf⟩ := stZ_inv hf
    refine r_stZ hC hw hg dX7_endsProduct_67 (fun H locs hw => ?_)
    exact t_X7_endsProduct_L68 hC hr hf hw (lv_sub hl [1] rfl)
  · rw [if_neg hc] at hf
    refine lv_aload_n hx hb dX7_endsProduct_26 rfl (lv_at hl 1 rfl) ?_
    refine lv_iload_n hx hb dX7_endsProduct_27 rfl (lv_at hl 0 rfl) ?_
    refine lv_bipush (v := 9) hx hb dX7_endsProduct_28 (by decide) ?_
    refine lv_iconst (v := 2) hx hb dX7_endsProduct_30 (by decide) ?_
    refine lv_aload_n hx hb dX7_endsProduct_31 rfl (lv_at hl 1 rfl) ?_
    obtain ⟨v14, hg, hf⟩ := gfI_inv hf
    refine r_gfI hC hw hg clX7 (Nat.le_of_ble_eq_true rfl) lkF_X7_266 rfl dX7_endsProduct_32 ?_
    refine lv_imul hx hb dX7_endsProduct_35 ?_
    refine lv_iadd hx hb dX7_endsProduct_36 ?_
    refine lv_iconst (v := 0) hx hb dX7_endsProduct_37 (by decide) ?_
    obtain ⟨ho, hf⟩ := chk_inv hf
    obtain ⟨_, σ15, hk, hf⟩ := bnd_inv hf
    refine z_callV (As := [.int (8 + (2 * v2)), .int (9 + (2 * v14)), .int 0]) (rest := []) (m_X7_operates hC.2.2.2.2.2.2.2.2 hk) hC hw wd_X7_operates lkM_X7_269 (isO_sh ho) rfl rfl ⟨rfl, rfl⟩ ⟨(Nat.le_of_ble_eq_true rfl), (Nat.le_of_ble_eq_true rfl)⟩ hl.1 rfl (Nat.le_of_ble_eq_true rfl) dX7_endsProduct_38 ⟨(Nat.le_of_ble_eq_true rfl), (Nat.le_of_ble_eq_true rfl)⟩ (fun H locs hw => ?_)
    refine lv_goto (tgt := 68) hx hb dX7_endsProduct_41 (by decide) ?_
    exact t_X7_endsProduct_L68 hC hr hf hw (lv_sub hl [1] rfl)
set_option maxHeartbeats 4000000 in
set_option maxRecDepth 100000 in
theorem m_X7_begins (h9 : l.stackTraces = false) {Γ : zSh} {a0 : Nat} {σ : zSt} {r : Unit} {σ2 : zSt} (hf : f_X7_begins Γ a0 σ = some (r, σ2)) : Met l yX7_begins (wq yX7_begins cX7_begins 1 (Option.none : Option Jvm.ClassFile.FieldType)) rm_X7_begins (zQ0 D cA B0 [.ref a0] Γ σ Z) (zQ1 D cA B0 (none) Γ σ2 Z) 0 0 (FR B0) := by
  refine z_ofW h9 (by decide) (Nat.le_of_ble_eq_true rfl) ?_
  intro p e s m args below meth c ls hC hr _ hw hl
  have hx := hC.1
  have hb := hC.2.1
  have hl : lv_has ls 1 [(0, .ref a0)] := hl
  unfold f_X7_begins at hf
  refine lv_aload_n hx hb dX7_begins_0 rfl (lv_at hl 0 rfl) ?_
  obtain ⟨v1, hg, hf⟩ := gfR_inv hf
  refine r_gfR hC hw hg clX7 (Nat.le_of_ble_eq_true rfl) lkF_X7_52 rfl dX7_begins_1 ?_
  refine lv_aload_n hx hb dX7_begins_4 rfl (lv_at hl 0 rfl) ?_
  obtain ⟨v2, hg, hf⟩ := gfI_inv hf
  refine r_gfI hC hw hg clX7 (Nat.le_of_ble_eq_true rfl) lkF_X7_266 rfl dX7_begins_5 ?_
  refine lv_iconst (v := 0) hx hb dX7_begins_8 (by decide) ?_
  obtain ⟨σ3, hg, hf⟩ := stZ_inv hf
  refine r_stZ hC hw hg dX7_begins_9 (fun H locs hw => ?_)
  refine lv_aload_n hx hb dX7_begins_10 rfl (lv_at hl 0 rfl) ?_
  obtain ⟨v4, hg, hf⟩ := gfR_inv hf
  refine r_gfR hC hw hg clX7 (Nat.le_of_ble_eq_true rfl) lkF_X7_56 rfl dX7_begins_11 ?_
  refine lv_aload_n hx hb dX7_begins_14 rfl (lv_at hl 0 rfl) ?_
  obtain ⟨v5, hg, hf⟩ := gfI_inv hf
  refine r_gfI hC hw hg clX7 (Nat.le_of_ble_eq_true rfl) lkF_X7_266 rfl dX7_begins_15 ?_
  refine lv_iconst (v := 0) hx hb dX7_begins_18 (by decide) ?_
  obtain ⟨σ6, hg, hf⟩ := stZ_inv hf
  refine r_stZ hC hw hg dX7_begins_19 (fun H locs hw => ?_)
  refine lv_aload_n hx hb dX7_begins_20 rfl (lv_at hl 0 rfl) ?_
  refine lv_iconst (v := 0) hx hb dX7_begins_21 (by decide) ?_
  obtain ⟨σ7, hg, hf⟩ := pfZ_inv hf
  refine r_pfZ hC hw hg clX7 (Nat.le_of_ble_eq_true rfl) lkF_X7_272 rfl rfl rfl dX7_begins_22 (fun H locs hw => ?_)
  first | (obtain ⟨rfl, rfl⟩ := sp_inv hf) | (obtain rfl := Option.some.inj hf)
  exact W.vret hx hb hr (z_ret hw rfl) hw.2.2.2.2.2 dX7_begins_25 hC.2.2.2.2.2.1
set_option maxHeartbeats 4000000 in
set_option maxRecDepth 100000 in
theorem t_X7_isFigure_L38 (hC : zC p l s m args meth c cX7_isFigure 1 RX7 D cA B0) (hr : meth.sig.returnType = (Option.some FieldType.boolean)) {Γ : zSh} {s0 : Int32} {σ : zSt} {out : (Int32 × zSt)} (hf : f_X7_isFigure_L38 Γ s0 σ = some out) {H : Heap} {locs : List Loc} {ls : Array Slot} (hw : zO D cA B0 Γ σ Z s.heap H locs) (hl : lv_has ls 1 []) :
    W p l e rm_X7_isFigure s m args below meth c H locs 0 0 (MQ below (zQ1 D cA B0 (some (.int out.1)) Γ out.2 Z) args s 0 0 (FR B0)) (F0 m 38 ls [.int s0]) := by
  have hx := hC.1
  have hb := hC.2.1
  unfold f_X7_isFigure_L38 at hf
  obtain ⟨hz, hf⟩ := chk_inv hf
  first | (obtain ⟨rfl, rfl⟩ := sp_inv hf) | (obtain rfl := Option.some.inj hf)
  exact W.zret hx hb hr (isB_n hz).1 (z_ret hw rfl) hw.2.2.2.2.2 dX7_isFigure_38 hC.2.2.2.2.2.1
set_option maxHeartbeats 4000000 in
set_option maxRecDepth 100000 in
theorem t_X7_isFigure_L37 (hC : zC p l s m args meth c cX7_isFigure 1 RX7 D cA B0) (hr : meth.sig.returnType = (Option.some FieldType.boolean)) {Γ : zSh}  {σ : zSt} {out : (Int32 × zSt)} (hf : f_X7_isFigure_L37 Γ  σ = some out) {H : Heap} {locs : List Loc} {ls : Array Slot} (hw : zO D cA B0 Γ σ Z s.heap H locs) (hl : lv_has ls 1 []) :
    W p l e rm_X7_isFigure s m args below meth c H locs 0 0 (MQ below (zQ1 D cA B0 (some (.int out.1)) Γ out.2 Z) args s 0 0 (FR B0)) (F0 m 37 ls []) := by
  have hx := hC.1
  have hb := hC.2.1
  unfold f_X7_isFigure_L37 at hf
  refine lv_iconst (v := 0) hx hb dX7_isFigure_37 (by decide) ?_
  exact t_X7_isFigure_L38 hC hr hf hw (lv_sub hl [] rfl)
set_option maxHeartbeats 4000000 in
set_option maxRecDepth 100000 in
theorem m_X7_isFigure (h9 : l.stackTraces = false) {Γ : zSh} {a0 : Nat} {σ : zSt} {r : Int32} {σ2 : zSt} (hf : f_X7_isFigure Γ a0 σ = some (r, σ2)) : Met l yX7_isFigure (wq yX7_isFigure cX7_isFigure 1 (Option.some FieldType.boolean)) rm_X7_isFigure (zQ0 D cA B0 [.ref a0] Γ σ Z) (zQ1 D cA B0 (some (.int r)) Γ σ2 Z) 0 0 (FR B0) := by
  refine z_ofW h9 (by decide) (Nat.le_of_ble_eq_true rfl) ?_
  intro p e s m args below meth c ls hC hr _ hw hl
  have hx := hC.1
  have hb := hC.2.1
  have hl : lv_has ls 1 [(0, .ref a0)] := hl
  unfold f_X7_isFigure at hf
  refine lv_aload_n hx hb dX7_isFigure_0 rfl (lv_at hl 0 rfl) ?_
  obtain ⟨v1, hg, hf⟩ := gfI_inv hf
  refine r_gfI hC hw hg clX7 (Nat.le_of_ble_eq_true rfl) lkF_X7_278 rfl dX7_isFigure_1 ?_
  refine lv_aload_n hx hb dX7_isFigure_4 rfl (lv_at hl 0 rfl) ?_
  obtain ⟨v2, hg, hf⟩ := gfI_inv hf
  refine r_gfI hC hw hg clX7 (Nat.le_of_ble_eq_true rfl) lkF_X7_259 rfl dX7_isFigure_5 ?_
  refine lv_icmp_ge (tgt := 37) hx hb dX7_isFigure_8 (by decide) (fun hc => ?_) (fun hc => ?_)
  · rw [if_pos hc] at hf
    exact t_X7_isFigure_L37 hC hr hf hw (lv_sub hl [] rfl)
  · rw [if_neg hc] at hf
    refine lv_aload_n hx hb dX7_isFigure_11 rfl (lv_at hl 0 rfl) ?_
    obtain ⟨v3, hg, hf⟩ := gfR_inv hf
    refine r_gfR hC hw hg clX7 (Nat.le_of_ble_eq_true rfl) lkF_X7_49 rfl dX7_isFigure_12 ?_
    refine lv_aload_n hx hb dX7_isFigure_15 rfl (lv_at hl 0 rfl) ?_
    obtain ⟨v4, hg, hf⟩ := gfI_inv hf
    refine r_gfI hC hw hg clX7 (Nat.le_of_ble_eq_true rfl) lkF_X7_278 rfl dX7_isFigure_16 ?_
    obtain ⟨v5, hg, hf⟩ := ldI_inv hf
    refine r_ldI hC hw hg dX7_isFigure_19 ?_
    refine lv_i2l hx hb dX7_isFigure_20 rfl ?_
    refine lv_ldc2 (v := 48) hx hb hC.2.2.2.1 (hC.2.2.2.2.1 _ lkJ_X7_281) dX7_isFigure_21 ?_
    refine lv_ldc2 (v := 57) hx hb hC.2.2.2.1 (hC.2.2.2.2.1 _ lkJ_X7_283) dX7_isFigure_24 ?_
    obtain ⟨r7, σ6, hk, hf⟩ := bnd_inv hf
    refine z_callS (As := [.long (v5.toInt64), .long 48, .long 57]) (rest := []) (m_X7_in hC.2.2.2.2.2.2.2.2 hk) hC hw wd_X7_in lkM_X7_68 rfl ⟨rfl, rfl⟩ ⟨(Nat.le_of_ble_eq_true rfl), (Nat.le_of_ble_eq_true rfl)⟩ hl.1 rfl (Nat.le_of_ble_eq_true rfl) dX7_isFigure_27 ⟨(Nat.le_of_ble_eq_true rfl), (Nat.le_of_ble_eq_true rfl)⟩ (fun H locs hw => ?_)
    refine lv_if_eq (tgt := 37) hx hb dX7_isFigure_30 (by decide) (fun hc => ?_) (fun hc => ?_)
    · rw [if_pos hc] at hf
      exact t_X7_isFigure_L37 hC hr hf hw (lv_sub hl [] rfl)
    · rw [if_neg hc] at hf
      refine lv_iconst (v := 1) hx hb dX7_isFigure_33 (by decide) ?_
      refine lv_goto (tgt := 38) hx hb dX7_isFigure_34 (by decide) ?_
      exact t_X7_isFigure_L38 hC hr hf hw (lv_sub hl [] rfl)
set_option maxHeartbeats 4000000 in
set_option maxRecDepth 100000 in
theorem t_X7_readsNumber_B7 (hC : zC p l s m args meth c cX7_readsNumber 3 RX7 D cA B0) (hr : meth.sig.returnType = (Option.some FieldType.boolean)) {Γ : zSh} {x0 : Nat} {x1 : Int32} {x2 : Int32} {σ : zSt} {out : ((Int32 × zSt) ⊕ (Int32 × zSt))} (hf : f_X7_readsNumber_B7 Γ x0 x1 x2 σ = some out) {H : Heap} {locs : List Loc} {ls : Array Slot} (hw : zO D cA B0 Γ σ Z s.heap H locs) (hl : lv_has ls 3 [(0, .ref x0), (1, .int x1), (2, .int x2)])
    (kI : ∀ (z2 : Int32) (σ2 : zSt), out = .inl (z2, σ2) → ∀ (H : Heap) (locs : List Loc) (ls : Array Slot), zO D cA B0 Γ σ2 Z s.heap H locs → lv_has ls 3 [(0, .ref x0), (1, .int x1), (2, .int z2)] → W p l e rm_X7_readsNumber s m args below meth c H locs 0 0 Q (F0 m 7 ls []))
    (kE : ∀ (z2 : Int32) (σ2 : zSt), out = .inr (z2, σ2) → ∀ (H : Heap) (locs : List Loc) (ls : Array Slot), zO D cA B0 Γ σ2 Z s.heap H locs → lv_has ls 3 [(0, .ref x0), (2, .int z2)] → W p l e rm_X7_readsNumber s m args below meth c H locs 0 0 Q (F0 m 55 ls [])) :
    W p l e rm_X7_readsNumber s m args below meth c H locs 0 0 Q (F0 m 7 ls []) := by
  have hx := hC.1
  have hb := hC.2.1
  unfold f_X7_readsNumber_B7 at hf
  refine lv_aload_n hx hb dX7_readsNumber_7 rfl (lv_at hl 0 rfl) ?_
  obtain ⟨ho, hf⟩ := chk_inv hf
  obtain ⟨r3, σ2, hk, hf⟩ := bnd_inv hf
  refine z_callV (As := []) (rest := []) (m_X7_isFigure hC.2.2.2.2.2.2.2.2 hk) hC hw wd_X7_isFigure lkM_X7_285 (isO_sh ho) rfl rfl ⟨rfl, rfl⟩ ⟨(Nat.le_of_ble_eq_true rfl), (Nat.le_of_ble_eq_true rfl)⟩ hl.1 rfl (Nat.le_of_ble_eq_true rfl) dX7_readsNumber_8 ⟨(Nat.le_of_ble_eq_true rfl), (Nat.le_of_ble_eq_true rfl)⟩ (fun H locs hw => ?_)
  refine lv_if_eq (tgt := 55) hx hb dX7_readsNumber_11 (by decide) (fun hc => ?_) (fun hc => ?_)
  · rw [if_pos hc] at hf
    exact kE x2 σ2 (Option.some.inj hf).symm _ _ _ hw (lv_sub hl [0, 2] rfl)
  · rw [if_neg hc] at hf
    refine lv_aload_n hx hb dX7_readsNumber_14 rfl (lv_at hl 0 rfl) ?_
    obtain ⟨v4, hg, hf⟩ := gfI_inv hf
    refine r_gfI hC hw hg clX7 (Nat.le_of_ble_eq_true rfl) lkF_X7_278 rfl dX7_readsNumber_15 ?_
    refine lv_iload_n hx hb dX7_readsNumber_18 rfl (lv_at hl 1 rfl) ?_
    refine lv_iconst (v := 4) hx hb dX7_readsNumber_19 (by decide) ?_
    refine lv_iadd hx hb dX7_readsNumber_20 ?_
    refine lv_icmp_ge (tgt := 55) hx hb dX7_readsNumber_21 (by decide) (fun hc => ?_) (fun hc => ?_)
    · rw [if_pos hc] at hf
      exact kE x2 σ2 (Option.some.inj hf).symm _ _ _ hw (lv_sub hl [0, 2] rfl)
    · rw [if_neg hc] at hf
      refine lv_bipush (v := 10) hx hb dX7_readsNumber_24 (by decide) ?_
      refine lv_iload_n hx hb dX7_readsNumber_26 rfl (lv_at hl 2 rfl) ?_
      refine lv_imul hx hb dX7_readsNumber_27 ?_
      refine lv_aload_n hx hb dX7_readsNumber_28 rfl (lv_at hl 0 rfl) ?_
      obtain ⟨v5, hg, hf⟩ := gfR_inv hf
      refine r_gfR hC hw hg clX7 (Nat.le_of_ble_eq_true rfl) lkF_X7_49 rfl dX7_readsNumber_29 ?_
      refine lv_aload_n hx hb dX7_readsNumber_32 rfl (lv_at hl 0 rfl) ?_
      obtain ⟨v6, hg, hf⟩ := gfI_inv hf
      refine r_gfI hC hw hg clX7 (Nat.le_of_ble_eq_true rfl) lkF_X7_278 rfl dX7_readsNumber_33 ?_
      obtain ⟨v7, hg, hf⟩ := ldI_inv hf
      refine r_ldI hC hw hg dX7_readsNumber_36 ?_
      refine lv_iadd hx hb dX7_readsNumber_37 ?_
      refine lv_bipush (v := 48) hx hb dX7_readsNumber_38 (by decide) ?_
      refine lv_isub hx hb dX7_readsNumber_40 ?_
      refine lv_istore_n (lv' := [(2, .int (((10 * x2) + v7) - 48)), (0, .ref x0), (1, .int x1)]) hx hb dX7_readsNumber_41 rfl hl (Nat.le_of_ble_eq_true rfl) rfl (fun ls hl => ?_)
      refine lv_aload_n hx hb dX7_readsNumber_42 rfl (lv_at hl 1 rfl) ?_
      refine lv_dup hx hb dX7_readsNumber_43 rfl ?_
      obtain ⟨v8, hg, hf⟩ := gfI_inv hf
      refine r_gfI hC hw hg clX7 (Nat.le_of_ble_eq_true rfl) lkF_X7_278 rfl dX7_readsNumber_44 ?_
      refine lv_iconst (v := 1) hx hb dX7_readsNumber_47 (by decide) ?_
      refine lv_iadd hx hb dX7_readsNumber_48 ?_
      obtain ⟨σ9, hg, hf⟩ := pfI_inv hf
      refine r_pfI hC hw hg clX7 (Nat.le_of_ble_eq_true rfl) lkF_X7_278 rfl rfl rfl dX7_readsNumber_49 (fun H locs hw => ?_)
      refine lv_goto (tgt := 7) hx hb dX7_readsNumber_52 (by decide) ?_
      exact kI (((10 * x2) + v7) - 48) σ9 (Option.some.inj hf).symm _ _ _ hw (lv_sub hl [1, 2, 0] rfl)
set_option maxHeartbeats 4000000 in
theorem l_X7_readsNumber_B7 (hC : zC p l s m args meth c cX7_readsNumber 3 RX7 D cA B0) (hr : meth.sig.returnType = (Option.some FieldType.boolean)) {Γ : zSh} {x0 : Nat} {x1 : Int32} {w2 : Int32} {σ2 : zSt} (kE : ∀ (H : Heap) (locs : List Loc) (ls : Array Slot), zO D cA B0 Γ σ2 Z s.heap H locs → lv_has ls 3 [(0, .ref x0), (2, .int w2)] → W p l e rm_X7_readsNumber s m args below meth c H locs 0 0 Q (F0 m 55 ls [])) :
    ∀ (n : Nat) (x2 : Int32) (σ : zSt), loopM (fun q => f_X7_readsNumber_B7 Γ x0 x1 q.1 q.2) n (x2, σ) = some (w2, σ2) → ∀ (H : Heap) (locs : List Loc) (ls : Array Slot), zO D cA B0 Γ σ Z s.heap H locs → lv_has ls 3 [(0, .ref x0), (1, .int x1), (2, .int x2)] → W p l e rm_X7_readsNumber s m args below meth c H locs 0 0 Q (F0 m 7 ls []) := by
  intro n
  induction n with
  | zero => intro x2 σ h; exact absurd h (by simp [loopM])
  | succ n ih =>
    intro x2 σ h H locs ls hw hl
    obtain ⟨r, h1, h2, h3⟩ := loopM_inv h
    exact t_X7_readsNumber_B7 hC hr h1 hw hl (fun z2 s2 e H locs ls hw hl => ih z2 s2 (h2 _ e) H locs ls hw hl) (fun z2 s2 e H locs ls hw hl => by cases h3 _ e; exact kE H locs ls hw hl)
set_option maxHeartbeats 4000000 in
set_option maxRecDepth 100000 in
theorem t_X7_readsNumber_L95 (hC : zC p l s m args meth c cX7_readsNumber 3 RX7 D cA B0) (hr : meth.sig.returnType = (Option.some FieldType.boolean)) {Γ : zSh} {s0 : Int32} {σ : zSt} {out : (Int32 × zSt)} (hf : f_X7_readsNumber_L95 Γ s0 σ = some out) {H : Heap} {locs : List Loc} {ls : Array Slot} (hw : zO D cA B0 Γ σ Z s.heap H locs) (hl : lv_has ls 3 []) :
    W p l e rm_X7_readsNumber s m args below meth c H locs 0 0 (MQ below (zQ1 D cA B0 (some (.int out.1)) Γ out.2 Z) args s 0 0 (FR B0)) (F0 m 95 ls [.int s0]) := by
  have hx := hC.1
  have hb := hC.2.1
  unfold f_X7_readsNumber_L95 at hf
  obtain ⟨hz, hf⟩ := chk_inv hf
  first | (obtain ⟨rfl, rfl⟩ := sp_inv hf) | (obtain rfl := Option.some.inj hf)
  exact W.zret hx hb hr (isB_n hz).1 (z_ret hw rfl) hw.2.2.2.2.2 dX7_readsNumber_95 hC.2.2.2.2.2.1
set_option maxHeartbeats 4000000 in
set_option maxRecDepth 100000 in
theorem m_X7_readsNumber (h9 : l.stackTraces = false) {Γ : zSh} {a0 : Nat} {σ : zSt} {r : Int32} {σ2 : zSt} (hf : f_X7_readsNumber Γ a0 σ = some (r, σ2)) : Met l yX7_readsNumber (wq yX7_readsNumber cX7_readsNumber 3 (Option.some FieldType.boolean)) rm_X7_readsNumber (zQ0 D cA B0 [.ref a0] Γ σ Z) (zQ1 D cA B0 (some (.int r)) Γ σ2 Z) 0 0 (FR B0) := by
  refine z_ofW h9 (by decide) (Nat.le_of_ble_eq_true rfl) ?_
  intro p e s m args below meth c ls hC hr _ hw hl
  have hx := hC.1
  have hb := hC.2.1
  have hl : lv_has ls 3 [(0, .ref a0)] := hl
  unfold f_X7_readsNumber at hf
  refine lv_aload_n hx hb dX7_readsNumber_0 rfl (lv_at hl 0 rfl) ?_
  obtain ⟨v1, hg, hf⟩ := gfI_inv hf
  refine r_gfI hC hw hg clX7 (Nat.le_of_ble_eq_true rfl) lkF_X7_278 rfl dX7_readsNumber_1 ?_
  refine lv_istore_n (lv' := [(1, .int v1), (0, .ref a0)]) hx hb dX7_readsNumber_4 rfl hl (Nat.le_of_ble_eq_true rfl) rfl (fun ls hl => ?_)
  refine lv_iconst (v := 0) hx hb dX7_readsNumber_5 (by decide) ?_
  refine lv_istore_n (lv' := [(2, .int 0), (1, .int v1), (0, .ref a0)]) hx hb dX7_readsNumber_6 rfl hl (Nat.le_of_ble_eq_true rfl) rfl (fun ls hl => ?_)
  obtain ⟨w11, σ10, hk, hf⟩ := lb1_inv hf
  refine l_X7_readsNumber_B7 hC hr (fun H locs ls hw hl => ?_) FUEL 0 σ hk _ _ _ hw (lv_sub hl [2, 1, 0] rfl)
  refine lv_aload_n hx hb dX7_readsNumber_55 rfl (lv_at hl 0 rfl) ?_
  refine lv_iconst (v := 4) hx hb dX7_readsNumber_56 (by decide) ?_
  refine lv_iconst (v := 1) hx hb dX7_readsNumber_57 (by decide) ?_
  obtain ⟨ho, hf⟩ := chk_inv hf
  obtain ⟨_, σ12, hk, hf⟩ := bnd_inv hf
  refine z_callV (As := [.int 4, .int 1]) (rest := []) (m_X7_clears hC.2.2.2.2.2.2.2.2 hk) hC hw wd_X7_clears lkM_X7_101 (isO_sh ho) rfl rfl ⟨rfl, rfl⟩ ⟨(Nat.le_of_ble_eq_true rfl), (Nat.le_of_ble_eq_true rfl)⟩ hl.1 rfl (Nat.le_of_ble_eq_true rfl) dX7_readsNumber_58 ⟨(Nat.le_of_ble_eq_true rfl), (Nat.le_of_ble_eq_true rfl)⟩ (fun H locs hw => ?_)
  refine lv_aload_n hx hb dX7_readsNumber_61 rfl (lv_at hl 0 rfl) ?_
  obtain ⟨v13, hg, hf⟩ := gfR_inv hf
  refine r_gfR hC hw hg clX7 (Nat.le_of_ble_eq_true rfl) lkF_X7_7 rfl dX7_readsNumber_62 ?_
  refine lv_iconst (v := 4) hx hb dX7_readsNumber_65 (by decide) ?_
  refine lv_iconst (v := 0) hx hb dX7_readsNumber_66 (by decide) ?_
  obtain ⟨r15, σ14, hk, hf⟩ := bnd_inv hf
  refine z_callS (As := [.int 4, .int 0]) (rest := [.ref v13]) (m_X7_initialAt hC.2.2.2.2.2.2.2.2 hk) hC hw wd_X7_initialAt lkM_X7_82 rfl ⟨rfl, rfl⟩ ⟨(Nat.le_of_ble_eq_true rfl), (Nat.le_of_ble_eq_true rfl)⟩ hl.1 rfl (Nat.le_of_ble_eq_true rfl) dX7_readsNumber_67 ⟨(Nat.le_of_ble_eq_true rfl), (Nat.le_of_ble_eq_true rfl)⟩ (fun H locs hw => ?_)
  refine lv_iconst (v := 1) hx hb dX7_readsNumber_70 (by decide) ?_
  obtain ⟨σ16, hg, hf⟩ := stI_inv hf
  refine r_stI hC hw hg dX7_readsNumber_71 (fun H locs hw => ?_)
  refine lv_aload_n hx hb dX7_readsNumber_72 rfl (lv_at hl 0 rfl) ?_
  obtain ⟨v17, hg, hf⟩ := gfR_inv hf
  refine r_gfR hC hw hg clX7 (Nat.le_of_ble_eq_true rfl) lkF_X7_7 rfl dX7_readsNumber_73 ?_
  refine lv_iconst (v := 4) hx hb dX7_readsNumber_76 (by decide) ?_
  refine lv_iconst (v := 0) hx hb dX7_readsNumber_77 (by decide) ?_
  obtain ⟨r19, σ18, hk, hf⟩ := bnd_inv hf
  refine z_callS (As := [.int 4, .int 0]) (rest := [.ref v17]) (m_X7_finalAt hC.2.2.2.2.2.2.2.2 hk) hC hw wd_X7_finalAt lkM_X7_85 rfl ⟨rfl, rfl⟩ ⟨(Nat.le_of_ble_eq_true rfl), (Nat.le_of_ble_eq_true rfl)⟩ hl.1 rfl (Nat.le_of_ble_eq_true rfl) dX7_readsNumber_78 ⟨(Nat.le_of_ble_eq_true rfl), (Nat.le_of_ble_eq_true rfl)⟩ (fun H locs hw => ?_)
  refine lv_iload_n hx hb dX7_readsNumber_81 rfl (lv_at hl 1 rfl) ?_
  obtain ⟨σ20, hg, hf⟩ := stI_inv hf
  refine r_stI hC hw hg dX7_readsNumber_82 (fun H locs hw => ?_)
  refine lv_aload_n hx hb dX7_readsNumber_83 rfl (lv_at hl 0 rfl) ?_
  obtain ⟨ho, hf⟩ := chk_inv hf
  obtain ⟨r22, σ21, hk, hf⟩ := bnd_inv hf
  refine z_callV (As := []) (rest := []) (m_X7_isFigure hC.2.2.2.2.2.2.2.2 hk) hC hw wd_X7_isFigure lkM_X7_285 (isO_sh ho) rfl rfl ⟨rfl, rfl⟩ ⟨(Nat.le_of_ble_eq_true rfl), (Nat.le_of_ble_eq_true rfl)⟩ hl.1 rfl (Nat.le_of_ble_eq_true rfl) dX7_readsNumber_84 ⟨(Nat.le_of_ble_eq_true rfl), (Nat.le_of_ble_eq_true rfl)⟩ (fun H locs hw => ?_)
  refine lv_if_ne (tgt := 94) hx hb dX7_readsNumber_87 (by decide) (fun hc => ?_) (fun hc => ?_)
  · rw [if_neg hc] at hf
    refine lv_iconst (v := 0) hx hb dX7_readsNumber_94 (by decide) ?_
    exact t_X7_readsNumber_L95 hC hr hf hw (lv_sub hl [] rfl)
  · rw [if_pos hc] at hf
    refine lv_iconst (v := 1) hx hb dX7_readsNumber_90 (by decide) ?_
    refine lv_goto (tgt := 95) hx hb dX7_readsNumber_91 (by decide) ?_
    exact t_X7_readsNumber_L95 hC hr hf hw (lv_sub hl [] rfl)
set_option maxHeartbeats 4000000 in
set_option maxRecDepth 100000 in
theorem m_X7_readsLetter (h9 : l.stackTraces = false) {Γ : zSh} {a0 : Nat} {a1 : Int32} {σ : zSt} {r : Unit} {σ2 : zSt} (hf : f_X7_readsLetter Γ a0 a1 σ = some (r, σ2)) : Met l yX7_readsLetter (wq yX7_readsLetter cX7_readsLetter 2 (Option.none : Option Jvm.ClassFile.FieldType)) rm_X7_readsLetter (zQ0 D cA B0 [.ref a0, .int a1] Γ σ Z) (zQ1 D cA B0 (none) Γ σ2 Z) 0 0 (FR B0) := by
  refine z_ofW h9 (by decide) (Nat.le_of_ble_eq_true rfl) ?_
  intro p e s m args below meth c ls hC hr _ hw hl
  have hx := hC.1
  have hb := hC.2.1
  have hl : lv_has ls 2 [(0, .ref a0), (1, .int a1)] := hl
  unfold f_X7_readsLetter at hf
  refine lv_aload_n hx hb dX7_readsLetter_0 rfl (lv_at hl 0 rfl) ?_
  refine lv_iconst (v := 4) hx hb dX7_readsLetter_1 (by decide) ?_
  refine lv_iconst (v := 2) hx hb dX7_readsLetter_2 (by decide) ?_
  obtain ⟨ho, hf⟩ := chk_inv hf
  obtain ⟨_, σ1, hk, hf⟩ := bnd_inv hf
  refine z_callV (As := [.int 4, .int 2]) (rest := []) (m_X7_clears hC.2.2.2.2.2.2.2.2 hk) hC hw wd_X7_clears lkM_X7_101 (isO_sh ho) rfl rfl ⟨rfl, rfl⟩ ⟨(Nat.le_of_ble_eq_true rfl), (Nat.le_of_ble_eq_true rfl)⟩ hl.1 rfl (Nat.le_of_ble_eq_true rfl) dX7_readsLetter_3 ⟨(Nat.le_of_ble_eq_true rfl), (Nat.le_of_ble_eq_true rfl)⟩ (fun H locs hw => ?_)
  refine lv_aload_n hx hb dX7_readsLetter_6 rfl (lv_at hl 0 rfl) ?_
  obtain ⟨v2, hg, hf⟩ := gfR_inv hf
  refine r_gfR hC hw hg clX7 (Nat.le_of_ble_eq_true rfl) lkF_X7_7 rfl dX7_readsLetter_7 ?_
  refine lv_iconst (v := 4) hx hb dX7_readsLetter_10 (by decide) ?_
  refine lv_iconst (v := 0) hx hb dX7_readsLetter_11 (by decide) ?_
  obtain ⟨r4, σ3, hk, hf⟩ := bnd_inv hf
  refine z_callS (As := [.int 4, .int 0]) (rest := [.ref v2]) (m_X7_initialAt hC.2.2.2.2.2.2.2.2 hk) hC hw wd_X7_initialAt lkM_X7_82 rfl ⟨rfl, rfl⟩ ⟨(Nat.le_of_ble_eq_true rfl), (Nat.le_of_ble_eq_true rfl)⟩ hl.1 rfl (Nat.le_of_ble_eq_true rfl) dX7_readsLetter_12 ⟨(Nat.le_of_ble_eq_true rfl), (Nat.le_of_ble_eq_true rfl)⟩ (fun H locs hw => ?_)
  refine lv_iconst (v := 1) hx hb dX7_readsLetter_15 (by decide) ?_
  obtain ⟨σ5, hg, hf⟩ := stI_inv hf
  refine r_stI hC hw hg dX7_readsLetter_16 (fun H locs hw => ?_)
  refine lv_aload_n hx hb dX7_readsLetter_17 rfl (lv_at hl 0 rfl) ?_
  obtain ⟨v6, hg, hf⟩ := gfR_inv hf
  refine r_gfR hC hw hg clX7 (Nat.le_of_ble_eq_true rfl) lkF_X7_7 rfl dX7_readsLetter_18 ?_
  refine lv_iconst (v := 4) hx hb dX7_readsLetter_21 (by decide) ?_
  refine lv_iconst (v := 1) hx hb dX7_readsLetter_22 (by decide) ?_
  obtain ⟨r8, σ7, hk, hf⟩ := bnd_inv hf
  refine z_callS (As := [.int 4, .int 1]) (rest := [.ref v6]) (m_X7_finalAt hC.2.2.2.2.2.2.2.2 hk) hC hw wd_X7_finalAt lkM_X7_85 rfl ⟨rfl, rfl⟩ ⟨(Nat.le_of_ble_eq_true rfl), (Nat.le_of_ble_eq_true rfl)⟩ hl.1 rfl (Nat.le_of_ble_eq_true rfl) dX7_readsLetter_23 ⟨(Nat.le_of_ble_eq_true rfl), (Nat.le_of_ble_eq_true rfl)⟩ (fun H locs hw => ?_)
  refine lv_iconst (v := 1) hx hb dX7_readsLetter_26 (by decide) ?_
  obtain ⟨σ9, hg, hf⟩ := stI_inv hf
  refine r_stI hC hw hg dX7_readsLetter_27 (fun H locs hw => ?_)
  refine lv_aload_n hx hb dX7_readsLetter_28 rfl (lv_at hl 0 rfl) ?_
  obtain ⟨v10, hg, hf⟩ := gfR_inv hf
  refine r_gfR hC hw hg clX7 (Nat.le_of_ble_eq_true rfl) lkF_X7_7 rfl dX7_readsLetter_29 ?_
  refine lv_iconst (v := 4) hx hb dX7_readsLetter_32 (by decide) ?_
  refine lv_iload_n hx hb dX7_readsLetter_33 rfl (lv_at hl 1 rfl) ?_
  refine lv_iconst (v := 0) hx hb dX7_readsLetter_34 (by decide) ?_
  refine lv_iconst (v := 1) hx hb dX7_readsLetter_35 (by decide) ?_
  obtain ⟨r12, σ11, hk, hf⟩ := bnd_inv hf
  refine z_callS (As := [.int 4, .int a1, .int 0, .int 1]) (rest := [.ref v10]) (m_X7_at hC.2.2.2.2.2.2.2.2 hk) hC hw wd_X7_at lkM_X7_116 rfl ⟨rfl, rfl⟩ ⟨(Nat.le_of_ble_eq_true rfl), (Nat.le_of_ble_eq_true rfl)⟩ hl.1 rfl (Nat.le_of_ble_eq_true rfl) dX7_readsLetter_36 ⟨(Nat.le_of_ble_eq_true rfl), (Nat.le_of_ble_eq_true rfl)⟩ (fun H locs hw => ?_)
  refine lv_iconst (v := 1) hx hb dX7_readsLetter_39 (by decide) ?_
  obtain ⟨σ13, hg, hf⟩ := stI_inv hf
  refine r_stI hC hw hg dX7_readsLetter_40 (fun H locs hw => ?_)
  refine lv_aload_n hx hb dX7_readsLetter_41 rfl (lv_at hl 0 rfl) ?_
  refine lv_dup hx hb dX7_readsLetter_42 rfl ?_
  obtain ⟨v14, hg, hf⟩ := gfI_inv hf
  refine r_gfI hC hw hg clX7 (Nat.le_of_ble_eq_true rfl) lkF_X7_278 rfl dX7_readsLetter_43 ?_
  refine lv_iconst (v := 1) hx hb dX7_readsLetter_46 (by decide) ?_
  refine lv_iadd hx hb dX7_readsLetter_47 ?_
  obtain ⟨σ15, hg, hf⟩ := pfI_inv hf
  refine r_pfI hC hw hg clX7 (Nat.le_of_ble_eq_true rfl) lkF_X7_278 rfl rfl rfl dX7_readsLetter_48 (fun H locs hw => ?_)
  first | (obtain ⟨rfl, rfl⟩ := sp_inv hf) | (obtain rfl := Option.some.inj hf)
  exact W.vret hx hb hr (z_ret hw rfl) hw.2.2.2.2.2 dX7_readsLetter_51 hC.2.2.2.2.2.1
set_option maxHeartbeats 4000000 in
set_option maxRecDepth 100000 in
theorem t_X7_readsFactor_L90 (hC : zC p l s m args meth c cX7_readsFactor 3 RX7 D cA B0) (hr : meth.sig.returnType = (Option.some FieldType.boolean)) {Γ : zSh} {x0 : Nat} {x2 : Int32} {σ : zSt} {out : (Int32 × zSt)} (hf : f_X7_readsFactor_L90 Γ x0 x2 σ = some out) {H : Heap} {locs : List Loc} {ls : Array Slot} (hw : zO D cA B0 Γ σ Z s.heap H locs) (hl : lv_has ls 3 [(0, .ref x0), (2, .int x2)]) :
    W p l e rm_X7_readsFactor s m args below meth c H locs 0 0 (MQ below (zQ1 D cA B0 (some (.int out.1)) Γ out.2 Z) args s 0 0 (FR B0)) (F0 m 90 ls []) := by
  have hx := hC.1
  have hb := hC.2.1
  unfold f_X7_readsFactor_L90 at hf
  refine lv_aload_n hx hb dX7_readsFactor_90 rfl (lv_at hl 0 rfl) ?_
  refine lv_iconst (v := 1) hx hb dX7_readsFactor_91 (by decide) ?_
  obtain ⟨σ3, hg, hf⟩ := pfZ_inv hf
  refine r_pfZ hC hw hg clX7 (Nat.le_of_ble_eq_true rfl) lkF_X7_272 rfl rfl rfl dX7_readsFactor_92 (fun H locs hw => ?_)
  refine lv_iload_n hx hb dX7_readsFactor_95 rfl (lv_at hl 1 rfl) ?_
  obtain ⟨hz, hf⟩ := chk_inv hf
  first | (obtain ⟨rfl, rfl⟩ := sp_inv hf) | (obtain rfl := Option.some.inj hf)
  exact W.zret hx hb hr (isB_n hz).1 (z_ret hw rfl) hw.2.2.2.2.2 dX7_readsFactor_96 hC.2.2.2.2.2.1
set_option maxHeartbeats 4000000 in
set_option maxRecDepth 100000 in
theorem t_X7_readsFactor_L74 (hC : zC p l s m args meth c cX7_readsFactor 3 RX7 D cA B0) (hr : meth.sig.returnType = (Option.some FieldType.boolean)) {Γ : zSh} {x0 : Nat} {x1 : Int32} {x2 : Int32} {σ : zSt} {out : (Int32 × zSt)} (hf : f_X7_readsFactor_L74 Γ x0 x1 x2 σ = some out) {H : Heap} {locs : List Loc} {ls : Array Slot} (hw : zO D cA B0 Γ σ Z s.heap H locs) (hl : lv_has ls 3 [(0, .ref x0), (1, .int x1), (2, .int x2)]) :
    W p l e rm_X7_readsFactor s m args below meth c H locs 0 0 (MQ below (zQ1 D cA B0 (some (.int out.1)) Γ out.2 Z) args s 0 0 (FR B0)) (F0 m 74 ls []) := by
  have hx := hC.1
  have hb := hC.2.1
  unfold f_X7_readsFactor_L74 at hf
  refine lv_aload_n hx hb dX7_readsFactor_74 rfl (lv_at hl 0 rfl) ?_
  refine lv_iload_n hx hb dX7_readsFactor_75 rfl (lv_at hl 1 rfl) ?_
  refine lv_bipush (v := 97) hx hb dX7_readsFactor_76 (by decide) ?_
  refine lv_isub hx hb dX7_readsFactor_78 ?_
  obtain ⟨ho, hf⟩ := chk_inv hf
  obtain ⟨_, σ2, hk, hf⟩ := bnd_inv hf
  refine z_callV (As := [.int (x1 - 97)]) (rest := []) (m_X7_readsLetter hC.2.2.2.2.2.2.2.2 hk) hC hw wd_X7_readsLetter lkM_X7_292 (isO_sh ho) rfl rfl ⟨rfl, rfl⟩ ⟨(Nat.le_of_ble_eq_true rfl), (Nat.le_of_ble_eq_true rfl)⟩ hl.1 rfl (Nat.le_of_ble_eq_true rfl) dX7_readsFactor_79 ⟨(Nat.le_of_ble_eq_true rfl), (Nat.le_of_ble_eq_true rfl)⟩ (fun H locs hw => ?_)
  refine lv_goto (tgt := 90) hx hb dX7_readsFactor_82 (by decide) ?_
  exact t_X7_readsFactor_L90 hC hr hf hw (lv_sub hl [0, 2] rfl)
set_option maxHeartbeats 4000000 in
set_option maxRecDepth 100000 in
theorem t_X7_readsFactor_L28 (hC : zC p l s m args meth c cX7_readsFactor 3 RX7 D cA B0) (hr : meth.sig.returnType = (Option.some FieldType.boolean)) {Γ : zSh} {x0 : Nat} {x1 : Int32} {σ : zSt} {out : (Int32 × zSt)} (hf : f_X7_readsFactor_L28 Γ x0 x1 σ = some out) {H : Heap} {locs : List Loc} {ls : Array Slot} (hw : zO D cA B0 Γ σ Z s.heap H locs) (hl : lv_has ls 3 [(0, .ref x0), (1, .int x1)]) :
    W p l e rm_X7_readsFactor s m args below meth c H locs 0 0 (MQ below (zQ1 D cA B0 (some (.int out.1)) Γ out.2 Z) args s 0 0 (FR B0)) (F0 m 28 ls []) := by
  have hx := hC.1
  have hb := hC.2.1
  unfold f_X7_readsFactor_L28 at hf
  refine lv_iload_n hx hb dX7_readsFactor_28 rfl (lv_at hl 1 rfl) ?_
  refine lv_bipush (v := 40) hx hb dX7_readsFactor_29 (by decide) ?_
  refine lv_icmp_ne (tgt := 60) hx hb dX7_readsFactor_31 (by decide) (fun hc => ?_) (fun hc => ?_)
  · rw [if_neg hc] at hf
    refine lv_iconst (v := 1) hx hb dX7_readsFactor_60 (by decide) ?_
    refine lv_istore_n (lv' := [(2, .int 1), (0, .ref x0), (1, .int x1)]) hx hb dX7_readsFactor_61 rfl hl (Nat.le_of_ble_eq_true rfl) rfl (fun ls hl => ?_)
    refine lv_iload_n hx hb dX7_readsFactor_62 rfl (lv_at hl 2 rfl) ?_
    refine lv_bipush (v := 97) hx hb dX7_readsFactor_63 (by decide) ?_
    refine lv_icmp_eq (tgt := 74) hx hb dX7_readsFactor_65 (by decide) (fun hc => ?_) (fun hc => ?_)
    · rw [if_pos hc] at hf
      exact t_X7_readsFactor_L74 hC hr hf hw (lv_sub hl [1, 2, 0] rfl)
    · rw [if_neg hc] at hf
      refine lv_iload_n hx hb dX7_readsFactor_68 rfl (lv_at hl 2 rfl) ?_
      refine lv_bipush (v := 98) hx hb dX7_readsFactor_69 (by decide) ?_
      refine lv_icmp_ne (tgt := 85) hx hb dX7_readsFactor_71 (by decide) (fun hc => ?_) (fun hc => ?_)
      · rw [if_neg hc] at hf
        refine lv_aload_n hx hb dX7_readsFactor_85 rfl (lv_at hl 1 rfl) ?_
        obtain ⟨ho, hf⟩ := chk_inv hf
        obtain ⟨r5, σ4, hk, hf⟩ := bnd_inv hf
        refine z_callV (As := []) (rest := []) (m_X7_readsNumber hC.2.2.2.2.2.2.2.2 hk) hC hw wd_X7_readsNumber lkM_X7_295 (isO_sh ho) rfl rfl ⟨rfl, rfl⟩ ⟨(Nat.le_of_ble_eq_true rfl), (Nat.le_of_ble_eq_true rfl)⟩ hl.1 rfl (Nat.le_of_ble_eq_true rfl) dX7_readsFactor_86 ⟨(Nat.le_of_ble_eq_true rfl), (Nat.le_of_ble_eq_true rfl)⟩ (fun H locs hw => ?_)
        refine lv_istore_n (lv' := [(2, .int r5), (0, .ref x0), (1, .int x1)]) hx hb dX7_readsFactor_89 rfl hl (Nat.le_of_ble_eq_true rfl) rfl (fun ls hl => ?_)
        exact t_X7_readsFactor_L90 hC hr hf hw (lv_sub hl [1, 0] rfl)
      · rw [if_pos hc] at hf
        exact t_X7_readsFactor_L74 hC hr hf hw (lv_sub hl [1, 2, 0] rfl)
  · rw [if_pos hc] at hf
    refine lv_aload_n hx hb dX7_readsFactor_34 rfl (lv_at hl 0 rfl) ?_
    refine lv_dup hx hb dX7_readsFactor_35 rfl ?_
    obtain ⟨v6, hg, hf⟩ := gfI_inv hf
    refine r_gfI hC hw hg clX7 (Nat.le_of_ble_eq_true rfl) lkF_X7_266 rfl dX7_readsFactor_36 ?_
    refine lv_iconst (v := 1) hx hb dX7_readsFactor_39 (by decide) ?_
    refine lv_iadd hx hb dX7_readsFactor_40 ?_
    obtain ⟨σ7, hg, hf⟩ := pfI_inv hf
    refine r_pfI hC hw hg clX7 (Nat.le_of_ble_eq_true rfl) lkF_X7_266 rfl rfl rfl dX7_readsFactor_41 (fun H locs hw => ?_)
    refine lv_aload_n hx hb dX7_readsFactor_44 rfl (lv_at hl 0 rfl) ?_
    refine lv_dup hx hb dX7_readsFactor_45 rfl ?_
    obtain ⟨v8, hg, hf⟩ := gfI_inv hf
    refine r_gfI hC hw hg clX7 (Nat.le_of_ble_eq_true rfl) lkF_X7_278 rfl dX7_readsFactor_46 ?_
    refine lv_iconst (v := 1) hx hb dX7_readsFactor_49 (by decide) ?_
    refine lv_iadd hx hb dX7_readsFactor_50 ?_
    obtain ⟨σ9, hg, hf⟩ := pfI_inv hf
    refine r_pfI hC hw hg clX7 (Nat.le_of_ble_eq_true rfl) lkF_X7_278 rfl rfl rfl dX7_readsFactor_51 (fun H locs hw => ?_)
    refine lv_aload_n hx hb dX7_readsFactor_54 rfl (lv_at hl 0 rfl) ?_
    obtain ⟨ho, hf⟩ := chk_inv hf
    obtain ⟨_, σ10, hk, hf⟩ := bnd_inv hf
    refine z_callV (As := []) (rest := []) (m_X7_begins hC.2.2.2.2.2.2.2.2 hk) hC hw wd_X7_begins lkM_X7_289 (isO_sh ho) rfl rfl ⟨rfl, rfl⟩ ⟨(Nat.le_of_ble_eq_true rfl), (Nat.le_of_ble_eq_true rfl)⟩ hl.1 rfl (Nat.le_of_ble_eq_true rfl) dX7_readsFactor_55 ⟨(Nat.le_of_ble_eq_true rfl), (Nat.le_of_ble_eq_true rfl)⟩ (fun H locs hw => ?_)
    refine lv_iconst (v := 1) hx hb dX7_readsFactor_58 (by decide) ?_
    obtain ⟨hz, hf⟩ := chk_inv hf
    first | (obtain ⟨rfl, rfl⟩ := sp_inv hf) | (obtain rfl := Option.some.inj hf)
    exact W.zret hx hb hr (isB_n hz).1 (z_ret hw rfl) hw.2.2.2.2.2 dX7_readsFactor_59 hC.2.2.2.2.2.1
set_option maxHeartbeats 4000000 in
set_option maxRecDepth 100000 in
theorem t_X7_readsFactor_L17 (hC : zC p l s m args meth c cX7_readsFactor 3 RX7 D cA B0) (hr : meth.sig.returnType = (Option.some FieldType.boolean)) {Γ : zSh} {x0 : Nat} {x1 : Int32} {σ : zSt} {out : (Int32 × zSt)} (hf : f_X7_readsFactor_L17 Γ x0 x1 σ = some out) {H : Heap} {locs : List Loc} {ls : Array Slot} (hw : zO D cA B0 Γ σ Z s.heap H locs) (hl : lv_has ls 3 [(0, .ref x0), (1, .int x1)]) :
    W p l e rm_X7_readsFactor s m args below meth c H locs 0 0 (MQ below (zQ1 D cA B0 (some (.int out.1)) Γ out.2 Z) args s 0 0 (FR B0)) (F0 m 17 ls []) := by
  have hx := hC.1
  have hb := hC.2.1
  unfold f_X7_readsFactor_L17 at hf
  refine lv_aload_n hx hb dX7_readsFactor_17 rfl (lv_at hl 0 rfl) ?_
  obtain ⟨v1, hg, hf⟩ := gfI_inv hf
  refine r_gfI hC hw hg clX7 (Nat.le_of_ble_eq_true rfl) lkF_X7_272 rfl dX7_readsFactor_18 ?_
  refine lv_if_eq (tgt := 28) hx hb dX7_readsFactor_21 (by decide) (fun hc => ?_) (fun hc => ?_)
  · rw [if_pos hc] at hf
    exact t_X7_readsFactor_L28 hC hr hf hw (lv_sub hl [0, 1] rfl)
  · rw [if_neg hc] at hf
    refine lv_aload_n hx hb dX7_readsFactor_24 rfl (lv_at hl 0 rfl) ?_
    obtain ⟨ho, hf⟩ := chk_inv hf
    obtain ⟨_, σ11, hk, hf⟩ := bnd_inv hf
    refine z_callV (As := []) (rest := []) (m_X7_endsFactor hC.2.2.2.2.2.2.2.2 hk) hC hw wd_X7_endsFactor lkM_X7_275 (isO_sh ho) rfl rfl ⟨rfl, rfl⟩ ⟨(Nat.le_of_ble_eq_true rfl), (Nat.le_of_ble_eq_true rfl)⟩ hl.1 rfl (Nat.le_of_ble_eq_true rfl) dX7_readsFactor_25 ⟨(Nat.le_of_ble_eq_true rfl), (Nat.le_of_ble_eq_true rfl)⟩ (fun H locs hw => ?_)
    exact t_X7_readsFactor_L28 hC hr hf hw (lv_sub hl [0, 1] rfl)
set_option maxHeartbeats 4000000 in
set_option maxRecDepth 100000 in
theorem m_X7_readsFactor (h9 : l.stackTraces = false) {Γ : zSh} {a0 : Nat} {a1 : Int32} {σ : zSt} {r : Int32} {σ2 : zSt} (hf : f_X7_readsFactor Γ a0 a1 σ = some (r, σ2)) : Met l yX7_readsFactor (wq yX7_readsFactor cX7_readsFactor 3 (Option.some FieldType.boolean)) rm_X7_readsFactor (zQ0 D cA B0 [.ref a0, .int a1] Γ σ Z) (zQ1 D cA B0 (some (.int r)) Γ σ2 Z) 0 0 (FR B0) := by
  refine z_ofW h9 (by decide) (Nat.le_of_ble_eq_true rfl) ?_
  intro p e s m args below meth c ls hC hr _ hw hl
  have hx := hC.1
  have hb := hC.2.1
  have hl : lv_has ls 3 [(0, .ref a0), (1, .int a1)] := hl
  unfold f_X7_readsFactor at hf
  refine lv_iload_n hx hb dX7_readsFactor_0 rfl (lv_at hl 1 rfl) ?_
  refine lv_bipush (v := 40) hx hb dX7_readsFactor_1 (by decide) ?_
  refine lv_icmp_ne (tgt := 17) hx hb dX7_readsFactor_3 (by decide) (fun hc => ?_) (fun hc => ?_)
  · rw [if_neg hc] at hf
    exact t_X7_readsFactor_L17 hC hr hf hw (lv_sub hl [0, 1] rfl)
  · rw [if_pos hc] at hf
    refine lv_aload_n hx hb dX7_readsFactor_6 rfl (lv_at hl 0 rfl) ?_
    obtain ⟨v12, hg, hf⟩ := gfI_inv hf
    refine r_gfI hC hw hg clX7 (Nat.le_of_ble_eq_true rfl) lkF_X7_266 rfl dX7_readsFactor_7 ?_
    refine lv_bipush (v := 8) hx hb dX7_readsFactor_10 (by decide) ?_
    refine lv_icmp_ne (tgt := 17) hx hb dX7_readsFactor_12 (by decide) (fun hc => ?_) (fun hc => ?_)
    · rw [if_neg hc] at hf
      exact t_X7_readsFactor_L17 hC hr hf hw (lv_sub hl [0, 1] rfl)
    · rw [if_pos hc] at hf
      refine lv_iconst (v := 0) hx hb dX7_readsFactor_15 (by decide) ?_
      obtain ⟨hz, hf⟩ := chk_inv hf
      first | (obtain ⟨rfl, rfl⟩ := sp_inv hf) | (obtain rfl := Option.some.inj hf)
      exact W.zret hx hb hr (isB_n hz).1 (z_ret hw rfl) hw.2.2.2.2.2 dX7_readsFactor_16 hC.2.2.2.2.2.1
set_option maxHeartbeats 4000000 in
set_option maxRecDepth 100000 in
theorem t_X7_starsFactor_L43 (hC : zC p l s m args meth c cX7_starsFactor 1 RX7 D cA B0) (hr : meth.sig.returnType = (Option.none : Option Jvm.ClassFile.FieldType)) {Γ : zSh}  {σ : zSt} {out : (Unit × zSt)} (hf : f_X7_starsFactor_L43 Γ  σ = some out) {H : Heap} {locs : List Loc} {ls : Array Slot} (hw : zO D cA B0 Γ σ Z s.heap H locs) (hl : lv_has ls 1 []) :
    W p l e rm_X7_starsFactor s m args below meth c H locs 0 0 (MQ below (zQ1 D cA B0 (none) Γ out.2 Z) args s 0 0 (FR B0)) (F0 m 43 ls []) := by
  have hx := hC.1
  have hb := hC.2.1
  unfold f_X7_starsFactor_L43 at hf
  first | (obtain ⟨rfl, rfl⟩ := sp_inv hf) | (obtain rfl := Option.some.inj hf)
  exact W.vret hx hb hr (z_ret hw rfl) hw.2.2.2.2.2 dX7_starsFactor_43 hC.2.2.2.2.2.1
set_option maxHeartbeats 4000000 in
set_option maxRecDepth 100000 in
theorem t_X7_starsFactor_L21 (hC : zC p l s m args meth c cX7_starsFactor 1 RX7 D cA B0) (hr : meth.sig.returnType = (Option.none : Option Jvm.ClassFile.FieldType)) {Γ : zSh} {x0 : Nat} {s0 : Int32} {s1 : Nat} {σ : zSt} {out : (Unit × zSt)} (hf : f_X7_starsFactor_L21 Γ x0 s0 s1 σ = some out) {H : Heap} {locs : List Loc} {ls : Array Slot} (hw : zO D cA B0 Γ σ Z s.heap H locs) (hl : lv_has ls 1 [(0, .ref x0)]) :
    W p l e rm_X7_starsFactor s m args below meth c H locs 0 0 (MQ below (zQ1 D cA B0 (none) Γ out.2 Z) args s 0 0 (FR B0)) (F0 m 21 ls [.int s0, .ref s1]) := by
  have hx := hC.1
  have hb := hC.2.1
  unfold f_X7_starsFactor_L21 at hf
  obtain ⟨σ2, hg, hf⟩ := pfZ_inv hf
  refine r_pfZ hC hw hg clX7 (Nat.le_of_ble_eq_true rfl) lkF_X7_262 rfl rfl rfl dX7_starsFactor_21 (fun H locs hw => ?_)
  refine lv_aload_n hx hb dX7_starsFactor_24 rfl (lv_at hl 0 rfl) ?_
  obtain ⟨v3, hg, hf⟩ := gfI_inv hf
  refine r_gfI hC hw hg clX7 (Nat.le_of_ble_eq_true rfl) lkF_X7_262 rfl dX7_starsFactor_25 ?_
  refine lv_if_ne (tgt := 43) hx hb dX7_starsFactor_28 (by decide) (fun hc => ?_) (fun hc => ?_)
  · rw [if_neg hc] at hf
    exact t_X7_starsFactor_L43 hC hr hf hw (lv_sub hl [] rfl)
  · rw [if_pos hc] at hf
    refine lv_aload_n hx hb dX7_starsFactor_31 rfl (lv_at hl 0 rfl) ?_
    refine lv_iconst (v := 4) hx hb dX7_starsFactor_32 (by decide) ?_
    refine lv_iconst (v := 5) hx hb dX7_starsFactor_33 (by decide) ?_
    obtain ⟨ho, hf⟩ := chk_inv hf
    obtain ⟨_, σ4, hk, hf⟩ := bnd_inv hf
    refine z_callV (As := [.int 4, .int 5]) (rest := []) (m_X7_stars hC.2.2.2.2.2.2.2.2 hk) hC hw wd_X7_stars lkM_X7_233 (isO_sh ho) rfl rfl ⟨rfl, rfl⟩ ⟨(Nat.le_of_ble_eq_true rfl), (Nat.le_of_ble_eq_true rfl)⟩ hl.1 rfl (Nat.le_of_ble_eq_true rfl) dX7_starsFactor_34 ⟨(Nat.le_of_ble_eq_true rfl), (Nat.le_of_ble_eq_true rfl)⟩ (fun H locs hw => ?_)
    refine lv_aload_n hx hb dX7_starsFactor_37 rfl (lv_at hl 0 rfl) ?_
    refine lv_iconst (v := 5) hx hb dX7_starsFactor_38 (by decide) ?_
    refine lv_iconst (v := 4) hx hb dX7_starsFactor_39 (by decide) ?_
    obtain ⟨ho, hf⟩ := chk_inv hf
    obtain ⟨_, σ5, hk, hf⟩ := bnd_inv hf
    refine z_callV (As := [.int 5, .int 4]) (rest := []) (m_X7_minimizes hC.2.2.2.2.2.2.2.2 hk) hC hw wd_X7_minimizes lkM_X7_198 (isO_sh ho) rfl rfl ⟨rfl, rfl⟩ ⟨(Nat.le_of_ble_eq_true rfl), (Nat.le_of_ble_eq_true rfl)⟩ hl.1 rfl (Nat.le_of_ble_eq_true rfl) dX7_starsFactor_40 ⟨(Nat.le_of_ble_eq_true rfl), (Nat.le_of_ble_eq_true rfl)⟩ (fun H locs hw => ?_)
    exact t_X7_starsFactor_L43 hC hr hf hw (lv_sub hl [] rfl)
set_option maxHeartbeats 4000000 in
set_option maxRecDepth 100000 in
theorem t_X7_starsFactor_L16 (hC : zC p l s m args meth c cX7_starsFactor 1 RX7 D cA B0) (hr : meth.sig.returnType = (Option.none : Option Jvm.ClassFile.FieldType)) {Γ : zSh} {x0 : Nat} {s0 : Nat} {σ : zSt} {out : (Unit × zSt)} (hf : f_X7_starsFactor_L16 Γ x0 s0 σ = some out) {H : Heap} {locs : List Loc} {ls : Array Slot} (hw : zO D cA B0 Γ σ Z s.heap H locs) (hl : lv_has ls 1 [(0, .ref x0)]) :
    W p l e rm_X7_starsFactor s m args below meth c H locs 0 0 (MQ below (zQ1 D cA B0 (none) Γ out.2 Z) args s 0 0 (FR B0)) (F0 m 16 ls [.ref s0]) := by
  have hx := hC.1
  have hb := hC.2.1
  unfold f_X7_starsFactor_L16 at hf
  refine lv_iconst (v := 1) hx hb dX7_starsFactor_16 (by decide) ?_
  refine lv_goto (tgt := 21) hx hb dX7_starsFactor_17 (by decide) ?_
  exact t_X7_starsFactor_L21 hC hr hf hw (lv_sub hl [0] rfl)
set_option maxHeartbeats 4000000 in
set_option maxRecDepth 100000 in
theorem m_X7_starsFactor (h9 : l.stackTraces = false) {Γ : zSh} {a0 : Nat} {σ : zSt} {r : Unit} {σ2 : zSt} (hf : f_X7_starsFactor Γ a0 σ = some (r, σ2)) : Met l yX7_starsFactor (wq yX7_starsFactor cX7_starsFactor 1 (Option.none : Option Jvm.ClassFile.FieldType)) rm_X7_starsFactor (zQ0 D cA B0 [.ref a0] Γ σ Z) (zQ1 D cA B0 (none) Γ σ2 Z) 0 0 (FR B0) := by
  refine z_ofW h9 (by decide) (Nat.le_of_ble_eq_true rfl) ?_
  intro p e s m args below meth c ls hC hr _ hw hl
  have hx := hC.1
  have hb := hC.2.1
  have hl : lv_has ls 1 [(0, .ref a0)] := hl
  unfold f_X7_starsFactor at hf
  refine lv_aload_n hx hb dX7_starsFactor_0 rfl (lv_at hl 0 rfl) ?_
  refine lv_aload_n hx hb dX7_starsFactor_1 rfl (lv_at hl 0 rfl) ?_
  obtain ⟨v1, hg, hf⟩ := gfI_inv hf
  refine r_gfI hC hw hg clX7 (Nat.le_of_ble_eq_true rfl) lkF_X7_262 rfl dX7_starsFactor_2 ?_
  refine lv_if_ne (tgt := 16) hx hb dX7_starsFactor_5 (by decide) (fun hc => ?_) (fun hc => ?_)
  · rw [if_neg hc] at hf
    exact t_X7_starsFactor_L16 hC hr hf hw (lv_sub hl [0] rfl)
  · rw [if_pos hc] at hf
    refine lv_aload_n hx hb dX7_starsFactor_8 rfl (lv_at hl 0 rfl) ?_
    refine lv_iconst (v := 4) hx hb dX7_starsFactor_9 (by decide) ?_
    obtain ⟨ho, hf⟩ := chk_inv hf
    obtain ⟨r7, σ6, hk, hf⟩ := bnd_inv hf
    refine z_callV (As := [.int 4]) (rest := [.ref a0]) (m_X7_canStar hC.2.2.2.2.2.2.2.2 hk) hC hw wd_X7_canStar lkM_X7_238 (isO_sh ho) rfl rfl ⟨rfl, rfl⟩ ⟨(Nat.le_of_ble_eq_true rfl), (Nat.le_of_ble_eq_true rfl)⟩ hl.1 rfl (Nat.le_of_ble_eq_true rfl) dX7_starsFactor_10 ⟨(Nat.le_of_ble_eq_true rfl), (Nat.le_of_ble_eq_true rfl)⟩ (fun H locs hw => ?_)
    refine lv_if_ne (tgt := 20) hx hb dX7_starsFactor_13 (by decide) (fun hc => ?_) (fun hc => ?_)
    · rw [if_neg hc] at hf
      refine lv_iconst (v := 0) hx hb dX7_starsFactor_20 (by decide) ?_
      exact t_X7_starsFactor_L21 hC hr hf hw (lv_sub hl [0] rfl)
    · rw [if_pos hc] at hf
      exact t_X7_starsFactor_L16 hC hr hf hw (lv_sub hl [0] rfl)
set_option maxHeartbeats 4000000 in
set_option maxRecDepth 100000 in
theorem t_X7_readsNext_L42 (hC : zC p l s m args meth c cX7_readsNext 2 RX7 D cA B0) (hr : meth.sig.returnType = (Option.some FieldType.boolean)) {Γ : zSh} {x0 : Nat} {x1 : Int32} {σ : zSt} {out : (Int32 × zSt)} (hf : f_X7_readsNext_L42 Γ x0 x1 σ = some out) {H : Heap} {locs : List Loc} {ls : Array Slot} (hw : zO D cA B0 Γ σ Z s.heap H locs) (hl : lv_has ls 2 [(0, .ref x0), (1, .int x1)]) :
    W p l e rm_X7_readsNext s m args below meth c H locs 0 0 (MQ below (zQ1 D cA B0 (some (.int out.1)) Γ out.2 Z) args s 0 0 (FR B0)) (F0 m 42 ls []) := by
  have hx := hC.1
  have hb := hC.2.1
  unfold f_X7_readsNext_L42 at hf
  refine lv_aload_n hx hb dX7_readsNext_42 rfl (lv_at hl 0 rfl) ?_
  refine lv_iload_n hx hb dX7_readsNext_43 rfl (lv_at hl 1 rfl) ?_
  obtain ⟨ho, hf⟩ := chk_inv hf
  obtain ⟨r5, σ4, hk, hf⟩ := bnd_inv hf
  refine z_callV (As := [.int x1]) (rest := []) (m_X7_readsFactor hC.2.2.2.2.2.2.2.2 hk) hC hw wd_X7_readsFactor lkM_X7_298 (isO_sh ho) rfl rfl ⟨rfl, rfl⟩ ⟨(Nat.le_of_ble_eq_true rfl), (Nat.le_of_ble_eq_true rfl)⟩ hl.1 rfl (Nat.le_of_ble_eq_true rfl) dX7_readsNext_44 ⟨(Nat.le_of_ble_eq_true rfl), (Nat.le_of_ble_eq_true rfl)⟩ (fun H locs hw => ?_)
  obtain ⟨hz, hf⟩ := chk_inv hf
  first | (obtain ⟨rfl, rfl⟩ := sp_inv hf) | (obtain rfl := Option.some.inj hf)
  exact W.zret hx hb hr (isB_n hz).1 (z_ret hw rfl) hw.2.2.2.2.2 dX7_readsNext_47 hC.2.2.2.2.2.1
set_option maxHeartbeats 4000000 in
set_option maxRecDepth 100000 in
theorem t_X7_readsNext_L86 (hC : zC p l s m args meth c cX7_readsNext 2 RX7 D cA B0) (hr : meth.sig.returnType = (Option.some FieldType.boolean)) {Γ : zSh}  {σ : zSt} {out : (Int32 × zSt)} (hf : f_X7_readsNext_L86 Γ  σ = some out) {H : Heap} {locs : List Loc} {ls : Array Slot} (hw : zO D cA B0 Γ σ Z s.heap H locs) (hl : lv_has ls 2 []) :
    W p l e rm_X7_readsNext s m args below meth c H locs 0 0 (MQ below (zQ1 D cA B0 (some (.int out.1)) Γ out.2 Z) args s 0 0 (FR B0)) (F0 m 86 ls []) := by
  have hx := hC.1
  have hb := hC.2.1
  unfold f_X7_readsNext_L86 at hf
  refine lv_iconst (v := 0) hx hb dX7_readsNext_86 (by decide) ?_
  obtain ⟨hz, hf⟩ := chk_inv hf
  first | (obtain ⟨rfl, rfl⟩ := sp_inv hf) | (obtain rfl := Option.some.inj hf)
  exact W.zret hx hb hr (isB_n hz).1 (z_ret hw rfl) hw.2.2.2.2.2 dX7_readsNext_87 hC.2.2.2.2.2.1
set_option maxHeartbeats 4000000 in
set_option maxRecDepth 100000 in
theorem t_X7_readsNext_L140 (hC : zC p l s m args meth c cX7_readsNext 2 RX7 D cA B0) (hr : meth.sig.returnType = (Option.some FieldType.boolean)) {Γ : zSh} {x0 : Nat} {σ : zSt} {out : (Int32 × zSt)} (hf : f_X7_readsNext_L140 Γ x0 σ = some out) {H : Heap} {locs : List Loc} {ls : Array Slot} (hw : zO D cA B0 Γ σ Z s.heap H locs) (hl : lv_has ls 2 [(0, .ref x0)]) :
    W p l e rm_X7_readsNext s m args below meth c H locs 0 0 (MQ below (zQ1 D cA B0 (some (.int out.1)) Γ out.2 Z) args s 0 0 (FR B0)) (F0 m 140 ls []) := by
  have hx := hC.1
  have hb := hC.2.1
  unfold f_X7_readsNext_L140 at hf
  refine lv_aload_n hx hb dX7_readsNext_140 rfl (lv_at hl 0 rfl) ?_
  refine lv_dup hx hb dX7_readsNext_141 rfl ?_
  obtain ⟨v10, hg, hf⟩ := gfI_inv hf
  refine r_gfI hC hw hg clX7 (Nat.le_of_ble_eq_true rfl) lkF_X7_278 rfl dX7_readsNext_142 ?_
  refine lv_iconst (v := 1) hx hb dX7_readsNext_145 (by decide) ?_
  refine lv_iadd hx hb dX7_readsNext_146 ?_
  obtain ⟨σ11, hg, hf⟩ := pfI_inv hf
  refine r_pfI hC hw hg clX7 (Nat.le_of_ble_eq_true rfl) lkF_X7_278 rfl rfl rfl dX7_readsNext_147 (fun H locs hw => ?_)
  refine lv_iconst (v := 1) hx hb dX7_readsNext_150 (by decide) ?_
  obtain ⟨hz, hf⟩ := chk_inv hf
  first | (obtain ⟨rfl, rfl⟩ := sp_inv hf) | (obtain rfl := Option.some.inj hf)
  exact W.zret hx hb hr (isB_n hz).1 (z_ret hw rfl) hw.2.2.2.2.2 dX7_readsNext_151 hC.2.2.2.2.2.1
set_option maxHeartbeats 4000000 in
set_option maxRecDepth 100000 in
theorem t_X7_readsNext_L88 (hC : zC p l s m args meth c cX7_readsNext 2 RX7 D cA B0) (hr : meth.sig.returnType = (Option.some FieldType.boolean)) {Γ : zSh} {x0 : Nat} {x1 : Int32} {σ : zSt} {out : (Int32 × zSt)} (hf : f_X7_readsNext_L88 Γ x0 x1 σ = some out) {H : Heap} {locs : List Loc} {ls : Array Slot} (hw : zO D cA B0 Γ σ Z s.heap H locs) (hl : lv_has ls 2 [(0, .ref x0), (1, .int x1)]) :
    W p l e rm_X7_readsNext s m args below meth c H locs 0 0 (MQ below (zQ1 D cA B0 (some (.int out.1)) Γ out.2 Z) args s 0 0 (FR B0)) (F0 m 88 ls []) := by
  have hx := hC.1
  have hb := hC.2.1
  unfold f_X7_readsNext_L88 at hf
  refine lv_iload_n hx hb dX7_readsNext_88 rfl (lv_at hl 1 rfl) ?_
  refine lv_bipush (v := 42) hx hb dX7_readsNext_89 (by decide) ?_
  refine lv_icmp_ne (tgt := 101) hx hb dX7_readsNext_91 (by decide) (fun hc => ?_) (fun hc => ?_)
  · rw [if_neg hc] at hf
    refine lv_aload_n hx hb dX7_readsNext_101 rfl (lv_at hl 0 rfl) ?_
    obtain ⟨ho, hf⟩ := chk_inv hf
    obtain ⟨_, σ9, hk, hf⟩ := bnd_inv hf
    refine z_callV (As := []) (rest := []) (m_X7_endsProduct hC.2.2.2.2.2.2.2.2 hk) hC hw wd_X7_endsProduct lkM_X7_304 (isO_sh ho) rfl rfl ⟨rfl, rfl⟩ ⟨(Nat.le_of_ble_eq_true rfl), (Nat.le_of_ble_eq_true rfl)⟩ hl.1 rfl (Nat.le_of_ble_eq_true rfl) dX7_readsNext_102 ⟨(Nat.le_of_ble_eq_true rfl), (Nat.le_of_ble_eq_true rfl)⟩ (fun H locs hw => ?_)
    refine lv_iload_n hx hb dX7_readsNext_105 rfl (lv_at hl 1 rfl) ?_
    refine lv_bipush (v := 41) hx hb dX7_readsNext_106 (by decide) ?_
    refine lv_icmp_ne (tgt := 140) hx hb dX7_readsNext_108 (by decide) (fun hc => ?_) (fun hc => ?_)
    · rw [if_neg hc] at hf
      exact t_X7_readsNext_L140 hC hr hf hw (lv_sub hl [0] rfl)
    · rw [if_pos hc] at hf
      refine lv_aload_n hx hb dX7_readsNext_111 rfl (lv_at hl 0 rfl) ?_
      refine lv_bipush (v := 8) hx hb dX7_readsNext_112 (by decide) ?_
      refine lv_iconst (v := 2) hx hb dX7_readsNext_114 (by decide) ?_
      refine lv_aload_n hx hb dX7_readsNext_115 rfl (lv_at hl 0 rfl) ?_
      obtain ⟨v12, hg, hf⟩ := gfI_inv hf
      refine r_gfI hC hw hg clX7 (Nat.le_of_ble_eq_true rfl) lkF_X7_266 rfl dX7_readsNext_116 ?_
      refine lv_imul hx hb dX7_readsNext_119 ?_
      refine lv_iadd hx hb dX7_readsNext_120 ?_
      refine lv_iconst (v := 4) hx hb dX7_readsNext_121 (by decide) ?_
      obtain ⟨ho, hf⟩ := chk_inv hf
      obtain ⟨_, σ13, hk, hf⟩ := bnd_inv hf
      refine z_callV (As := [.int (8 + (2 * v12)), .int 4]) (rest := []) (m_X7_copies hC.2.2.2.2.2.2.2.2 hk) hC hw wd_X7_copies lkM_X7_230 (isO_sh ho) rfl rfl ⟨rfl, rfl⟩ ⟨(Nat.le_of_ble_eq_true rfl), (Nat.le_of_ble_eq_true rfl)⟩ hl.1 rfl (Nat.le_of_ble_eq_true rfl) dX7_readsNext_122 ⟨(Nat.le_of_ble_eq_true rfl), (Nat.le_of_ble_eq_true rfl)⟩ (fun H locs hw => ?_)
      refine lv_aload_n hx hb dX7_readsNext_125 rfl (lv_at hl 0 rfl) ?_
      refine lv_dup hx hb dX7_readsNext_126 rfl ?_
      obtain ⟨v14, hg, hf⟩ := gfI_inv hf
      refine r_gfI hC hw hg clX7 (Nat.le_of_ble_eq_true rfl) lkF_X7_266 rfl dX7_readsNext_127 ?_
      refine lv_iconst (v := 1) hx hb dX7_readsNext_130 (by decide) ?_
      refine lv_isub hx hb dX7_readsNext_131 ?_
      obtain ⟨σ15, hg, hf⟩ := pfI_inv hf
      refine r_pfI hC hw hg clX7 (Nat.le_of_ble_eq_true rfl) lkF_X7_266 rfl rfl rfl dX7_readsNext_132 (fun H locs hw => ?_)
      refine lv_aload_n hx hb dX7_readsNext_135 rfl (lv_at hl 0 rfl) ?_
      refine lv_iconst (v := 1) hx hb dX7_readsNext_136 (by decide) ?_
      obtain ⟨σ16, hg, hf⟩ := pfZ_inv hf
      refine r_pfZ hC hw hg clX7 (Nat.le_of_ble_eq_true rfl) lkF_X7_272 rfl rfl rfl dX7_readsNext_137 (fun H locs hw => ?_)
      exact t_X7_readsNext_L140 hC hr hf hw (lv_sub hl [0] rfl)
  · rw [if_pos hc] at hf
    refine lv_aload_n hx hb dX7_readsNext_94 rfl (lv_at hl 0 rfl) ?_
    obtain ⟨ho, hf⟩ := chk_inv hf
    obtain ⟨_, σ17, hk, hf⟩ := bnd_inv hf
    refine z_callV (As := []) (rest := []) (m_X7_starsFactor hC.2.2.2.2.2.2.2.2 hk) hC hw wd_X7_starsFactor lkM_X7_301 (isO_sh ho) rfl rfl ⟨rfl, rfl⟩ ⟨(Nat.le_of_ble_eq_true rfl), (Nat.le_of_ble_eq_true rfl)⟩ hl.1 rfl (Nat.le_of_ble_eq_true rfl) dX7_readsNext_95 ⟨(Nat.le_of_ble_eq_true rfl), (Nat.le_of_ble_eq_true rfl)⟩ (fun H locs hw => ?_)
    refine lv_goto (tgt := 140) hx hb dX7_readsNext_98 (by decide) ?_
    exact t_X7_readsNext_L140 hC hr hf hw (lv_sub hl [0] rfl)
set_option maxHeartbeats 4000000 in
set_option maxRecDepth 100000 in
theorem t_X7_readsNext_L73 (hC : zC p l s m args meth c cX7_readsNext 2 RX7 D cA B0) (hr : meth.sig.returnType = (Option.some FieldType.boolean)) {Γ : zSh} {x0 : Nat} {x1 : Int32} {σ : zSt} {out : (Int32 × zSt)} (hf : f_X7_readsNext_L73 Γ x0 x1 σ = some out) {H : Heap} {locs : List Loc} {ls : Array Slot} (hw : zO D cA B0 Γ σ Z s.heap H locs) (hl : lv_has ls 2 [(0, .ref x0), (1, .int x1)]) :
    W p l e rm_X7_readsNext s m args below meth c H locs 0 0 (MQ below (zQ1 D cA B0 (some (.int out.1)) Γ out.2 Z) args s 0 0 (FR B0)) (F0 m 73 ls []) := by
  have hx := hC.1
  have hb := hC.2.1
  unfold f_X7_readsNext_L73 at hf
  refine lv_iload_n hx hb dX7_readsNext_73 rfl (lv_at hl 1 rfl) ?_
  refine lv_bipush (v := 41) hx hb dX7_readsNext_74 (by decide) ?_
  refine lv_icmp_ne (tgt := 88) hx hb dX7_readsNext_76 (by decide) (fun hc => ?_) (fun hc => ?_)
  · rw [if_neg hc] at hf
    exact t_X7_readsNext_L88 hC hr hf hw (lv_sub hl [0, 1] rfl)
  · rw [if_pos hc] at hf
    refine lv_aload_n hx hb dX7_readsNext_79 rfl (lv_at hl 0 rfl) ?_
    obtain ⟨v18, hg, hf⟩ := gfI_inv hf
    refine r_gfI hC hw hg clX7 (Nat.le_of_ble_eq_true rfl) lkF_X7_266 rfl dX7_readsNext_80 ?_
    refine lv_if_ne (tgt := 88) hx hb dX7_readsNext_83 (by decide) (fun hc => ?_) (fun hc => ?_)
    · rw [if_neg hc] at hf
      exact t_X7_readsNext_L88 hC hr hf hw (lv_sub hl [0, 1] rfl)
    · rw [if_pos hc] at hf
      exact t_X7_readsNext_L86 hC hr hf hw (lv_sub hl [] rfl)
set_option maxHeartbeats 4000000 in
set_option maxRecDepth 100000 in
theorem m_X7_readsNext (h9 : l.stackTraces = false) {Γ : zSh} {a0 : Nat} {σ : zSt} {r : Int32} {σ2 : zSt} (hf : f_X7_readsNext Γ a0 σ = some (r, σ2)) : Met l yX7_readsNext (wq yX7_readsNext cX7_readsNext 2 (Option.some FieldType.boolean)) rm_X7_readsNext (zQ0 D cA B0 [.ref a0] Γ σ Z) (zQ1 D cA B0 (some (.int r)) Γ σ2 Z) 0 0 (FR B0) := by
  refine z_ofW h9 (by decide) (Nat.le_of_ble_eq_true rfl) ?_
  intro p e s m args below meth c ls hC hr _ hw hl
  have hx := hC.1
  have hb := hC.2.1
  have hl : lv_has ls 2 [(0, .ref a0)] := hl
  unfold f_X7_readsNext at hf
  refine lv_aload_n hx hb dX7_readsNext_0 rfl (lv_at hl 0 rfl) ?_
  obtain ⟨v1, hg, hf⟩ := gfR_inv hf
  refine r_gfR hC hw hg clX7 (Nat.le_of_ble_eq_true rfl) lkF_X7_49 rfl dX7_readsNext_1 ?_
  refine lv_aload_n hx hb dX7_readsNext_4 rfl (lv_at hl 0 rfl) ?_
  obtain ⟨v2, hg, hf⟩ := gfI_inv hf
  refine r_gfI hC hw hg clX7 (Nat.le_of_ble_eq_true rfl) lkF_X7_278 rfl dX7_readsNext_5 ?_
  obtain ⟨v3, hg, hf⟩ := ldI_inv hf
  refine r_ldI hC hw hg dX7_readsNext_8 ?_
  refine lv_istore_n (lv' := [(1, .int v3), (0, .ref a0)]) hx hb dX7_readsNext_9 rfl hl (Nat.le_of_ble_eq_true rfl) rfl (fun ls hl => ?_)
  refine lv_iload_n hx hb dX7_readsNext_10 rfl (lv_at hl 0 rfl) ?_
  refine lv_bipush (v := 97) hx hb dX7_readsNext_11 (by decide) ?_
  refine lv_icmp_eq (tgt := 42) hx hb dX7_readsNext_13 (by decide) (fun hc => ?_) (fun hc => ?_)
  · rw [if_pos hc] at hf
    exact t_X7_readsNext_L42 hC hr hf hw (lv_sub hl [1, 0] rfl)
  · rw [if_neg hc] at hf
    refine lv_iload_n hx hb dX7_readsNext_16 rfl (lv_at hl 0 rfl) ?_
    refine lv_bipush (v := 98) hx hb dX7_readsNext_17 (by decide) ?_
    refine lv_icmp_eq (tgt := 42) hx hb dX7_readsNext_19 (by decide) (fun hc => ?_) (fun hc => ?_)
    · rw [if_pos hc] at hf
      exact t_X7_readsNext_L42 hC hr hf hw (lv_sub hl [1, 0] rfl)
    · rw [if_neg hc] at hf
      refine lv_iload_n hx hb dX7_readsNext_22 rfl (lv_at hl 0 rfl) ?_
      refine lv_bipush (v := 40) hx hb dX7_readsNext_23 (by decide) ?_
      refine lv_icmp_eq (tgt := 42) hx hb dX7_readsNext_25 (by decide) (fun hc => ?_) (fun hc => ?_)
      · rw [if_pos hc] at hf
        exact t_X7_readsNext_L42 hC hr hf hw (lv_sub hl [1, 0] rfl)
      · rw [if_neg hc] at hf
        refine lv_iload_n hx hb dX7_readsNext_28 rfl (lv_at hl 0 rfl) ?_
        refine lv_i2l hx hb dX7_readsNext_29 rfl ?_
        refine lv_ldc2 (v := 48) hx hb hC.2.2.2.1 (hC.2.2.2.2.1 _ lkJ_X7_281) dX7_readsNext_30 ?_
        refine lv_ldc2 (v := 57) hx hb hC.2.2.2.1 (hC.2.2.2.2.1 _ lkJ_X7_283) dX7_readsNext_33 ?_
        obtain ⟨r7, σ6, hk, hf⟩ := bnd_inv hf
        refine z_callS (As := [.long (v3.toInt64), .long 48, .long 57]) (rest := []) (m_X7_in hC.2.2.2.2.2.2.2.2 hk) hC hw wd_X7_in lkM_X7_68 rfl ⟨rfl, rfl⟩ ⟨(Nat.le_of_ble_eq_true rfl), (Nat.le_of_ble_eq_true rfl)⟩ hl.1 rfl (Nat.le_of_ble_eq_true rfl) dX7_readsNext_36 ⟨(Nat.le_of_ble_eq_true rfl), (Nat.le_of_ble_eq_true rfl)⟩ (fun H locs hw => ?_)
        refine lv_if_eq (tgt := 48) hx hb dX7_readsNext_39 (by decide) (fun hc => ?_) (fun hc => ?_)
        · rw [if_pos hc] at hf
          refine lv_aload_n hx hb dX7_readsNext_48 rfl (lv_at hl 1 rfl) ?_
          obtain ⟨v8, hg, hf⟩ := gfI_inv hf
          refine r_gfI hC hw hg clX7 (Nat.le_of_ble_eq_true rfl) lkF_X7_272 rfl dX7_readsNext_49 ?_
          refine lv_if_eq (tgt := 86) hx hb dX7_readsNext_52 (by decide) (fun hc => ?_) (fun hc => ?_)
          · rw [if_pos hc] at hf
            exact t_X7_readsNext_L86 hC hr hf hw (lv_sub hl [] rfl)
          · rw [if_neg hc] at hf
            refine lv_iload_n hx hb dX7_readsNext_55 rfl (lv_at hl 0 rfl) ?_
            refine lv_bipush (v := 42) hx hb dX7_readsNext_56 (by decide) ?_
            refine lv_icmp_eq (tgt := 73) hx hb dX7_readsNext_58 (by decide) (fun hc => ?_) (fun hc => ?_)
            · rw [if_pos hc] at hf
              exact t_X7_readsNext_L73 hC hr hf hw (lv_sub hl [1, 0] rfl)
            · rw [if_neg hc] at hf
              refine lv_iload_n hx hb dX7_readsNext_61 rfl (lv_at hl 0 rfl) ?_
              refine lv_bipush (v := 43) hx hb dX7_readsNext_62 (by decide) ?_
              refine lv_icmp_eq (tgt := 73) hx hb dX7_readsNext_64 (by decide) (fun hc => ?_) (fun hc => ?_)
              · rw [if_pos hc] at hf
                exact t_X7_readsNext_L73 hC hr hf hw (lv_sub hl [1, 0] rfl)
              · rw [if_neg hc] at hf
                refine lv_iload_n hx hb dX7_readsNext_67 rfl (lv_at hl 0 rfl) ?_
                refine lv_bipush (v := 41) hx hb dX7_readsNext_68 (by decide) ?_
                refine lv_icmp_ne (tgt := 86) hx hb dX7_readsNext_70 (by decide) (fun hc => ?_) (fun hc => ?_)
                · rw [if_neg hc] at hf
                  exact t_X7_readsNext_L86 hC hr hf hw (lv_sub hl [] rfl)
                · rw [if_pos hc] at hf
                  exact t_X7_readsNext_L73 hC hr hf hw (lv_sub hl [1, 0] rfl)
        · rw [if_neg hc] at hf
          exact t_X7_readsNext_L42 hC hr hf hw (lv_sub hl [1, 0] rfl)
set_option maxHeartbeats 4000000 in
set_option maxRecDepth 100000 in
theorem t_X7_parse_B34 (hC : zC p l s m args meth c cX7_parse 2 RX7 D cA B0) (hr : meth.sig.returnType = (Option.some FieldType.int)) {Γ : zSh} {x0 : Nat} {x1 : Int32} {σ : zSt} {out : ((zSt) ⊕ ((zSt) ⊕ (Int32 × zSt)))} (hf : f_X7_parse_B34 Γ x0 x1 σ = some out) {H : Heap} {locs : List Loc} {ls : Array Slot} (hw : zO D cA B0 Γ σ Z s.heap H locs) (hl : lv_has ls 2 [(0, .ref x0), (1, .int x1)])
    (kI : ∀ (σ2 : zSt), out = .inl σ2 → ∀ (H : Heap) (locs : List Loc) (ls : Array Slot), zO D cA B0 Γ σ2 Z s.heap H locs → lv_has ls 2 [(0, .ref x0), (1, .int x1)] → W p l e rm_X7_parse s m args below meth c H locs 0 0 Q (F0 m 34 ls []))
    (kE : ∀ (σ2 : zSt), out = .inr (.inl σ2) → ∀ (H : Heap) (locs : List Loc) (ls : Array Slot), zO D cA B0 Γ σ2 Z s.heap H locs → lv_has ls 2 [(0, .ref x0), (1, .int x1)] → W p l e rm_X7_parse s m args below meth c H locs 0 0 Q (F0 m 60 ls []))
    (kR : ∀ (v : Int32) (σ2 : zSt), out = .inr (.inr (v, σ2)) → ∀ (H : Heap) (locs : List Loc) (ls : Array Slot) (pr : Nat), zO D cA B0 Γ σ2 Z s.heap H locs → decode cX7_parse pr = .ok (.ireturn, 1) → W p l e rm_X7_parse s m args below meth c H locs 0 0 Q (F0 m pr ls [.int v])) :
    W p l e rm_X7_parse s m args below meth c H locs 0 0 Q (F0 m 34 ls []) := by
  have hx := hC.1
  have hb := hC.2.1
  unfold f_X7_parse_B34 at hf
  refine lv_aload_n hx hb dX7_parse_34 rfl (lv_at hl 0 rfl) ?_
  obtain ⟨v9, hg, hf⟩ := gfI_inv hf
  refine r_gfI hC hw hg clX7 (Nat.le_of_ble_eq_true rfl) lkF_X7_278 rfl dX7_parse_35 ?_
  refine lv_aload_n hx hb dX7_parse_38 rfl (lv_at hl 0 rfl) ?_
  obtain ⟨v10, hg, hf⟩ := gfI_inv hf
  refine r_gfI hC hw hg clX7 (Nat.le_of_ble_eq_true rfl) lkF_X7_259 rfl dX7_parse_39 ?_
  refine lv_icmp_ge (tgt := 60) hx hb dX7_parse_42 (by decide) (fun hc => ?_) (fun hc => ?_)
  · rw [if_pos hc] at hf
    exact kE  σ (Option.some.inj hf).symm _ _ _ hw (lv_sub hl [0, 1] rfl)
  · rw [if_neg hc] at hf
    refine lv_aload_n hx hb dX7_parse_45 rfl (lv_at hl 0 rfl) ?_
    obtain ⟨ho, hf⟩ := chk_inv hf
    obtain ⟨r12, σ11, hk, hf⟩ := bnd_inv hf
    refine z_callV (As := []) (rest := []) (m_X7_readsNext hC.2.2.2.2.2.2.2.2 hk) hC hw wd_X7_readsNext lkM_X7_307 (isO_sh ho) rfl rfl ⟨rfl, rfl⟩ ⟨(Nat.le_of_ble_eq_true rfl), (Nat.le_of_ble_eq_true rfl)⟩ hl.1 rfl (Nat.le_of_ble_eq_true rfl) dX7_parse_46 ⟨(Nat.le_of_ble_eq_true rfl), (Nat.le_of_ble_eq_true rfl)⟩ (fun H locs hw => ?_)
    refine lv_if_ne (tgt := 34) hx hb dX7_parse_49 (by decide) (fun hc => ?_) (fun hc => ?_)
    · rw [if_neg hc] at hf
      exact kI  σ11 (Option.some.inj hf).symm _ _ _ hw (lv_sub hl [0, 1] rfl)
    · rw [if_pos hc] at hf
      refine lv_bipush (v := (-10)) hx hb dX7_parse_52 (by decide) ?_
      refine lv_aload_n hx hb dX7_parse_54 rfl (lv_at hl 0 rfl) ?_
      obtain ⟨v13, hg, hf⟩ := gfI_inv hf
      refine r_gfI hC hw hg clX7 (Nat.le_of_ble_eq_true rfl) lkF_X7_278 rfl dX7_parse_55 ?_
      refine lv_isub hx hb dX7_parse_58 ?_
      exact kR ((-10) - v13) σ11 (Option.some.inj hf).symm _ _ _ 59 hw dX7_parse_59
set_option maxHeartbeats 4000000 in
theorem l_X7_parse_B34 (hC : zC p l s m args meth c cX7_parse 2 RX7 D cA B0) (hr : meth.sig.returnType = (Option.some FieldType.int)) {Γ : zSh} {x0 : Nat} {x1 : Int32} {out : (zSt) ⊕ (Int32 × zSt)} (kE : ∀ (σ2 : zSt), out = .inl σ2 → ∀ (H : Heap) (locs : List Loc) (ls : Array Slot), zO D cA B0 Γ σ2 Z s.heap H locs → lv_has ls 2 [(0, .ref x0), (1, .int x1)] → W p l e rm_X7_parse s m args below meth c H locs 0 0 Q (F0 m 60 ls []))(kR : ∀ (v : Int32) (σ2 : zSt), out = .inr (v, σ2) → ∀ (H : Heap) (locs : List Loc) (ls : Array Slot) (pr : Nat), zO D cA B0 Γ σ2 Z s.heap H locs → decode cX7_parse pr = .ok (.ireturn, 1) → W p l e rm_X7_parse s m args below meth c H locs 0 0 Q (F0 m pr ls [.int v])) :
    ∀ (n : Nat) (σ : zSt), loopM (fun q => f_X7_parse_B34 Γ x0 x1 q) n σ = some out → ∀ (H : Heap) (locs : List Loc) (ls : Array Slot), zO D cA B0 Γ σ Z s.heap H locs → lv_has ls 2 [(0, .ref x0), (1, .int x1)] → W p l e rm_X7_parse s m args below meth c H locs 0 0 Q (F0 m 34 ls []) := by
  intro n
  induction n with
  | zero => intro σ h; exact absurd h (by simp [loopM])
  | succ n ih =>
    intro σ h H locs ls hw hl
    obtain ⟨r, h1, h2, h3⟩ := loopM_inv h
    exact t_X7_parse_B34 hC hr h1 hw hl (fun s2 e H locs ls hw hl => ih s2 (h2 _ e) H locs ls hw hl) (fun s2 e => kE s2 (h3 _ e).symm) (fun v s2 e => kR v s2 (h3 _ e).symm)
set_option maxHeartbeats 4000000 in
set_option maxRecDepth 100000 in
theorem t_X7_parse_L74 (hC : zC p l s m args meth c cX7_parse 2 RX7 D cA B0) (hr : meth.sig.returnType = (Option.some FieldType.int)) {Γ : zSh} {x0 : Nat} {σ : zSt} {out : (Int32 × zSt)} (hf : f_X7_parse_L74 Γ x0 σ = some out) {H : Heap} {locs : List Loc} {ls : Array Slot} (hw : zO D cA B0 Γ σ Z s.heap H locs) (hl : lv_has ls 2 [(0, .ref x0)]) :
    W p l e rm_X7_parse s m args below meth c H locs 0 0 (MQ below (zQ1 D cA B0 (some (.int out.1)) Γ out.2 Z) args s 0 0 (FR B0)) (F0 m 74 ls []) := by
  have hx := hC.1
  have hb := hC.2.1
  unfold f_X7_parse_L74 at hf
  refine lv_bipush (v := (-10)) hx hb dX7_parse_74 (by decide) ?_
  refine lv_aload_n hx hb dX7_parse_76 rfl (lv_at hl 0 rfl) ?_
  obtain ⟨v16, hg, hf⟩ := gfI_inv hf
  refine r_gfI hC hw hg clX7 (Nat.le_of_ble_eq_true rfl) lkF_X7_259 rfl dX7_parse_77 ?_
  refine lv_isub hx hb dX7_parse_80 ?_
  first | (obtain ⟨rfl, rfl⟩ := sp_inv hf) | (obtain rfl := Option.some.inj hf)
  exact W.iret hx hb hr (z_ret hw rfl) hw.2.2.2.2.2 dX7_parse_81 hC.2.2.2.2.2.1
set_option maxHeartbeats 4000000 in
set_option maxRecDepth 100000 in
theorem m_X7_parse (h9 : l.stackTraces = false) {Γ : zSh} {a0 : Nat} {a1 : Int32} {σ : zSt} {r : Int32} {σ2 : zSt} (hf : f_X7_parse Γ a0 a1 σ = some (r, σ2)) : Met l yX7_parse (wq yX7_parse cX7_parse 2 (Option.some FieldType.int)) rm_X7_parse (zQ0 D cA B0 [.ref a0, .int a1] Γ σ Z) (zQ1 D cA B0 (some (.int r)) Γ σ2 Z) 0 0 (FR B0) := by
  refine z_ofW h9 (by decide) (Nat.le_of_ble_eq_true rfl) ?_
  intro p e s m args below meth c ls hC hr _ hw hl
  have hx := hC.1
  have hb := hC.2.1
  have hl : lv_has ls 2 [(0, .ref a0), (1, .int a1)] := hl
  unfold f_X7_parse at hf
  refine lv_aload_n hx hb dX7_parse_0 rfl (lv_at hl 0 rfl) ?_
  refine lv_iload_n hx hb dX7_parse_1 rfl (lv_at hl 1 rfl) ?_
  obtain ⟨r2, σ1, hk, hf⟩ := bnd_inv hf
  refine z_callS (As := [.int a1]) (rest := [.ref a0]) (m_X7_isSlot hC.2.2.2.2.2.2.2.2 hk) hC hw wd_X7_isSlot lkM_X7_88 rfl ⟨rfl, rfl⟩ ⟨(Nat.le_of_ble_eq_true rfl), (Nat.le_of_ble_eq_true rfl)⟩ hl.1 rfl (Nat.le_of_ble_eq_true rfl) dX7_parse_2 ⟨(Nat.le_of_ble_eq_true rfl), (Nat.le_of_ble_eq_true rfl)⟩ (fun H locs hw => ?_)
  refine lv_iconst (v := 1) hx hb dX7_parse_5 (by decide) ?_
  refine lv_iconst (v := 1) hx hb dX7_parse_6 (by decide) ?_
  obtain ⟨ho, hf⟩ := chk_inv hf
  obtain ⟨r4, σ3, hk, hf⟩ := bnd_inv hf
  refine z_callV (As := [.int r2, .int 1, .int 1]) (rest := []) (m_X7_goes hC.2.2.2.2.2.2.2.2 hk) hC hw wd_X7_goes lkM_X7_94 (isO_sh ho) rfl rfl ⟨rfl, rfl⟩ ⟨(Nat.le_of_ble_eq_true rfl), (Nat.le_of_ble_eq_true rfl)⟩ hl.1 rfl (Nat.le_of_ble_eq_true rfl) dX7_parse_7 ⟨(Nat.le_of_ble_eq_true rfl), (Nat.le_of_ble_eq_true rfl)⟩ (fun H locs hw => ?_)
  refine lv_if_ne (tgt := 15) hx hb dX7_parse_10 (by decide) (fun hc => ?_) (fun hc => ?_)
  · rw [if_neg hc] at hf
    refine lv_aload_n hx hb dX7_parse_15 rfl (lv_at hl 0 rfl) ?_
    refine lv_iconst (v := 0) hx hb dX7_parse_16 (by decide) ?_
    obtain ⟨σ5, hg, hf⟩ := pfI_inv hf
    refine r_pfI hC hw hg clX7 (Nat.le_of_ble_eq_true rfl) lkF_X7_278 rfl rfl rfl dX7_parse_17 (fun H locs hw => ?_)
    refine lv_aload_n hx hb dX7_parse_20 rfl (lv_at hl 0 rfl) ?_
    refine lv_iconst (v := 0) hx hb dX7_parse_21 (by decide) ?_
    obtain ⟨σ6, hg, hf⟩ := pfI_inv hf
    refine r_pfI hC hw hg clX7 (Nat.le_of_ble_eq_true rfl) lkF_X7_266 rfl rfl rfl dX7_parse_22 (fun H locs hw => ?_)
    refine lv_aload_n hx hb dX7_parse_25 rfl (lv_at hl 0 rfl) ?_
    refine lv_iconst (v := 0) hx hb dX7_parse_26 (by decide) ?_
    obtain ⟨σ7, hg, hf⟩ := pfZ_inv hf
    refine r_pfZ hC hw hg clX7 (Nat.le_of_ble_eq_true rfl) lkF_X7_262 rfl rfl rfl dX7_parse_27 (fun H locs hw => ?_)
    refine lv_aload_n hx hb dX7_parse_30 rfl (lv_at hl 0 rfl) ?_
    obtain ⟨ho, hf⟩ := chk_inv hf
    obtain ⟨_, σ8, hk, hf⟩ := bnd_inv hf
    refine z_callV (As := []) (rest := []) (m_X7_begins hC.2.2.2.2.2.2.2.2 hk) hC hw wd_X7_begins lkM_X7_289 (isO_sh ho) rfl rfl ⟨rfl, rfl⟩ ⟨(Nat.le_of_ble_eq_true rfl), (Nat.le_of_ble_eq_true rfl)⟩ hl.1 rfl (Nat.le_of_ble_eq_true rfl) dX7_parse_31 ⟨(Nat.le_of_ble_eq_true rfl), (Nat.le_of_ble_eq_true rfl)⟩ (fun H locs hw => ?_)
    obtain ⟨q, hk, hE, hR⟩ := lbr_inv hf
    refine l_X7_parse_B34 hC hr (fun σ14 e H locs ls hw hl => ?_) (fun v s9 e H locs ls pr hw hd => ?_) FUEL  σ8 hk _ _ _ hw (lv_sub hl [0, 1] rfl)
    · obtain ⟨s8, e2, hf⟩ := lb0_inv (hE _ e)
      cases e2
      refine lv_aload_n hx hb dX7_parse_60 rfl (lv_at hl 0 rfl) ?_
      obtain ⟨v15, hg, hf⟩ := gfI_inv hf
      refine r_gfI hC hw hg clX7 (Nat.le_of_ble_eq_true rfl) lkF_X7_272 rfl dX7_parse_61 ?_
      refine lv_if_eq (tgt := 74) hx hb dX7_parse_64 (by decide) (fun hc => ?_) (fun hc => ?_)
      · rw [if_pos hc] at hf
        exact t_X7_parse_L74 hC hr hf hw (lv_sub hl [0] rfl)
      · rw [if_neg hc] at hf
        refine lv_aload_n hx hb dX7_parse_67 rfl (lv_at hl 0 rfl) ?_
        obtain ⟨v17, hg, hf⟩ := gfI_inv hf
        refine r_gfI hC hw hg clX7 (Nat.le_of_ble_eq_true rfl) lkF_X7_266 rfl dX7_parse_68 ?_
        refine lv_if_le (tgt := 82) hx hb dX7_parse_71 (by decide) (fun hc => ?_) (fun hc => ?_)
        · rw [if_pos hc] at hf
          refine lv_aload_n hx hb dX7_parse_82 rfl (lv_at hl 0 rfl) ?_
          obtain ⟨ho, hf⟩ := chk_inv hf
          obtain ⟨_, σ18, hk, hf⟩ := bnd_inv hf
          refine z_callV (As := []) (rest := []) (m_X7_endsProduct hC.2.2.2.2.2.2.2.2 hk) hC hw wd_X7_endsProduct lkM_X7_304 (isO_sh ho) rfl rfl ⟨rfl, rfl⟩ ⟨(Nat.le_of_ble_eq_true rfl), (Nat.le_of_ble_eq_true rfl)⟩ hl.1 rfl (Nat.le_of_ble_eq_true rfl) dX7_parse_83 ⟨(Nat.le_of_ble_eq_true rfl), (Nat.le_of_ble_eq_true rfl)⟩ (fun H locs hw => ?_)
          refine lv_aload_n hx hb dX7_parse_86 rfl (lv_at hl 0 rfl) ?_
          obtain ⟨v19, hg, hf⟩ := gfI_inv hf
          refine r_gfI hC hw hg clX7 (Nat.le_of_ble_eq_true rfl) lkF_X7_262 rfl dX7_parse_87 ?_
          refine lv_if_eq (tgt := 96) hx hb dX7_parse_90 (by decide) (fun hc => ?_) (fun hc => ?_)
          · rw [if_pos hc] at hf
            refine lv_aload_n hx hb dX7_parse_96 rfl (lv_at hl 0 rfl) ?_
            obtain ⟨ho, hf⟩ := chk_inv hf
            obtain ⟨_, σ20, hk, hf⟩ := bnd_inv hf
            refine z_callV (As := []) (rest := []) (m_X7_save hC.2.2.2.2.2.2.2.2 hk) hC hw wd_X7_save lkM_X7_98 (isO_sh ho) rfl rfl ⟨rfl, rfl⟩ ⟨(Nat.le_of_ble_eq_true rfl), (Nat.le_of_ble_eq_true rfl)⟩ hl.1 rfl (Nat.le_of_ble_eq_true rfl) dX7_parse_97 ⟨(Nat.le_of_ble_eq_true rfl), (Nat.le_of_ble_eq_true rfl)⟩ (fun H locs hw => ?_)
            refine lv_aload_n hx hb dX7_parse_100 rfl (lv_at hl 0 rfl) ?_
            refine lv_bipush (v := 8) hx hb dX7_parse_101 (by decide) ?_
            refine lv_iload_n hx hb dX7_parse_103 rfl (lv_at hl 1 rfl) ?_
            obtain ⟨ho, hf⟩ := chk_inv hf
            obtain ⟨_, σ21, hk, hf⟩ := bnd_inv hf
            refine z_callV (As := [.int 8, .int a1]) (rest := []) (m_X7_copies hC.2.2.2.2.2.2.2.2 hk) hC hw wd_X7_copies lkM_X7_230 (isO_sh ho) rfl rfl ⟨rfl, rfl⟩ ⟨(Nat.le_of_ble_eq_true rfl), (Nat.le_of_ble_eq_true rfl)⟩ hl.1 rfl (Nat.le_of_ble_eq_true rfl) dX7_parse_104 ⟨(Nat.le_of_ble_eq_true rfl), (Nat.le_of_ble_eq_true rfl)⟩ (fun H locs hw => ?_)
            refine lv_aload_n hx hb dX7_parse_107 rfl (lv_at hl 0 rfl) ?_
            refine lv_iload_n hx hb dX7_parse_108 rfl (lv_at hl 1 rfl) ?_
            obtain ⟨ho, hf⟩ := chk_inv hf
            obtain ⟨r23, σ22, hk, hf⟩ := bnd_inv hf
            refine z_callV (As := [.int a1]) (rest := []) (m_X7_many hC.2.2.2.2.2.2.2.2 hk) hC hw wd_X7_many lkM_X7_78 (isO_sh ho) rfl rfl ⟨rfl, rfl⟩ ⟨(Nat.le_of_ble_eq_true rfl), (Nat.le_of_ble_eq_true rfl)⟩ hl.1 rfl (Nat.le_of_ble_eq_true rfl) dX7_parse_109 ⟨(Nat.le_of_ble_eq_true rfl), (Nat.le_of_ble_eq_true rfl)⟩ (fun H locs hw => ?_)
            first | (obtain ⟨rfl, rfl⟩ := sp_inv hf) | (obtain rfl := Option.some.inj hf)
            exact W.iret hx hb hr (z_ret hw rfl) hw.2.2.2.2.2 dX7_parse_112 hC.2.2.2.2.2.1
          · rw [if_neg hc] at hf
            refine lv_bipush (v := (-2)) hx hb dX7_parse_93 (by decide) ?_
            first | (obtain ⟨rfl, rfl⟩ := sp_inv hf) | (obtain rfl := Option.some.inj hf)
            exact W.iret hx hb hr (z_ret hw rfl) hw.2.2.2.2.2 dX7_parse_95 hC.2.2.2.2.2.1
        · rw [if_neg hc] at hf
          exact t_X7_parse_L74 hC hr hf hw (lv_sub hl [0] rfl)
    · have hf := hR _ _ e
      first | (obtain ⟨rfl, rfl⟩ := sp_inv hf) | (obtain rfl := Option.some.inj hf)
      exact W.iret hx hb hr (z_ret hw rfl) hw.2.2.2.2.2 hd hC.2.2.2.2.2.1
  · rw [if_pos hc] at hf
    refine lv_iconst (v := 0) hx hb dX7_parse_13 (by decide) ?_
    first | (obtain ⟨rfl, rfl⟩ := sp_inv hf) | (obtain rfl := Option.some.inj hf)
    exact W.iret hx hb hr (z_ret hw rfl) hw.2.2.2.2.2 dX7_parse_14 hC.2.2.2.2.2.1
set_option maxHeartbeats 4000000 in
set_option maxRecDepth 100000 in
theorem t_X7_undo_B35 (hC : zC p l s m args meth c cX7_undo 2 RX7 D cA B0) (hr : meth.sig.returnType = (Option.some FieldType.int)) {Γ : zSh} {x0 : Nat} {x1 : Int32} {σ : zSt} {out : ((Int32 × zSt) ⊕ (zSt))} (hf : f_X7_undo_B35 Γ x0 x1 σ = some out) {H : Heap} {locs : List Loc} {ls : Array Slot} (hw : zO D cA B0 Γ σ Z s.heap H locs) (hl : lv_has ls 2 [(0, .ref x0), (1, .int x1)])
    (kI : ∀ (z1 : Int32) (σ2 : zSt), out = .inl (z1, σ2) → ∀ (H : Heap) (locs : List Loc) (ls : Array Slot), zO D cA B0 Γ σ2 Z s.heap H locs → lv_has ls 2 [(0, .ref x0), (1, .int z1)] → W p l e rm_X7_undo s m args below meth c H locs 0 0 Q (F0 m 35 ls []))
    (kE : ∀ (σ2 : zSt), out = .inr σ2 → ∀ (H : Heap) (locs : List Loc) (ls : Array Slot), zO D cA B0 Γ σ2 Z s.heap H locs → lv_has ls 2 [(0, .ref x0)] → W p l e rm_X7_undo s m args below meth c H locs 0 0 Q (F0 m 69 ls [])) :
    W p l e rm_X7_undo s m args below meth c H locs 0 0 Q (F0 m 35 ls []) := by
  have hx := hC.1
  have hb := hC.2.1
  unfold f_X7_undo_B35 at hf
  refine lv_iload_n hx hb dX7_undo_35 rfl (lv_at hl 1 rfl) ?_
  refine lv_sipush (v := 1252) hx hb dX7_undo_36 (by decide) ?_
  refine lv_icmp_ge (tgt := 69) hx hb dX7_undo_39 (by decide) (fun hc => ?_) (fun hc => ?_)
  · rw [if_pos hc] at hf
    exact kE  σ (Option.some.inj hf).symm _ _ _ hw (lv_sub hl [0] rfl)
  · rw [if_neg hc] at hf
    refine lv_aload_n hx hb dX7_undo_42 rfl (lv_at hl 0 rfl) ?_
    obtain ⟨v6, hg, hf⟩ := gfR_inv hf
    refine r_gfR hC hw hg clX7 (Nat.le_of_ble_eq_true rfl) lkF_X7_7 rfl dX7_undo_43 ?_
    refine lv_iload_n hx hb dX7_undo_46 rfl (lv_at hl 1 rfl) ?_
    refine lv_aload_n hx hb dX7_undo_47 rfl (lv_at hl 0 rfl) ?_
    obtain ⟨v7, hg, hf⟩ := gfR_inv hf
    refine r_gfR hC hw hg clX7 (Nat.le_of_ble_eq_true rfl) lkF_X7_13 rfl dX7_undo_48 ?_
    refine lv_sipush (v := 1252) hx hb dX7_undo_51 (by decide) ?_
    refine lv_aload_n hx hb dX7_undo_54 rfl (lv_at hl 0 rfl) ?_
    obtain ⟨v8, hg, hf⟩ := gfI_inv hf
    refine r_gfI hC hw hg clX7 (Nat.le_of_ble_eq_true rfl) lkF_X7_63 rfl dX7_undo_55 ?_
    refine lv_imul hx hb dX7_undo_58 ?_
    refine lv_iload_n hx hb dX7_undo_59 rfl (lv_at hl 1 rfl) ?_
    refine lv_iadd hx hb dX7_undo_60 ?_
    obtain ⟨v9, hg, hf⟩ := ldI_inv hf
    refine r_ldI hC hw hg dX7_undo_61 ?_
    obtain ⟨σ10, hg, hf⟩ := stI_inv hf
    refine r_stI hC hw hg dX7_undo_62 (fun H locs hw => ?_)
    refine lv_iinc (v := (x1 + 1)) (lv' := [(1, .int (x1 + 1)), (0, .ref x0)]) hx hb dX7_undo_63 hl (k := 1) rfl rfl (Nat.le_of_ble_eq_true rfl) rfl (fun ls hl => ?_)
    refine lv_goto (tgt := 35) hx hb dX7_undo_66 (by decide) ?_
    exact kI (x1 + 1) σ10 (Option.some.inj hf).symm _ _ _ hw (lv_sub hl [1, 0] rfl)
set_option maxHeartbeats 4000000 in
theorem l_X7_undo_B35 (hC : zC p l s m args meth c cX7_undo 2 RX7 D cA B0) (hr : meth.sig.returnType = (Option.some FieldType.int)) {Γ : zSh} {x0 : Nat} {σ2 : zSt} (kE : ∀ (H : Heap) (locs : List Loc) (ls : Array Slot), zO D cA B0 Γ σ2 Z s.heap H locs → lv_has ls 2 [(0, .ref x0)] → W p l e rm_X7_undo s m args below meth c H locs 0 0 Q (F0 m 69 ls [])) :
    ∀ (n : Nat) (x1 : Int32) (σ : zSt), loopM (fun q => f_X7_undo_B35 Γ x0 q.1 q.2) n (x1, σ) = some σ2 → ∀ (H : Heap) (locs : List Loc) (ls : Array Slot), zO D cA B0 Γ σ Z s.heap H locs → lv_has ls 2 [(0, .ref x0), (1, .int x1)] → W p l e rm_X7_undo s m args below meth c H locs 0 0 Q (F0 m 35 ls []) := by
  intro n
  induction n with
  | zero => intro x1 σ h; exact absurd h (by simp [loopM])
  | succ n ih =>
    intro x1 σ h H locs ls hw hl
    obtain ⟨r, h1, h2, h3⟩ := loopM_inv h
    exact t_X7_undo_B35 hC hr h1 hw hl (fun z1 s2 e H locs ls hw hl => ih z1 s2 (h2 _ e) H locs ls hw hl) (fun s2 e H locs ls hw hl => by cases h3 _ e; exact kE H locs ls hw hl)
set_option maxHeartbeats 4000000 in
set_option maxRecDepth 100000 in
theorem t_X7_undo_L13 (hC : zC p l s m args meth c cX7_undo 2 RX7 D cA B0) (hr : meth.sig.returnType = (Option.some FieldType.int)) {Γ : zSh} {x0 : Nat} {s0 : Int32} {s1 : Nat} {σ : zSt} {out : (Int32 × zSt)} (hf : f_X7_undo_L13 Γ x0 s0 s1 σ = some out) {H : Heap} {locs : List Loc} {ls : Array Slot} (hw : zO D cA B0 Γ σ Z s.heap H locs) (hl : lv_has ls 2 [(0, .ref x0)]) :
    W p l e rm_X7_undo s m args below meth c H locs 0 0 (MQ below (zQ1 D cA B0 (some (.int out.1)) Γ out.2 Z) args s 0 0 (FR B0)) (F0 m 13 ls [.int s0, .ref s1]) := by
  have hx := hC.1
  have hb := hC.2.1
  unfold f_X7_undo_L13 at hf
  refine lv_iconst (v := 1) hx hb dX7_undo_13 (by decide) ?_
  refine lv_iconst (v := 1) hx hb dX7_undo_14 (by decide) ?_
  obtain ⟨ho, hf⟩ := chk_inv hf
  obtain ⟨r3, σ2, hk, hf⟩ := bnd_inv hf
  refine z_callV (As := [.int s0, .int 1, .int 1]) (rest := []) (m_X7_goes hC.2.2.2.2.2.2.2.2 hk) hC hw wd_X7_goes lkM_X7_94 (isO_sh ho) rfl rfl ⟨rfl, rfl⟩ ⟨(Nat.le_of_ble_eq_true rfl), (Nat.le_of_ble_eq_true rfl)⟩ hl.1 rfl (Nat.le_of_ble_eq_true rfl) dX7_undo_15 ⟨(Nat.le_of_ble_eq_true rfl), (Nat.le_of_ble_eq_true rfl)⟩ (fun H locs hw => ?_)
  refine lv_if_ne (tgt := 23) hx hb dX7_undo_18 (by decide) (fun hc => ?_) (fun hc => ?_)
  · rw [if_neg hc] at hf
    refine lv_aload_n hx hb dX7_undo_23 rfl (lv_at hl 0 rfl) ?_
    refine lv_dup hx hb dX7_undo_24 rfl ?_
    obtain ⟨v4, hg, hf⟩ := gfI_inv hf
    refine r_gfI hC hw hg clX7 (Nat.le_of_ble_eq_true rfl) lkF_X7_63 rfl dX7_undo_25 ?_
    refine lv_iconst (v := 1) hx hb dX7_undo_28 (by decide) ?_
    refine lv_isub hx hb dX7_undo_29 ?_
    obtain ⟨σ5, hg, hf⟩ := pfI_inv hf
    refine r_pfI hC hw hg clX7 (Nat.le_of_ble_eq_true rfl) lkF_X7_63 rfl rfl rfl dX7_undo_30 (fun H locs hw => ?_)
    refine lv_iconst (v := 0) hx hb dX7_undo_33 (by decide) ?_
    refine lv_istore_n (lv' := [(1, .int 0), (0, .ref x0)]) hx hb dX7_undo_34 rfl hl (Nat.le_of_ble_eq_true rfl) rfl (fun ls hl => ?_)
    obtain ⟨σ11, hk, hf⟩ := lb0_inv hf
    refine l_X7_undo_B35 hC hr (fun H locs ls hw hl => ?_) FUEL 0 σ5 hk _ _ _ hw (lv_sub hl [1, 0] rfl)
    refine lv_aload_n hx hb dX7_undo_69 rfl (lv_at hl 0 rfl) ?_
    obtain ⟨v12, hg, hf⟩ := gfI_inv hf
    refine r_gfI hC hw hg clX7 (Nat.le_of_ble_eq_true rfl) lkF_X7_63 rfl dX7_undo_70 ?_
    first | (obtain ⟨rfl, rfl⟩ := sp_inv hf) | (obtain rfl := Option.some.inj hf)
    exact W.iret hx hb hr (z_ret hw rfl) hw.2.2.2.2.2 dX7_undo_73 hC.2.2.2.2.2.1
  · rw [if_pos hc] at hf
    refine lv_iconst (v := 0) hx hb dX7_undo_21 (by decide) ?_
    first | (obtain ⟨rfl, rfl⟩ := sp_inv hf) | (obtain rfl := Option.some.inj hf)
    exact W.iret hx hb hr (z_ret hw rfl) hw.2.2.2.2.2 dX7_undo_22 hC.2.2.2.2.2.1
set_option maxHeartbeats 4000000 in
set_option maxRecDepth 100000 in
theorem m_X7_undo (h9 : l.stackTraces = false) {Γ : zSh} {a0 : Nat} {σ : zSt} {r : Int32} {σ2 : zSt} (hf : f_X7_undo Γ a0 σ = some (r, σ2)) : Met l yX7_undo (wq yX7_undo cX7_undo 2 (Option.some FieldType.int)) rm_X7_undo (zQ0 D cA B0 [.ref a0] Γ σ Z) (zQ1 D cA B0 (some (.int r)) Γ σ2 Z) 0 0 (FR B0) := by
  refine z_ofW h9 (by decide) (Nat.le_of_ble_eq_true rfl) ?_
  intro p e s m args below meth c ls hC hr _ hw hl
  have hx := hC.1
  have hb := hC.2.1
  have hl : lv_has ls 2 [(0, .ref a0)] := hl
  unfold f_X7_undo at hf
  refine lv_aload_n hx hb dX7_undo_0 rfl (lv_at hl 0 rfl) ?_
  refine lv_aload_n hx hb dX7_undo_1 rfl (lv_at hl 0 rfl) ?_
  obtain ⟨v1, hg, hf⟩ := gfI_inv hf
  refine r_gfI hC hw hg clX7 (Nat.le_of_ble_eq_true rfl) lkF_X7_63 rfl dX7_undo_2 ?_
  refine lv_if_le (tgt := 12) hx hb dX7_undo_5 (by decide) (fun hc => ?_) (fun hc => ?_)
  · rw [if_pos hc] at hf
    refine lv_iconst (v := 0) hx hb dX7_undo_12 (by decide) ?_
    exact t_X7_undo_L13 hC hr hf hw (lv_sub hl [0] rfl)
  · rw [if_neg hc] at hf
    refine lv_iconst (v := 1) hx hb dX7_undo_8 (by decide) ?_
    refine lv_goto (tgt := 13) hx hb dX7_undo_9 (by decide) ?_
    exact t_X7_undo_L13 hC hr hf hw (lv_sub hl [0] rfl)
set_option maxHeartbeats 4000000 in
set_option maxRecDepth 100000 in
theorem t_X7_sumsSlot_B21 (hC : zC p l s m args meth c cX7_sumsSlot 8 RX7 D cA B0) (hr : meth.sig.returnType = (Option.some FieldType.long)) {Γ : zSh} {x0 : Nat} {x3 : Int32} {x4 : Int32} {x5 : Int64} {x7 : Int32} {σ : zSt} {out : ((Int64 × Int32 × zSt) ⊕ (Int64 × zSt))} (hf : f_X7_sumsSlot_B21 Γ x0 x3 x4 x5 x7 σ = some out) {H : Heap} {locs : List Loc} {ls : Array Slot} (hw : zO D cA B0 Γ σ Z s.heap H locs) (hl : lv_has ls 8 [(0, .ref x0), (3, .int x3), (4, .int x4), (5, .long x5), (7, .int x7)])
    (kI : ∀ (z5 : Int64) (z7 : Int32) (σ2 : zSt), out = .inl (z5, z7, σ2) → ∀ (H : Heap) (locs : List Loc) (ls : Array Slot), zO D cA B0 Γ σ2 Z s.heap H locs → lv_has ls 8 [(0, .ref x0), (3, .int x3), (4, .int x4), (5, .long z5), (7, .int z7)] → W p l e rm_X7_sumsSlot s m args below meth c H locs 0 0 Q (F0 m 21 ls []))
    (kE : ∀ (z5 : Int64) (σ2 : zSt), out = .inr (z5, σ2) → ∀ (H : Heap) (locs : List Loc) (ls : Array Slot), zO D cA B0 Γ σ2 Z s.heap H locs → lv_has ls 8 [(0, .ref x0), (3, .int x3), (4, .int x4), (5, .long z5)] → W p l e rm_X7_sumsSlot s m args below meth c H locs 0 0 Q (F0 m 72 ls [])) :
    W p l e rm_X7_sumsSlot s m args below meth c H locs 0 0 Q (F0 m 21 ls []) := by
  have hx := hC.1
  have hb := hC.2.1
  unfold f_X7_sumsSlot_B21 at hf
  refine lv_iload hx hb dX7_sumsSlot_21 (lv_at hl 4 rfl) ?_
  refine lv_iload hx hb dX7_sumsSlot_23 (lv_at hl 2 rfl) ?_
  refine lv_icmp_ge (tgt := 72) hx hb dX7_sumsSlot_25 (by decide) (fun hc => ?_) (fun hc => ?_)
  · rw [if_pos hc] at hf
    exact kE x5 σ (Option.some.inj hf).symm _ _ _ hw (lv_sub hl [0, 1, 2, 3] rfl)
  · rw [if_neg hc] at hf
    refine lv_ldc2 (v := 31) hx hb hC.2.2.2.1 (hC.2.2.2.2.1 _ lkJ_X7_248) dX7_sumsSlot_28 ?_
    refine lv_ldc2 (v := 31) hx hb hC.2.2.2.1 (hC.2.2.2.2.1 _ lkJ_X7_248) dX7_sumsSlot_31 ?_
    refine lv_lload hx hb dX7_sumsSlot_34 (lv_at hl 3 rfl) ?_
    refine lv_lmul hx hb dX7_sumsSlot_36 ?_
    refine lv_aload_n hx hb dX7_sumsSlot_37 rfl (lv_at hl 0 rfl) ?_
    obtain ⟨v3, hg, hf⟩ := gfR_inv hf
    refine r_gfR hC hw hg clX7 (Nat.le_of_ble_eq_true rfl) lkF_X7_7 rfl dX7_sumsSlot_38 ?_
    refine lv_iload_n hx hb dX7_sumsSlot_41 rfl (lv_at hl 1 rfl) ?_
    refine lv_iload hx hb dX7_sumsSlot_42 (lv_at hl 4 rfl) ?_
    obtain ⟨r5, σ4, hk, hf⟩ := bnd_inv hf
    refine z_callS (As := [.int x3, .int x7]) (rest := [.ref v3, .long (31 * x5), .long 31]) (m_X7_initialAt hC.2.2.2.2.2.2.2.2 hk) hC hw wd_X7_initialAt lkM_X7_82 rfl ⟨rfl, rfl⟩ ⟨(Nat.le_of_ble_eq_true rfl), (Nat.le_of_ble_eq_true rfl)⟩ hl.1 rfl (Nat.le_of_ble_eq_true rfl) dX7_sumsSlot_44 ⟨(Nat.le_of_ble_eq_true rfl), (Nat.le_of_ble_eq_true rfl)⟩ (fun H locs hw => ?_)
    obtain ⟨v6, hg, hf⟩ := ldI_inv hf
    refine r_ldI hC hw hg dX7_sumsSlot_47 ?_
    refine lv_i2l hx hb dX7_sumsSlot_48 rfl ?_
    refine lv_ladd hx hb dX7_sumsSlot_49 ?_
    refine lv_lmul hx hb dX7_sumsSlot_50 ?_
    refine lv_aload_n hx hb dX7_sumsSlot_51 rfl (lv_at hl 0 rfl) ?_
    obtain ⟨v7, hg, hf⟩ := gfR_inv hf
    refine r_gfR hC hw hg clX7 (Nat.le_of_ble_eq_true rfl) lkF_X7_7 rfl dX7_sumsSlot_52 ?_
    refine lv_iload_n hx hb dX7_sumsSlot_55 rfl (lv_at hl 1 rfl) ?_
    refine lv_iload hx hb dX7_sumsSlot_56 (lv_at hl 4 rfl) ?_
    obtain ⟨r9, σ8, hk, hf⟩ := bnd_inv hf
    refine z_callS (As := [.int x3, .int x7]) (rest := [.ref v7, .long (31 * ((31 * x5) + (v6.toInt64)))]) (m_X7_finalAt hC.2.2.2.2.2.2.2.2 hk) hC hw wd_X7_finalAt lkM_X7_85 rfl ⟨rfl, rfl⟩ ⟨(Nat.le_of_ble_eq_true rfl), (Nat.le_of_ble_eq_true rfl)⟩ hl.1 rfl (Nat.le_of_ble_eq_true rfl) dX7_sumsSlot_58 ⟨(Nat.le_of_ble_eq_true rfl), (Nat.le_of_ble_eq_true rfl)⟩ (fun H locs hw => ?_)
    obtain ⟨v10, hg, hf⟩ := ldI_inv hf
    refine r_ldI hC hw hg dX7_sumsSlot_61 ?_
    refine lv_i2l hx hb dX7_sumsSlot_62 rfl ?_
    refine lv_ladd hx hb dX7_sumsSlot_63 ?_
    refine lv_lstore (lv' := [(5, .long ((31 * ((31 * x5) + (v6.toInt64))) + (v10.toInt64))), (0, .ref x0), (3, .int x3), (4, .int x4), (7, .int x7)]) hx hb dX7_sumsSlot_64 hl (Nat.le_of_ble_eq_true rfl) rfl (fun ls hl => ?_)
    refine lv_iinc (v := (x7 + 1)) (lv' := [(7, .int (x7 + 1)), (5, .long ((31 * ((31 * x5) + (v6.toInt64))) + (v10.toInt64))), (0, .ref x0), (3, .int x3), (4, .int x4)]) hx hb dX7_sumsSlot_66 hl (k := 4) rfl rfl (Nat.le_of_ble_eq_true rfl) rfl (fun ls hl => ?_)
    refine lv_goto (tgt := 21) hx hb dX7_sumsSlot_69 (by decide) ?_
    exact kI ((31 * ((31 * x5) + (v6.toInt64))) + (v10.toInt64)) (x7 + 1) σ8 (Option.some.inj hf).symm _ _ _ hw (lv_sub hl [2, 3, 4, 1, 0] rfl)
set_option maxHeartbeats 4000000 in
theorem l_X7_sumsSlot_B21 (hC : zC p l s m args meth c cX7_sumsSlot 8 RX7 D cA B0) (hr : meth.sig.returnType = (Option.some FieldType.long)) {Γ : zSh} {x0 : Nat} {x3 : Int32} {x4 : Int32} {w5 : Int64} {σ2 : zSt} (kE : ∀ (H : Heap) (locs : List Loc) (ls : Array Slot), zO D cA B0 Γ σ2 Z s.heap H locs → lv_has ls 8 [(0, .ref x0), (3, .int x3), (4, .int x4), (5, .long w5)] → W p l e rm_X7_sumsSlot s m args below meth c H locs 0 0 Q (F0 m 72 ls [])) :
    ∀ (n : Nat) (x5 : Int64) (x7 : Int32) (σ : zSt), loopM (fun q => f_X7_sumsSlot_B21 Γ x0 x3 x4 q.1 q.2.1 q.2.2) n (x5, x7, σ) = some (w5, σ2) → ∀ (H : Heap) (locs : List Loc) (ls : Array Slot), zO D cA B0 Γ σ Z s.heap H locs → lv_has ls 8 [(0, .ref x0), (3, .int x3), (4, .int x4), (5, .long x5), (7, .int x7)] → W p l e rm_X7_sumsSlot s m args below meth c H locs 0 0 Q (F0 m 21 ls []) := by
  intro n
  induction n with
  | zero => intro x5 x7 σ h; exact absurd h (by simp [loopM])
  | succ n ih =>
    intro x5 x7 σ h H locs ls hw hl
    obtain ⟨r, h1, h2, h3⟩ := loopM_inv h
    exact t_X7_sumsSlot_B21 hC hr h1 hw hl (fun z5 z7 s2 e H locs ls hw hl => ih z5 z7 s2 (h2 _ e) H locs ls hw hl) (fun z5 s2 e H locs ls hw hl => by cases h3 _ e; exact kE H locs ls hw hl)
set_option maxHeartbeats 4000000 in
set_option maxRecDepth 100000 in
theorem t_X7_sumsSlot_B75 (hC : zC p l s m args meth c cX7_sumsSlot 8 RX7 D cA B0) (hr : meth.sig.returnType = (Option.some FieldType.long)) {Γ : zSh} {x0 : Nat} {x3 : Int32} {x4 : Int32} {x5 : Int64} {x7 : Int32} {σ : zSt} {out : ((Int64 × Int32 × zSt) ⊕ (Int64 × zSt))} (hf : f_X7_sumsSlot_B75 Γ x0 x3 x4 x5 x7 σ = some out) {H : Heap} {locs : List Loc} {ls : Array Slot} (hw : zO D cA B0 Γ σ Z s.heap H locs) (hl : lv_has ls 8 [(0, .ref x0), (3, .int x3), (4, .int x4), (5, .long x5), (7, .int x7)])
    (kI : ∀ (z5 : Int64) (z7 : Int32) (σ2 : zSt), out = .inl (z5, z7, σ2) → ∀ (H : Heap) (locs : List Loc) (ls : Array Slot), zO D cA B0 Γ σ2 Z s.heap H locs → lv_has ls 8 [(0, .ref x0), (3, .int x3), (4, .int x4), (5, .long z5), (7, .int z7)] → W p l e rm_X7_sumsSlot s m args below meth c H locs 0 0 Q (F0 m 75 ls []))
    (kE : ∀ (z5 : Int64) (σ2 : zSt), out = .inr (z5, σ2) → ∀ (H : Heap) (locs : List Loc) (ls : Array Slot), zO D cA B0 Γ σ2 Z s.heap H locs → lv_has ls 8 [(0, .ref x0), (3, .int x3), (5, .long z5)] → W p l e rm_X7_sumsSlot s m args below meth c H locs 0 0 Q (F0 m 136 ls [])) :
    W p l e rm_X7_sumsSlot s m args below meth c H locs 0 0 Q (F0 m 75 ls []) := by
  have hx := hC.1
  have hb := hC.2.1
  unfold f_X7_sumsSlot_B75 at hf
  refine lv_iload hx hb dX7_sumsSlot_75 (lv_at hl 4 rfl) ?_
  refine lv_iconst (v := 2) hx hb dX7_sumsSlot_77 (by decide) ?_
  refine lv_iload hx hb dX7_sumsSlot_78 (lv_at hl 2 rfl) ?_
  refine lv_imul hx hb dX7_sumsSlot_80 ?_
  refine lv_iload hx hb dX7_sumsSlot_81 (lv_at hl 2 rfl) ?_
  refine lv_imul hx hb dX7_sumsSlot_83 ?_
  refine lv_icmp_ge (tgt := 136) hx hb dX7_sumsSlot_84 (by decide) (fun hc => ?_) (fun hc => ?_)
  · rw [if_pos hc] at hf
    exact kE x5 σ (Option.some.inj hf).symm _ _ _ hw (lv_sub hl [0, 1, 3] rfl)
  · rw [if_neg hc] at hf
    refine lv_ldc2 (v := 31) hx hb hC.2.2.2.1 (hC.2.2.2.2.1 _ lkJ_X7_248) dX7_sumsSlot_87 ?_
    refine lv_lload hx hb dX7_sumsSlot_90 (lv_at hl 3 rfl) ?_
    refine lv_lmul hx hb dX7_sumsSlot_92 ?_
    refine lv_aload_n hx hb dX7_sumsSlot_93 rfl (lv_at hl 0 rfl) ?_
    obtain ⟨v13, hg, hf⟩ := gfR_inv hf
    refine r_gfR hC hw hg clX7 (Nat.le_of_ble_eq_true rfl) lkF_X7_7 rfl dX7_sumsSlot_94 ?_
    refine lv_iload_n hx hb dX7_sumsSlot_97 rfl (lv_at hl 1 rfl) ?_
    refine lv_iload hx hb dX7_sumsSlot_98 (lv_at hl 4 rfl) ?_
    refine lv_iload hx hb dX7_sumsSlot_100 (lv_at hl 2 rfl) ?_
    refine lv_iload hx hb dX7_sumsSlot_102 (lv_at hl 2 rfl) ?_
    refine lv_imul hx hb dX7_sumsSlot_104 ?_
    obtain ⟨v14, hg, hf⟩ := dvI_inv hf
    refine r_dvI hC hg dX7_sumsSlot_105 ?_
    refine lv_iload hx hb dX7_sumsSlot_106 (lv_at hl 4 rfl) ?_
    refine lv_iload hx hb dX7_sumsSlot_108 (lv_at hl 2 rfl) ?_
    refine lv_iload hx hb dX7_sumsSlot_110 (lv_at hl 2 rfl) ?_
    refine lv_imul hx hb dX7_sumsSlot_112 ?_
    obtain ⟨v15, hg, hf⟩ := rmI_inv hf
    refine r_rmI hC hg dX7_sumsSlot_113 ?_
    refine lv_iload hx hb dX7_sumsSlot_114 (lv_at hl 2 rfl) ?_
    obtain ⟨v16, hg, hf⟩ := dvI_inv hf
    refine r_dvI hC hg dX7_sumsSlot_116 ?_
    refine lv_iload hx hb dX7_sumsSlot_117 (lv_at hl 4 rfl) ?_
    refine lv_iload hx hb dX7_sumsSlot_119 (lv_at hl 2 rfl) ?_
    obtain ⟨v17, hg, hf⟩ := rmI_inv hf
    refine r_rmI hC hg dX7_sumsSlot_121 ?_
    obtain ⟨r19, σ18, hk, hf⟩ := bnd_inv hf
    refine z_callS (As := [.int x3, .int v14, .int v16, .int v17]) (rest := [.ref v13, .long (31 * x5)]) (m_X7_at hC.2.2.2.2.2.2.2.2 hk) hC hw wd_X7_at lkM_X7_116 rfl ⟨rfl, rfl⟩ ⟨(Nat.le_of_ble_eq_true rfl), (Nat.le_of_ble_eq_true rfl)⟩ hl.1 rfl (Nat.le_of_ble_eq_true rfl) dX7_sumsSlot_122 ⟨(Nat.le_of_ble_eq_true rfl), (Nat.le_of_ble_eq_true rfl)⟩ (fun H locs hw => ?_)
    obtain ⟨v20, hg, hf⟩ := ldI_inv hf
    refine r_ldI hC hw hg dX7_sumsSlot_125 ?_
    refine lv_i2l hx hb dX7_sumsSlot_126 rfl ?_
    refine lv_ladd hx hb dX7_sumsSlot_127 ?_
    refine lv_lstore (lv' := [(5, .long ((31 * x5) + (v20.toInt64))), (0, .ref x0), (3, .int x3), (4, .int x4), (7, .int x7)]) hx hb dX7_sumsSlot_128 hl (Nat.le_of_ble_eq_true rfl) rfl (fun ls hl => ?_)
    refine lv_iinc (v := (x7 + 1)) (lv' := [(7, .int (x7 + 1)), (5, .long ((31 * x5) + (v20.toInt64))), (0, .ref x0), (3, .int x3), (4, .int x4)]) hx hb dX7_sumsSlot_130 hl (k := 4) rfl rfl (Nat.le_of_ble_eq_true rfl) rfl (fun ls hl => ?_)
    refine lv_goto (tgt := 75) hx hb dX7_sumsSlot_133 (by decide) ?_
    exact kI ((31 * x5) + (v20.toInt64)) (x7 + 1) σ18 (Option.some.inj hf).symm _ _ _ hw (lv_sub hl [2, 3, 4, 1, 0] rfl)
set_option maxHeartbeats 4000000 in
theorem l_X7_sumsSlot_B75 (hC : zC p l s m args meth c cX7_sumsSlot 8 RX7 D cA B0) (hr : meth.sig.returnType = (Option.some FieldType.long)) {Γ : zSh} {x0 : Nat} {x3 : Int32} {x4 : Int32} {w5 : Int64} {σ2 : zSt} (kE : ∀ (H : Heap) (locs : List Loc) (ls : Array Slot), zO D cA B0 Γ σ2 Z s.heap H locs → lv_has ls 8 [(0, .ref x0), (3, .int x3), (5, .long w5)] → W p l e rm_X7_sumsSlot s m args below meth c H locs 0 0 Q (F0 m 136 ls [])) :
    ∀ (n : Nat) (x5 : Int64) (x7 : Int32) (σ : zSt), loopM (fun q => f_X7_sumsSlot_B75 Γ x0 x3 x4 q.1 q.2.1 q.2.2) n (x5, x7, σ) = some (w5, σ2) → ∀ (H : Heap) (locs : List Loc) (ls : Array Slot), zO D cA B0 Γ σ Z s.heap H locs → lv_has ls 8 [(0, .ref x0), (3, .int x3), (4, .int x4), (5, .long x5), (7, .int x7)] → W p l e rm_X7_sumsSlot s m args below meth c H locs 0 0 Q (F0 m 75 ls []) := by
  intro n
  induction n with
  | zero => intro x5 x7 σ h; exact absurd h (by simp [loopM])
  | succ n ih =>
    intro x5 x7 σ h H locs ls hw hl
    obtain ⟨r, h1, h2, h3⟩ := loopM_inv h
    exact t_X7_sumsSlot_B75 hC hr h1 hw hl (fun z5 z7 s2 e H locs ls hw hl => ih z5 z7 s2 (h2 _ e) H locs ls hw hl) (fun z5 s2 e H locs ls hw hl => by cases h3 _ e; exact kE H locs ls hw hl)
set_option maxHeartbeats 4000000 in
set_option maxRecDepth 100000 in
theorem t_X7_sumsSlot_B139 (hC : zC p l s m args meth c cX7_sumsSlot 8 RX7 D cA B0) (hr : meth.sig.returnType = (Option.some FieldType.long)) {Γ : zSh} {x0 : Nat} {x3 : Int32} {x5 : Int64} {x7 : Int32} {σ : zSt} {out : ((Int64 × Int32 × zSt) ⊕ (Int64 × zSt))} (hf : f_X7_sumsSlot_B139 Γ x0 x3 x5 x7 σ = some out) {H : Heap} {locs : List Loc} {ls : Array Slot} (hw : zO D cA B0 Γ σ Z s.heap H locs) (hl : lv_has ls 8 [(0, .ref x0), (3, .int x3), (5, .long x5), (7, .int x7)])
    (kI : ∀ (z5 : Int64) (z7 : Int32) (σ2 : zSt), out = .inl (z5, z7, σ2) → ∀ (H : Heap) (locs : List Loc) (ls : Array Slot), zO D cA B0 Γ σ2 Z s.heap H locs → lv_has ls 8 [(0, .ref x0), (3, .int x3), (5, .long z5), (7, .int z7)] → W p l e rm_X7_sumsSlot s m args below meth c H locs 0 0 Q (F0 m 139 ls []))
    (kE : ∀ (z5 : Int64) (σ2 : zSt), out = .inr (z5, σ2) → ∀ (H : Heap) (locs : List Loc) (ls : Array Slot), zO D cA B0 Γ σ2 Z s.heap H locs → lv_has ls 8 [(5, .long z5)] → W p l e rm_X7_sumsSlot s m args below meth c H locs 0 0 Q (F0 m 168 ls [])) :
    W p l e rm_X7_sumsSlot s m args below meth c H locs 0 0 Q (F0 m 139 ls []) := by
  have hx := hC.1
  have hb := hC.2.1
  unfold f_X7_sumsSlot_B139 at hf
  refine lv_iload hx hb dX7_sumsSlot_139 (lv_at hl 3 rfl) ?_
  refine lv_iconst (v := 3) hx hb dX7_sumsSlot_141 (by decide) ?_
  refine lv_icmp_ge (tgt := 168) hx hb dX7_sumsSlot_142 (by decide) (fun hc => ?_) (fun hc => ?_)
  · rw [if_pos hc] at hf
    exact kE x5 σ (Option.some.inj hf).symm _ _ _ hw (lv_sub hl [2] rfl)
  · rw [if_neg hc] at hf
    refine lv_ldc2 (v := 31) hx hb hC.2.2.2.1 (hC.2.2.2.2.1 _ lkJ_X7_248) dX7_sumsSlot_145 ?_
    refine lv_lload hx hb dX7_sumsSlot_148 (lv_at hl 2 rfl) ?_
    refine lv_lmul hx hb dX7_sumsSlot_150 ?_
    refine lv_aload_n hx hb dX7_sumsSlot_151 rfl (lv_at hl 0 rfl) ?_
    refine lv_iload_n hx hb dX7_sumsSlot_152 rfl (lv_at hl 1 rfl) ?_
    refine lv_iload hx hb dX7_sumsSlot_153 (lv_at hl 3 rfl) ?_
    obtain ⟨ho, hf⟩ := chk_inv hf
    obtain ⟨r24, σ23, hk, hf⟩ := bnd_inv hf
    refine z_callV (As := [.int x3, .int x7]) (rest := [.long (31 * x5)]) (m_X7_dimensionOf hC.2.2.2.2.2.2.2.2 hk) hC hw wd_X7_dimensionOf lkM_X7_203 (isO_sh ho) rfl rfl ⟨rfl, rfl⟩ ⟨(Nat.le_of_ble_eq_true rfl), (Nat.le_of_ble_eq_true rfl)⟩ hl.1 rfl (Nat.le_of_ble_eq_true rfl) dX7_sumsSlot_155 ⟨(Nat.le_of_ble_eq_true rfl), (Nat.le_of_ble_eq_true rfl)⟩ (fun H locs hw => ?_)
    refine lv_i2l hx hb dX7_sumsSlot_158 rfl ?_
    refine lv_ladd hx hb dX7_sumsSlot_159 ?_
    refine lv_lstore (lv' := [(5, .long ((31 * x5) + (r24.toInt64))), (0, .ref x0), (3, .int x3), (7, .int x7)]) hx hb dX7_sumsSlot_160 hl (Nat.le_of_ble_eq_true rfl) rfl (fun ls hl => ?_)
    refine lv_iinc (v := (x7 + 1)) (lv' := [(7, .int (x7 + 1)), (5, .long ((31 * x5) + (r24.toInt64))), (0, .ref x0), (3, .int x3)]) hx hb dX7_sumsSlot_162 hl (k := 3) rfl rfl (Nat.le_of_ble_eq_true rfl) rfl (fun ls hl => ?_)
    refine lv_goto (tgt := 139) hx hb dX7_sumsSlot_165 (by decide) ?_
    exact kI ((31 * x5) + (r24.toInt64)) (x7 + 1) σ23 (Option.some.inj hf).symm _ _ _ hw (lv_sub hl [2, 3, 1, 0] rfl)
set_option maxHeartbeats 4000000 in
theorem l_X7_sumsSlot_B139 (hC : zC p l s m args meth c cX7_sumsSlot 8 RX7 D cA B0) (hr : meth.sig.returnType = (Option.some FieldType.long)) {Γ : zSh} {x0 : Nat} {x3 : Int32} {w5 : Int64} {σ2 : zSt} (kE : ∀ (H : Heap) (locs : List Loc) (ls : Array Slot), zO D cA B0 Γ σ2 Z s.heap H locs → lv_has ls 8 [(5, .long w5)] → W p l e rm_X7_sumsSlot s m args below meth c H locs 0 0 Q (F0 m 168 ls [])) :
    ∀ (n : Nat) (x5 : Int64) (x7 : Int32) (σ : zSt), loopM (fun q => f_X7_sumsSlot_B139 Γ x0 x3 q.1 q.2.1 q.2.2) n (x5, x7, σ) = some (w5, σ2) → ∀ (H : Heap) (locs : List Loc) (ls : Array Slot), zO D cA B0 Γ σ Z s.heap H locs → lv_has ls 8 [(0, .ref x0), (3, .int x3), (5, .long x5), (7, .int x7)] → W p l e rm_X7_sumsSlot s m args below meth c H locs 0 0 Q (F0 m 139 ls []) := by
  intro n
  induction n with
  | zero => intro x5 x7 σ h; exact absurd h (by simp [loopM])
  | succ n ih =>
    intro x5 x7 σ h H locs ls hw hl
    obtain ⟨r, h1, h2, h3⟩ := loopM_inv h
    exact t_X7_sumsSlot_B139 hC hr h1 hw hl (fun z5 z7 s2 e H locs ls hw hl => ih z5 z7 s2 (h2 _ e) H locs ls hw hl) (fun z5 s2 e H locs ls hw hl => by cases h3 _ e; exact kE H locs ls hw hl)
set_option maxHeartbeats 4000000 in
set_option maxRecDepth 100000 in
theorem m_X7_sumsSlot (h9 : l.stackTraces = false) {Γ : zSh} {a0 : Nat} {a1 : Int64} {a2 : Int32} {σ : zSt} {r : Int64} {σ2 : zSt} (hf : f_X7_sumsSlot Γ a0 a1 a2 σ = some (r, σ2)) : Met l yX7_sumsSlot (wq yX7_sumsSlot cX7_sumsSlot 8 (Option.some FieldType.long)) rm_X7_sumsSlot (zQ0 D cA B0 [.ref a0, .long a1, .int a2] Γ σ Z) (zQ1 D cA B0 (some (.long r)) Γ σ2 Z) 0 0 (FR B0) := by
  refine z_ofW h9 (by decide) (Nat.le_of_ble_eq_true rfl) ?_
  intro p e s m args below meth c ls hC hr _ hw hl
  have hx := hC.1
  have hb := hC.2.1
  have hl : lv_has ls 8 [(0, .ref a0), (1, .long a1), (3, .int a2)] := hl
  unfold f_X7_sumsSlot at hf
  refine lv_aload_n hx hb dX7_sumsSlot_0 rfl (lv_at hl 0 rfl) ?_
  refine lv_iload_n hx hb dX7_sumsSlot_1 rfl (lv_at hl 2 rfl) ?_
  obtain ⟨ho, hf⟩ := chk_inv hf
  obtain ⟨r2, σ1, hk, hf⟩ := bnd_inv hf
  refine z_callV (As := [.int a2]) (rest := []) (m_X7_many hC.2.2.2.2.2.2.2.2 hk) hC hw wd_X7_many lkM_X7_78 (isO_sh ho) rfl rfl ⟨rfl, rfl⟩ ⟨(Nat.le_of_ble_eq_true rfl), (Nat.le_of_ble_eq_true rfl)⟩ hl.1 rfl (Nat.le_of_ble_eq_true rfl) dX7_sumsSlot_2 ⟨(Nat.le_of_ble_eq_true rfl), (Nat.le_of_ble_eq_true rfl)⟩ (fun H locs hw => ?_)
  refine lv_istore (lv' := [(4, .int r2), (0, .ref a0), (1, .long a1), (3, .int a2)]) hx hb dX7_sumsSlot_5 hl (Nat.le_of_ble_eq_true rfl) rfl (fun ls hl => ?_)
  refine lv_ldc2 (v := 31) hx hb hC.2.2.2.1 (hC.2.2.2.2.1 _ lkJ_X7_248) dX7_sumsSlot_7 ?_
  refine lv_lload_n hx hb dX7_sumsSlot_10 rfl (lv_at hl 2 rfl) ?_
  refine lv_lmul hx hb dX7_sumsSlot_11 ?_
  refine lv_iload hx hb dX7_sumsSlot_12 (lv_at hl 0 rfl) ?_
  refine lv_i2l hx hb dX7_sumsSlot_14 rfl ?_
  refine lv_ladd hx hb dX7_sumsSlot_15 ?_
  refine lv_lstore (lv' := [(5, .long ((31 * a1) + (r2.toInt64))), (4, .int r2), (0, .ref a0), (1, .long a1), (3, .int a2)]) hx hb dX7_sumsSlot_16 hl (Nat.le_of_ble_eq_true rfl) rfl (fun ls hl => ?_)
  refine lv_iconst (v := 0) hx hb dX7_sumsSlot_18 (by decide) ?_
  refine lv_istore (lv' := [(7, .int 0), (5, .long ((31 * a1) + (r2.toInt64))), (4, .int r2), (0, .ref a0), (1, .long a1), (3, .int a2)]) hx hb dX7_sumsSlot_19 hl (Nat.le_of_ble_eq_true rfl) rfl (fun ls hl => ?_)
  obtain ⟨w12, σ11, hk, hf⟩ := lb1_inv hf
  refine l_X7_sumsSlot_B21 hC hr (fun H locs ls hw hl => ?_) FUEL ((31 * a1) + (r2.toInt64)) 0 σ1 hk _ _ _ hw (lv_sub hl [3, 5, 2, 1, 0] rfl)
  refine lv_iconst (v := 0) hx hb dX7_sumsSlot_72 (by decide) ?_
  refine lv_istore (lv' := [(7, .int 0), (0, .ref a0), (3, .int a2), (4, .int r2), (5, .long w12)]) hx hb dX7_sumsSlot_73 hl (Nat.le_of_ble_eq_true rfl) rfl (fun ls hl => ?_)
  obtain ⟨w22, σ21, hk, hf⟩ := lb1_inv hf
  refine l_X7_sumsSlot_B75 hC hr (fun H locs ls hw hl => ?_) FUEL w12 0 σ11 hk _ _ _ hw (lv_sub hl [1, 2, 3, 4, 0] rfl)
  refine lv_iconst (v := 0) hx hb dX7_sumsSlot_136 (by decide) ?_
  refine lv_istore (lv' := [(7, .int 0), (0, .ref a0), (3, .int a2), (5, .long w22)]) hx hb dX7_sumsSlot_137 hl (Nat.le_of_ble_eq_true rfl) rfl (fun ls hl => ?_)
  obtain ⟨w26, σ25, hk, hf⟩ := lb1_inv hf
  refine l_X7_sumsSlot_B139 hC hr (fun H locs ls hw hl => ?_) FUEL w22 0 σ21 hk _ _ _ hw (lv_sub hl [1, 2, 3, 0] rfl)
  refine lv_lload hx hb dX7_sumsSlot_168 (lv_at hl 0 rfl) ?_
  first | (obtain ⟨rfl, rfl⟩ := sp_inv hf) | (obtain rfl := Option.some.inj hf)
  exact W.lret hx hb hr (z_ret hw rfl) hw.2.2.2.2.2 dX7_sumsSlot_170 hC.2.2.2.2.2.1
set_option maxHeartbeats 4000000 in
set_option maxRecDepth 100000 in
theorem t_X7_digest_B17 (hC : zC p l s m args meth c cX7_digest 4 RX7 D cA B0) (hr : meth.sig.returnType = (Option.some FieldType.long)) {Γ : zSh} {x0 : Nat} {x1 : Int64} {x3 : Int32} {σ : zSt} {out : ((Int64 × Int32 × zSt) ⊕ (Int64 × zSt))} (hf : f_X7_digest_B17 Γ x0 x1 x3 σ = some out) {H : Heap} {locs : List Loc} {ls : Array Slot} (hw : zO D cA B0 Γ σ Z s.heap H locs) (hl : lv_has ls 4 [(0, .ref x0), (1, .long x1), (3, .int x3)])
    (kI : ∀ (z1 : Int64) (z3 : Int32) (σ2 : zSt), out = .inl (z1, z3, σ2) → ∀ (H : Heap) (locs : List Loc) (ls : Array Slot), zO D cA B0 Γ σ2 Z s.heap H locs → lv_has ls 4 [(0, .ref x0), (1, .long z1), (3, .int z3)] → W p l e rm_X7_digest s m args below meth c H locs 0 0 Q (F0 m 17 ls []))
    (kE : ∀ (z1 : Int64) (σ2 : zSt), out = .inr (z1, σ2) → ∀ (H : Heap) (locs : List Loc) (ls : Array Slot), zO D cA B0 Γ σ2 Z s.heap H locs → lv_has ls 4 [(0, .ref x0), (1, .long z1)] → W p l e rm_X7_digest s m args below meth c H locs 0 0 Q (F0 m 35 ls [])) :
    W p l e rm_X7_digest s m args below meth c H locs 0 0 Q (F0 m 17 ls []) := by
  have hx := hC.1
  have hb := hC.2.1
  unfold f_X7_digest_B17 at hf
  refine lv_iload_n hx hb dX7_digest_17 rfl (lv_at hl 2 rfl) ?_
  refine lv_iconst (v := 4) hx hb dX7_digest_18 (by decide) ?_
  refine lv_icmp_ge (tgt := 35) hx hb dX7_digest_19 (by decide) (fun hc => ?_) (fun hc => ?_)
  · rw [if_pos hc] at hf
    exact kE x1 σ (Option.some.inj hf).symm _ _ _ hw (lv_sub hl [0, 1] rfl)
  · rw [if_neg hc] at hf
    refine lv_aload_n hx hb dX7_digest_22 rfl (lv_at hl 0 rfl) ?_
    refine lv_lload_n hx hb dX7_digest_23 rfl (lv_at hl 1 rfl) ?_
    refine lv_iload_n hx hb dX7_digest_24 rfl (lv_at hl 2 rfl) ?_
    obtain ⟨ho, hf⟩ := chk_inv hf
    obtain ⟨r4, σ3, hk, hf⟩ := bnd_inv hf
    refine z_callV (As := [.long x1, .int x3]) (rest := []) (m_X7_sumsSlot hC.2.2.2.2.2.2.2.2 hk) hC hw wd_X7_sumsSlot lkM_X7_312 (isO_sh ho) rfl rfl ⟨rfl, rfl⟩ ⟨(Nat.le_of_ble_eq_true rfl), (Nat.le_of_ble_eq_true rfl)⟩ hl.1 rfl (Nat.le_of_ble_eq_true rfl) dX7_digest_25 ⟨(Nat.le_of_ble_eq_true rfl), (Nat.le_of_ble_eq_true rfl)⟩ (fun H locs hw => ?_)
    refine lv_lstore_n (lv' := [(1, .long r4), (0, .ref x0), (3, .int x3)]) hx hb dX7_digest_28 rfl hl (Nat.le_of_ble_eq_true rfl) rfl (fun ls hl => ?_)
    refine lv_iinc (v := (x3 + 1)) (lv' := [(3, .int (x3 + 1)), (1, .long r4), (0, .ref x0)]) hx hb dX7_digest_29 hl (k := 2) rfl rfl (Nat.le_of_ble_eq_true rfl) rfl (fun ls hl => ?_)
    refine lv_goto (tgt := 17) hx hb dX7_digest_32 (by decide) ?_
    exact kI r4 (x3 + 1) σ3 (Option.some.inj hf).symm _ _ _ hw (lv_sub hl [2, 1, 0] rfl)
set_option maxHeartbeats 4000000 in
theorem l_X7_digest_B17 (hC : zC p l s m args meth c cX7_digest 4 RX7 D cA B0) (hr : meth.sig.returnType = (Option.some FieldType.long)) {Γ : zSh} {x0 : Nat} {w1 : Int64} {σ2 : zSt} (kE : ∀ (H : Heap) (locs : List Loc) (ls : Array Slot), zO D cA B0 Γ σ2 Z s.heap H locs → lv_has ls 4 [(0, .ref x0), (1, .long w1)] → W p l e rm_X7_digest s m args below meth c H locs 0 0 Q (F0 m 35 ls [])) :
    ∀ (n : Nat) (x1 : Int64) (x3 : Int32) (σ : zSt), loopM (fun q => f_X7_digest_B17 Γ x0 q.1 q.2.1 q.2.2) n (x1, x3, σ) = some (w1, σ2) → ∀ (H : Heap) (locs : List Loc) (ls : Array Slot), zO D cA B0 Γ σ Z s.heap H locs → lv_has ls 4 [(0, .ref x0), (1, .long x1), (3, .int x3)] → W p l e rm_X7_digest s m args below meth c H locs 0 0 Q (F0 m 17 ls []) := by
  intro n
  induction n with
  | zero => intro x1 x3 σ h; exact absurd h (by simp [loopM])
  | succ n ih =>
    intro x1 x3 σ h H locs ls hw hl
    obtain ⟨r, h1, h2, h3⟩ := loopM_inv h
    exact t_X7_digest_B17 hC hr h1 hw hl (fun z1 z3 s2 e H locs ls hw hl => ih z1 z3 s2 (h2 _ e) H locs ls hw hl) (fun z1 s2 e H locs ls hw hl => by cases h3 _ e; exact kE H locs ls hw hl)
set_option maxHeartbeats 4000000 in
set_option maxRecDepth 100000 in
theorem m_X7_digest (h9 : l.stackTraces = false) {Γ : zSh} {a0 : Nat} {σ : zSt} {r : Int64} {σ2 : zSt} (hf : f_X7_digest Γ a0 σ = some (r, σ2)) : Met l yX7_digest (wq yX7_digest cX7_digest 4 (Option.some FieldType.long)) rm_X7_digest (zQ0 D cA B0 [.ref a0] Γ σ Z) (zQ1 D cA B0 (some (.long r)) Γ σ2 Z) 0 0 (FR B0) := by
  refine z_ofW h9 (by decide) (Nat.le_of_ble_eq_true rfl) ?_
  intro p e s m args below meth c ls hC hr _ hw hl
  have hx := hC.1
  have hb := hC.2.1
  have hl : lv_has ls 4 [(0, .ref a0)] := hl
  unfold f_X7_digest at hf
  refine lv_aload_n hx hb dX7_digest_0 rfl (lv_at hl 0 rfl) ?_
  refine lv_iconst (v := 0) hx hb dX7_digest_1 (by decide) ?_
  obtain ⟨σ1, hg, hf⟩ := pfI_inv hf
  refine r_pfI hC hw hg clX7 (Nat.le_of_ble_eq_true rfl) lkF_X7_59 rfl rfl rfl dX7_digest_2 (fun H locs hw => ?_)
  refine lv_ldc2 (v := 93589) hx hb hC.2.2.2.1 (hC.2.2.2.2.1 _ lkJ_X7_310) dX7_digest_5 ?_
  refine lv_aload_n hx hb dX7_digest_8 rfl (lv_at hl 0 rfl) ?_
  obtain ⟨v2, hg, hf⟩ := gfI_inv hf
  refine r_gfI hC hw hg clX7 (Nat.le_of_ble_eq_true rfl) lkF_X7_259 rfl dX7_digest_9 ?_
  refine lv_i2l hx hb dX7_digest_12 rfl ?_
  refine lv_ladd hx hb dX7_digest_13 ?_
  refine lv_lstore_n (lv' := [(1, .long (93589 + (v2.toInt64))), (0, .ref a0)]) hx hb dX7_digest_14 rfl hl (Nat.le_of_ble_eq_true rfl) rfl (fun ls hl => ?_)
  refine lv_iconst (v := 0) hx hb dX7_digest_15 (by decide) ?_
  refine lv_istore_n (lv' := [(3, .int 0), (1, .long (93589 + (v2.toInt64))), (0, .ref a0)]) hx hb dX7_digest_16 rfl hl (Nat.le_of_ble_eq_true rfl) rfl (fun ls hl => ?_)
  obtain ⟨w6, σ5, hk, hf⟩ := lb1_inv hf
  refine l_X7_digest_B17 hC hr (fun H locs ls hw hl => ?_) FUEL (93589 + (v2.toInt64)) 0 σ1 hk _ _ _ hw (lv_sub hl [2, 1, 0] rfl)
  refine lv_ldc2 (v := 31) hx hb hC.2.2.2.1 (hC.2.2.2.2.1 _ lkJ_X7_248) dX7_digest_35 ?_
  refine lv_lload_n hx hb dX7_digest_38 rfl (lv_at hl 1 rfl) ?_
  refine lv_lmul hx hb dX7_digest_39 ?_
  refine lv_aload_n hx hb dX7_digest_40 rfl (lv_at hl 0 rfl) ?_
  obtain ⟨v7, hg, hf⟩ := gfI_inv hf
  refine r_gfI hC hw hg clX7 (Nat.le_of_ble_eq_true rfl) lkF_X7_63 rfl dX7_digest_41 ?_
  refine lv_i2l hx hb dX7_digest_44 rfl ?_
  refine lv_ladd hx hb dX7_digest_45 ?_
  first | (obtain ⟨rfl, rfl⟩ := sp_inv hf) | (obtain rfl := Option.some.inj hf)
  exact W.lret hx hb hr (z_ret hw rfl) hw.2.2.2.2.2 dX7_digest_46 hC.2.2.2.2.2.1
end
