section
variable {p : Program} {l : Launch} {e : Env} {s : State} {m : MethodId} {args : Array Value} {below : List Frame} {meth : Method} {c : Code} {Q : State → Prop} {D : va_G} {cA : Nat → ClassId} {B0 : Nat} {Z : Nat → Prop}
set_option maxHeartbeats 4000000 in
set_option maxRecDepth 100000 in
theorem t_X6_dropOldest_B9 (hC : zC p l s m args meth c cX6_dropOldest 3 RX6 D cA B0) (hr : meth.sig.returnType = (Option.none : Option Jvm.ClassFile.FieldType)) {Γ : zSh} {x0 : Nat} {x1 : Nat} {x2 : Int32} {σ : zSt} {out : ((Int32 × zSt) ⊕ (zSt))} (hf : f_X6_dropOldest_B9 Γ x0 x1 x2 σ = some out) {H : Heap} {locs : List Loc} {ls : Array Slot} (hw : zO D cA B0 Γ σ Z s.heap H locs) (hl : lv_has ls 3 [(0, .ref x0), (1, .ref x1), (2, .int x2)])
    (kI : ∀ (z2 : Int32) (σ2 : zSt), out = .inl (z2, σ2) → ∀ (H : Heap) (locs : List Loc) (ls : Array Slot), zO D cA B0 Γ σ2 Z s.heap H locs → lv_has ls 3 [(0, .ref x0), (1, .ref x1), (2, .int z2)] → W p l e rm_X6_dropOldest s m args below meth c H locs 0 0 Q (F0 m 9 ls []))
    (kE : ∀ (σ2 : zSt), out = .inr σ2 → ∀ (H : Heap) (locs : List Loc) (ls : Array Slot), zO D cA B0 Γ σ2 Z s.heap H locs → lv_has ls 3 [(0, .ref x0), (1, .ref x1)] → W p l e rm_X6_dropOldest s m args below meth c H locs 0 0 Q (F0 m 48 ls [])) :
    W p l e rm_X6_dropOldest s m args below meth c H locs 0 0 Q (F0 m 9 ls []) := by
  have hx := hC.1
  have hb := hC.2.1
  unfold f_X6_dropOldest_B9 at hf
  refine lv_iload_n hx hb dX6_dropOldest_9 rfl (lv_at hl 2 rfl) ?_
  refine lv_iconst (v := 4) hx hb dX6_dropOldest_10 (by decide) ?_
  refine lv_icmp_ge (tgt := 48) hx hb dX6_dropOldest_11 (by decide) (fun hc => ?_) (fun hc => ?_)
  · rw [if_pos hc] at hf
    exact kE  σ (Option.some.inj hf).symm _ _ _ hw (lv_sub hl [0, 1] rfl)
  · rw [if_neg hc] at hf
    refine lv_aload_n hx hb dX6_dropOldest_14 rfl (lv_at hl 0 rfl) ?_
    obtain ⟨v3, hg, hf⟩ := gfR_inv hf
    refine r_gfR hC hw hg clX6 (Nat.le_of_ble_eq_true rfl) lkF_X6_17 rfl dX6_dropOldest_15 ?_
    refine lv_iload_n hx hb dX6_dropOldest_18 rfl (lv_at hl 2 rfl) ?_
    refine lv_iconst (v := 1) hx hb dX6_dropOldest_19 (by decide) ?_
    refine lv_isub hx hb dX6_dropOldest_20 ?_
    refine lv_aload_n hx hb dX6_dropOldest_21 rfl (lv_at hl 0 rfl) ?_
    obtain ⟨v4, hg, hf⟩ := gfR_inv hf
    refine r_gfR hC hw hg clX6 (Nat.le_of_ble_eq_true rfl) lkF_X6_17 rfl dX6_dropOldest_22 ?_
    refine lv_iload_n hx hb dX6_dropOldest_25 rfl (lv_at hl 2 rfl) ?_
    obtain ⟨v5, hg, hf⟩ := ldA_inv hf
    refine r_ldA hC hw hg dX6_dropOldest_26 ?_
    obtain ⟨hz, hf⟩ := chk_inv hf
    obtain ⟨σ6, hg, hf⟩ := stA_inv hf
    refine r_stA hC hw (of_decide_eq_true hz) hg dX6_dropOldest_27 (fun H locs hw => ?_)
    refine lv_aload_n hx hb dX6_dropOldest_28 rfl (lv_at hl 0 rfl) ?_
    obtain ⟨v7, hg, hf⟩ := gfR_inv hf
    refine r_gfR hC hw hg clX6 (Nat.le_of_ble_eq_true rfl) lkF_X6_20 rfl dX6_dropOldest_29 ?_
    refine lv_iload_n hx hb dX6_dropOldest_32 rfl (lv_at hl 2 rfl) ?_
    refine lv_iconst (v := 1) hx hb dX6_dropOldest_33 (by decide) ?_
    refine lv_isub hx hb dX6_dropOldest_34 ?_
    refine lv_aload_n hx hb dX6_dropOldest_35 rfl (lv_at hl 0 rfl) ?_
    obtain ⟨v8, hg, hf⟩ := gfR_inv hf
    refine r_gfR hC hw hg clX6 (Nat.le_of_ble_eq_true rfl) lkF_X6_20 rfl dX6_dropOldest_36 ?_
    refine lv_iload_n hx hb dX6_dropOldest_39 rfl (lv_at hl 2 rfl) ?_
    obtain ⟨v9, hg, hf⟩ := ldI_inv hf
    refine r_ldI hC hw hg dX6_dropOldest_40 ?_
    obtain ⟨σ10, hg, hf⟩ := stI_inv hf
    refine r_stI hC hw hg dX6_dropOldest_41 (fun H locs hw => ?_)
    refine lv_iinc (v := (x2 + 1)) (lv' := [(2, .int (x2 + 1)), (0, .ref x0), (1, .ref x1)]) hx hb dX6_dropOldest_42 hl (k := 2) rfl rfl (Nat.le_of_ble_eq_true rfl) rfl (fun ls hl => ?_)
    refine lv_goto (tgt := 9) hx hb dX6_dropOldest_45 (by decide) ?_
    exact kI (x2 + 1) σ10 (Option.some.inj hf).symm _ _ _ hw (lv_sub hl [1, 2, 0] rfl)
set_option maxHeartbeats 4000000 in
theorem l_X6_dropOldest_B9 (hC : zC p l s m args meth c cX6_dropOldest 3 RX6 D cA B0) (hr : meth.sig.returnType = (Option.none : Option Jvm.ClassFile.FieldType)) {Γ : zSh} {x0 : Nat} {x1 : Nat} {σ2 : zSt} (kE : ∀ (H : Heap) (locs : List Loc) (ls : Array Slot), zO D cA B0 Γ σ2 Z s.heap H locs → lv_has ls 3 [(0, .ref x0), (1, .ref x1)] → W p l e rm_X6_dropOldest s m args below meth c H locs 0 0 Q (F0 m 48 ls [])) :
    ∀ (n : Nat) (x2 : Int32) (σ : zSt), loopM (fun q => f_X6_dropOldest_B9 Γ x0 x1 q.1 q.2) n (x2, σ) = some σ2 → ∀ (H : Heap) (locs : List Loc) (ls : Array Slot), zO D cA B0 Γ σ Z s.heap H locs → lv_has ls 3 [(0, .ref x0), (1, .ref x1), (2, .int x2)] → W p l e rm_X6_dropOldest s m args below meth c H locs 0 0 Q (F0 m 9 ls []) := by
  intro n
  induction n with
  | zero => intro x2 σ h; exact absurd h (by simp [loopM])
  | succ n ih =>
    intro x2 σ h H locs ls hw hl
    obtain ⟨r, h1, h2, h3⟩ := loopM_inv h
    exact t_X6_dropOldest_B9 hC hr h1 hw hl (fun z2 s2 e H locs ls hw hl => ih z2 s2 (h2 _ e) H locs ls hw hl) (fun s2 e H locs ls hw hl => by cases h3 _ e; exact kE H locs ls hw hl)
set_option maxHeartbeats 4000000 in
set_option maxRecDepth 100000 in
theorem m_X6_dropOldest (h9 : l.stackTraces = false) {Γ : zSh} {a0 : Nat} {σ : zSt} {r : Unit} {σ2 : zSt} (hf : f_X6_dropOldest Γ a0 σ = some (r, σ2)) : Met l yX6_dropOldest (wq yX6_dropOldest cX6_dropOldest 3 (Option.none : Option Jvm.ClassFile.FieldType)) rm_X6_dropOldest (zQ0 D cA B0 [.ref a0] Γ σ Z) (zQ1 D cA B0 (none) Γ σ2 Z) 0 0 (FR B0) := by
  refine z_ofW h9 (by decide) (Nat.le_of_ble_eq_true rfl) ?_
  intro p e s m args below meth c ls hC hr _ hw hl
  have hx := hC.1
  have hb := hC.2.1
  have hl : lv_has ls 3 [(0, .ref a0)] := hl
  unfold f_X6_dropOldest at hf
  refine lv_aload_n hx hb dX6_dropOldest_0 rfl (lv_at hl 0 rfl) ?_
  obtain ⟨v1, hg, hf⟩ := gfR_inv hf
  refine r_gfR hC hw hg clX6 (Nat.le_of_ble_eq_true rfl) lkF_X6_17 rfl dX6_dropOldest_1 ?_
  refine lv_iconst (v := 0) hx hb dX6_dropOldest_4 (by decide) ?_
  obtain ⟨v2, hg, hf⟩ := ldA_inv hf
  refine r_ldA hC hw hg dX6_dropOldest_5 ?_
  refine lv_astore_n (lv' := [(1, .ref v2), (0, .ref a0)]) hx hb dX6_dropOldest_6 rfl hl (Nat.le_of_ble_eq_true rfl) rfl (fun ls hl => ?_)
  refine lv_iconst (v := 1) hx hb dX6_dropOldest_7 (by decide) ?_
  refine lv_istore_n (lv' := [(2, .int 1), (1, .ref v2), (0, .ref a0)]) hx hb dX6_dropOldest_8 rfl hl (Nat.le_of_ble_eq_true rfl) rfl (fun ls hl => ?_)
  obtain ⟨σ11, hk, hf⟩ := lb0_inv hf
  refine l_X6_dropOldest_B9 hC hr (fun H locs ls hw hl => ?_) FUEL 1 σ hk _ _ _ hw (lv_sub hl [2, 1, 0] rfl)
  refine lv_aload_n hx hb dX6_dropOldest_48 rfl (lv_at hl 0 rfl) ?_
  obtain ⟨v12, hg, hf⟩ := gfR_inv hf
  refine r_gfR hC hw hg clX6 (Nat.le_of_ble_eq_true rfl) lkF_X6_17 rfl dX6_dropOldest_49 ?_
  refine lv_iconst (v := 3) hx hb dX6_dropOldest_52 (by decide) ?_
  refine lv_aload_n hx hb dX6_dropOldest_53 rfl (lv_at hl 1 rfl) ?_
  obtain ⟨hz, hf⟩ := chk_inv hf
  obtain ⟨σ13, hg, hf⟩ := stA_inv hf
  refine r_stA hC hw (of_decide_eq_true hz) hg dX6_dropOldest_54 (fun H locs hw => ?_)
  refine lv_aload_n hx hb dX6_dropOldest_55 rfl (lv_at hl 0 rfl) ?_
  refine lv_iconst (v := 3) hx hb dX6_dropOldest_56 (by decide) ?_
  obtain ⟨σ14, hg, hf⟩ := pfI_inv hf
  refine r_pfI hC hw hg clX6 (Nat.le_of_ble_eq_true rfl) lkF_X6_24 rfl rfl rfl dX6_dropOldest_57 (fun H locs hw => ?_)
  first | (obtain ⟨rfl, rfl⟩ := sp_inv hf) | (obtain rfl := Option.some.inj hf)
  exact W.vret hx hb hr (z_ret hw rfl) hw.2.2.2.2.2 dX6_dropOldest_60 hC.2.2.2.2.2.1
set_option maxHeartbeats 4000000 in
set_option maxRecDepth 100000 in
theorem t_X6_save_L12 (hC : zC p l s m args meth c cX6_save 2 RX6 D cA B0) (hr : meth.sig.returnType = (Option.none : Option Jvm.ClassFile.FieldType)) {Γ : zSh} {x0 : Nat} {x1 : Int32} {σ : zSt} {out : (Unit × zSt)} (hf : f_X6_save_L12 Γ x0 x1 σ = some out) {H : Heap} {locs : List Loc} {ls : Array Slot} (hw : zO D cA B0 Γ σ Z s.heap H locs) (hl : lv_has ls 2 [(0, .ref x0), (1, .int x1)]) :
    W p l e rm_X6_save s m args below meth c H locs 0 0 (MQ below (zQ1 D cA B0 (none) Γ out.2 Z) args s 0 0 (FR B0)) (F0 m 12 ls []) := by
  have hx := hC.1
  have hb := hC.2.1
  unfold f_X6_save_L12 at hf
  refine lv_aload_n hx hb dX6_save_12 rfl (lv_at hl 0 rfl) ?_
  obtain ⟨v2, hg, hf⟩ := gfR_inv hf
  refine r_gfR hC hw hg clX6 (Nat.le_of_ble_eq_true rfl) lkF_X6_20 rfl dX6_save_13 ?_
  refine lv_aload_n hx hb dX6_save_16 rfl (lv_at hl 0 rfl) ?_
  obtain ⟨v3, hg, hf⟩ := gfI_inv hf
  refine r_gfI hC hw hg clX6 (Nat.le_of_ble_eq_true rfl) lkF_X6_24 rfl dX6_save_17 ?_
  refine lv_iload_n hx hb dX6_save_20 rfl (lv_at hl 1 rfl) ?_
  obtain ⟨σ4, hg, hf⟩ := stI_inv hf
  refine r_stI hC hw hg dX6_save_21 (fun H locs hw => ?_)
  refine lv_aload_n hx hb dX6_save_22 rfl (lv_at hl 0 rfl) ?_
  obtain ⟨v5, hg, hf⟩ := gfR_inv hf
  refine r_gfR hC hw hg clX6 (Nat.le_of_ble_eq_true rfl) lkF_X6_17 rfl dX6_save_23 ?_
  refine lv_aload_n hx hb dX6_save_26 rfl (lv_at hl 0 rfl) ?_
  obtain ⟨v6, hg, hf⟩ := gfI_inv hf
  refine r_gfI hC hw hg clX6 (Nat.le_of_ble_eq_true rfl) lkF_X6_24 rfl dX6_save_27 ?_
  obtain ⟨v7, hg, hf⟩ := ldA_inv hf
  refine r_ldA hC hw hg dX6_save_30 ?_
  refine lv_aload_n hx hb dX6_save_31 rfl (lv_at hl 0 rfl) ?_
  obtain ⟨v8, hg, hf⟩ := gfR_inv hf
  refine r_gfR hC hw hg clX6 (Nat.le_of_ble_eq_true rfl) lkF_X6_13 rfl dX6_save_32 ?_
  refine lv_iload_n hx hb dX6_save_35 rfl (lv_at hl 1 rfl) ?_
  obtain ⟨v9, hg, hf⟩ := ldA_inv hf
  refine r_ldA hC hw hg dX6_save_36 ?_
  obtain ⟨ho, hf⟩ := chk_inv hf
  obtain ⟨_, σ10, hk, hf⟩ := bnd_inv hf
  refine z_callV (As := [.ref v9]) (rest := []) (m_X0_copyFrom hC.2.2.2.2.2.2.2.2 hk) hC hw wd_X0_copyFrom lkM_X6_172 (isO_sh ho) rfl rfl ⟨rfl, rfl⟩ ⟨(Nat.le_of_ble_eq_true rfl), (Nat.le_of_ble_eq_true rfl)⟩ hl.1 rfl (Nat.le_of_ble_eq_true rfl) dX6_save_37 ⟨(Nat.le_of_ble_eq_true rfl), (Nat.le_of_ble_eq_true rfl)⟩ (fun H locs hw => ?_)
  refine lv_aload_n hx hb dX6_save_40 rfl (lv_at hl 0 rfl) ?_
  refine lv_dup hx hb dX6_save_41 rfl ?_
  obtain ⟨v11, hg, hf⟩ := gfI_inv hf
  refine r_gfI hC hw hg clX6 (Nat.le_of_ble_eq_true rfl) lkF_X6_24 rfl dX6_save_42 ?_
  refine lv_iconst (v := 1) hx hb dX6_save_45 (by decide) ?_
  refine lv_iadd hx hb dX6_save_46 ?_
  obtain ⟨σ12, hg, hf⟩ := pfI_inv hf
  refine r_pfI hC hw hg clX6 (Nat.le_of_ble_eq_true rfl) lkF_X6_24 rfl rfl rfl dX6_save_47 (fun H locs hw => ?_)
  first | (obtain ⟨rfl, rfl⟩ := sp_inv hf) | (obtain rfl := Option.some.inj hf)
  exact W.vret hx hb hr (z_ret hw rfl) hw.2.2.2.2.2 dX6_save_50 hC.2.2.2.2.2.1
set_option maxHeartbeats 4000000 in
set_option maxRecDepth 100000 in
theorem m_X6_save (h9 : l.stackTraces = false) {Γ : zSh} {a0 : Nat} {a1 : Int32} {σ : zSt} {r : Unit} {σ2 : zSt} (hf : f_X6_save Γ a0 a1 σ = some (r, σ2)) : Met l yX6_save (wq yX6_save cX6_save 2 (Option.none : Option Jvm.ClassFile.FieldType)) rm_X6_save (zQ0 D cA B0 [.ref a0, .int a1] Γ σ Z) (zQ1 D cA B0 (none) Γ σ2 Z) 0 0 (FR B0) := by
  refine z_ofW h9 (by decide) (Nat.le_of_ble_eq_true rfl) ?_
  intro p e s m args below meth c ls hC hr _ hw hl
  have hx := hC.1
  have hb := hC.2.1
  have hl : lv_has ls 2 [(0, .ref a0), (1, .int a1)] := hl
  unfold f_X6_save at hf
  refine lv_aload_n hx hb dX6_save_0 rfl (lv_at hl 0 rfl) ?_
  obtain ⟨v1, hg, hf⟩ := gfI_inv hf
  refine r_gfI hC hw hg clX6 (Nat.le_of_ble_eq_true rfl) lkF_X6_24 rfl dX6_save_1 ?_
  refine lv_iconst (v := 4) hx hb dX6_save_4 (by decide) ?_
  refine lv_icmp_lt (tgt := 12) hx hb dX6_save_5 (by decide) (fun hc => ?_) (fun hc => ?_)
  · rw [if_pos hc] at hf
    exact t_X6_save_L12 hC hr hf hw (lv_sub hl [0, 1] rfl)
  · rw [if_neg hc] at hf
    refine lv_aload_n hx hb dX6_save_8 rfl (lv_at hl 0 rfl) ?_
    obtain ⟨ho, hf⟩ := chk_inv hf
    obtain ⟨_, σ13, hk, hf⟩ := bnd_inv hf
    refine z_callV (As := []) (rest := []) (m_X6_dropOldest hC.2.2.2.2.2.2.2.2 hk) hC hw wd_X6_dropOldest lkM_X6_272 (isO_sh ho) rfl rfl ⟨rfl, rfl⟩ ⟨(Nat.le_of_ble_eq_true rfl), (Nat.le_of_ble_eq_true rfl)⟩ hl.1 rfl (Nat.le_of_ble_eq_true rfl) dX6_save_9 ⟨(Nat.le_of_ble_eq_true rfl), (Nat.le_of_ble_eq_true rfl)⟩ (fun H locs hw => ?_)
    exact t_X6_save_L12 hC hr hf hw (lv_sub hl [0, 1] rfl)
set_option maxHeartbeats 4000000 in
set_option maxRecDepth 100000 in
theorem m_X6_begin (h9 : l.stackTraces = false) {Γ : zSh} {a0 : Nat} {a1 : Int32} {a2 : Int32} {σ : zSt} {out : ((Int32 × zSt) ⊕ (Nat × zSt))} (hf : f_X6_begin Γ a0 a1 a2 σ = some out) : vx_Met l yX6_begin (wq yX6_begin cX6_begin 5 (Option.some FieldType.int)) rm_X6_begin (zQ0 D cA B0 [.ref a0, .int a1, .int a2] Γ σ (ZB B0)) (zQx D cA B0 (fun r : Int32 => some (.int r)) Γ out (ZB B0)) (zXx D cA B0 Γ out (ZB B0)) 2 12 (FR B0) := by
  refine z_ofX h9 (by decide) (Nat.le_of_ble_eq_true rfl) ?_
  intro p e s m args below meth c ls hC hr htab hw hl
  have hx := hC.1
  have hb := hC.2.1
  have hl : lv_has ls 5 [(0, .ref a0), (1, .int a1), (2, .int a2)] := hl
  unfold f_X6_begin at hf
  refine lv_iload_n hx hb dX6_begin_0 rfl (lv_at hl 1 rfl) ?_
  obtain ⟨q, hk, hn, hxx⟩ := xbnd_inv hf
  refine z_xcallS (As := [.int a1]) (rest := []) (m_X6_checkSlot hC.2.2.2.2.2.2.2.2 hk) hC hw wd_X6_checkSlot lkM_X6_78 rfl ⟨rfl, rfl⟩ ⟨(Nat.le_of_ble_eq_true rfl), (Nat.le_of_ble_eq_true rfl)⟩ hl.1 rfl (Nat.le_of_ble_eq_true rfl) dX6_begin_1 ⟨(Nat.le_of_ble_eq_true rfl), (Nat.le_of_ble_eq_true rfl)⟩ (fun u9 σ1 eq H locs hw => ?_) (fun k9 s9 eq H locs q9 ce9 hw e1 e2 e3 => z_xout hC hw (hxx _ _ eq) htab e1 e2 e3 (Nat.le_of_ble_eq_true rfl) (Nat.le_of_ble_eq_true rfl))
  have hf := hn _ _ eq
  refine lv_iload_n hx hb dX6_begin_4 rfl (lv_at hl 2 rfl) ?_
  refine lv_iconst (v := 0) hx hb dX6_begin_5 (by decide) ?_
  refine lv_bipush (v := 12) hx hb dX6_begin_6 (by decide) ?_
  obtain ⟨q, hk, hn, hxx⟩ := xbnd_inv hf
  refine z_xcallS (As := [.int a2, .int 0, .int 12]) (rest := []) (m_X6_checkRange hC.2.2.2.2.2.2.2.2 hk) hC hw wd_X6_checkRange lkM_X6_81 rfl ⟨rfl, rfl⟩ ⟨(Nat.le_of_ble_eq_true rfl), (Nat.le_of_ble_eq_true rfl)⟩ hl.1 rfl (Nat.le_of_ble_eq_true rfl) dX6_begin_8 ⟨(Nat.le_of_ble_eq_true rfl), (Nat.le_of_ble_eq_true rfl)⟩ (fun u9 σ2 eq H locs hw => ?_) (fun k9 s9 eq H locs q9 ce9 hw e1 e2 e3 => z_xout hC hw (hxx _ _ eq) htab e1 e2 e3 (Nat.le_of_ble_eq_true rfl) (Nat.le_of_ble_eq_true rfl))
  have hf := hn _ _ eq
  refine lv_aload_n hx hb dX6_begin_11 rfl (lv_at hl 0 rfl) ?_
  obtain ⟨v3, hg, hf⟩ := gfR_inv hf
  refine r_gfR hC hw hg clX6 (Nat.le_of_ble_eq_true rfl) lkF_X6_13 rfl dX6_begin_12 ?_
  refine lv_iload_n hx hb dX6_begin_15 rfl (lv_at hl 1 rfl) ?_
  obtain ⟨v4, hg, hf⟩ := ldA_inv hf
  refine r_ldA hC hw hg dX6_begin_16 ?_
  refine lv_astore_n (lv' := [(3, .ref v4), (0, .ref a0), (1, .int a1), (2, .int a2)]) hx hb dX6_begin_17 rfl hl (Nat.le_of_ble_eq_true rfl) rfl (fun ls hl => ?_)
  refine lv_aload_n hx hb dX6_begin_18 rfl (lv_at hl 0 rfl) ?_
  obtain ⟨v5, hg, hf⟩ := gfI_inv hf
  refine r_gfI hC hw hg clX0 (Nat.le_of_ble_eq_true rfl) lkF_X6_85 rfl dX6_begin_19 ?_
  refine lv_istore (lv' := [(4, .int v5), (3, .ref v4), (0, .ref a0), (1, .int a1), (2, .int a2)]) hx hb dX6_begin_22 hl (Nat.le_of_ble_eq_true rfl) rfl (fun ls hl => ?_)
  refine lv_aload_n hx hb dX6_begin_24 rfl (lv_at hl 2 rfl) ?_
  refine lv_iload_n hx hb dX6_begin_25 rfl (lv_at hl 3 rfl) ?_
  obtain ⟨ho, hf⟩ := chk_inv hf
  obtain ⟨_, σ6, hk, hf⟩ := bnd_inv hf
  refine z_callV (As := [.int a1]) (rest := []) (m_X6_save hC.2.2.2.2.2.2.2.2 hk) hC hw wd_X6_save lkM_X6_88 (isO_sh ho) rfl rfl ⟨rfl, rfl⟩ ⟨(Nat.le_of_ble_eq_true rfl), (Nat.le_of_ble_eq_true rfl)⟩ hl.1 rfl (Nat.le_of_ble_eq_true rfl) dX6_begin_26 ⟨(Nat.le_of_ble_eq_true rfl), (Nat.le_of_ble_eq_true rfl)⟩ (fun H locs hw => ?_)
  refine lv_aload_n hx hb dX6_begin_29 rfl (lv_at hl 1 rfl) ?_
  refine lv_iload_n hx hb dX6_begin_30 rfl (lv_at hl 4 rfl) ?_
  obtain ⟨ho, hf⟩ := chk_inv hf
  obtain ⟨_, σ7, hk, hf⟩ := bnd_inv hf
  refine z_callV (As := [.int a2]) (rest := []) (m_X0_clear hC.2.2.2.2.2.2.2.2 hk) hC hw wd_X0_clear lkM_X6_91 (isO_sh ho) rfl rfl ⟨rfl, rfl⟩ ⟨(Nat.le_of_ble_eq_true rfl), (Nat.le_of_ble_eq_true rfl)⟩ hl.1 rfl (Nat.le_of_ble_eq_true rfl) dX6_begin_31 ⟨(Nat.le_of_ble_eq_true rfl), (Nat.le_of_ble_eq_true rfl)⟩ (fun H locs hw => ?_)
  refine lv_iload hx hb dX6_begin_34 (lv_at hl 0 rfl) ?_
  refine vx_ret ?_
  refine W.widen (k := 2) (n := 12) (Nat.le_of_ble_eq_true rfl) (Nat.le_of_ble_eq_true rfl) ?_
  exact W.iret hx hb hr (z_retx hw (Option.some.inj hf).symm rfl) hw.2.2.2.2.2 dX6_begin_36 hC.2.2.2.2.2.1
set_option maxHeartbeats 4000000 in
set_option maxRecDepth 100000 in
theorem t_X6_checkState_L17 (hC : zC p l s m args meth c cX6_checkState 3 RX6 D cA B0) (hr : meth.sig.returnType = (Option.none : Option Jvm.ClassFile.FieldType)) (htab : ∀ x ∈ c.exceptionTable.toList, False) {Γ : zSh}  {σ : zSt} {out : ((Unit × zSt) ⊕ (Nat × zSt))} (hf : f_X6_checkState_L17 Γ  σ = some out) {H : Heap} {locs : List Loc} {ls : Array Slot} (hw : zO D cA B0 Γ σ (ZB B0) s.heap H locs) (hl : lv_has ls 3 []) :
    W p l e rm_X6_checkState s m args below meth c H locs 0 0 (vx_MQ below (zQx D cA B0 (fun r : Unit => none) Γ out (ZB B0)) (zXx D cA B0 Γ out (ZB B0)) args s 1 6 (FR B0)) (F0 m 17 ls []) := by
  have hx := hC.1
  have hb := hC.2.1
  unfold f_X6_checkState_L17 at hf
  exact z_throwSW (k := 0) hC hw zB_up (Option.some.inj hf).symm htab zt_204_208_0 zstr_263 hl.1 dX6_checkState_17 dX6_checkState_20 dX6_checkState_21 dX6_checkState_24 dX6_checkState_27 (Nat.le_of_ble_eq_true rfl) (Nat.le_of_ble_eq_true rfl) (Nat.le_of_ble_eq_true rfl) (Nat.le_of_ble_eq_true rfl) (Nat.le_of_ble_eq_true rfl) (Nat.le_of_ble_eq_true rfl)
set_option maxHeartbeats 4000000 in
set_option maxRecDepth 100000 in
theorem m_X6_checkState (h9 : l.stackTraces = false) {Γ : zSh} {a0 : Nat} {a1 : Int32} {a2 : Int32} {σ : zSt} {out : ((Unit × zSt) ⊕ (Nat × zSt))} (hf : f_X6_checkState Γ a0 a1 a2 σ = some out) : vx_Met l yX6_checkState (wq yX6_checkState cX6_checkState 3 (Option.none : Option Jvm.ClassFile.FieldType)) rm_X6_checkState (zQ0 D cA B0 [.ref a0, .int a1, .int a2] Γ σ (ZB B0)) (zQx D cA B0 (fun r : Unit => none) Γ out (ZB B0)) (zXx D cA B0 Γ out (ZB B0)) 1 6 (FR B0) := by
  refine z_ofX h9 (by decide) (Nat.le_of_ble_eq_true rfl) ?_
  intro p e s m args below meth c ls hC hr htab hw hl
  have hx := hC.1
  have hb := hC.2.1
  have hl : lv_has ls 3 [(0, .ref a0), (1, .int a1), (2, .int a2)] := hl
  unfold f_X6_checkState at hf
  refine lv_iload_n hx hb dX6_checkState_0 rfl (lv_at hl 2 rfl) ?_
  refine lv_if_lt (tgt := 17) hx hb dX6_checkState_1 (by decide) (fun hc => ?_) (fun hc => ?_)
  · rw [if_pos hc] at hf
    exact t_X6_checkState_L17 hC hr htab hf hw (lv_sub hl [] rfl)
  · rw [if_neg hc] at hf
    refine lv_iload_n hx hb dX6_checkState_4 rfl (lv_at hl 2 rfl) ?_
    refine lv_aload_n hx hb dX6_checkState_5 rfl (lv_at hl 0 rfl) ?_
    obtain ⟨v1, hg, hf⟩ := gfR_inv hf
    refine r_gfR hC hw hg clX6 (Nat.le_of_ble_eq_true rfl) lkF_X6_13 rfl dX6_checkState_6 ?_
    refine lv_iload_n hx hb dX6_checkState_9 rfl (lv_at hl 1 rfl) ?_
    obtain ⟨v2, hg, hf⟩ := ldA_inv hf
    refine r_ldA hC hw hg dX6_checkState_10 ?_
    obtain ⟨v3, hg, hf⟩ := gfI_inv hf
    refine r_gfI hC hw hg clX0 (Nat.le_of_ble_eq_true rfl) lkF_X6_85 rfl dX6_checkState_11 ?_
    refine lv_icmp_lt (tgt := 28) hx hb dX6_checkState_14 (by decide) (fun hc => ?_) (fun hc => ?_)
    · rw [if_pos hc] at hf
      refine vx_ret ?_
      refine W.widen (k := 1) (n := 6) (Nat.le_of_ble_eq_true rfl) (Nat.le_of_ble_eq_true rfl) ?_
      exact W.vret hx hb hr (z_retx hw (Option.some.inj hf).symm rfl) hw.2.2.2.2.2 dX6_checkState_28 hC.2.2.2.2.2.1
    · rw [if_neg hc] at hf
      exact t_X6_checkState_L17 hC hr htab hf hw (lv_sub hl [] rfl)
set_option maxHeartbeats 4000000 in
set_option maxRecDepth 100000 in
theorem m_X6_setEnd (h9 : l.stackTraces = false) {Γ : zSh} {a0 : Nat} {a1 : Int32} {a2 : Int32} {a3 : Int32} {a4 : Int32} {σ : zSt} {out : ((Int32 × zSt) ⊕ (Nat × zSt))} (hf : f_X6_setEnd Γ a0 a1 a2 a3 a4 σ = some out) : vx_Met l yX6_setEnd (wq yX6_setEnd cX6_setEnd 7 (Option.some FieldType.int)) rm_X6_setEnd (zQ0 D cA B0 [.ref a0, .int a1, .int a2, .int a3, .int a4] Γ σ (ZB B0)) (zQx D cA B0 (fun r : Int32 => some (.int r)) Γ out (ZB B0)) (zXx D cA B0 Γ out (ZB B0)) 3 18 (FR B0) := by
  refine z_ofX h9 (by decide) (Nat.le_of_ble_eq_true rfl) ?_
  intro p e s m args below meth c ls hC hr htab hw hl
  have hx := hC.1
  have hb := hC.2.1
  have hl : lv_has ls 7 [(0, .ref a0), (1, .int a1), (2, .int a2), (3, .int a3), (4, .int a4)] := hl
  unfold f_X6_setEnd at hf
  refine lv_iload_n hx hb dX6_setEnd_0 rfl (lv_at hl 1 rfl) ?_
  obtain ⟨q, hk, hn, hxx⟩ := xbnd_inv hf
  refine z_xcallS (As := [.int a1]) (rest := []) (m_X6_checkSlot hC.2.2.2.2.2.2.2.2 hk) hC hw wd_X6_checkSlot lkM_X6_78 rfl ⟨rfl, rfl⟩ ⟨(Nat.le_of_ble_eq_true rfl), (Nat.le_of_ble_eq_true rfl)⟩ hl.1 rfl (Nat.le_of_ble_eq_true rfl) dX6_setEnd_1 ⟨(Nat.le_of_ble_eq_true rfl), (Nat.le_of_ble_eq_true rfl)⟩ (fun u9 σ1 eq H locs hw => ?_) (fun k9 s9 eq H locs q9 ce9 hw e1 e2 e3 => z_xout hC hw (hxx _ _ eq) htab e1 e2 e3 (Nat.le_of_ble_eq_true rfl) (Nat.le_of_ble_eq_true rfl))
  have hf := hn _ _ eq
  refine lv_aload_n hx hb dX6_setEnd_4 rfl (lv_at hl 0 rfl) ?_
  refine lv_iload_n hx hb dX6_setEnd_5 rfl (lv_at hl 1 rfl) ?_
  refine lv_iload_n hx hb dX6_setEnd_6 rfl (lv_at hl 2 rfl) ?_
  obtain ⟨ho, hf⟩ := chk_inv hf
  obtain ⟨q, hk, hn, hxx⟩ := xbnd_inv hf
  refine z_xcallV (As := [.int a1, .int a2]) (rest := []) (m_X6_checkState hC.2.2.2.2.2.2.2.2 hk) hC hw wd_X6_checkState lkM_X6_94 (isO_sh ho) rfl rfl ⟨rfl, rfl⟩ ⟨(Nat.le_of_ble_eq_true rfl), (Nat.le_of_ble_eq_true rfl)⟩ hl.1 rfl (Nat.le_of_ble_eq_true rfl) dX6_setEnd_7 ⟨(Nat.le_of_ble_eq_true rfl), (Nat.le_of_ble_eq_true rfl)⟩ (fun u9 σ2 eq H locs hw => ?_) (fun k9 s9 eq H locs q9 ce9 hw e1 e2 e3 => z_xout hC hw (hxx _ _ eq) htab e1 e2 e3 (Nat.le_of_ble_eq_true rfl) (Nat.le_of_ble_eq_true rfl))
  have hf := hn _ _ eq
  refine lv_iload hx hb dX6_setEnd_10 (lv_at hl 4 rfl) ?_
  refine lv_iconst (v := 0) hx hb dX6_setEnd_12 (by decide) ?_
  refine lv_sipush (v := 10006) hx hb dX6_setEnd_13 (by decide) ?_
  obtain ⟨q, hk, hn, hxx⟩ := xbnd_inv hf
  refine z_xcallS (As := [.int a4, .int 0, .int 10006]) (rest := []) (m_X6_checkRange hC.2.2.2.2.2.2.2.2 hk) hC hw wd_X6_checkRange lkM_X6_81 rfl ⟨rfl, rfl⟩ ⟨(Nat.le_of_ble_eq_true rfl), (Nat.le_of_ble_eq_true rfl)⟩ hl.1 rfl (Nat.le_of_ble_eq_true rfl) dX6_setEnd_16 ⟨(Nat.le_of_ble_eq_true rfl), (Nat.le_of_ble_eq_true rfl)⟩ (fun u9 σ3 eq H locs hw => ?_) (fun k9 s9 eq H locs q9 ce9 hw e1 e2 e3 => z_xout hC hw (hxx _ _ eq) htab e1 e2 e3 (Nat.le_of_ble_eq_true rfl) (Nat.le_of_ble_eq_true rfl))
  have hf := hn _ _ eq
  refine lv_aload_n hx hb dX6_setEnd_19 rfl (lv_at hl 0 rfl) ?_
  obtain ⟨v4, hg, hf⟩ := gfR_inv hf
  refine r_gfR hC hw hg clX6 (Nat.le_of_ble_eq_true rfl) lkF_X6_13 rfl dX6_setEnd_20 ?_
  refine lv_iload_n hx hb dX6_setEnd_23 rfl (lv_at hl 1 rfl) ?_
  obtain ⟨v5, hg, hf⟩ := ldA_inv hf
  refine r_ldA hC hw hg dX6_setEnd_24 ?_
  refine lv_iload_n hx hb dX6_setEnd_25 rfl (lv_at hl 3 rfl) ?_
  obtain ⟨ho, hf⟩ := chk_inv hf
  obtain ⟨r7, σ6, hk, hf⟩ := bnd_inv hf
  refine z_callV (As := [.int a3]) (rest := []) (m_X0_ends hC.2.2.2.2.2.2.2.2 hk) hC hw wd_X0_ends lkM_X6_98 (isO_sh ho) rfl rfl ⟨rfl, rfl⟩ ⟨(Nat.le_of_ble_eq_true rfl), (Nat.le_of_ble_eq_true rfl)⟩ hl.1 rfl (Nat.le_of_ble_eq_true rfl) dX6_setEnd_26 ⟨(Nat.le_of_ble_eq_true rfl), (Nat.le_of_ble_eq_true rfl)⟩ (fun H locs hw => ?_)
  refine lv_astore (lv' := [(5, .ref r7), (0, .ref a0), (1, .int a1), (2, .int a2), (3, .int a3), (4, .int a4)]) hx hb dX6_setEnd_29 hl (Nat.le_of_ble_eq_true rfl) rfl (fun ls hl => ?_)
  refine lv_aload hx hb dX6_setEnd_31 (lv_at hl 0 rfl) ?_
  refine lv_iload_n hx hb dX6_setEnd_33 rfl (lv_at hl 3 rfl) ?_
  obtain ⟨v8, hg, hf⟩ := ldI_inv hf
  refine r_ldI hC hw hg dX6_setEnd_34 ?_
  refine lv_istore (lv' := [(6, .int v8), (5, .ref r7), (0, .ref a0), (1, .int a1), (2, .int a2), (3, .int a3), (4, .int a4)]) hx hb dX6_setEnd_35 hl (Nat.le_of_ble_eq_true rfl) rfl (fun ls hl => ?_)
  refine lv_aload_n hx hb dX6_setEnd_37 rfl (lv_at hl 2 rfl) ?_
  refine lv_iload_n hx hb dX6_setEnd_38 rfl (lv_at hl 3 rfl) ?_
  obtain ⟨ho, hf⟩ := chk_inv hf
  obtain ⟨_, σ9, hk, hf⟩ := bnd_inv hf
  refine z_callV (As := [.int a1]) (rest := []) (m_X6_save hC.2.2.2.2.2.2.2.2 hk) hC hw wd_X6_save lkM_X6_88 (isO_sh ho) rfl rfl ⟨rfl, rfl⟩ ⟨(Nat.le_of_ble_eq_true rfl), (Nat.le_of_ble_eq_true rfl)⟩ hl.1 rfl (Nat.le_of_ble_eq_true rfl) dX6_setEnd_39 ⟨(Nat.le_of_ble_eq_true rfl), (Nat.le_of_ble_eq_true rfl)⟩ (fun H locs hw => ?_)
  refine lv_aload hx hb dX6_setEnd_42 (lv_at hl 1 rfl) ?_
  refine lv_iload_n hx hb dX6_setEnd_44 rfl (lv_at hl 4 rfl) ?_
  refine lv_iload hx hb dX6_setEnd_45 (lv_at hl 6 rfl) ?_
  obtain ⟨σ10, hg, hf⟩ := stI_inv hf
  refine r_stI hC hw hg dX6_setEnd_47 (fun H locs hw => ?_)
  refine lv_iload hx hb dX6_setEnd_48 (lv_at hl 0 rfl) ?_
  refine vx_ret ?_
  refine W.widen (k := 3) (n := 18) (Nat.le_of_ble_eq_true rfl) (Nat.le_of_ble_eq_true rfl) ?_
  exact W.iret hx hb hr (z_retx hw (Option.some.inj hf).symm rfl) hw.2.2.2.2.2 dX6_setEnd_50 hC.2.2.2.2.2.1
set_option maxHeartbeats 4000000 in
set_option maxRecDepth 100000 in
theorem t_X6_checkStep_L9 (hC : zC p l s m args meth c cX6_checkStep 5 RX6 D cA B0) (hr : meth.sig.returnType = (Option.none : Option Jvm.ClassFile.FieldType)) (htab : ∀ x ∈ c.exceptionTable.toList, False) {Γ : zSh}  {σ : zSt} {out : ((Unit × zSt) ⊕ (Nat × zSt))} (hf : f_X6_checkStep_L9 Γ  σ = some out) {H : Heap} {locs : List Loc} {ls : Array Slot} (hw : zO D cA B0 Γ σ (ZB B0) s.heap H locs) (hl : lv_has ls 5 []) :
    W p l e rm_X6_checkStep s m args below meth c H locs 0 0 (vx_MQ below (zQx D cA B0 (fun r : Unit => none) Γ out (ZB B0)) (zXx D cA B0 Γ out (ZB B0)) args s 2 12 (FR B0)) (F0 m 9 ls []) := by
  have hx := hC.1
  have hb := hC.2.1
  unfold f_X6_checkStep_L9 at hf
  exact z_throwSW (k := 0) hC hw zB_up (Option.some.inj hf).symm htab zt_204_208_0 zstr_265 hl.1 dX6_checkStep_9 dX6_checkStep_12 dX6_checkStep_13 dX6_checkStep_16 dX6_checkStep_19 (Nat.le_of_ble_eq_true rfl) (Nat.le_of_ble_eq_true rfl) (Nat.le_of_ble_eq_true rfl) (Nat.le_of_ble_eq_true rfl) (Nat.le_of_ble_eq_true rfl) (Nat.le_of_ble_eq_true rfl)
set_option maxHeartbeats 4000000 in
set_option maxRecDepth 100000 in
theorem m_X6_checkStep (h9 : l.stackTraces = false) {Γ : zSh} {a0 : Nat} {a1 : Int32} {a2 : Int32} {a3 : Int32} {a4 : Int32} {σ : zSt} {out : ((Unit × zSt) ⊕ (Nat × zSt))} (hf : f_X6_checkStep Γ a0 a1 a2 a3 a4 σ = some out) : vx_Met l yX6_checkStep (wq yX6_checkStep cX6_checkStep 5 (Option.none : Option Jvm.ClassFile.FieldType)) rm_X6_checkStep (zQ0 D cA B0 [.ref a0, .int a1, .int a2, .int a3, .int a4] Γ σ (ZB B0)) (zQx D cA B0 (fun r : Unit => none) Γ out (ZB B0)) (zXx D cA B0 Γ out (ZB B0)) 2 12 (FR B0) := by
  refine z_ofX h9 (by decide) (Nat.le_of_ble_eq_true rfl) ?_
  intro p e s m args below meth c ls hC hr htab hw hl
  have hx := hC.1
  have hb := hC.2.1
  have hl : lv_has ls 5 [(0, .ref a0), (1, .int a1), (2, .int a2), (3, .int a3), (4, .int a4)] := hl
  unfold f_X6_checkStep at hf
  refine lv_iload_n hx hb dX6_checkStep_0 rfl (lv_at hl 2 rfl) ?_
  refine lv_if_lt (tgt := 9) hx hb dX6_checkStep_1 (by decide) (fun hc => ?_) (fun hc => ?_)
  · rw [if_pos hc] at hf
    exact t_X6_checkStep_L9 hC hr htab hf hw (lv_sub hl [] rfl)
  · rw [if_neg hc] at hf
    refine lv_iload_n hx hb dX6_checkStep_4 rfl (lv_at hl 2 rfl) ?_
    refine lv_iconst (v := 2) hx hb dX6_checkStep_5 (by decide) ?_
    refine lv_icmp_lt (tgt := 20) hx hb dX6_checkStep_6 (by decide) (fun hc => ?_) (fun hc => ?_)
    · rw [if_pos hc] at hf
      refine lv_aload_n hx hb dX6_checkStep_20 rfl (lv_at hl 0 rfl) ?_
      refine lv_iload_n hx hb dX6_checkStep_21 rfl (lv_at hl 1 rfl) ?_
      refine lv_iload_n hx hb dX6_checkStep_22 rfl (lv_at hl 3 rfl) ?_
      obtain ⟨ho, hf⟩ := chk_inv hf
      obtain ⟨q, hk, hn, hxx⟩ := xbnd_inv hf
      refine z_xcallV (As := [.int a1, .int a3]) (rest := []) (m_X6_checkState hC.2.2.2.2.2.2.2.2 hk) hC hw wd_X6_checkState lkM_X6_94 (isO_sh ho) rfl rfl ⟨rfl, rfl⟩ ⟨(Nat.le_of_ble_eq_true rfl), (Nat.le_of_ble_eq_true rfl)⟩ hl.1 rfl (Nat.le_of_ble_eq_true rfl) dX6_checkStep_23 ⟨(Nat.le_of_ble_eq_true rfl), (Nat.le_of_ble_eq_true rfl)⟩ (fun u9 σ1 eq H locs hw => ?_) (fun k9 s9 eq H locs q9 ce9 hw e1 e2 e3 => z_xout hC hw (hxx _ _ eq) htab e1 e2 e3 (Nat.le_of_ble_eq_true rfl) (Nat.le_of_ble_eq_true rfl))
      have hf := hn _ _ eq
      refine lv_aload_n hx hb dX6_checkStep_26 rfl (lv_at hl 0 rfl) ?_
      refine lv_iload_n hx hb dX6_checkStep_27 rfl (lv_at hl 1 rfl) ?_
      refine lv_iload hx hb dX6_checkStep_28 (lv_at hl 4 rfl) ?_
      obtain ⟨ho, hf⟩ := chk_inv hf
      obtain ⟨q, hk, hn, hxx⟩ := xbnd_inv hf
      refine z_xcallV (As := [.int a1, .int a4]) (rest := []) (m_X6_checkState hC.2.2.2.2.2.2.2.2 hk) hC hw wd_X6_checkState lkM_X6_94 (isO_sh ho) rfl rfl ⟨rfl, rfl⟩ ⟨(Nat.le_of_ble_eq_true rfl), (Nat.le_of_ble_eq_true rfl)⟩ hl.1 rfl (Nat.le_of_ble_eq_true rfl) dX6_checkStep_30 ⟨(Nat.le_of_ble_eq_true rfl), (Nat.le_of_ble_eq_true rfl)⟩ (fun u9 σ2 eq H locs hw => ?_) (fun k9 s9 eq H locs q9 ce9 hw e1 e2 e3 => z_xout hC hw (hxx _ _ eq) htab e1 e2 e3 (Nat.le_of_ble_eq_true rfl) (Nat.le_of_ble_eq_true rfl))
      have hf := hn _ _ eq
      refine vx_ret ?_
      refine W.widen (k := 2) (n := 12) (Nat.le_of_ble_eq_true rfl) (Nat.le_of_ble_eq_true rfl) ?_
      exact W.vret hx hb hr (z_retx hw (Option.some.inj hf).symm rfl) hw.2.2.2.2.2 dX6_checkStep_33 hC.2.2.2.2.2.1
    · rw [if_neg hc] at hf
      exact t_X6_checkStep_L9 hC hr htab hf hw (lv_sub hl [] rfl)
set_option maxHeartbeats 4000000 in
set_option maxRecDepth 100000 in
theorem m_X6_setStep (h9 : l.stackTraces = false) {Γ : zSh} {a0 : Nat} {a1 : Int32} {a2 : Int32} {a3 : Int32} {a4 : Int32} {a5 : Int32} {σ : zSt} {out : ((Int32 × zSt) ⊕ (Nat × zSt))} (hf : f_X6_setStep Γ a0 a1 a2 a3 a4 a5 σ = some out) : vx_Met l yX6_setStep (wq yX6_setStep cX6_setStep 9 (Option.some FieldType.int)) rm_X6_setStep (zQ0 D cA B0 [.ref a0, .int a1, .int a2, .int a3, .int a4, .int a5] Γ σ (ZB B0)) (zQx D cA B0 (fun r : Int32 => some (.int r)) Γ out (ZB B0)) (zXx D cA B0 Γ out (ZB B0)) 4 24 (FR B0) := by
  refine z_ofX h9 (by decide) (Nat.le_of_ble_eq_true rfl) ?_
  intro p e s m args below meth c ls hC hr htab hw hl
  have hx := hC.1
  have hb := hC.2.1
  have hl : lv_has ls 9 [(0, .ref a0), (1, .int a1), (2, .int a2), (3, .int a3), (4, .int a4), (5, .int a5)] := hl
  unfold f_X6_setStep at hf
  refine lv_iload_n hx hb dX6_setStep_0 rfl (lv_at hl 1 rfl) ?_
  obtain ⟨q, hk, hn, hxx⟩ := xbnd_inv hf
  refine z_xcallS (As := [.int a1]) (rest := []) (m_X6_checkSlot hC.2.2.2.2.2.2.2.2 hk) hC hw wd_X6_checkSlot lkM_X6_78 rfl ⟨rfl, rfl⟩ ⟨(Nat.le_of_ble_eq_true rfl), (Nat.le_of_ble_eq_true rfl)⟩ hl.1 rfl (Nat.le_of_ble_eq_true rfl) dX6_setStep_1 ⟨(Nat.le_of_ble_eq_true rfl), (Nat.le_of_ble_eq_true rfl)⟩ (fun u9 σ1 eq H locs hw => ?_) (fun k9 s9 eq H locs q9 ce9 hw e1 e2 e3 => z_xout hC hw (hxx _ _ eq) htab e1 e2 e3 (Nat.le_of_ble_eq_true rfl) (Nat.le_of_ble_eq_true rfl))
  have hf := hn _ _ eq
  refine lv_aload_n hx hb dX6_setStep_4 rfl (lv_at hl 0 rfl) ?_
  refine lv_iload_n hx hb dX6_setStep_5 rfl (lv_at hl 1 rfl) ?_
  refine lv_iload_n hx hb dX6_setStep_6 rfl (lv_at hl 2 rfl) ?_
  refine lv_iload_n hx hb dX6_setStep_7 rfl (lv_at hl 3 rfl) ?_
  refine lv_iload hx hb dX6_setStep_8 (lv_at hl 4 rfl) ?_
  obtain ⟨ho, hf⟩ := chk_inv hf
  obtain ⟨q, hk, hn, hxx⟩ := xbnd_inv hf
  refine z_xcallV (As := [.int a1, .int a2, .int a3, .int a4]) (rest := []) (m_X6_checkStep hC.2.2.2.2.2.2.2.2 hk) hC hw wd_X6_checkStep lkM_X6_102 (isO_sh ho) rfl rfl ⟨rfl, rfl⟩ ⟨(Nat.le_of_ble_eq_true rfl), (Nat.le_of_ble_eq_true rfl)⟩ hl.1 rfl (Nat.le_of_ble_eq_true rfl) dX6_setStep_10 ⟨(Nat.le_of_ble_eq_true rfl), (Nat.le_of_ble_eq_true rfl)⟩ (fun u9 σ2 eq H locs hw => ?_) (fun k9 s9 eq H locs q9 ce9 hw e1 e2 e3 => z_xout hC hw (hxx _ _ eq) htab e1 e2 e3 (Nat.le_of_ble_eq_true rfl) (Nat.le_of_ble_eq_true rfl))
  have hf := hn _ _ eq
  refine lv_iload hx hb dX6_setStep_13 (lv_at hl 5 rfl) ?_
  refine lv_iconst (v := 0) hx hb dX6_setStep_15 (by decide) ?_
  refine lv_sipush (v := 10006) hx hb dX6_setStep_16 (by decide) ?_
  obtain ⟨q, hk, hn, hxx⟩ := xbnd_inv hf
  refine z_xcallS (As := [.int a5, .int 0, .int 10006]) (rest := []) (m_X6_checkRange hC.2.2.2.2.2.2.2.2 hk) hC hw wd_X6_checkRange lkM_X6_81 rfl ⟨rfl, rfl⟩ ⟨(Nat.le_of_ble_eq_true rfl), (Nat.le_of_ble_eq_true rfl)⟩ hl.1 rfl (Nat.le_of_ble_eq_true rfl) dX6_setStep_19 ⟨(Nat.le_of_ble_eq_true rfl), (Nat.le_of_ble_eq_true rfl)⟩ (fun u9 σ3 eq H locs hw => ?_) (fun k9 s9 eq H locs q9 ce9 hw e1 e2 e3 => z_xout hC hw (hxx _ _ eq) htab e1 e2 e3 (Nat.le_of_ble_eq_true rfl) (Nat.le_of_ble_eq_true rfl))
  have hf := hn _ _ eq
  refine lv_aload_n hx hb dX6_setStep_22 rfl (lv_at hl 0 rfl) ?_
  obtain ⟨v4, hg, hf⟩ := gfR_inv hf
  refine r_gfR hC hw hg clX6 (Nat.le_of_ble_eq_true rfl) lkF_X6_13 rfl dX6_setStep_23 ?_
  refine lv_iload_n hx hb dX6_setStep_26 rfl (lv_at hl 1 rfl) ?_
  obtain ⟨v5, hg, hf⟩ := ldA_inv hf
  refine r_ldA hC hw hg dX6_setStep_27 ?_
  refine lv_astore (lv' := [(6, .ref v5), (0, .ref a0), (1, .int a1), (2, .int a2), (3, .int a3), (4, .int a4), (5, .int a5)]) hx hb dX6_setStep_28 hl (Nat.le_of_ble_eq_true rfl) rfl (fun ls hl => ?_)
  refine lv_iload_n hx hb dX6_setStep_30 rfl (lv_at hl 4 rfl) ?_
  refine lv_aload hx hb dX6_setStep_31 (lv_at hl 0 rfl) ?_
  obtain ⟨v6, hg, hf⟩ := gfI_inv hf
  refine r_gfI hC hw hg clX0 (Nat.le_of_ble_eq_true rfl) lkF_X6_85 rfl dX6_setStep_33 ?_
  refine lv_imul hx hb dX6_setStep_36 ?_
  refine lv_iload hx hb dX6_setStep_37 (lv_at hl 5 rfl) ?_
  refine lv_iadd hx hb dX6_setStep_39 ?_
  refine lv_istore (lv' := [(7, .int ((a3 * v6) + a4)), (6, .ref v5), (0, .ref a0), (1, .int a1), (2, .int a2), (3, .int a3), (4, .int a4), (5, .int a5)]) hx hb dX6_setStep_40 hl (Nat.le_of_ble_eq_true rfl) rfl (fun ls hl => ?_)
  refine lv_aload hx hb dX6_setStep_42 (lv_at hl 1 rfl) ?_
  obtain ⟨v7, hg, hf⟩ := gfR_inv hf
  refine r_gfR hC hw hg clX0 (Nat.le_of_ble_eq_true rfl) lkF_X6_106 rfl dX6_setStep_44 ?_
  refine lv_iload_n hx hb dX6_setStep_47 rfl (lv_at hl 4 rfl) ?_
  obtain ⟨v8, hg, hf⟩ := ldG_inv hf
  refine r_ldG hC hw hg dX6_setStep_48 ?_
  refine lv_iload hx hb dX6_setStep_49 (lv_at hl 0 rfl) ?_
  obtain ⟨v9, hg, hf⟩ := ldI_inv hf
  refine r_ldI hC hw hg dX6_setStep_51 ?_
  refine lv_istore (lv' := [(8, .int v9), (7, .int ((a3 * v6) + a4)), (6, .ref v5), (0, .ref a0), (1, .int a1), (2, .int a2), (3, .int a3), (4, .int a4), (5, .int a5)]) hx hb dX6_setStep_52 hl (Nat.le_of_ble_eq_true rfl) rfl (fun ls hl => ?_)
  refine lv_aload_n hx hb dX6_setStep_54 rfl (lv_at hl 3 rfl) ?_
  refine lv_iload_n hx hb dX6_setStep_55 rfl (lv_at hl 4 rfl) ?_
  obtain ⟨ho, hf⟩ := chk_inv hf
  obtain ⟨_, σ10, hk, hf⟩ := bnd_inv hf
  refine z_callV (As := [.int a1]) (rest := []) (m_X6_save hC.2.2.2.2.2.2.2.2 hk) hC hw wd_X6_save lkM_X6_88 (isO_sh ho) rfl rfl ⟨rfl, rfl⟩ ⟨(Nat.le_of_ble_eq_true rfl), (Nat.le_of_ble_eq_true rfl)⟩ hl.1 rfl (Nat.le_of_ble_eq_true rfl) dX6_setStep_56 ⟨(Nat.le_of_ble_eq_true rfl), (Nat.le_of_ble_eq_true rfl)⟩ (fun H locs hw => ?_)
  refine lv_aload hx hb dX6_setStep_59 (lv_at hl 2 rfl) ?_
  obtain ⟨v11, hg, hf⟩ := gfR_inv hf
  refine r_gfR hC hw hg clX0 (Nat.le_of_ble_eq_true rfl) lkF_X6_106 rfl dX6_setStep_61 ?_
  refine lv_iload_n hx hb dX6_setStep_64 rfl (lv_at hl 5 rfl) ?_
  obtain ⟨v12, hg, hf⟩ := ldG_inv hf
  refine r_ldG hC hw hg dX6_setStep_65 ?_
  refine lv_iload hx hb dX6_setStep_66 (lv_at hl 1 rfl) ?_
  refine lv_iload hx hb dX6_setStep_68 (lv_at hl 8 rfl) ?_
  obtain ⟨σ13, hg, hf⟩ := stI_inv hf
  refine r_stI hC hw hg dX6_setStep_70 (fun H locs hw => ?_)
  refine lv_iload hx hb dX6_setStep_71 (lv_at hl 0 rfl) ?_
  refine vx_ret ?_
  refine W.widen (k := 4) (n := 24) (Nat.le_of_ble_eq_true rfl) (Nat.le_of_ble_eq_true rfl) ?_
  exact W.iret hx hb hr (z_retx hw (Option.some.inj hf).symm rfl) hw.2.2.2.2.2 dX6_setStep_73 hC.2.2.2.2.2.1
set_option maxHeartbeats 4000000 in
set_option maxRecDepth 100000 in
theorem m_X6_random (h9 : l.stackTraces = false) {Γ : zSh} {a0 : Nat} {a1 : Int32} {a2 : Int32} {a3 : Int32} {σ : zSt} {out : ((Int32 × zSt) ⊕ (Nat × zSt))} (hf : f_X6_random Γ a0 a1 a2 a3 σ = some out) : vx_Met l yX6_random (wq yX6_random cX6_random 4 (Option.some FieldType.int)) rm_X6_random (zQ0 D cA B0 [.ref a0, .int a1, .int a2, .int a3] Γ σ (ZB B0)) (zQx D cA B0 (fun r : Int32 => some (.int r)) Γ out (ZB B0)) (zXx D cA B0 Γ out (ZB B0)) 3 18 (FR B0) := by
  refine z_ofX h9 (by decide) (Nat.le_of_ble_eq_true rfl) ?_
  intro p e s m args below meth c ls hC hr htab hw hl
  have hx := hC.1
  have hb := hC.2.1
  have hl : lv_has ls 4 [(0, .ref a0), (1, .int a1), (2, .int a2), (3, .int a3)] := hl
  unfold f_X6_random at hf
  refine lv_iload_n hx hb dX6_random_0 rfl (lv_at hl 1 rfl) ?_
  obtain ⟨q, hk, hn, hxx⟩ := xbnd_inv hf
  refine z_xcallS (As := [.int a1]) (rest := []) (m_X6_checkSlot hC.2.2.2.2.2.2.2.2 hk) hC hw wd_X6_checkSlot lkM_X6_78 rfl ⟨rfl, rfl⟩ ⟨(Nat.le_of_ble_eq_true rfl), (Nat.le_of_ble_eq_true rfl)⟩ hl.1 rfl (Nat.le_of_ble_eq_true rfl) dX6_random_1 ⟨(Nat.le_of_ble_eq_true rfl), (Nat.le_of_ble_eq_true rfl)⟩ (fun u9 σ1 eq H locs hw => ?_) (fun k9 s9 eq H locs q9 ce9 hw e1 e2 e3 => z_xout hC hw (hxx _ _ eq) htab e1 e2 e3 (Nat.le_of_ble_eq_true rfl) (Nat.le_of_ble_eq_true rfl))
  have hf := hn _ _ eq
  refine lv_iload_n hx hb dX6_random_4 rfl (lv_at hl 2 rfl) ?_
  refine lv_iconst (v := 0) hx hb dX6_random_5 (by decide) ?_
  refine lv_bipush (v := 12) hx hb dX6_random_6 (by decide) ?_
  obtain ⟨q, hk, hn, hxx⟩ := xbnd_inv hf
  refine z_xcallS (As := [.int a2, .int 0, .int 12]) (rest := []) (m_X6_checkRange hC.2.2.2.2.2.2.2.2 hk) hC hw wd_X6_checkRange lkM_X6_81 rfl ⟨rfl, rfl⟩ ⟨(Nat.le_of_ble_eq_true rfl), (Nat.le_of_ble_eq_true rfl)⟩ hl.1 rfl (Nat.le_of_ble_eq_true rfl) dX6_random_8 ⟨(Nat.le_of_ble_eq_true rfl), (Nat.le_of_ble_eq_true rfl)⟩ (fun u9 σ2 eq H locs hw => ?_) (fun k9 s9 eq H locs q9 ce9 hw e1 e2 e3 => z_xout hC hw (hxx _ _ eq) htab e1 e2 e3 (Nat.le_of_ble_eq_true rfl) (Nat.le_of_ble_eq_true rfl))
  have hf := hn _ _ eq
  refine lv_iload_n hx hb dX6_random_11 rfl (lv_at hl 3 rfl) ?_
  refine lv_iconst (v := 0) hx hb dX6_random_12 (by decide) ?_
  refine lv_ldc (v := 999999) hx hb hC.2.2.2.1 (hC.2.2.2.2.1 _ lkK_X6_110) dX6_random_13 ?_
  obtain ⟨q, hk, hn, hxx⟩ := xbnd_inv hf
  refine z_xcallS (As := [.int a3, .int 0, .int 999999]) (rest := []) (m_X6_checkRange hC.2.2.2.2.2.2.2.2 hk) hC hw wd_X6_checkRange lkM_X6_81 rfl ⟨rfl, rfl⟩ ⟨(Nat.le_of_ble_eq_true rfl), (Nat.le_of_ble_eq_true rfl)⟩ hl.1 rfl (Nat.le_of_ble_eq_true rfl) dX6_random_15 ⟨(Nat.le_of_ble_eq_true rfl), (Nat.le_of_ble_eq_true rfl)⟩ (fun u9 σ3 eq H locs hw => ?_) (fun k9 s9 eq H locs q9 ce9 hw e1 e2 e3 => z_xout hC hw (hxx _ _ eq) htab e1 e2 e3 (Nat.le_of_ble_eq_true rfl) (Nat.le_of_ble_eq_true rfl))
  have hf := hn _ _ eq
  refine lv_aload_n hx hb dX6_random_18 rfl (lv_at hl 0 rfl) ?_
  refine lv_iload_n hx hb dX6_random_19 rfl (lv_at hl 1 rfl) ?_
  obtain ⟨ho, hf⟩ := chk_inv hf
  obtain ⟨_, σ4, hk, hf⟩ := bnd_inv hf
  refine z_callV (As := [.int a1]) (rest := []) (m_X6_save hC.2.2.2.2.2.2.2.2 hk) hC hw wd_X6_save lkM_X6_88 (isO_sh ho) rfl rfl ⟨rfl, rfl⟩ ⟨(Nat.le_of_ble_eq_true rfl), (Nat.le_of_ble_eq_true rfl)⟩ hl.1 rfl (Nat.le_of_ble_eq_true rfl) dX6_random_20 ⟨(Nat.le_of_ble_eq_true rfl), (Nat.le_of_ble_eq_true rfl)⟩ (fun H locs hw => ?_)
  refine lv_aload_n hx hb dX6_random_23 rfl (lv_at hl 0 rfl) ?_
  obtain ⟨v5, hg, hf⟩ := gfR_inv hf
  refine r_gfR hC hw hg clX6 (Nat.le_of_ble_eq_true rfl) lkF_X6_13 rfl dX6_random_24 ?_
  refine lv_iload_n hx hb dX6_random_27 rfl (lv_at hl 1 rfl) ?_
  obtain ⟨v6, hg, hf⟩ := ldA_inv hf
  refine r_ldA hC hw hg dX6_random_28 ?_
  refine lv_iload_n hx hb dX6_random_29 rfl (lv_at hl 2 rfl) ?_
  refine lv_iload_n hx hb dX6_random_30 rfl (lv_at hl 3 rfl) ?_
  obtain ⟨ho, hf⟩ := chk_inv hf
  obtain ⟨_, σ7, hk, hf⟩ := bnd_inv hf
  refine z_callV (As := [.int a2, .int a3]) (rest := []) (m_X0_draw hC.2.2.2.2.2.2.2.2 hk) hC hw wd_X0_draw lkM_X6_111 (isO_sh ho) rfl rfl ⟨rfl, rfl⟩ ⟨(Nat.le_of_ble_eq_true rfl), (Nat.le_of_ble_eq_true rfl)⟩ hl.1 rfl (Nat.le_of_ble_eq_true rfl) dX6_random_31 ⟨(Nat.le_of_ble_eq_true rfl), (Nat.le_of_ble_eq_true rfl)⟩ (fun H locs hw => ?_)
  refine lv_aload_n hx hb dX6_random_34 rfl (lv_at hl 0 rfl) ?_
  obtain ⟨v8, hg, hf⟩ := gfR_inv hf
  refine r_gfR hC hw hg clX6 (Nat.le_of_ble_eq_true rfl) lkF_X6_13 rfl dX6_random_35 ?_
  refine lv_iload_n hx hb dX6_random_38 rfl (lv_at hl 1 rfl) ?_
  obtain ⟨v9, hg, hf⟩ := ldA_inv hf
  refine r_ldA hC hw hg dX6_random_39 ?_
  obtain ⟨ho, hf⟩ := chk_inv hf
  obtain ⟨r11, σ10, hk, hf⟩ := bnd_inv hf
  refine z_callV (As := []) (rest := []) (m_X0_emptyWeight hC.2.2.2.2.2.2.2.2 hk) hC hw wd_X0_emptyWeight lkM_X6_114 (isO_sh ho) rfl rfl ⟨rfl, rfl⟩ ⟨(Nat.le_of_ble_eq_true rfl), (Nat.le_of_ble_eq_true rfl)⟩ hl.1 rfl (Nat.le_of_ble_eq_true rfl) dX6_random_40 ⟨(Nat.le_of_ble_eq_true rfl), (Nat.le_of_ble_eq_true rfl)⟩ (fun H locs hw => ?_)
  refine vx_ret ?_
  refine W.widen (k := 3) (n := 18) (Nat.le_of_ble_eq_true rfl) (Nat.le_of_ble_eq_true rfl) ?_
  exact W.iret hx hb hr (z_retx hw (Option.some.inj hf).symm rfl) hw.2.2.2.2.2 dX6_random_43 hC.2.2.2.2.2.1
set_option maxHeartbeats 4000000 in
set_option maxRecDepth 100000 in
theorem m_X6_states (h9 : l.stackTraces = false) {Γ : zSh} {a0 : Nat} {a1 : Int32} {σ : zSt} {out : ((Int32 × zSt) ⊕ (Nat × zSt))} (hf : f_X6_states Γ a0 a1 σ = some out) : vx_Met l yX6_states (wq yX6_states cX6_states 2 (Option.some FieldType.int)) rm_X6_states (zQ0 D cA B0 [.ref a0, .int a1] Γ σ (ZB B0)) (zQx D cA B0 (fun r : Int32 => some (.int r)) Γ out (ZB B0)) (zXx D cA B0 Γ out (ZB B0)) 1 6 (FR B0) := by
  refine z_ofX h9 (by decide) (Nat.le_of_ble_eq_true rfl) ?_
  intro p e s m args below meth c ls hC hr htab hw hl
  have hx := hC.1
  have hb := hC.2.1
  have hl : lv_has ls 2 [(0, .ref a0), (1, .int a1)] := hl
  unfold f_X6_states at hf
  refine lv_iload_n hx hb dX6_states_0 rfl (lv_at hl 1 rfl) ?_
  obtain ⟨q, hk, hn, hxx⟩ := xbnd_inv hf
  refine z_xcallS (As := [.int a1]) (rest := []) (m_X6_checkSlot hC.2.2.2.2.2.2.2.2 hk) hC hw wd_X6_checkSlot lkM_X6_78 rfl ⟨rfl, rfl⟩ ⟨(Nat.le_of_ble_eq_true rfl), (Nat.le_of_ble_eq_true rfl)⟩ hl.1 rfl (Nat.le_of_ble_eq_true rfl) dX6_states_1 ⟨(Nat.le_of_ble_eq_true rfl), (Nat.le_of_ble_eq_true rfl)⟩ (fun u9 σ1 eq H locs hw => ?_) (fun k9 s9 eq H locs q9 ce9 hw e1 e2 e3 => z_xout hC hw (hxx _ _ eq) htab e1 e2 e3 (Nat.le_of_ble_eq_true rfl) (Nat.le_of_ble_eq_true rfl))
  have hf := hn _ _ eq
  refine lv_aload_n hx hb dX6_states_4 rfl (lv_at hl 0 rfl) ?_
  obtain ⟨v2, hg, hf⟩ := gfR_inv hf
  refine r_gfR hC hw hg clX6 (Nat.le_of_ble_eq_true rfl) lkF_X6_13 rfl dX6_states_5 ?_
  refine lv_iload_n hx hb dX6_states_8 rfl (lv_at hl 1 rfl) ?_
  obtain ⟨v3, hg, hf⟩ := ldA_inv hf
  refine r_ldA hC hw hg dX6_states_9 ?_
  obtain ⟨v4, hg, hf⟩ := gfI_inv hf
  refine r_gfI hC hw hg clX0 (Nat.le_of_ble_eq_true rfl) lkF_X6_85 rfl dX6_states_10 ?_
  refine vx_ret ?_
  refine W.widen (k := 1) (n := 6) (Nat.le_of_ble_eq_true rfl) (Nat.le_of_ble_eq_true rfl) ?_
  exact W.iret hx hb hr (z_retx hw (Option.some.inj hf).symm rfl) hw.2.2.2.2.2 dX6_states_13 hC.2.2.2.2.2.1
set_option maxHeartbeats 4000000 in
set_option maxRecDepth 100000 in
theorem m_X6_end (h9 : l.stackTraces = false) {Γ : zSh} {a0 : Nat} {a1 : Int32} {a2 : Int32} {a3 : Int32} {σ : zSt} {out : ((Int32 × zSt) ⊕ (Nat × zSt))} (hf : f_X6_end Γ a0 a1 a2 a3 σ = some out) : vx_Met l yX6_end (wq yX6_end cX6_end 4 (Option.some FieldType.int)) rm_X6_end (zQ0 D cA B0 [.ref a0, .int a1, .int a2, .int a3] Γ σ (ZB B0)) (zQx D cA B0 (fun r : Int32 => some (.int r)) Γ out (ZB B0)) (zXx D cA B0 Γ out (ZB B0)) 2 12 (FR B0) := by
  refine z_ofX h9 (by decide) (Nat.le_of_ble_eq_true rfl) ?_
  intro p e s m args below meth c ls hC hr htab hw hl
  have hx := hC.1
  have hb := hC.2.1
  have hl : lv_has ls 4 [(0, .ref a0), (1, .int a1), (2, .int a2), (3, .int a3)] := hl
  unfold f_X6_end at hf
  refine lv_iload_n hx hb dX6_end_0 rfl (lv_at hl 1 rfl) ?_
  obtain ⟨q, hk, hn, hxx⟩ := xbnd_inv hf
  refine z_xcallS (As := [.int a1]) (rest := []) (m_X6_checkSlot hC.2.2.2.2.2.2.2.2 hk) hC hw wd_X6_checkSlot lkM_X6_78 rfl ⟨rfl, rfl⟩ ⟨(Nat.le_of_ble_eq_true rfl), (Nat.le_of_ble_eq_true rfl)⟩ hl.1 rfl (Nat.le_of_ble_eq_true rfl) dX6_end_1 ⟨(Nat.le_of_ble_eq_true rfl), (Nat.le_of_ble_eq_true rfl)⟩ (fun u9 σ1 eq H locs hw => ?_) (fun k9 s9 eq H locs q9 ce9 hw e1 e2 e3 => z_xout hC hw (hxx _ _ eq) htab e1 e2 e3 (Nat.le_of_ble_eq_true rfl) (Nat.le_of_ble_eq_true rfl))
  have hf := hn _ _ eq
  refine lv_aload_n hx hb dX6_end_4 rfl (lv_at hl 0 rfl) ?_
  refine lv_iload_n hx hb dX6_end_5 rfl (lv_at hl 1 rfl) ?_
  refine lv_iload_n hx hb dX6_end_6 rfl (lv_at hl 2 rfl) ?_
  obtain ⟨ho, hf⟩ := chk_inv hf
  obtain ⟨q, hk, hn, hxx⟩ := xbnd_inv hf
  refine z_xcallV (As := [.int a1, .int a2]) (rest := []) (m_X6_checkState hC.2.2.2.2.2.2.2.2 hk) hC hw wd_X6_checkState lkM_X6_94 (isO_sh ho) rfl rfl ⟨rfl, rfl⟩ ⟨(Nat.le_of_ble_eq_true rfl), (Nat.le_of_ble_eq_true rfl)⟩ hl.1 rfl (Nat.le_of_ble_eq_true rfl) dX6_end_7 ⟨(Nat.le_of_ble_eq_true rfl), (Nat.le_of_ble_eq_true rfl)⟩ (fun u9 σ2 eq H locs hw => ?_) (fun k9 s9 eq H locs q9 ce9 hw e1 e2 e3 => z_xout hC hw (hxx _ _ eq) htab e1 e2 e3 (Nat.le_of_ble_eq_true rfl) (Nat.le_of_ble_eq_true rfl))
  have hf := hn _ _ eq
  refine lv_aload_n hx hb dX6_end_10 rfl (lv_at hl 0 rfl) ?_
  obtain ⟨v3, hg, hf⟩ := gfR_inv hf
  refine r_gfR hC hw hg clX6 (Nat.le_of_ble_eq_true rfl) lkF_X6_13 rfl dX6_end_11 ?_
  refine lv_iload_n hx hb dX6_end_14 rfl (lv_at hl 1 rfl) ?_
  obtain ⟨v4, hg, hf⟩ := ldA_inv hf
  refine r_ldA hC hw hg dX6_end_15 ?_
  refine lv_iload_n hx hb dX6_end_16 rfl (lv_at hl 3 rfl) ?_
  obtain ⟨ho, hf⟩ := chk_inv hf
  obtain ⟨r6, σ5, hk, hf⟩ := bnd_inv hf
  refine z_callV (As := [.int a3]) (rest := []) (m_X0_ends hC.2.2.2.2.2.2.2.2 hk) hC hw wd_X0_ends lkM_X6_98 (isO_sh ho) rfl rfl ⟨rfl, rfl⟩ ⟨(Nat.le_of_ble_eq_true rfl), (Nat.le_of_ble_eq_true rfl)⟩ hl.1 rfl (Nat.le_of_ble_eq_true rfl) dX6_end_17 ⟨(Nat.le_of_ble_eq_true rfl), (Nat.le_of_ble_eq_true rfl)⟩ (fun H locs hw => ?_)
  refine lv_iload_n hx hb dX6_end_20 rfl (lv_at hl 2 rfl) ?_
  obtain ⟨v7, hg, hf⟩ := ldI_inv hf
  refine r_ldI hC hw hg dX6_end_21 ?_
  refine vx_ret ?_
  refine W.widen (k := 2) (n := 12) (Nat.le_of_ble_eq_true rfl) (Nat.le_of_ble_eq_true rfl) ?_
  exact W.iret hx hb hr (z_retx hw (Option.some.inj hf).symm rfl) hw.2.2.2.2.2 dX6_end_22 hC.2.2.2.2.2.1
set_option maxHeartbeats 4000000 in
set_option maxRecDepth 100000 in
theorem m_X6_step (h9 : l.stackTraces = false) {Γ : zSh} {a0 : Nat} {a1 : Int32} {a2 : Int32} {a3 : Int32} {a4 : Int32} {σ : zSt} {out : ((Int32 × zSt) ⊕ (Nat × zSt))} (hf : f_X6_step Γ a0 a1 a2 a3 a4 σ = some out) : vx_Met l yX6_step (wq yX6_step cX6_step 6 (Option.some FieldType.int)) rm_X6_step (zQ0 D cA B0 [.ref a0, .int a1, .int a2, .int a3, .int a4] Γ σ (ZB B0)) (zQx D cA B0 (fun r : Int32 => some (.int r)) Γ out (ZB B0)) (zXx D cA B0 Γ out (ZB B0)) 3 18 (FR B0) := by
  refine z_ofX h9 (by decide) (Nat.le_of_ble_eq_true rfl) ?_
  intro p e s m args below meth c ls hC hr htab hw hl
  have hx := hC.1
  have hb := hC.2.1
  have hl : lv_has ls 6 [(0, .ref a0), (1, .int a1), (2, .int a2), (3, .int a3), (4, .int a4)] := hl
  unfold f_X6_step at hf
  refine lv_iload_n hx hb dX6_step_0 rfl (lv_at hl 1 rfl) ?_
  obtain ⟨q, hk, hn, hxx⟩ := xbnd_inv hf
  refine z_xcallS (As := [.int a1]) (rest := []) (m_X6_checkSlot hC.2.2.2.2.2.2.2.2 hk) hC hw wd_X6_checkSlot lkM_X6_78 rfl ⟨rfl, rfl⟩ ⟨(Nat.le_of_ble_eq_true rfl), (Nat.le_of_ble_eq_true rfl)⟩ hl.1 rfl (Nat.le_of_ble_eq_true rfl) dX6_step_1 ⟨(Nat.le_of_ble_eq_true rfl), (Nat.le_of_ble_eq_true rfl)⟩ (fun u9 σ1 eq H locs hw => ?_) (fun k9 s9 eq H locs q9 ce9 hw e1 e2 e3 => z_xout hC hw (hxx _ _ eq) htab e1 e2 e3 (Nat.le_of_ble_eq_true rfl) (Nat.le_of_ble_eq_true rfl))
  have hf := hn _ _ eq
  refine lv_aload_n hx hb dX6_step_4 rfl (lv_at hl 0 rfl) ?_
  refine lv_iload_n hx hb dX6_step_5 rfl (lv_at hl 1 rfl) ?_
  refine lv_iload_n hx hb dX6_step_6 rfl (lv_at hl 2 rfl) ?_
  refine lv_iload_n hx hb dX6_step_7 rfl (lv_at hl 3 rfl) ?_
  refine lv_iload hx hb dX6_step_8 (lv_at hl 4 rfl) ?_
  obtain ⟨ho, hf⟩ := chk_inv hf
  obtain ⟨q, hk, hn, hxx⟩ := xbnd_inv hf
  refine z_xcallV (As := [.int a1, .int a2, .int a3, .int a4]) (rest := []) (m_X6_checkStep hC.2.2.2.2.2.2.2.2 hk) hC hw wd_X6_checkStep lkM_X6_102 (isO_sh ho) rfl rfl ⟨rfl, rfl⟩ ⟨(Nat.le_of_ble_eq_true rfl), (Nat.le_of_ble_eq_true rfl)⟩ hl.1 rfl (Nat.le_of_ble_eq_true rfl) dX6_step_10 ⟨(Nat.le_of_ble_eq_true rfl), (Nat.le_of_ble_eq_true rfl)⟩ (fun u9 σ2 eq H locs hw => ?_) (fun k9 s9 eq H locs q9 ce9 hw e1 e2 e3 => z_xout hC hw (hxx _ _ eq) htab e1 e2 e3 (Nat.le_of_ble_eq_true rfl) (Nat.le_of_ble_eq_true rfl))
  have hf := hn _ _ eq
  refine lv_aload_n hx hb dX6_step_13 rfl (lv_at hl 0 rfl) ?_
  obtain ⟨v3, hg, hf⟩ := gfR_inv hf
  refine r_gfR hC hw hg clX6 (Nat.le_of_ble_eq_true rfl) lkF_X6_13 rfl dX6_step_14 ?_
  refine lv_iload_n hx hb dX6_step_17 rfl (lv_at hl 1 rfl) ?_
  obtain ⟨v4, hg, hf⟩ := ldA_inv hf
  refine r_ldA hC hw hg dX6_step_18 ?_
  refine lv_astore (lv' := [(5, .ref v4), (0, .ref a0), (1, .int a1), (2, .int a2), (3, .int a3), (4, .int a4)]) hx hb dX6_step_19 hl (Nat.le_of_ble_eq_true rfl) rfl (fun ls hl => ?_)
  refine lv_aload hx hb dX6_step_21 (lv_at hl 0 rfl) ?_
  obtain ⟨v5, hg, hf⟩ := gfR_inv hf
  refine r_gfR hC hw hg clX0 (Nat.le_of_ble_eq_true rfl) lkF_X6_106 rfl dX6_step_23 ?_
  refine lv_iload_n hx hb dX6_step_26 rfl (lv_at hl 3 rfl) ?_
  obtain ⟨v6, hg, hf⟩ := ldG_inv hf
  refine r_ldG hC hw hg dX6_step_27 ?_
  refine lv_iload_n hx hb dX6_step_28 rfl (lv_at hl 4 rfl) ?_
  refine lv_aload hx hb dX6_step_29 (lv_at hl 0 rfl) ?_
  obtain ⟨v7, hg, hf⟩ := gfI_inv hf
  refine r_gfI hC hw hg clX0 (Nat.le_of_ble_eq_true rfl) lkF_X6_85 rfl dX6_step_31 ?_
  refine lv_imul hx hb dX6_step_34 ?_
  refine lv_iload hx hb dX6_step_35 (lv_at hl 5 rfl) ?_
  refine lv_iadd hx hb dX6_step_37 ?_
  obtain ⟨v8, hg, hf⟩ := ldI_inv hf
  refine r_ldI hC hw hg dX6_step_38 ?_
  refine vx_ret ?_
  refine W.widen (k := 3) (n := 18) (Nat.le_of_ble_eq_true rfl) (Nat.le_of_ble_eq_true rfl) ?_
  exact W.iret hx hb hr (z_retx hw (Option.some.inj hf).symm rfl) hw.2.2.2.2.2 dX6_step_39 hC.2.2.2.2.2.1
set_option maxHeartbeats 4000000 in
set_option maxRecDepth 100000 in
theorem m_X6_weight (h9 : l.stackTraces = false) {Γ : zSh} {a0 : Nat} {a1 : Int32} {a2 : Int32} {σ : zSt} {out : ((Int32 × zSt) ⊕ (Nat × zSt))} (hf : f_X6_weight Γ a0 a1 a2 σ = some out) : vx_Met l yX6_weight (wq yX6_weight cX6_weight 3 (Option.some FieldType.int)) rm_X6_weight (zQ0 D cA B0 [.ref a0, .int a1, .int a2] Γ σ (ZB B0)) (zQx D cA B0 (fun r : Int32 => some (.int r)) Γ out (ZB B0)) (zXx D cA B0 Γ out (ZB B0)) 2 12 (FR B0) := by
  refine z_ofX h9 (by decide) (Nat.le_of_ble_eq_true rfl) ?_
  intro p e s m args below meth c ls hC hr htab hw hl
  have hx := hC.1
  have hb := hC.2.1
  have hl : lv_has ls 3 [(0, .ref a0), (1, .int a1), (2, .int a2)] := hl
  unfold f_X6_weight at hf
  refine lv_iload_n hx hb dX6_weight_0 rfl (lv_at hl 1 rfl) ?_
  obtain ⟨q, hk, hn, hxx⟩ := xbnd_inv hf
  refine z_xcallS (As := [.int a1]) (rest := []) (m_X6_checkSlot hC.2.2.2.2.2.2.2.2 hk) hC hw wd_X6_checkSlot lkM_X6_78 rfl ⟨rfl, rfl⟩ ⟨(Nat.le_of_ble_eq_true rfl), (Nat.le_of_ble_eq_true rfl)⟩ hl.1 rfl (Nat.le_of_ble_eq_true rfl) dX6_weight_1 ⟨(Nat.le_of_ble_eq_true rfl), (Nat.le_of_ble_eq_true rfl)⟩ (fun u9 σ1 eq H locs hw => ?_) (fun k9 s9 eq H locs q9 ce9 hw e1 e2 e3 => z_xout hC hw (hxx _ _ eq) htab e1 e2 e3 (Nat.le_of_ble_eq_true rfl) (Nat.le_of_ble_eq_true rfl))
  have hf := hn _ _ eq
  refine lv_iload_n hx hb dX6_weight_4 rfl (lv_at hl 2 rfl) ?_
  refine lv_iconst (v := 0) hx hb dX6_weight_5 (by decide) ?_
  refine lv_ldc (v := 1000000) hx hb hC.2.2.2.1 (hC.2.2.2.2.1 _ lkK_X6_118) dX6_weight_6 ?_
  obtain ⟨q, hk, hn, hxx⟩ := xbnd_inv hf
  refine z_xcallS (As := [.int a2, .int 0, .int 1000000]) (rest := []) (m_X6_checkRange hC.2.2.2.2.2.2.2.2 hk) hC hw wd_X6_checkRange lkM_X6_81 rfl ⟨rfl, rfl⟩ ⟨(Nat.le_of_ble_eq_true rfl), (Nat.le_of_ble_eq_true rfl)⟩ hl.1 rfl (Nat.le_of_ble_eq_true rfl) dX6_weight_8 ⟨(Nat.le_of_ble_eq_true rfl), (Nat.le_of_ble_eq_true rfl)⟩ (fun u9 σ2 eq H locs hw => ?_) (fun k9 s9 eq H locs q9 ce9 hw e1 e2 e3 => z_xout hC hw (hxx _ _ eq) htab e1 e2 e3 (Nat.le_of_ble_eq_true rfl) (Nat.le_of_ble_eq_true rfl))
  have hf := hn _ _ eq
  refine lv_aload_n hx hb dX6_weight_11 rfl (lv_at hl 0 rfl) ?_
  obtain ⟨v3, hg, hf⟩ := gfR_inv hf
  refine r_gfR hC hw hg clX6 (Nat.le_of_ble_eq_true rfl) lkF_X6_43 rfl dX6_weight_12 ?_
  refine lv_aload_n hx hb dX6_weight_15 rfl (lv_at hl 0 rfl) ?_
  obtain ⟨v4, hg, hf⟩ := gfR_inv hf
  refine r_gfR hC hw hg clX6 (Nat.le_of_ble_eq_true rfl) lkF_X6_13 rfl dX6_weight_16 ?_
  refine lv_iload_n hx hb dX6_weight_19 rfl (lv_at hl 1 rfl) ?_
  obtain ⟨v5, hg, hf⟩ := ldA_inv hf
  refine r_ldA hC hw hg dX6_weight_20 ?_
  obtain ⟨ho, hf⟩ := chk_inv hf
  obtain ⟨_, σ6, hk, hf⟩ := bnd_inv hf
  refine z_callV (As := [.ref v5]) (rest := []) (m_X5_start hC.2.2.2.2.2.2.2.2 hk) hC hw wd_X5_start lkM_X6_119 (isO_sh ho) rfl rfl ⟨rfl, rfl⟩ ⟨(Nat.le_of_ble_eq_true rfl), (Nat.le_of_ble_eq_true rfl)⟩ hl.1 rfl (Nat.le_of_ble_eq_true rfl) dX6_weight_21 ⟨(Nat.le_of_ble_eq_true rfl), (Nat.le_of_ble_eq_true rfl)⟩ (fun H locs hw => ?_)
  refine lv_aload_n hx hb dX6_weight_24 rfl (lv_at hl 0 rfl) ?_
  obtain ⟨v7, hg, hf⟩ := gfR_inv hf
  refine r_gfR hC hw hg clX6 (Nat.le_of_ble_eq_true rfl) lkF_X6_43 rfl dX6_weight_25 ?_
  refine lv_aload_n hx hb dX6_weight_28 rfl (lv_at hl 0 rfl) ?_
  obtain ⟨v8, hg, hf⟩ := gfR_inv hf
  refine r_gfR hC hw hg clX6 (Nat.le_of_ble_eq_true rfl) lkF_X6_13 rfl dX6_weight_29 ?_
  refine lv_iload_n hx hb dX6_weight_32 rfl (lv_at hl 1 rfl) ?_
  obtain ⟨v9, hg, hf⟩ := ldA_inv hf
  refine r_ldA hC hw hg dX6_weight_33 ?_
  refine lv_iload_n hx hb dX6_weight_34 rfl (lv_at hl 2 rfl) ?_
  obtain ⟨ho, hf⟩ := chk_inv hf
  obtain ⟨_, σ10, hk, hf⟩ := bnd_inv hf
  refine z_callV (As := [.ref v9, .int a2]) (rest := []) (m_X5_takeWord hC.2.2.2.2.2.2.2.2 hk) hC hw wd_X5_takeWord lkM_X6_123 (isO_sh ho) rfl rfl ⟨rfl, rfl⟩ ⟨(Nat.le_of_ble_eq_true rfl), (Nat.le_of_ble_eq_true rfl)⟩ hl.1 rfl (Nat.le_of_ble_eq_true rfl) dX6_weight_35 ⟨(Nat.le_of_ble_eq_true rfl), (Nat.le_of_ble_eq_true rfl)⟩ (fun H locs hw => ?_)
  refine lv_aload_n hx hb dX6_weight_38 rfl (lv_at hl 0 rfl) ?_
  obtain ⟨v11, hg, hf⟩ := gfR_inv hf
  refine r_gfR hC hw hg clX6 (Nat.le_of_ble_eq_true rfl) lkF_X6_43 rfl dX6_weight_39 ?_
  refine lv_aload_n hx hb dX6_weight_42 rfl (lv_at hl 0 rfl) ?_
  obtain ⟨v12, hg, hf⟩ := gfR_inv hf
  refine r_gfR hC hw hg clX6 (Nat.le_of_ble_eq_true rfl) lkF_X6_13 rfl dX6_weight_43 ?_
  refine lv_iload_n hx hb dX6_weight_46 rfl (lv_at hl 1 rfl) ?_
  obtain ⟨v13, hg, hf⟩ := ldA_inv hf
  refine r_ldA hC hw hg dX6_weight_47 ?_
  obtain ⟨ho, hf⟩ := chk_inv hf
  obtain ⟨r15, σ14, hk, hf⟩ := bnd_inv hf
  refine z_callV (As := [.ref v13]) (rest := []) (m_X5_value hC.2.2.2.2.2.2.2.2 hk) hC hw wd_X5_value lkM_X6_127 (isO_sh ho) rfl rfl ⟨rfl, rfl⟩ ⟨(Nat.le_of_ble_eq_true rfl), (Nat.le_of_ble_eq_true rfl)⟩ hl.1 rfl (Nat.le_of_ble_eq_true rfl) dX6_weight_48 ⟨(Nat.le_of_ble_eq_true rfl), (Nat.le_of_ble_eq_true rfl)⟩ (fun H locs hw => ?_)
  refine vx_ret ?_
  refine W.widen (k := 2) (n := 12) (Nat.le_of_ble_eq_true rfl) (Nat.le_of_ble_eq_true rfl) ?_
  exact W.iret hx hb hr (z_retx hw (Option.some.inj hf).symm rfl) hw.2.2.2.2.2 dX6_weight_51 hC.2.2.2.2.2.1
set_option maxHeartbeats 4000000 in
set_option maxRecDepth 100000 in
theorem t_X6_powerWeight_B35 (hC : zC p l s m args meth c cX6_powerWeight 5 RX6 D cA B0) (hr : meth.sig.returnType = (Option.some FieldType.int)) (htab : ∀ x ∈ c.exceptionTable.toList, False) {Γ : zSh} {x0 : Nat} {x1 : Int32} {x2 : Int32} {x3 : Int32} {x4 : Int32} {σ : zSt} {out : ((Int32 × zSt) ⊕ (zSt))} (hf : f_X6_powerWeight_B35 Γ x0 x1 x2 x3 x4 σ = some out) {H : Heap} {locs : List Loc} {ls : Array Slot} (hw : zO D cA B0 Γ σ (ZB B0) s.heap H locs) (hl : lv_has ls 5 [(0, .ref x0), (1, .int x1), (2, .int x2), (3, .int x3), (4, .int x4)])
    (kI : ∀ (z4 : Int32) (σ2 : zSt), out = .inl (z4, σ2) → ∀ (H : Heap) (locs : List Loc) (ls : Array Slot), zO D cA B0 Γ σ2 (ZB B0) s.heap H locs → lv_has ls 5 [(0, .ref x0), (1, .int x1), (2, .int x2), (3, .int x3), (4, .int z4)] → W p l e rm_X6_powerWeight s m args below meth c H locs 3 18 Q (F0 m 35 ls []))
    (kE : ∀ (σ2 : zSt), out = .inr σ2 → ∀ (H : Heap) (locs : List Loc) (ls : Array Slot), zO D cA B0 Γ σ2 (ZB B0) s.heap H locs → lv_has ls 5 [(0, .ref x0), (1, .int x1)] → W p l e rm_X6_powerWeight s m args below meth c H locs 3 18 Q (F0 m 61 ls [])) :
    W p l e rm_X6_powerWeight s m args below meth c H locs 3 18 Q (F0 m 35 ls []) := by
  have hx := hC.1
  have hb := hC.2.1
  unfold f_X6_powerWeight_B35 at hf
  refine lv_iload hx hb dX6_powerWeight_35 (lv_at hl 4 rfl) ?_
  refine lv_iload_n hx hb dX6_powerWeight_37 rfl (lv_at hl 3 rfl) ?_
  refine lv_icmp_ge (tgt := 61) hx hb dX6_powerWeight_38 (by decide) (fun hc => ?_) (fun hc => ?_)
  · rw [if_pos hc] at hf
    exact kE  σ (Option.some.inj hf).symm _ _ _ hw (lv_sub hl [0, 1] rfl)
  · rw [if_neg hc] at hf
    refine lv_aload_n hx hb dX6_powerWeight_41 rfl (lv_at hl 0 rfl) ?_
    obtain ⟨v8, hg, hf⟩ := gfR_inv hf
    refine r_gfR hC hw hg clX6 (Nat.le_of_ble_eq_true rfl) lkF_X6_43 rfl dX6_powerWeight_42 ?_
    refine lv_aload_n hx hb dX6_powerWeight_45 rfl (lv_at hl 0 rfl) ?_
    obtain ⟨v9, hg, hf⟩ := gfR_inv hf
    refine r_gfR hC hw hg clX6 (Nat.le_of_ble_eq_true rfl) lkF_X6_13 rfl dX6_powerWeight_46 ?_
    refine lv_iload_n hx hb dX6_powerWeight_49 rfl (lv_at hl 1 rfl) ?_
    obtain ⟨v10, hg, hf⟩ := ldA_inv hf
    refine r_ldA hC hw hg dX6_powerWeight_50 ?_
    refine lv_iload_n hx hb dX6_powerWeight_51 rfl (lv_at hl 2 rfl) ?_
    obtain ⟨ho, hf⟩ := chk_inv hf
    obtain ⟨_, σ11, hk, hf⟩ := bnd_inv hf
    refine z_callV (As := [.ref v10, .int x2]) (rest := []) (m_X5_takeWord hC.2.2.2.2.2.2.2.2 hk) hC hw wd_X5_takeWord lkM_X6_123 (isO_sh ho) rfl rfl ⟨rfl, rfl⟩ ⟨(Nat.le_of_ble_eq_true rfl), (Nat.le_of_ble_eq_true rfl)⟩ hl.1 rfl (Nat.le_of_ble_eq_true rfl) dX6_powerWeight_52 ⟨(Nat.le_of_ble_eq_true rfl), (Nat.le_of_ble_eq_true rfl)⟩ (fun H locs hw => ?_)
    refine lv_iinc (v := (x4 + 1)) (lv' := [(4, .int (x4 + 1)), (0, .ref x0), (1, .int x1), (2, .int x2), (3, .int x3)]) hx hb dX6_powerWeight_55 hl (k := 4) rfl rfl (Nat.le_of_ble_eq_true rfl) rfl (fun ls hl => ?_)
    refine lv_goto (tgt := 35) hx hb dX6_powerWeight_58 (by decide) ?_
    exact kI (x4 + 1) σ11 (Option.some.inj hf).symm _ _ _ hw (lv_sub hl [1, 2, 3, 4, 0] rfl)
set_option maxHeartbeats 4000000 in
theorem l_X6_powerWeight_B35 (hC : zC p l s m args meth c cX6_powerWeight 5 RX6 D cA B0) (hr : meth.sig.returnType = (Option.some FieldType.int)) (htab : ∀ x ∈ c.exceptionTable.toList, False) {Γ : zSh} {x0 : Nat} {x1 : Int32} {x2 : Int32} {x3 : Int32} {σ2 : zSt} (kE : ∀ (H : Heap) (locs : List Loc) (ls : Array Slot), zO D cA B0 Γ σ2 (ZB B0) s.heap H locs → lv_has ls 5 [(0, .ref x0), (1, .int x1)] → W p l e rm_X6_powerWeight s m args below meth c H locs 3 18 Q (F0 m 61 ls [])) :
    ∀ (n : Nat) (x4 : Int32) (σ : zSt), loopM (fun q => f_X6_powerWeight_B35 Γ x0 x1 x2 x3 q.1 q.2) n (x4, σ) = some σ2 → ∀ (H : Heap) (locs : List Loc) (ls : Array Slot), zO D cA B0 Γ σ (ZB B0) s.heap H locs → lv_has ls 5 [(0, .ref x0), (1, .int x1), (2, .int x2), (3, .int x3), (4, .int x4)] → W p l e rm_X6_powerWeight s m args below meth c H locs 3 18 Q (F0 m 35 ls []) := by
  intro n
  induction n with
  | zero => intro x4 σ h; exact absurd h (by simp [loopM])
  | succ n ih =>
    intro x4 σ h H locs ls hw hl
    obtain ⟨r, h1, h2, h3⟩ := loopM_inv h
    exact t_X6_powerWeight_B35 hC hr htab h1 hw hl (fun z4 s2 e H locs ls hw hl => ih z4 s2 (h2 _ e) H locs ls hw hl) (fun s2 e H locs ls hw hl => by cases h3 _ e; exact kE H locs ls hw hl)
set_option maxHeartbeats 4000000 in
set_option maxRecDepth 100000 in
theorem m_X6_powerWeight (h9 : l.stackTraces = false) {Γ : zSh} {a0 : Nat} {a1 : Int32} {a2 : Int32} {a3 : Int32} {σ : zSt} {out : ((Int32 × zSt) ⊕ (Nat × zSt))} (hf : f_X6_powerWeight Γ a0 a1 a2 a3 σ = some out) : vx_Met l yX6_powerWeight (wq yX6_powerWeight cX6_powerWeight 5 (Option.some FieldType.int)) rm_X6_powerWeight (zQ0 D cA B0 [.ref a0, .int a1, .int a2, .int a3] Γ σ (ZB B0)) (zQx D cA B0 (fun r : Int32 => some (.int r)) Γ out (ZB B0)) (zXx D cA B0 Γ out (ZB B0)) 3 18 (FR B0) := by
  refine z_ofX h9 (by decide) (Nat.le_of_ble_eq_true rfl) ?_
  intro p e s m args below meth c ls hC hr htab hw hl
  have hx := hC.1
  have hb := hC.2.1
  have hl : lv_has ls 5 [(0, .ref a0), (1, .int a1), (2, .int a2), (3, .int a3)] := hl
  unfold f_X6_powerWeight at hf
  refine lv_iload_n hx hb dX6_powerWeight_0 rfl (lv_at hl 1 rfl) ?_
  obtain ⟨q, hk, hn, hxx⟩ := xbnd_inv hf
  refine z_xcallS (As := [.int a1]) (rest := []) (m_X6_checkSlot hC.2.2.2.2.2.2.2.2 hk) hC hw wd_X6_checkSlot lkM_X6_78 rfl ⟨rfl, rfl⟩ ⟨(Nat.le_of_ble_eq_true rfl), (Nat.le_of_ble_eq_true rfl)⟩ hl.1 rfl (Nat.le_of_ble_eq_true rfl) dX6_powerWeight_1 ⟨(Nat.le_of_ble_eq_true rfl), (Nat.le_of_ble_eq_true rfl)⟩ (fun u9 σ1 eq H locs hw => ?_) (fun k9 s9 eq H locs q9 ce9 hw e1 e2 e3 => z_xout hC hw (hxx _ _ eq) htab e1 e2 e3 (Nat.le_of_ble_eq_true rfl) (Nat.le_of_ble_eq_true rfl))
  have hf := hn _ _ eq
  refine lv_iload_n hx hb dX6_powerWeight_4 rfl (lv_at hl 2 rfl) ?_
  refine lv_iconst (v := 0) hx hb dX6_powerWeight_5 (by decide) ?_
  refine lv_ldc (v := 1000000) hx hb hC.2.2.2.1 (hC.2.2.2.2.1 _ lkK_X6_118) dX6_powerWeight_6 ?_
  obtain ⟨q, hk, hn, hxx⟩ := xbnd_inv hf
  refine z_xcallS (As := [.int a2, .int 0, .int 1000000]) (rest := []) (m_X6_checkRange hC.2.2.2.2.2.2.2.2 hk) hC hw wd_X6_checkRange lkM_X6_81 rfl ⟨rfl, rfl⟩ ⟨(Nat.le_of_ble_eq_true rfl), (Nat.le_of_ble_eq_true rfl)⟩ hl.1 rfl (Nat.le_of_ble_eq_true rfl) dX6_powerWeight_8 ⟨(Nat.le_of_ble_eq_true rfl), (Nat.le_of_ble_eq_true rfl)⟩ (fun u9 σ2 eq H locs hw => ?_) (fun k9 s9 eq H locs q9 ce9 hw e1 e2 e3 => z_xout hC hw (hxx _ _ eq) htab e1 e2 e3 (Nat.le_of_ble_eq_true rfl) (Nat.le_of_ble_eq_true rfl))
  have hf := hn _ _ eq
  refine lv_iload_n hx hb dX6_powerWeight_11 rfl (lv_at hl 3 rfl) ?_
  refine lv_iconst (v := 0) hx hb dX6_powerWeight_12 (by decide) ?_
  refine lv_sipush (v := 200) hx hb dX6_powerWeight_13 (by decide) ?_
  obtain ⟨q, hk, hn, hxx⟩ := xbnd_inv hf
  refine z_xcallS (As := [.int a3, .int 0, .int 200]) (rest := []) (m_X6_checkRange hC.2.2.2.2.2.2.2.2 hk) hC hw wd_X6_checkRange lkM_X6_81 rfl ⟨rfl, rfl⟩ ⟨(Nat.le_of_ble_eq_true rfl), (Nat.le_of_ble_eq_true rfl)⟩ hl.1 rfl (Nat.le_of_ble_eq_true rfl) dX6_powerWeight_16 ⟨(Nat.le_of_ble_eq_true rfl), (Nat.le_of_ble_eq_true rfl)⟩ (fun u9 σ3 eq H locs hw => ?_) (fun k9 s9 eq H locs q9 ce9 hw e1 e2 e3 => z_xout hC hw (hxx _ _ eq) htab e1 e2 e3 (Nat.le_of_ble_eq_true rfl) (Nat.le_of_ble_eq_true rfl))
  have hf := hn _ _ eq
  refine lv_aload_n hx hb dX6_powerWeight_19 rfl (lv_at hl 0 rfl) ?_
  obtain ⟨v4, hg, hf⟩ := gfR_inv hf
  refine r_gfR hC hw hg clX6 (Nat.le_of_ble_eq_true rfl) lkF_X6_43 rfl dX6_powerWeight_20 ?_
  refine lv_aload_n hx hb dX6_powerWeight_23 rfl (lv_at hl 0 rfl) ?_
  obtain ⟨v5, hg, hf⟩ := gfR_inv hf
  refine r_gfR hC hw hg clX6 (Nat.le_of_ble_eq_true rfl) lkF_X6_13 rfl dX6_powerWeight_24 ?_
  refine lv_iload_n hx hb dX6_powerWeight_27 rfl (lv_at hl 1 rfl) ?_
  obtain ⟨v6, hg, hf⟩ := ldA_inv hf
  refine r_ldA hC hw hg dX6_powerWeight_28 ?_
  obtain ⟨ho, hf⟩ := chk_inv hf
  obtain ⟨_, σ7, hk, hf⟩ := bnd_inv hf
  refine z_callV (As := [.ref v6]) (rest := []) (m_X5_start hC.2.2.2.2.2.2.2.2 hk) hC hw wd_X5_start lkM_X6_119 (isO_sh ho) rfl rfl ⟨rfl, rfl⟩ ⟨(Nat.le_of_ble_eq_true rfl), (Nat.le_of_ble_eq_true rfl)⟩ hl.1 rfl (Nat.le_of_ble_eq_true rfl) dX6_powerWeight_29 ⟨(Nat.le_of_ble_eq_true rfl), (Nat.le_of_ble_eq_true rfl)⟩ (fun H locs hw => ?_)
  refine lv_iconst (v := 0) hx hb dX6_powerWeight_32 (by decide) ?_
  refine lv_istore (lv' := [(4, .int 0), (0, .ref a0), (1, .int a1), (2, .int a2), (3, .int a3)]) hx hb dX6_powerWeight_33 hl (Nat.le_of_ble_eq_true rfl) rfl (fun ls hl => ?_)
  obtain ⟨σ12, hk, hf⟩ := lb0_inv hf
  refine l_X6_powerWeight_B35 hC hr htab (fun H locs ls hw hl => ?_) FUEL 0 σ7 hk _ _ _ hw (lv_sub hl [1, 2, 3, 4, 0] rfl)
  refine lv_aload_n hx hb dX6_powerWeight_61 rfl (lv_at hl 0 rfl) ?_
  obtain ⟨v13, hg, hf⟩ := gfR_inv hf
  refine r_gfR hC hw hg clX6 (Nat.le_of_ble_eq_true rfl) lkF_X6_43 rfl dX6_powerWeight_62 ?_
  refine lv_aload_n hx hb dX6_powerWeight_65 rfl (lv_at hl 0 rfl) ?_
  obtain ⟨v14, hg, hf⟩ := gfR_inv hf
  refine r_gfR hC hw hg clX6 (Nat.le_of_ble_eq_true rfl) lkF_X6_13 rfl dX6_powerWeight_66 ?_
  refine lv_iload_n hx hb dX6_powerWeight_69 rfl (lv_at hl 1 rfl) ?_
  obtain ⟨v15, hg, hf⟩ := ldA_inv hf
  refine r_ldA hC hw hg dX6_powerWeight_70 ?_
  obtain ⟨ho, hf⟩ := chk_inv hf
  obtain ⟨r17, σ16, hk, hf⟩ := bnd_inv hf
  refine z_callV (As := [.ref v15]) (rest := []) (m_X5_value hC.2.2.2.2.2.2.2.2 hk) hC hw wd_X5_value lkM_X6_127 (isO_sh ho) rfl rfl ⟨rfl, rfl⟩ ⟨(Nat.le_of_ble_eq_true rfl), (Nat.le_of_ble_eq_true rfl)⟩ hl.1 rfl (Nat.le_of_ble_eq_true rfl) dX6_powerWeight_71 ⟨(Nat.le_of_ble_eq_true rfl), (Nat.le_of_ble_eq_true rfl)⟩ (fun H locs hw => ?_)
  refine vx_ret ?_
  refine W.widen (k := 3) (n := 18) (Nat.le_of_ble_eq_true rfl) (Nat.le_of_ble_eq_true rfl) ?_
  exact W.iret hx hb hr (z_retx hw (Option.some.inj hf).symm rfl) hw.2.2.2.2.2 dX6_powerWeight_74 hC.2.2.2.2.2.1
set_option maxHeartbeats 4000000 in
set_option maxRecDepth 100000 in
theorem t_X6_total_B27 (hC : zC p l s m args meth c cX6_total 4 RX6 D cA B0) (hr : meth.sig.returnType = (Option.some FieldType.int)) (htab : ∀ x ∈ c.exceptionTable.toList, False) {Γ : zSh} {x0 : Nat} {x1 : Int32} {x2 : Int32} {x3 : Int32} {σ : zSt} {out : ((Int32 × zSt) ⊕ (zSt))} (hf : f_X6_total_B27 Γ x0 x1 x2 x3 σ = some out) {H : Heap} {locs : List Loc} {ls : Array Slot} (hw : zO D cA B0 Γ σ (ZB B0) s.heap H locs) (hl : lv_has ls 4 [(0, .ref x0), (1, .int x1), (2, .int x2), (3, .int x3)])
    (kI : ∀ (z3 : Int32) (σ2 : zSt), out = .inl (z3, σ2) → ∀ (H : Heap) (locs : List Loc) (ls : Array Slot), zO D cA B0 Γ σ2 (ZB B0) s.heap H locs → lv_has ls 4 [(0, .ref x0), (1, .int x1), (2, .int x2), (3, .int z3)] → W p l e rm_X6_total s m args below meth c H locs 2 12 Q (F0 m 27 ls []))
    (kE : ∀ (σ2 : zSt), out = .inr σ2 → ∀ (H : Heap) (locs : List Loc) (ls : Array Slot), zO D cA B0 Γ σ2 (ZB B0) s.heap H locs → lv_has ls 4 [(0, .ref x0), (1, .int x1)] → W p l e rm_X6_total s m args below meth c H locs 2 12 Q (F0 m 51 ls [])) :
    W p l e rm_X6_total s m args below meth c H locs 2 12 Q (F0 m 27 ls []) := by
  have hx := hC.1
  have hb := hC.2.1
  unfold f_X6_total_B27 at hf
  refine lv_iload_n hx hb dX6_total_27 rfl (lv_at hl 3 rfl) ?_
  refine lv_iload_n hx hb dX6_total_28 rfl (lv_at hl 2 rfl) ?_
  refine lv_icmp_ge (tgt := 51) hx hb dX6_total_29 (by decide) (fun hc => ?_) (fun hc => ?_)
  · rw [if_pos hc] at hf
    exact kE  σ (Option.some.inj hf).symm _ _ _ hw (lv_sub hl [0, 1] rfl)
  · rw [if_neg hc] at hf
    refine lv_aload_n hx hb dX6_total_32 rfl (lv_at hl 0 rfl) ?_
    obtain ⟨v7, hg, hf⟩ := gfR_inv hf
    refine r_gfR hC hw hg clX6 (Nat.le_of_ble_eq_true rfl) lkF_X6_43 rfl dX6_total_33 ?_
    refine lv_aload_n hx hb dX6_total_36 rfl (lv_at hl 0 rfl) ?_
    obtain ⟨v8, hg, hf⟩ := gfR_inv hf
    refine r_gfR hC hw hg clX6 (Nat.le_of_ble_eq_true rfl) lkF_X6_13 rfl dX6_total_37 ?_
    refine lv_iload_n hx hb dX6_total_40 rfl (lv_at hl 1 rfl) ?_
    obtain ⟨v9, hg, hf⟩ := ldA_inv hf
    refine r_ldA hC hw hg dX6_total_41 ?_
    obtain ⟨ho, hf⟩ := chk_inv hf
    obtain ⟨_, σ10, hk, hf⟩ := bnd_inv hf
    refine z_callV (As := [.ref v9]) (rest := []) (m_X5_takeBoth hC.2.2.2.2.2.2.2.2 hk) hC hw wd_X5_takeBoth lkM_X6_131 (isO_sh ho) rfl rfl ⟨rfl, rfl⟩ ⟨(Nat.le_of_ble_eq_true rfl), (Nat.le_of_ble_eq_true rfl)⟩ hl.1 rfl (Nat.le_of_ble_eq_true rfl) dX6_total_42 ⟨(Nat.le_of_ble_eq_true rfl), (Nat.le_of_ble_eq_true rfl)⟩ (fun H locs hw => ?_)
    refine lv_iinc (v := (x3 + 1)) (lv' := [(3, .int (x3 + 1)), (0, .ref x0), (1, .int x1), (2, .int x2)]) hx hb dX6_total_45 hl (k := 3) rfl rfl (Nat.le_of_ble_eq_true rfl) rfl (fun ls hl => ?_)
    refine lv_goto (tgt := 27) hx hb dX6_total_48 (by decide) ?_
    exact kI (x3 + 1) σ10 (Option.some.inj hf).symm _ _ _ hw (lv_sub hl [1, 2, 3, 0] rfl)
set_option maxHeartbeats 4000000 in
theorem l_X6_total_B27 (hC : zC p l s m args meth c cX6_total 4 RX6 D cA B0) (hr : meth.sig.returnType = (Option.some FieldType.int)) (htab : ∀ x ∈ c.exceptionTable.toList, False) {Γ : zSh} {x0 : Nat} {x1 : Int32} {x2 : Int32} {σ2 : zSt} (kE : ∀ (H : Heap) (locs : List Loc) (ls : Array Slot), zO D cA B0 Γ σ2 (ZB B0) s.heap H locs → lv_has ls 4 [(0, .ref x0), (1, .int x1)] → W p l e rm_X6_total s m args below meth c H locs 2 12 Q (F0 m 51 ls [])) :
    ∀ (n : Nat) (x3 : Int32) (σ : zSt), loopM (fun q => f_X6_total_B27 Γ x0 x1 x2 q.1 q.2) n (x3, σ) = some σ2 → ∀ (H : Heap) (locs : List Loc) (ls : Array Slot), zO D cA B0 Γ σ (ZB B0) s.heap H locs → lv_has ls 4 [(0, .ref x0), (1, .int x1), (2, .int x2), (3, .int x3)] → W p l e rm_X6_total s m args below meth c H locs 2 12 Q (F0 m 27 ls []) := by
  intro n
  induction n with
  | zero => intro x3 σ h; exact absurd h (by simp [loopM])
  | succ n ih =>
    intro x3 σ h H locs ls hw hl
    obtain ⟨r, h1, h2, h3⟩ := loopM_inv h
    exact t_X6_total_B27 hC hr htab h1 hw hl (fun z3 s2 e H locs ls hw hl => ih z3 s2 (h2 _ e) H locs ls hw hl) (fun s2 e H locs ls hw hl => by cases h3 _ e; exact kE H locs ls hw hl)
set_option maxHeartbeats 4000000 in
set_option maxRecDepth 100000 in
theorem m_X6_total (h9 : l.stackTraces = false) {Γ : zSh} {a0 : Nat} {a1 : Int32} {a2 : Int32} {σ : zSt} {out : ((Int32 × zSt) ⊕ (Nat × zSt))} (hf : f_X6_total Γ a0 a1 a2 σ = some out) : vx_Met l yX6_total (wq yX6_total cX6_total 4 (Option.some FieldType.int)) rm_X6_total (zQ0 D cA B0 [.ref a0, .int a1, .int a2] Γ σ (ZB B0)) (zQx D cA B0 (fun r : Int32 => some (.int r)) Γ out (ZB B0)) (zXx D cA B0 Γ out (ZB B0)) 2 12 (FR B0) := by
  refine z_ofX h9 (by decide) (Nat.le_of_ble_eq_true rfl) ?_
  intro p e s m args below meth c ls hC hr htab hw hl
  have hx := hC.1
  have hb := hC.2.1
  have hl : lv_has ls 4 [(0, .ref a0), (1, .int a1), (2, .int a2)] := hl
  unfold f_X6_total at hf
  refine lv_iload_n hx hb dX6_total_0 rfl (lv_at hl 1 rfl) ?_
  obtain ⟨q, hk, hn, hxx⟩ := xbnd_inv hf
  refine z_xcallS (As := [.int a1]) (rest := []) (m_X6_checkSlot hC.2.2.2.2.2.2.2.2 hk) hC hw wd_X6_checkSlot lkM_X6_78 rfl ⟨rfl, rfl⟩ ⟨(Nat.le_of_ble_eq_true rfl), (Nat.le_of_ble_eq_true rfl)⟩ hl.1 rfl (Nat.le_of_ble_eq_true rfl) dX6_total_1 ⟨(Nat.le_of_ble_eq_true rfl), (Nat.le_of_ble_eq_true rfl)⟩ (fun u9 σ1 eq H locs hw => ?_) (fun k9 s9 eq H locs q9 ce9 hw e1 e2 e3 => z_xout hC hw (hxx _ _ eq) htab e1 e2 e3 (Nat.le_of_ble_eq_true rfl) (Nat.le_of_ble_eq_true rfl))
  have hf := hn _ _ eq
  refine lv_iload_n hx hb dX6_total_4 rfl (lv_at hl 2 rfl) ?_
  refine lv_iconst (v := 0) hx hb dX6_total_5 (by decide) ?_
  refine lv_sipush (v := 2000) hx hb dX6_total_6 (by decide) ?_
  obtain ⟨q, hk, hn, hxx⟩ := xbnd_inv hf
  refine z_xcallS (As := [.int a2, .int 0, .int 2000]) (rest := []) (m_X6_checkRange hC.2.2.2.2.2.2.2.2 hk) hC hw wd_X6_checkRange lkM_X6_81 rfl ⟨rfl, rfl⟩ ⟨(Nat.le_of_ble_eq_true rfl), (Nat.le_of_ble_eq_true rfl)⟩ hl.1 rfl (Nat.le_of_ble_eq_true rfl) dX6_total_9 ⟨(Nat.le_of_ble_eq_true rfl), (Nat.le_of_ble_eq_true rfl)⟩ (fun u9 σ2 eq H locs hw => ?_) (fun k9 s9 eq H locs q9 ce9 hw e1 e2 e3 => z_xout hC hw (hxx _ _ eq) htab e1 e2 e3 (Nat.le_of_ble_eq_true rfl) (Nat.le_of_ble_eq_true rfl))
  have hf := hn _ _ eq
  refine lv_aload_n hx hb dX6_total_12 rfl (lv_at hl 0 rfl) ?_
  obtain ⟨v3, hg, hf⟩ := gfR_inv hf
  refine r_gfR hC hw hg clX6 (Nat.le_of_ble_eq_true rfl) lkF_X6_43 rfl dX6_total_13 ?_
  refine lv_aload_n hx hb dX6_total_16 rfl (lv_at hl 0 rfl) ?_
  obtain ⟨v4, hg, hf⟩ := gfR_inv hf
  refine r_gfR hC hw hg clX6 (Nat.le_of_ble_eq_true rfl) lkF_X6_13 rfl dX6_total_17 ?_
  refine lv_iload_n hx hb dX6_total_20 rfl (lv_at hl 1 rfl) ?_
  obtain ⟨v5, hg, hf⟩ := ldA_inv hf
  refine r_ldA hC hw hg dX6_total_21 ?_
  obtain ⟨ho, hf⟩ := chk_inv hf
  obtain ⟨_, σ6, hk, hf⟩ := bnd_inv hf
  refine z_callV (As := [.ref v5]) (rest := []) (m_X5_start hC.2.2.2.2.2.2.2.2 hk) hC hw wd_X5_start lkM_X6_119 (isO_sh ho) rfl rfl ⟨rfl, rfl⟩ ⟨(Nat.le_of_ble_eq_true rfl), (Nat.le_of_ble_eq_true rfl)⟩ hl.1 rfl (Nat.le_of_ble_eq_true rfl) dX6_total_22 ⟨(Nat.le_of_ble_eq_true rfl), (Nat.le_of_ble_eq_true rfl)⟩ (fun H locs hw => ?_)
  refine lv_iconst (v := 0) hx hb dX6_total_25 (by decide) ?_
  refine lv_istore_n (lv' := [(3, .int 0), (0, .ref a0), (1, .int a1), (2, .int a2)]) hx hb dX6_total_26 rfl hl (Nat.le_of_ble_eq_true rfl) rfl (fun ls hl => ?_)
  obtain ⟨σ11, hk, hf⟩ := lb0_inv hf
  refine l_X6_total_B27 hC hr htab (fun H locs ls hw hl => ?_) FUEL 0 σ6 hk _ _ _ hw (lv_sub hl [1, 2, 3, 0] rfl)
  refine lv_aload_n hx hb dX6_total_51 rfl (lv_at hl 0 rfl) ?_
  obtain ⟨v12, hg, hf⟩ := gfR_inv hf
  refine r_gfR hC hw hg clX6 (Nat.le_of_ble_eq_true rfl) lkF_X6_43 rfl dX6_total_52 ?_
  refine lv_aload_n hx hb dX6_total_55 rfl (lv_at hl 0 rfl) ?_
  obtain ⟨v13, hg, hf⟩ := gfR_inv hf
  refine r_gfR hC hw hg clX6 (Nat.le_of_ble_eq_true rfl) lkF_X6_13 rfl dX6_total_56 ?_
  refine lv_iload_n hx hb dX6_total_59 rfl (lv_at hl 1 rfl) ?_
  obtain ⟨v14, hg, hf⟩ := ldA_inv hf
  refine r_ldA hC hw hg dX6_total_60 ?_
  obtain ⟨ho, hf⟩ := chk_inv hf
  obtain ⟨r16, σ15, hk, hf⟩ := bnd_inv hf
  refine z_callV (As := [.ref v14]) (rest := []) (m_X5_value hC.2.2.2.2.2.2.2.2 hk) hC hw wd_X5_value lkM_X6_127 (isO_sh ho) rfl rfl ⟨rfl, rfl⟩ ⟨(Nat.le_of_ble_eq_true rfl), (Nat.le_of_ble_eq_true rfl)⟩ hl.1 rfl (Nat.le_of_ble_eq_true rfl) dX6_total_61 ⟨(Nat.le_of_ble_eq_true rfl), (Nat.le_of_ble_eq_true rfl)⟩ (fun H locs hw => ?_)
  refine vx_ret ?_
  refine W.widen (k := 2) (n := 12) (Nat.le_of_ble_eq_true rfl) (Nat.le_of_ble_eq_true rfl) ?_
  exact W.iret hx hb hr (z_retx hw (Option.some.inj hf).symm rfl) hw.2.2.2.2.2 dX6_total_64 hC.2.2.2.2.2.1
set_option maxHeartbeats 4000000 in
set_option maxRecDepth 100000 in
theorem t_X6_support_B30_L57 (hC : zC p l s m args meth c cX6_support 5 RX6 D cA B0) (hr : meth.sig.returnType = (Option.some FieldType.int)) (htab : ∀ x ∈ c.exceptionTable.toList, False) {Γ : zSh} {x0 : Nat} {x1 : Int32} {x2 : Int32} {x3 : Int32} {x4 : Int32}  {σ : zSt} {out : ((Int32 × Int32 × zSt) ⊕ (Int32 × zSt))} (hf : f_X6_support_B30_L57 Γ x0 x1 x2 x3 x4 σ = some out) {H : Heap} {locs : List Loc} {ls : Array Slot} (hw : zO D cA B0 Γ σ (ZB B0) s.heap H locs) (hl : lv_has ls 5 [(0, .ref x0), (1, .int x1), (2, .int x2), (3, .int x3), (4, .int x4)])
    (kI : ∀ (z3 : Int32) (z4 : Int32) (σ2 : zSt), out = .inl (z3, z4, σ2) → ∀ (H : Heap) (locs : List Loc) (ls : Array Slot), zO D cA B0 Γ σ2 (ZB B0) s.heap H locs → lv_has ls 5 [(0, .ref x0), (1, .int x1), (2, .int x2), (3, .int z3), (4, .int z4)] → W p l e rm_X6_support s m args below meth c H locs 2 12 Q (F0 m 30 ls []))
    (kE : ∀ (z3 : Int32) (σ2 : zSt), out = .inr (z3, σ2) → ∀ (H : Heap) (locs : List Loc) (ls : Array Slot), zO D cA B0 Γ σ2 (ZB B0) s.heap H locs → lv_has ls 5 [(3, .int z3)] → W p l e rm_X6_support s m args below meth c H locs 2 12 Q (F0 m 63 ls [])) :
    W p l e rm_X6_support s m args below meth c H locs 2 12 Q (F0 m 57 ls []) := by
  have hx := hC.1
  have hb := hC.2.1
  unfold f_X6_support_B30_L57 at hf
  refine lv_iinc (v := (x4 + 1)) (lv' := [(4, .int (x4 + 1)), (0, .ref x0), (1, .int x1), (2, .int x2), (3, .int x3)]) hx hb dX6_support_57 hl (k := 4) rfl rfl (Nat.le_of_ble_eq_true rfl) rfl (fun ls hl => ?_)
  refine lv_goto (tgt := 30) hx hb dX6_support_60 (by decide) ?_
  exact kI x3 (x4 + 1) σ (Option.some.inj hf).symm _ _ _ hw (lv_sub hl [1, 2, 3, 4, 0] rfl)
set_option maxHeartbeats 4000000 in
set_option maxRecDepth 100000 in
theorem t_X6_support_B30 (hC : zC p l s m args meth c cX6_support 5 RX6 D cA B0) (hr : meth.sig.returnType = (Option.some FieldType.int)) (htab : ∀ x ∈ c.exceptionTable.toList, False) {Γ : zSh} {x0 : Nat} {x1 : Int32} {x2 : Int32} {x3 : Int32} {x4 : Int32} {σ : zSt} {out : ((Int32 × Int32 × zSt) ⊕ (Int32 × zSt))} (hf : f_X6_support_B30 Γ x0 x1 x2 x3 x4 σ = some out) {H : Heap} {locs : List Loc} {ls : Array Slot} (hw : zO D cA B0 Γ σ (ZB B0) s.heap H locs) (hl : lv_has ls 5 [(0, .ref x0), (1, .int x1), (2, .int x2), (3, .int x3), (4, .int x4)])
    (kI : ∀ (z3 : Int32) (z4 : Int32) (σ2 : zSt), out = .inl (z3, z4, σ2) → ∀ (H : Heap) (locs : List Loc) (ls : Array Slot), zO D cA B0 Γ σ2 (ZB B0) s.heap H locs → lv_has ls 5 [(0, .ref x0), (1, .int x1), (2, .int x2), (3, .int z3), (4, .int z4)] → W p l e rm_X6_support s m args below meth c H locs 2 12 Q (F0 m 30 ls []))
    (kE : ∀ (z3 : Int32) (σ2 : zSt), out = .inr (z3, σ2) → ∀ (H : Heap) (locs : List Loc) (ls : Array Slot), zO D cA B0 Γ σ2 (ZB B0) s.heap H locs → lv_has ls 5 [(3, .int z3)] → W p l e rm_X6_support s m args below meth c H locs 2 12 Q (F0 m 63 ls [])) :
    W p l e rm_X6_support s m args below meth c H locs 2 12 Q (F0 m 30 ls []) := by
  have hx := hC.1
  have hb := hC.2.1
  unfold f_X6_support_B30 at hf
  refine lv_iload hx hb dX6_support_30 (lv_at hl 4 rfl) ?_
  refine lv_iload_n hx hb dX6_support_32 rfl (lv_at hl 2 rfl) ?_
  refine lv_icmp_ge (tgt := 63) hx hb dX6_support_33 (by decide) (fun hc => ?_) (fun hc => ?_)
  · rw [if_pos hc] at hf
    exact kE x3 σ (Option.some.inj hf).symm _ _ _ hw (lv_sub hl [3] rfl)
  · rw [if_neg hc] at hf
    refine lv_aload_n hx hb dX6_support_36 rfl (lv_at hl 0 rfl) ?_
    obtain ⟨v7, hg, hf⟩ := gfR_inv hf
    refine r_gfR hC hw hg clX6 (Nat.le_of_ble_eq_true rfl) lkF_X6_50 rfl dX6_support_37 ?_
    refine lv_aload_n hx hb dX6_support_40 rfl (lv_at hl 0 rfl) ?_
    obtain ⟨v8, hg, hf⟩ := gfR_inv hf
    refine r_gfR hC hw hg clX6 (Nat.le_of_ble_eq_true rfl) lkF_X6_13 rfl dX6_support_41 ?_
    refine lv_iload_n hx hb dX6_support_44 rfl (lv_at hl 1 rfl) ?_
    obtain ⟨v9, hg, hf⟩ := ldA_inv hf
    refine r_ldA hC hw hg dX6_support_45 ?_
    refine lv_iload hx hb dX6_support_46 (lv_at hl 4 rfl) ?_
    obtain ⟨ho, hf⟩ := chk_inv hf
    obtain ⟨r11, σ10, hk, hf⟩ := bnd_inv hf
    refine z_callV (As := [.ref v9, .int x4]) (rest := []) (m_X4_weigh hC.2.2.2.2.2.2.2.2 hk) hC hw wd_X4_weigh lkM_X6_135 (isO_sh ho) rfl rfl ⟨rfl, rfl⟩ ⟨(Nat.le_of_ble_eq_true rfl), (Nat.le_of_ble_eq_true rfl)⟩ hl.1 rfl (Nat.le_of_ble_eq_true rfl) dX6_support_48 ⟨(Nat.le_of_ble_eq_true rfl), (Nat.le_of_ble_eq_true rfl)⟩ (fun H locs hw => ?_)
    refine lv_if_eq (tgt := 57) hx hb dX6_support_51 (by decide) (fun hc => ?_) (fun hc => ?_)
    · rw [if_pos hc] at hf
      exact t_X6_support_B30_L57 hC hr htab hf hw (lv_sub hl [0, 1, 2, 3, 4] rfl) kI kE
    · rw [if_neg hc] at hf
      refine lv_iinc (v := (x3 + 1)) (lv' := [(3, .int (x3 + 1)), (0, .ref x0), (1, .int x1), (2, .int x2), (4, .int x4)]) hx hb dX6_support_54 hl (k := 3) rfl rfl (Nat.le_of_ble_eq_true rfl) rfl (fun ls hl => ?_)
      exact t_X6_support_B30_L57 hC hr htab hf hw (lv_sub hl [1, 2, 3, 0, 4] rfl) kI kE
set_option maxHeartbeats 4000000 in
theorem l_X6_support_B30 (hC : zC p l s m args meth c cX6_support 5 RX6 D cA B0) (hr : meth.sig.returnType = (Option.some FieldType.int)) (htab : ∀ x ∈ c.exceptionTable.toList, False) {Γ : zSh} {x0 : Nat} {x1 : Int32} {x2 : Int32} {w3 : Int32} {σ2 : zSt} (kE : ∀ (H : Heap) (locs : List Loc) (ls : Array Slot), zO D cA B0 Γ σ2 (ZB B0) s.heap H locs → lv_has ls 5 [(3, .int w3)] → W p l e rm_X6_support s m args below meth c H locs 2 12 Q (F0 m 63 ls [])) :
    ∀ (n : Nat) (x3 : Int32) (x4 : Int32) (σ : zSt), loopM (fun q => f_X6_support_B30 Γ x0 x1 x2 q.1 q.2.1 q.2.2) n (x3, x4, σ) = some (w3, σ2) → ∀ (H : Heap) (locs : List Loc) (ls : Array Slot), zO D cA B0 Γ σ (ZB B0) s.heap H locs → lv_has ls 5 [(0, .ref x0), (1, .int x1), (2, .int x2), (3, .int x3), (4, .int x4)] → W p l e rm_X6_support s m args below meth c H locs 2 12 Q (F0 m 30 ls []) := by
  intro n
  induction n with
  | zero => intro x3 x4 σ h; exact absurd h (by simp [loopM])
  | succ n ih =>
    intro x3 x4 σ h H locs ls hw hl
    obtain ⟨r, h1, h2, h3⟩ := loopM_inv h
    exact t_X6_support_B30 hC hr htab h1 hw hl (fun z3 z4 s2 e H locs ls hw hl => ih z3 z4 s2 (h2 _ e) H locs ls hw hl) (fun z3 s2 e H locs ls hw hl => by cases h3 _ e; exact kE H locs ls hw hl)
set_option maxHeartbeats 4000000 in
set_option maxRecDepth 100000 in
theorem m_X6_support (h9 : l.stackTraces = false) {Γ : zSh} {a0 : Nat} {a1 : Int32} {a2 : Int32} {σ : zSt} {out : ((Int32 × zSt) ⊕ (Nat × zSt))} (hf : f_X6_support Γ a0 a1 a2 σ = some out) : vx_Met l yX6_support (wq yX6_support cX6_support 5 (Option.some FieldType.int)) rm_X6_support (zQ0 D cA B0 [.ref a0, .int a1, .int a2] Γ σ (ZB B0)) (zQx D cA B0 (fun r : Int32 => some (.int r)) Γ out (ZB B0)) (zXx D cA B0 Γ out (ZB B0)) 2 12 (FR B0) := by
  refine z_ofX h9 (by decide) (Nat.le_of_ble_eq_true rfl) ?_
  intro p e s m args below meth c ls hC hr htab hw hl
  have hx := hC.1
  have hb := hC.2.1
  have hl : lv_has ls 5 [(0, .ref a0), (1, .int a1), (2, .int a2)] := hl
  unfold f_X6_support at hf
  refine lv_iload_n hx hb dX6_support_0 rfl (lv_at hl 1 rfl) ?_
  obtain ⟨q, hk, hn, hxx⟩ := xbnd_inv hf
  refine z_xcallS (As := [.int a1]) (rest := []) (m_X6_checkSlot hC.2.2.2.2.2.2.2.2 hk) hC hw wd_X6_checkSlot lkM_X6_78 rfl ⟨rfl, rfl⟩ ⟨(Nat.le_of_ble_eq_true rfl), (Nat.le_of_ble_eq_true rfl)⟩ hl.1 rfl (Nat.le_of_ble_eq_true rfl) dX6_support_1 ⟨(Nat.le_of_ble_eq_true rfl), (Nat.le_of_ble_eq_true rfl)⟩ (fun u9 σ1 eq H locs hw => ?_) (fun k9 s9 eq H locs q9 ce9 hw e1 e2 e3 => z_xout hC hw (hxx _ _ eq) htab e1 e2 e3 (Nat.le_of_ble_eq_true rfl) (Nat.le_of_ble_eq_true rfl))
  have hf := hn _ _ eq
  refine lv_iload_n hx hb dX6_support_4 rfl (lv_at hl 2 rfl) ?_
  refine lv_iconst (v := 0) hx hb dX6_support_5 (by decide) ?_
  refine lv_sipush (v := 4095) hx hb dX6_support_6 (by decide) ?_
  obtain ⟨q, hk, hn, hxx⟩ := xbnd_inv hf
  refine z_xcallS (As := [.int a2, .int 0, .int 4095]) (rest := []) (m_X6_checkRange hC.2.2.2.2.2.2.2.2 hk) hC hw wd_X6_checkRange lkM_X6_81 rfl ⟨rfl, rfl⟩ ⟨(Nat.le_of_ble_eq_true rfl), (Nat.le_of_ble_eq_true rfl)⟩ hl.1 rfl (Nat.le_of_ble_eq_true rfl) dX6_support_9 ⟨(Nat.le_of_ble_eq_true rfl), (Nat.le_of_ble_eq_true rfl)⟩ (fun u9 σ2 eq H locs hw => ?_) (fun k9 s9 eq H locs q9 ce9 hw e1 e2 e3 => z_xout hC hw (hxx _ _ eq) htab e1 e2 e3 (Nat.le_of_ble_eq_true rfl) (Nat.le_of_ble_eq_true rfl))
  have hf := hn _ _ eq
  refine lv_aload_n hx hb dX6_support_12 rfl (lv_at hl 0 rfl) ?_
  obtain ⟨v3, hg, hf⟩ := gfR_inv hf
  refine r_gfR hC hw hg clX6 (Nat.le_of_ble_eq_true rfl) lkF_X6_50 rfl dX6_support_13 ?_
  refine lv_aload_n hx hb dX6_support_16 rfl (lv_at hl 0 rfl) ?_
  obtain ⟨v4, hg, hf⟩ := gfR_inv hf
  refine r_gfR hC hw hg clX6 (Nat.le_of_ble_eq_true rfl) lkF_X6_13 rfl dX6_support_17 ?_
  refine lv_iload_n hx hb dX6_support_20 rfl (lv_at hl 1 rfl) ?_
  obtain ⟨v5, hg, hf⟩ := ldA_inv hf
  refine r_ldA hC hw hg dX6_support_21 ?_
  obtain ⟨ho, hf⟩ := chk_inv hf
  obtain ⟨_, σ6, hk, hf⟩ := bnd_inv hf
  refine z_callV (As := [.ref v5]) (rest := []) (m_X4_start hC.2.2.2.2.2.2.2.2 hk) hC hw wd_X4_start lkM_X6_134 (isO_sh ho) rfl rfl ⟨rfl, rfl⟩ ⟨(Nat.le_of_ble_eq_true rfl), (Nat.le_of_ble_eq_true rfl)⟩ hl.1 rfl (Nat.le_of_ble_eq_true rfl) dX6_support_22 ⟨(Nat.le_of_ble_eq_true rfl), (Nat.le_of_ble_eq_true rfl)⟩ (fun H locs hw => ?_)
  refine lv_iconst (v := 0) hx hb dX6_support_25 (by decide) ?_
  refine lv_istore_n (lv' := [(3, .int 0), (0, .ref a0), (1, .int a1), (2, .int a2)]) hx hb dX6_support_26 rfl hl (Nat.le_of_ble_eq_true rfl) rfl (fun ls hl => ?_)
  refine lv_iconst (v := 0) hx hb dX6_support_27 (by decide) ?_
  refine lv_istore (lv' := [(4, .int 0), (3, .int 0), (0, .ref a0), (1, .int a1), (2, .int a2)]) hx hb dX6_support_28 hl (Nat.le_of_ble_eq_true rfl) rfl (fun ls hl => ?_)
  obtain ⟨w13, σ12, hk, hf⟩ := lb1_inv hf
  refine l_X6_support_B30 hC hr htab (fun H locs ls hw hl => ?_) FUEL 0 0 σ6 hk _ _ _ hw (lv_sub hl [2, 3, 4, 1, 0] rfl)
  refine lv_iload_n hx hb dX6_support_63 rfl (lv_at hl 0 rfl) ?_
  refine vx_ret ?_
  refine W.widen (k := 2) (n := 12) (Nat.le_of_ble_eq_true rfl) (Nat.le_of_ble_eq_true rfl) ?_
  exact W.iret hx hb hr (z_retx hw (Option.some.inj hf).symm rfl) hw.2.2.2.2.2 dX6_support_64 hC.2.2.2.2.2.1
set_option maxHeartbeats 4000000 in
set_option maxRecDepth 100000 in
theorem m_X6_first (h9 : l.stackTraces = false) {Γ : zSh} {a0 : Nat} {a1 : Int32} {σ : zSt} {out : ((Int32 × zSt) ⊕ (Nat × zSt))} (hf : f_X6_first Γ a0 a1 σ = some out) : vx_Met l yX6_first (wq yX6_first cX6_first 2 (Option.some FieldType.int)) rm_X6_first (zQ0 D cA B0 [.ref a0, .int a1] Γ σ (ZB B0)) (zQx D cA B0 (fun r : Int32 => some (.int r)) Γ out (ZB B0)) (zXx D cA B0 Γ out (ZB B0)) 1 6 (FR B0) := by
  refine z_ofX h9 (by decide) (Nat.le_of_ble_eq_true rfl) ?_
  intro p e s m args below meth c ls hC hr htab hw hl
  have hx := hC.1
  have hb := hC.2.1
  have hl : lv_has ls 2 [(0, .ref a0), (1, .int a1)] := hl
  unfold f_X6_first at hf
  refine lv_iload_n hx hb dX6_first_0 rfl (lv_at hl 1 rfl) ?_
  obtain ⟨q, hk, hn, hxx⟩ := xbnd_inv hf
  refine z_xcallS (As := [.int a1]) (rest := []) (m_X6_checkSlot hC.2.2.2.2.2.2.2.2 hk) hC hw wd_X6_checkSlot lkM_X6_78 rfl ⟨rfl, rfl⟩ ⟨(Nat.le_of_ble_eq_true rfl), (Nat.le_of_ble_eq_true rfl)⟩ hl.1 rfl (Nat.le_of_ble_eq_true rfl) dX6_first_1 ⟨(Nat.le_of_ble_eq_true rfl), (Nat.le_of_ble_eq_true rfl)⟩ (fun u9 σ1 eq H locs hw => ?_) (fun k9 s9 eq H locs q9 ce9 hw e1 e2 e3 => z_xout hC hw (hxx _ _ eq) htab e1 e2 e3 (Nat.le_of_ble_eq_true rfl) (Nat.le_of_ble_eq_true rfl))
  have hf := hn _ _ eq
  refine lv_aload_n hx hb dX6_first_4 rfl (lv_at hl 0 rfl) ?_
  obtain ⟨v2, hg, hf⟩ := gfR_inv hf
  refine r_gfR hC hw hg clX6 (Nat.le_of_ble_eq_true rfl) lkF_X6_57 rfl dX6_first_5 ?_
  refine lv_aload_n hx hb dX6_first_8 rfl (lv_at hl 0 rfl) ?_
  obtain ⟨v3, hg, hf⟩ := gfR_inv hf
  refine r_gfR hC hw hg clX6 (Nat.le_of_ble_eq_true rfl) lkF_X6_13 rfl dX6_first_9 ?_
  refine lv_iload_n hx hb dX6_first_12 rfl (lv_at hl 1 rfl) ?_
  obtain ⟨v4, hg, hf⟩ := ldA_inv hf
  refine r_ldA hC hw hg dX6_first_13 ?_
  obtain ⟨ho, hf⟩ := chk_inv hf
  obtain ⟨_, σ5, hk, hf⟩ := bnd_inv hf
  refine z_callV (As := [.ref v4]) (rest := []) (m_X1_explore hC.2.2.2.2.2.2.2.2 hk) hC hw wd_X1_explore lkM_X6_139 (isO_sh ho) rfl rfl ⟨rfl, rfl⟩ ⟨(Nat.le_of_ble_eq_true rfl), (Nat.le_of_ble_eq_true rfl)⟩ hl.1 rfl (Nat.le_of_ble_eq_true rfl) dX6_first_14 ⟨(Nat.le_of_ble_eq_true rfl), (Nat.le_of_ble_eq_true rfl)⟩ (fun H locs hw => ?_)
  refine lv_aload_n hx hb dX6_first_17 rfl (lv_at hl 0 rfl) ?_
  obtain ⟨v6, hg, hf⟩ := gfR_inv hf
  refine r_gfR hC hw hg clX6 (Nat.le_of_ble_eq_true rfl) lkF_X6_57 rfl dX6_first_18 ?_
  obtain ⟨ho, hf⟩ := chk_inv hf
  obtain ⟨r8, σ7, hk, hf⟩ := bnd_inv hf
  refine z_callV (As := []) (rest := []) (m_X1_firstWeighted hC.2.2.2.2.2.2.2.2 hk) hC hw wd_X1_firstWeighted lkM_X6_142 (isO_sh ho) rfl rfl ⟨rfl, rfl⟩ ⟨(Nat.le_of_ble_eq_true rfl), (Nat.le_of_ble_eq_true rfl)⟩ hl.1 rfl (Nat.le_of_ble_eq_true rfl) dX6_first_21 ⟨(Nat.le_of_ble_eq_true rfl), (Nat.le_of_ble_eq_true rfl)⟩ (fun H locs hw => ?_)
  refine vx_ret ?_
  refine W.widen (k := 1) (n := 6) (Nat.le_of_ble_eq_true rfl) (Nat.le_of_ble_eq_true rfl) ?_
  exact W.iret hx hb hr (z_retx hw (Option.some.inj hf).symm rfl) hw.2.2.2.2.2 dX6_first_24 hC.2.2.2.2.2.1
set_option maxHeartbeats 4000000 in
set_option maxRecDepth 100000 in
theorem m_X6_store (h9 : l.stackTraces = false) {Γ : zSh} {a0 : Nat} {a1 : Int32} {σ : zSt} {r : Int32} {σ2 : zSt} (hf : f_X6_store Γ a0 a1 σ = some (r, σ2)) : Met l yX6_store (wq yX6_store cX6_store 2 (Option.some FieldType.int)) rm_X6_store (zQ0 D cA B0 [.ref a0, .int a1] Γ σ Z) (zQ1 D cA B0 (some (.int r)) Γ σ2 Z) 0 0 (FR B0) := by
  refine z_ofW h9 (by decide) (Nat.le_of_ble_eq_true rfl) ?_
  intro p e s m args below meth c ls hC hr _ hw hl
  have hx := hC.1
  have hb := hC.2.1
  have hl : lv_has ls 2 [(0, .ref a0), (1, .int a1)] := hl
  unfold f_X6_store at hf
  refine lv_aload_n hx hb dX6_store_0 rfl (lv_at hl 0 rfl) ?_
  refine lv_iload_n hx hb dX6_store_1 rfl (lv_at hl 1 rfl) ?_
  obtain ⟨ho, hf⟩ := chk_inv hf
  obtain ⟨_, σ1, hk, hf⟩ := bnd_inv hf
  refine z_callV (As := [.int a1]) (rest := []) (m_X6_save hC.2.2.2.2.2.2.2.2 hk) hC hw wd_X6_save lkM_X6_88 (isO_sh ho) rfl rfl ⟨rfl, rfl⟩ ⟨(Nat.le_of_ble_eq_true rfl), (Nat.le_of_ble_eq_true rfl)⟩ hl.1 rfl (Nat.le_of_ble_eq_true rfl) dX6_store_2 ⟨(Nat.le_of_ble_eq_true rfl), (Nat.le_of_ble_eq_true rfl)⟩ (fun H locs hw => ?_)
  refine lv_aload_n hx hb dX6_store_5 rfl (lv_at hl 0 rfl) ?_
  obtain ⟨v2, hg, hf⟩ := gfR_inv hf
  refine r_gfR hC hw hg clX6 (Nat.le_of_ble_eq_true rfl) lkF_X6_13 rfl dX6_store_6 ?_
  refine lv_iload_n hx hb dX6_store_9 rfl (lv_at hl 1 rfl) ?_
  obtain ⟨v3, hg, hf⟩ := ldA_inv hf
  refine r_ldA hC hw hg dX6_store_10 ?_
  refine lv_aload_n hx hb dX6_store_11 rfl (lv_at hl 0 rfl) ?_
  obtain ⟨v4, hg, hf⟩ := gfR_inv hf
  refine r_gfR hC hw hg clX6 (Nat.le_of_ble_eq_true rfl) lkF_X6_33 rfl dX6_store_12 ?_
  obtain ⟨ho, hf⟩ := chk_inv hf
  obtain ⟨_, σ5, hk, hf⟩ := bnd_inv hf
  refine z_callV (As := [.ref v4]) (rest := []) (m_X0_copyFrom hC.2.2.2.2.2.2.2.2 hk) hC hw wd_X0_copyFrom lkM_X6_172 (isO_sh ho) rfl rfl ⟨rfl, rfl⟩ ⟨(Nat.le_of_ble_eq_true rfl), (Nat.le_of_ble_eq_true rfl)⟩ hl.1 rfl (Nat.le_of_ble_eq_true rfl) dX6_store_15 ⟨(Nat.le_of_ble_eq_true rfl), (Nat.le_of_ble_eq_true rfl)⟩ (fun H locs hw => ?_)
  refine lv_aload_n hx hb dX6_store_18 rfl (lv_at hl 0 rfl) ?_
  obtain ⟨v6, hg, hf⟩ := gfR_inv hf
  refine r_gfR hC hw hg clX6 (Nat.le_of_ble_eq_true rfl) lkF_X6_33 rfl dX6_store_19 ?_
  obtain ⟨v7, hg, hf⟩ := gfI_inv hf
  refine r_gfI hC hw hg clX0 (Nat.le_of_ble_eq_true rfl) lkF_X6_85 rfl dX6_store_22 ?_
  first | (obtain ⟨rfl, rfl⟩ := sp_inv hf) | (obtain rfl := Option.some.inj hf)
  exact W.iret hx hb hr (z_ret hw rfl) hw.2.2.2.2.2 dX6_store_25 hC.2.2.2.2.2.1
set_option maxHeartbeats 4000000 in
set_option maxRecDepth 100000 in
theorem t_X6_combine_L135 (hC : zC p l s m args meth c cX6_combine 8 RX6 D cA B0) (hr : meth.sig.returnType = (Option.some FieldType.int)) (htab : ∀ x ∈ c.exceptionTable.toList, False) {Γ : zSh} {x0 : Nat} {x1 : Int32} {σ : zSt} {out : ((Int32 × zSt) ⊕ (Nat × zSt))} (hf : f_X6_combine_L135 Γ x0 x1 σ = some out) {H : Heap} {locs : List Loc} {ls : Array Slot} (hw : zO D cA B0 Γ σ (ZB B0) s.heap H locs) (hl : lv_has ls 8 [(0, .ref x0), (1, .int x1)]) :
    W p l e rm_X6_combine s m args below meth c H locs 4 24 (vx_MQ below (zQx D cA B0 (fun r : Int32 => some (.int r)) Γ out (ZB B0)) (zXx D cA B0 Γ out (ZB B0)) args s 5 30 (FR B0)) (F0 m 135 ls []) := by
  have hx := hC.1
  have hb := hC.2.1
  unfold f_X6_combine_L135 at hf
  refine lv_aload_n hx hb dX6_combine_135 rfl (lv_at hl 0 rfl) ?_
  refine lv_iload_n hx hb dX6_combine_136 rfl (lv_at hl 1 rfl) ?_
  obtain ⟨ho, hf⟩ := chk_inv hf
  obtain ⟨r14, σ13, hk, hf⟩ := bnd_inv hf
  refine z_callV (As := [.int x1]) (rest := []) (m_X6_store hC.2.2.2.2.2.2.2.2 hk) hC hw wd_X6_store lkM_X6_162 (isO_sh ho) rfl rfl ⟨rfl, rfl⟩ ⟨(Nat.le_of_ble_eq_true rfl), (Nat.le_of_ble_eq_true rfl)⟩ hl.1 rfl (Nat.le_of_ble_eq_true rfl) dX6_combine_137 ⟨(Nat.le_of_ble_eq_true rfl), (Nat.le_of_ble_eq_true rfl)⟩ (fun H locs hw => ?_)
  refine vx_ret ?_
  refine W.widen (k := 5) (n := 30) (Nat.le_of_ble_eq_true rfl) (Nat.le_of_ble_eq_true rfl) ?_
  exact W.iret hx hb hr (z_retx hw (Option.some.inj hf).symm rfl) hw.2.2.2.2.2 dX6_combine_140 hC.2.2.2.2.2.1
set_option maxHeartbeats 4000000 in
set_option maxRecDepth 100000 in
theorem t_X6_combine_L66 (hC : zC p l s m args meth c cX6_combine 8 RX6 D cA B0) (hr : meth.sig.returnType = (Option.some FieldType.int)) (htab : ∀ x ∈ c.exceptionTable.toList, False) {Γ : zSh} {x0 : Nat} {x1 : Int32} {x4 : Int32} {x5 : Nat} {x6 : Nat} {s0 : Int32} {σ : zSt} {out : ((Int32 × zSt) ⊕ (Nat × zSt))} (hf : f_X6_combine_L66 Γ x0 x1 x4 x5 x6 s0 σ = some out) {H : Heap} {locs : List Loc} {ls : Array Slot} (hw : zO D cA B0 Γ σ (ZB B0) s.heap H locs) (hl : lv_has ls 8 [(0, .ref x0), (1, .int x1), (4, .int x4), (5, .ref x5), (6, .ref x6)]) :
    W p l e rm_X6_combine s m args below meth c H locs 4 24 (vx_MQ below (zQx D cA B0 (fun r : Int32 => some (.int r)) Γ out (ZB B0)) (zXx D cA B0 Γ out (ZB B0)) args s 5 30 (FR B0)) (F0 m 66 ls [.int s0]) := by
  have hx := hC.1
  have hb := hC.2.1
  unfold f_X6_combine_L66 at hf
  refine lv_istore (lv' := [(7, .int s0), (0, .ref x0), (1, .int x1), (4, .int x4), (5, .ref x5), (6, .ref x6)]) hx hb dX6_combine_66 hl (Nat.le_of_ble_eq_true rfl) rfl (fun ls hl => ?_)
  refine lv_iload hx hb dX6_combine_68 (lv_at hl 0 rfl) ?_
  refine lv_bipush (v := 12) hx hb dX6_combine_70 (by decide) ?_
  refine lv_icmp_le (tgt := 85) hx hb dX6_combine_72 (by decide) (fun hc => ?_) (fun hc => ?_)
  · rw [if_pos hc] at hf
    refine lv_iload hx hb dX6_combine_85 (lv_at hl 3 rfl) ?_
    refine lv_if_ne (tgt := 104) hx hb dX6_combine_87 (by decide) (fun hc => ?_) (fun hc => ?_)
    · rw [if_neg hc] at hf
      refine lv_iload hx hb dX6_combine_104 (lv_at hl 3 rfl) ?_
      refine lv_iconst (v := 1) hx hb dX6_combine_106 (by decide) ?_
      refine lv_icmp_ne (tgt := 124) hx hb dX6_combine_107 (by decide) (fun hc => ?_) (fun hc => ?_)
      · rw [if_neg hc] at hf
        refine lv_aload_n hx hb dX6_combine_124 rfl (lv_at hl 1 rfl) ?_
        obtain ⟨v11, hg, hf⟩ := gfR_inv hf
        refine r_gfR hC hw hg clX6 (Nat.le_of_ble_eq_true rfl) lkF_X6_33 rfl dX6_combine_125 ?_
        refine lv_aload hx hb dX6_combine_128 (lv_at hl 4 rfl) ?_
        refine lv_aload hx hb dX6_combine_130 (lv_at hl 5 rfl) ?_
        obtain ⟨ho, hf⟩ := chk_inv hf
        obtain ⟨_, σ12, hk, hf⟩ := bnd_inv hf
        refine z_callV (As := [.ref x5, .ref x6]) (rest := []) (m_X0_becomeCauchy hC.2.2.2.2.2.2.2.2 hk) hC hw wd_X0_becomeCauchy lkM_X6_159 (isO_sh ho) rfl rfl ⟨rfl, rfl⟩ ⟨(Nat.le_of_ble_eq_true rfl), (Nat.le_of_ble_eq_true rfl)⟩ hl.1 rfl (Nat.le_of_ble_eq_true rfl) dX6_combine_132 ⟨(Nat.le_of_ble_eq_true rfl), (Nat.le_of_ble_eq_true rfl)⟩ (fun H locs hw => ?_)
        exact t_X6_combine_L135 hC hr htab hf hw (lv_sub hl [1, 2] rfl)
      · rw [if_pos hc] at hf
        refine lv_aload_n hx hb dX6_combine_110 rfl (lv_at hl 1 rfl) ?_
        obtain ⟨v15, hg, hf⟩ := gfR_inv hf
        refine r_gfR hC hw hg clX6 (Nat.le_of_ble_eq_true rfl) lkF_X6_33 rfl dX6_combine_111 ?_
        refine lv_aload hx hb dX6_combine_114 (lv_at hl 4 rfl) ?_
        refine lv_aload hx hb dX6_combine_116 (lv_at hl 5 rfl) ?_
        obtain ⟨ho, hf⟩ := chk_inv hf
        obtain ⟨_, σ16, hk, hf⟩ := bnd_inv hf
        refine z_callV (As := [.ref x5, .ref x6]) (rest := []) (m_X0_becomeHadamard hC.2.2.2.2.2.2.2.2 hk) hC hw wd_X0_becomeHadamard lkM_X6_156 (isO_sh ho) rfl rfl ⟨rfl, rfl⟩ ⟨(Nat.le_of_ble_eq_true rfl), (Nat.le_of_ble_eq_true rfl)⟩ hl.1 rfl (Nat.le_of_ble_eq_true rfl) dX6_combine_118 ⟨(Nat.le_of_ble_eq_true rfl), (Nat.le_of_ble_eq_true rfl)⟩ (fun H locs hw => ?_)
        refine lv_goto (tgt := 135) hx hb dX6_combine_121 (by decide) ?_
        exact t_X6_combine_L135 hC hr htab hf hw (lv_sub hl [1, 2] rfl)
    · rw [if_pos hc] at hf
      refine lv_aload_n hx hb dX6_combine_90 rfl (lv_at hl 1 rfl) ?_
      obtain ⟨v17, hg, hf⟩ := gfR_inv hf
      refine r_gfR hC hw hg clX6 (Nat.le_of_ble_eq_true rfl) lkF_X6_33 rfl dX6_combine_91 ?_
      refine lv_aload hx hb dX6_combine_94 (lv_at hl 4 rfl) ?_
      refine lv_aload hx hb dX6_combine_96 (lv_at hl 5 rfl) ?_
      obtain ⟨ho, hf⟩ := chk_inv hf
      obtain ⟨_, σ18, hk, hf⟩ := bnd_inv hf
      refine z_callV (As := [.ref x5, .ref x6]) (rest := []) (m_X0_becomeSum hC.2.2.2.2.2.2.2.2 hk) hC hw wd_X0_becomeSum lkM_X6_152 (isO_sh ho) rfl rfl ⟨rfl, rfl⟩ ⟨(Nat.le_of_ble_eq_true rfl), (Nat.le_of_ble_eq_true rfl)⟩ hl.1 rfl (Nat.le_of_ble_eq_true rfl) dX6_combine_98 ⟨(Nat.le_of_ble_eq_true rfl), (Nat.le_of_ble_eq_true rfl)⟩ (fun H locs hw => ?_)
      refine lv_goto (tgt := 135) hx hb dX6_combine_101 (by decide) ?_
      exact t_X6_combine_L135 hC hr htab hf hw (lv_sub hl [1, 2] rfl)
  · rw [if_neg hc] at hf
    exact z_throwS (k := 2) hC hw zB_up (Option.some.inj hf).symm htab zt_145_149_2 zstr_147 hl.1 dX6_combine_75 dX6_combine_78 dX6_combine_79 dX6_combine_81 dX6_combine_84 (Nat.le_of_ble_eq_true rfl) (Nat.le_of_ble_eq_true rfl) (Nat.le_of_ble_eq_true rfl) (Nat.le_of_ble_eq_true rfl) (Nat.le_of_ble_eq_true rfl) (Nat.le_of_ble_eq_true rfl)
set_option maxHeartbeats 4000000 in
set_option maxRecDepth 100000 in
theorem m_X6_combine (h9 : l.stackTraces = false) {Γ : zSh} {a0 : Nat} {a1 : Int32} {a2 : Int32} {a3 : Int32} {a4 : Int32} {σ : zSt} {out : ((Int32 × zSt) ⊕ (Nat × zSt))} (hf : f_X6_combine Γ a0 a1 a2 a3 a4 σ = some out) : vx_Met l yX6_combine (wq yX6_combine cX6_combine 8 (Option.some FieldType.int)) rm_X6_combine (zQ0 D cA B0 [.ref a0, .int a1, .int a2, .int a3, .int a4] Γ σ (ZB B0)) (zQx D cA B0 (fun r : Int32 => some (.int r)) Γ out (ZB B0)) (zXx D cA B0 Γ out (ZB B0)) 5 30 (FR B0) := by
  refine z_ofX h9 (by decide) (Nat.le_of_ble_eq_true rfl) ?_
  intro p e s m args below meth c ls hC hr htab hw hl
  have hx := hC.1
  have hb := hC.2.1
  have hl : lv_has ls 8 [(0, .ref a0), (1, .int a1), (2, .int a2), (3, .int a3), (4, .int a4)] := hl
  unfold f_X6_combine at hf
  refine lv_iload_n hx hb dX6_combine_0 rfl (lv_at hl 1 rfl) ?_
  obtain ⟨q, hk, hn, hxx⟩ := xbnd_inv hf
  refine z_xcallS (As := [.int a1]) (rest := []) (m_X6_checkSlot hC.2.2.2.2.2.2.2.2 hk) hC hw wd_X6_checkSlot lkM_X6_78 rfl ⟨rfl, rfl⟩ ⟨(Nat.le_of_ble_eq_true rfl), (Nat.le_of_ble_eq_true rfl)⟩ hl.1 rfl (Nat.le_of_ble_eq_true rfl) dX6_combine_1 ⟨(Nat.le_of_ble_eq_true rfl), (Nat.le_of_ble_eq_true rfl)⟩ (fun u9 σ1 eq H locs hw => ?_) (fun k9 s9 eq H locs q9 ce9 hw e1 e2 e3 => z_xout hC hw (hxx _ _ eq) htab e1 e2 e3 (Nat.le_of_ble_eq_true rfl) (Nat.le_of_ble_eq_true rfl))
  have hf := hn _ _ eq
  refine lv_iload_n hx hb dX6_combine_4 rfl (lv_at hl 2 rfl) ?_
  obtain ⟨q, hk, hn, hxx⟩ := xbnd_inv hf
  refine z_xcallS (As := [.int a2]) (rest := []) (m_X6_checkSlot hC.2.2.2.2.2.2.2.2 hk) hC hw wd_X6_checkSlot lkM_X6_78 rfl ⟨rfl, rfl⟩ ⟨(Nat.le_of_ble_eq_true rfl), (Nat.le_of_ble_eq_true rfl)⟩ hl.1 rfl (Nat.le_of_ble_eq_true rfl) dX6_combine_5 ⟨(Nat.le_of_ble_eq_true rfl), (Nat.le_of_ble_eq_true rfl)⟩ (fun u9 σ2 eq H locs hw => ?_) (fun k9 s9 eq H locs q9 ce9 hw e1 e2 e3 => z_xout hC hw (hxx _ _ eq) htab e1 e2 e3 (Nat.le_of_ble_eq_true rfl) (Nat.le_of_ble_eq_true rfl))
  have hf := hn _ _ eq
  refine lv_iload_n hx hb dX6_combine_8 rfl (lv_at hl 3 rfl) ?_
  obtain ⟨q, hk, hn, hxx⟩ := xbnd_inv hf
  refine z_xcallS (As := [.int a3]) (rest := []) (m_X6_checkSlot hC.2.2.2.2.2.2.2.2 hk) hC hw wd_X6_checkSlot lkM_X6_78 rfl ⟨rfl, rfl⟩ ⟨(Nat.le_of_ble_eq_true rfl), (Nat.le_of_ble_eq_true rfl)⟩ hl.1 rfl (Nat.le_of_ble_eq_true rfl) dX6_combine_9 ⟨(Nat.le_of_ble_eq_true rfl), (Nat.le_of_ble_eq_true rfl)⟩ (fun u9 σ3 eq H locs hw => ?_) (fun k9 s9 eq H locs q9 ce9 hw e1 e2 e3 => z_xout hC hw (hxx _ _ eq) htab e1 e2 e3 (Nat.le_of_ble_eq_true rfl) (Nat.le_of_ble_eq_true rfl))
  have hf := hn _ _ eq
  refine lv_iload hx hb dX6_combine_12 (lv_at hl 4 rfl) ?_
  refine lv_iconst (v := 0) hx hb dX6_combine_14 (by decide) ?_
  refine lv_iconst (v := 2) hx hb dX6_combine_15 (by decide) ?_
  obtain ⟨q, hk, hn, hxx⟩ := xbnd_inv hf
  refine z_xcallS (As := [.int a4, .int 0, .int 2]) (rest := []) (m_X6_checkRange hC.2.2.2.2.2.2.2.2 hk) hC hw wd_X6_checkRange lkM_X6_81 rfl ⟨rfl, rfl⟩ ⟨(Nat.le_of_ble_eq_true rfl), (Nat.le_of_ble_eq_true rfl)⟩ hl.1 rfl (Nat.le_of_ble_eq_true rfl) dX6_combine_16 ⟨(Nat.le_of_ble_eq_true rfl), (Nat.le_of_ble_eq_true rfl)⟩ (fun u9 σ4 eq H locs hw => ?_) (fun k9 s9 eq H locs q9 ce9 hw e1 e2 e3 => z_xout hC hw (hxx _ _ eq) htab e1 e2 e3 (Nat.le_of_ble_eq_true rfl) (Nat.le_of_ble_eq_true rfl))
  have hf := hn _ _ eq
  refine lv_aload_n hx hb dX6_combine_19 rfl (lv_at hl 0 rfl) ?_
  obtain ⟨v5, hg, hf⟩ := gfR_inv hf
  refine r_gfR hC hw hg clX6 (Nat.le_of_ble_eq_true rfl) lkF_X6_13 rfl dX6_combine_20 ?_
  refine lv_iload_n hx hb dX6_combine_23 rfl (lv_at hl 2 rfl) ?_
  obtain ⟨v6, hg, hf⟩ := ldA_inv hf
  refine r_ldA hC hw hg dX6_combine_24 ?_
  refine lv_astore (lv' := [(5, .ref v6), (0, .ref a0), (1, .int a1), (2, .int a2), (3, .int a3), (4, .int a4)]) hx hb dX6_combine_25 hl (Nat.le_of_ble_eq_true rfl) rfl (fun ls hl => ?_)
  refine lv_aload_n hx hb dX6_combine_27 rfl (lv_at hl 1 rfl) ?_
  obtain ⟨v7, hg, hf⟩ := gfR_inv hf
  refine r_gfR hC hw hg clX6 (Nat.le_of_ble_eq_true rfl) lkF_X6_13 rfl dX6_combine_28 ?_
  refine lv_iload_n hx hb dX6_combine_31 rfl (lv_at hl 4 rfl) ?_
  obtain ⟨v8, hg, hf⟩ := ldA_inv hf
  refine r_ldA hC hw hg dX6_combine_32 ?_
  refine lv_astore (lv' := [(6, .ref v8), (5, .ref v6), (0, .ref a0), (1, .int a1), (2, .int a2), (3, .int a3), (4, .int a4)]) hx hb dX6_combine_33 hl (Nat.le_of_ble_eq_true rfl) rfl (fun ls hl => ?_)
  refine lv_iload hx hb dX6_combine_35 (lv_at hl 6 rfl) ?_
  refine lv_iconst (v := 1) hx hb dX6_combine_37 (by decide) ?_
  refine lv_icmp_ne (tgt := 55) hx hb dX6_combine_38 (by decide) (fun hc => ?_) (fun hc => ?_)
  · rw [if_neg hc] at hf
    refine lv_aload hx hb dX6_combine_55 (lv_at hl 1 rfl) ?_
    obtain ⟨v9, hg, hf⟩ := gfI_inv hf
    refine r_gfI hC hw hg clX0 (Nat.le_of_ble_eq_true rfl) lkF_X6_85 rfl dX6_combine_57 ?_
    refine lv_aload hx hb dX6_combine_60 (lv_at hl 0 rfl) ?_
    obtain ⟨v10, hg, hf⟩ := gfI_inv hf
    refine r_gfI hC hw hg clX0 (Nat.le_of_ble_eq_true rfl) lkF_X6_85 rfl dX6_combine_62 ?_
    refine lv_iadd hx hb dX6_combine_65 ?_
    exact t_X6_combine_L66 hC hr htab hf hw (lv_sub hl [2, 3, 6, 1, 0] rfl)
  · rw [if_pos hc] at hf
    refine lv_aload hx hb dX6_combine_41 (lv_at hl 1 rfl) ?_
    obtain ⟨v19, hg, hf⟩ := gfI_inv hf
    refine r_gfI hC hw hg clX0 (Nat.le_of_ble_eq_true rfl) lkF_X6_85 rfl dX6_combine_43 ?_
    refine lv_aload hx hb dX6_combine_46 (lv_at hl 0 rfl) ?_
    obtain ⟨v20, hg, hf⟩ := gfI_inv hf
    refine r_gfI hC hw hg clX0 (Nat.le_of_ble_eq_true rfl) lkF_X6_85 rfl dX6_combine_48 ?_
    refine lv_imul hx hb dX6_combine_51 ?_
    refine lv_goto (tgt := 66) hx hb dX6_combine_52 (by decide) ?_
    exact t_X6_combine_L66 hC hr htab hf hw (lv_sub hl [2, 3, 6, 1, 0] rfl)
set_option maxHeartbeats 4000000 in
set_option maxRecDepth 100000 in
theorem t_X6_derive_L172 (hC : zC p l s m args meth c cX6_derive 5 RX6 D cA B0) (hr : meth.sig.returnType = (Option.some FieldType.int)) (htab : ∀ x ∈ c.exceptionTable.toList, False) {Γ : zSh} {x0 : Nat} {x1 : Int32} {σ : zSt} {out : ((Int32 × zSt) ⊕ (Nat × zSt))} (hf : f_X6_derive_L172 Γ x0 x1 σ = some out) {H : Heap} {locs : List Loc} {ls : Array Slot} (hw : zO D cA B0 Γ σ (ZB B0) s.heap H locs) (hl : lv_has ls 5 [(0, .ref x0), (1, .int x1)]) :
    W p l e rm_X6_derive s m args below meth c H locs 3 18 (vx_MQ below (zQx D cA B0 (fun r : Int32 => some (.int r)) Γ out (ZB B0)) (zXx D cA B0 Γ out (ZB B0)) args s 4 24 (FR B0)) (F0 m 172 ls []) := by
  have hx := hC.1
  have hb := hC.2.1
  unfold f_X6_derive_L172 at hf
  refine lv_aload_n hx hb dX6_derive_172 rfl (lv_at hl 0 rfl) ?_
  refine lv_iload_n hx hb dX6_derive_173 rfl (lv_at hl 1 rfl) ?_
  obtain ⟨ho, hf⟩ := chk_inv hf
  obtain ⟨r11, σ10, hk, hf⟩ := bnd_inv hf
  refine z_callV (As := [.int x1]) (rest := []) (m_X6_store hC.2.2.2.2.2.2.2.2 hk) hC hw wd_X6_store lkM_X6_162 (isO_sh ho) rfl rfl ⟨rfl, rfl⟩ ⟨(Nat.le_of_ble_eq_true rfl), (Nat.le_of_ble_eq_true rfl)⟩ hl.1 rfl (Nat.le_of_ble_eq_true rfl) dX6_derive_174 ⟨(Nat.le_of_ble_eq_true rfl), (Nat.le_of_ble_eq_true rfl)⟩ (fun H locs hw => ?_)
  refine vx_ret ?_
  refine W.widen (k := 4) (n := 24) (Nat.le_of_ble_eq_true rfl) (Nat.le_of_ble_eq_true rfl) ?_
  exact W.iret hx hb hr (z_retx hw (Option.some.inj hf).symm rfl) hw.2.2.2.2.2 dX6_derive_177 hC.2.2.2.2.2.1
set_option maxHeartbeats 4000000 in
set_option maxRecDepth 100000 in
theorem t_X6_derive_L46 (hC : zC p l s m args meth c cX6_derive 5 RX6 D cA B0) (hr : meth.sig.returnType = (Option.some FieldType.int)) (htab : ∀ x ∈ c.exceptionTable.toList, False) {Γ : zSh} {x0 : Nat} {x1 : Int32} {x3 : Int32} {x4 : Nat} {σ : zSt} {out : ((Int32 × zSt) ⊕ (Nat × zSt))} (hf : f_X6_derive_L46 Γ x0 x1 x3 x4 σ = some out) {H : Heap} {locs : List Loc} {ls : Array Slot} (hw : zO D cA B0 Γ σ (ZB B0) s.heap H locs) (hl : lv_has ls 5 [(0, .ref x0), (1, .int x1), (3, .int x3), (4, .ref x4)]) :
    W p l e rm_X6_derive s m args below meth c H locs 3 18 (vx_MQ below (zQx D cA B0 (fun r : Int32 => some (.int r)) Γ out (ZB B0)) (zXx D cA B0 Γ out (ZB B0)) args s 4 24 (FR B0)) (F0 m 46 ls []) := by
  have hx := hC.1
  have hb := hC.2.1
  unfold f_X6_derive_L46 at hf
  refine lv_aload_n hx hb dX6_derive_46 rfl (lv_at hl 0 rfl) ?_
  obtain ⟨v6, hg, hf⟩ := gfR_inv hf
  refine r_gfR hC hw hg clX6 (Nat.le_of_ble_eq_true rfl) lkF_X6_33 rfl dX6_derive_47 ?_
  refine lv_aload hx hb dX6_derive_50 (lv_at hl 3 rfl) ?_
  obtain ⟨ho, hf⟩ := chk_inv hf
  obtain ⟨_, σ7, hk, hf⟩ := bnd_inv hf
  refine z_callV (As := [.ref x4]) (rest := []) (m_X0_copyFrom hC.2.2.2.2.2.2.2.2 hk) hC hw wd_X0_copyFrom lkM_X6_172 (isO_sh ho) rfl rfl ⟨rfl, rfl⟩ ⟨(Nat.le_of_ble_eq_true rfl), (Nat.le_of_ble_eq_true rfl)⟩ hl.1 rfl (Nat.le_of_ble_eq_true rfl) dX6_derive_52 ⟨(Nat.le_of_ble_eq_true rfl), (Nat.le_of_ble_eq_true rfl)⟩ (fun H locs hw => ?_)
  refine lv_iload_n hx hb dX6_derive_55 rfl (lv_at hl 2 rfl) ?_
  by_cases h56_1 : x3 = 1
  · rw [if_pos h56_1] at hf
    refine lv_tableIn (tgt := 96) hx hb dX6_derive_56 (by rw [h56_1]; decide) (by rw [h56_1]; decide) (by rw [h56_1]; rfl) (by decide) ?_
    refine lv_aload_n hx hb dX6_derive_96 rfl (lv_at hl 0 rfl) ?_
    obtain ⟨v8, hg, hf⟩ := gfR_inv hf
    refine r_gfR hC hw hg clX6 (Nat.le_of_ble_eq_true rfl) lkF_X6_33 rfl dX6_derive_97 ?_
    obtain ⟨ho, hf⟩ := chk_inv hf
    obtain ⟨_, σ9, hk, hf⟩ := bnd_inv hf
    refine z_callV (As := []) (rest := []) (m_X0_reverse hC.2.2.2.2.2.2.2.2 hk) hC hw wd_X0_reverse lkM_X6_175 (isO_sh ho) rfl rfl ⟨rfl, rfl⟩ ⟨(Nat.le_of_ble_eq_true rfl), (Nat.le_of_ble_eq_true rfl)⟩ hl.1 rfl (Nat.le_of_ble_eq_true rfl) dX6_derive_100 ⟨(Nat.le_of_ble_eq_true rfl), (Nat.le_of_ble_eq_true rfl)⟩ (fun H locs hw => ?_)
    refine lv_goto (tgt := 172) hx hb dX6_derive_103 (by decide) ?_
    exact t_X6_derive_L172 hC hr htab hf hw (lv_sub hl [0, 1] rfl)
  · rw [if_neg h56_1] at hf
    by_cases h56_2 : x3 = 2
    · rw [if_pos h56_2] at hf
      refine lv_tableIn (tgt := 106) hx hb dX6_derive_56 (by rw [h56_2]; decide) (by rw [h56_2]; decide) (by rw [h56_2]; rfl) (by decide) ?_
      refine lv_aload_n hx hb dX6_derive_106 rfl (lv_at hl 0 rfl) ?_
      obtain ⟨v12, hg, hf⟩ := gfR_inv hf
      refine r_gfR hC hw hg clX6 (Nat.le_of_ble_eq_true rfl) lkF_X6_33 rfl dX6_derive_107 ?_
      refine lv_aload hx hb dX6_derive_110 (lv_at hl 3 rfl) ?_
      obtain ⟨ho, hf⟩ := chk_inv hf
      obtain ⟨_, σ13, hk, hf⟩ := bnd_inv hf
      refine z_callV (As := [.ref x4]) (rest := []) (m_X0_becomeStar hC.2.2.2.2.2.2.2.2 hk) hC hw wd_X0_becomeStar lkM_X6_178 (isO_sh ho) rfl rfl ⟨rfl, rfl⟩ ⟨(Nat.le_of_ble_eq_true rfl), (Nat.le_of_ble_eq_true rfl)⟩ hl.1 rfl (Nat.le_of_ble_eq_true rfl) dX6_derive_112 ⟨(Nat.le_of_ble_eq_true rfl), (Nat.le_of_ble_eq_true rfl)⟩ (fun H locs hw => ?_)
      refine lv_goto (tgt := 172) hx hb dX6_derive_115 (by decide) ?_
      exact t_X6_derive_L172 hC hr htab hf hw (lv_sub hl [0, 1] rfl)
    · rw [if_neg h56_2] at hf
      by_cases h56_3 : x3 = 3
      · rw [if_pos h56_3] at hf
        refine lv_tableIn (tgt := 118) hx hb dX6_derive_56 (by rw [h56_3]; decide) (by rw [h56_3]; decide) (by rw [h56_3]; rfl) (by decide) ?_
        refine lv_aload_n hx hb dX6_derive_118 rfl (lv_at hl 0 rfl) ?_
        obtain ⟨v14, hg, hf⟩ := gfR_inv hf
        refine r_gfR hC hw hg clX6 (Nat.le_of_ble_eq_true rfl) lkF_X6_33 rfl dX6_derive_119 ?_
        refine lv_aload hx hb dX6_derive_122 (lv_at hl 3 rfl) ?_
        refine lv_iconst (v := 0) hx hb dX6_derive_124 (by decide) ?_
        obtain ⟨ho, hf⟩ := chk_inv hf
        obtain ⟨_, σ15, hk, hf⟩ := bnd_inv hf
        refine z_callV (As := [.ref x4, .int 0]) (rest := []) (m_X0_startAfter hC.2.2.2.2.2.2.2.2 hk) hC hw wd_X0_startAfter lkM_X6_181 (isO_sh ho) rfl rfl ⟨rfl, rfl⟩ ⟨(Nat.le_of_ble_eq_true rfl), (Nat.le_of_ble_eq_true rfl)⟩ hl.1 rfl (Nat.le_of_ble_eq_true rfl) dX6_derive_125 ⟨(Nat.le_of_ble_eq_true rfl), (Nat.le_of_ble_eq_true rfl)⟩ (fun H locs hw => ?_)
        refine lv_goto (tgt := 172) hx hb dX6_derive_128 (by decide) ?_
        exact t_X6_derive_L172 hC hr htab hf hw (lv_sub hl [0, 1] rfl)
      · rw [if_neg h56_3] at hf
        by_cases h56_4 : x3 = 4
        · rw [if_pos h56_4] at hf
          refine lv_tableIn (tgt := 131) hx hb dX6_derive_56 (by rw [h56_4]; decide) (by rw [h56_4]; decide) (by rw [h56_4]; rfl) (by decide) ?_
          refine lv_aload_n hx hb dX6_derive_131 rfl (lv_at hl 0 rfl) ?_
          obtain ⟨v16, hg, hf⟩ := gfR_inv hf
          refine r_gfR hC hw hg clX6 (Nat.le_of_ble_eq_true rfl) lkF_X6_33 rfl dX6_derive_132 ?_
          refine lv_aload hx hb dX6_derive_135 (lv_at hl 3 rfl) ?_
          refine lv_iconst (v := 1) hx hb dX6_derive_137 (by decide) ?_
          obtain ⟨ho, hf⟩ := chk_inv hf
          obtain ⟨_, σ17, hk, hf⟩ := bnd_inv hf
          refine z_callV (As := [.ref x4, .int 1]) (rest := []) (m_X0_startAfter hC.2.2.2.2.2.2.2.2 hk) hC hw wd_X0_startAfter lkM_X6_181 (isO_sh ho) rfl rfl ⟨rfl, rfl⟩ ⟨(Nat.le_of_ble_eq_true rfl), (Nat.le_of_ble_eq_true rfl)⟩ hl.1 rfl (Nat.le_of_ble_eq_true rfl) dX6_derive_138 ⟨(Nat.le_of_ble_eq_true rfl), (Nat.le_of_ble_eq_true rfl)⟩ (fun H locs hw => ?_)
          refine lv_goto (tgt := 172) hx hb dX6_derive_141 (by decide) ?_
          exact t_X6_derive_L172 hC hr htab hf hw (lv_sub hl [0, 1] rfl)
        · rw [if_neg h56_4] at hf
          by_cases h56_5 : x3 = 5
          · rw [if_pos h56_5] at hf
            refine lv_tableIn (tgt := 144) hx hb dX6_derive_56 (by rw [h56_5]; decide) (by rw [h56_5]; decide) (by rw [h56_5]; rfl) (by decide) ?_
            refine lv_aload_n hx hb dX6_derive_144 rfl (lv_at hl 0 rfl) ?_
            obtain ⟨v18, hg, hf⟩ := gfR_inv hf
            refine r_gfR hC hw hg clX6 (Nat.le_of_ble_eq_true rfl) lkF_X6_57 rfl dX6_derive_145 ?_
            refine lv_aload_n hx hb dX6_derive_148 rfl (lv_at hl 0 rfl) ?_
            obtain ⟨v19, hg, hf⟩ := gfR_inv hf
            refine r_gfR hC hw hg clX6 (Nat.le_of_ble_eq_true rfl) lkF_X6_33 rfl dX6_derive_149 ?_
            obtain ⟨ho, hf⟩ := chk_inv hf
            obtain ⟨_, σ20, hk, hf⟩ := bnd_inv hf
            refine z_callV (As := [.ref v19]) (rest := []) (m_X1_reduce hC.2.2.2.2.2.2.2.2 hk) hC hw wd_X1_reduce lkM_X6_184 (isO_sh ho) rfl rfl ⟨rfl, rfl⟩ ⟨(Nat.le_of_ble_eq_true rfl), (Nat.le_of_ble_eq_true rfl)⟩ hl.1 rfl (Nat.le_of_ble_eq_true rfl) dX6_derive_152 ⟨(Nat.le_of_ble_eq_true rfl), (Nat.le_of_ble_eq_true rfl)⟩ (fun H locs hw => ?_)
            refine lv_goto (tgt := 172) hx hb dX6_derive_155 (by decide) ?_
            exact t_X6_derive_L172 hC hr htab hf hw (lv_sub hl [0, 1] rfl)
          · rw [if_neg h56_5] at hf
            by_cases h56_6 : x3 = 6
            · rw [if_pos h56_6] at hf
              refine lv_tableIn (tgt := 158) hx hb dX6_derive_56 (by rw [h56_6]; decide) (by rw [h56_6]; decide) (by rw [h56_6]; rfl) (by decide) ?_
              refine lv_aload_n hx hb dX6_derive_158 rfl (lv_at hl 0 rfl) ?_
              obtain ⟨v21, hg, hf⟩ := gfR_inv hf
              refine r_gfR hC hw hg clX6 (Nat.le_of_ble_eq_true rfl) lkF_X6_57 rfl dX6_derive_159 ?_
              refine lv_aload_n hx hb dX6_derive_162 rfl (lv_at hl 0 rfl) ?_
              obtain ⟨v22, hg, hf⟩ := gfR_inv hf
              refine r_gfR hC hw hg clX6 (Nat.le_of_ble_eq_true rfl) lkF_X6_33 rfl dX6_derive_163 ?_
              obtain ⟨ho, hf⟩ := chk_inv hf
              obtain ⟨_, σ23, hk, hf⟩ := bnd_inv hf
              refine z_callV (As := [.ref v22]) (rest := []) (m_X1_minimize hC.2.2.2.2.2.2.2.2 hk) hC hw wd_X1_minimize lkM_X6_187 (isO_sh ho) rfl rfl ⟨rfl, rfl⟩ ⟨(Nat.le_of_ble_eq_true rfl), (Nat.le_of_ble_eq_true rfl)⟩ hl.1 rfl (Nat.le_of_ble_eq_true rfl) dX6_derive_166 ⟨(Nat.le_of_ble_eq_true rfl), (Nat.le_of_ble_eq_true rfl)⟩ (fun H locs hw => ?_)
              refine lv_goto (tgt := 172) hx hb dX6_derive_169 (by decide) ?_
              exact t_X6_derive_L172 hC hr htab hf hw (lv_sub hl [0, 1] rfl)
            · rw [if_neg h56_6] at hf
              refine lv_tableOut (tgt := 172) hx hb dX6_derive_56 (by have := tsw1_6 h56_1 h56_2 h56_3 h56_4 h56_5 h56_6; omega) (by decide) ?_
              exact t_X6_derive_L172 hC hr htab hf hw (lv_sub hl [0, 1] rfl)
set_option maxHeartbeats 4000000 in
set_option maxRecDepth 100000 in
theorem m_X6_derive (h9 : l.stackTraces = false) {Γ : zSh} {a0 : Nat} {a1 : Int32} {a2 : Int32} {a3 : Int32} {σ : zSt} {out : ((Int32 × zSt) ⊕ (Nat × zSt))} (hf : f_X6_derive Γ a0 a1 a2 a3 σ = some out) : vx_Met l yX6_derive (wq yX6_derive cX6_derive 5 (Option.some FieldType.int)) rm_X6_derive (zQ0 D cA B0 [.ref a0, .int a1, .int a2, .int a3] Γ σ (ZB B0)) (zQx D cA B0 (fun r : Int32 => some (.int r)) Γ out (ZB B0)) (zXx D cA B0 Γ out (ZB B0)) 4 24 (FR B0) := by
  refine z_ofX h9 (by decide) (Nat.le_of_ble_eq_true rfl) ?_
  intro p e s m args below meth c ls hC hr htab hw hl
  have hx := hC.1
  have hb := hC.2.1
  have hl : lv_has ls 5 [(0, .ref a0), (1, .int a1), (2, .int a2), (3, .int a3)] := hl
  unfold f_X6_derive at hf
  refine lv_iload_n hx hb dX6_derive_0 rfl (lv_at hl 1 rfl) ?_
  obtain ⟨q, hk, hn, hxx⟩ := xbnd_inv hf
  refine z_xcallS (As := [.int a1]) (rest := []) (m_X6_checkSlot hC.2.2.2.2.2.2.2.2 hk) hC hw wd_X6_checkSlot lkM_X6_78 rfl ⟨rfl, rfl⟩ ⟨(Nat.le_of_ble_eq_true rfl), (Nat.le_of_ble_eq_true rfl)⟩ hl.1 rfl (Nat.le_of_ble_eq_true rfl) dX6_derive_1 ⟨(Nat.le_of_ble_eq_true rfl), (Nat.le_of_ble_eq_true rfl)⟩ (fun u9 σ1 eq H locs hw => ?_) (fun k9 s9 eq H locs q9 ce9 hw e1 e2 e3 => z_xout hC hw (hxx _ _ eq) htab e1 e2 e3 (Nat.le_of_ble_eq_true rfl) (Nat.le_of_ble_eq_true rfl))
  have hf := hn _ _ eq
  refine lv_iload_n hx hb dX6_derive_4 rfl (lv_at hl 2 rfl) ?_
  obtain ⟨q, hk, hn, hxx⟩ := xbnd_inv hf
  refine z_xcallS (As := [.int a2]) (rest := []) (m_X6_checkSlot hC.2.2.2.2.2.2.2.2 hk) hC hw wd_X6_checkSlot lkM_X6_78 rfl ⟨rfl, rfl⟩ ⟨(Nat.le_of_ble_eq_true rfl), (Nat.le_of_ble_eq_true rfl)⟩ hl.1 rfl (Nat.le_of_ble_eq_true rfl) dX6_derive_5 ⟨(Nat.le_of_ble_eq_true rfl), (Nat.le_of_ble_eq_true rfl)⟩ (fun u9 σ2 eq H locs hw => ?_) (fun k9 s9 eq H locs q9 ce9 hw e1 e2 e3 => z_xout hC hw (hxx _ _ eq) htab e1 e2 e3 (Nat.le_of_ble_eq_true rfl) (Nat.le_of_ble_eq_true rfl))
  have hf := hn _ _ eq
  refine lv_iload_n hx hb dX6_derive_8 rfl (lv_at hl 3 rfl) ?_
  refine lv_iconst (v := 0) hx hb dX6_derive_9 (by decide) ?_
  refine lv_bipush (v := 6) hx hb dX6_derive_10 (by decide) ?_
  obtain ⟨q, hk, hn, hxx⟩ := xbnd_inv hf
  refine z_xcallS (As := [.int a3, .int 0, .int 6]) (rest := []) (m_X6_checkRange hC.2.2.2.2.2.2.2.2 hk) hC hw wd_X6_checkRange lkM_X6_81 rfl ⟨rfl, rfl⟩ ⟨(Nat.le_of_ble_eq_true rfl), (Nat.le_of_ble_eq_true rfl)⟩ hl.1 rfl (Nat.le_of_ble_eq_true rfl) dX6_derive_12 ⟨(Nat.le_of_ble_eq_true rfl), (Nat.le_of_ble_eq_true rfl)⟩ (fun u9 σ3 eq H locs hw => ?_) (fun k9 s9 eq H locs q9 ce9 hw e1 e2 e3 => z_xout hC hw (hxx _ _ eq) htab e1 e2 e3 (Nat.le_of_ble_eq_true rfl) (Nat.le_of_ble_eq_true rfl))
  have hf := hn _ _ eq
  refine lv_aload_n hx hb dX6_derive_15 rfl (lv_at hl 0 rfl) ?_
  obtain ⟨v4, hg, hf⟩ := gfR_inv hf
  refine r_gfR hC hw hg clX6 (Nat.le_of_ble_eq_true rfl) lkF_X6_13 rfl dX6_derive_16 ?_
  refine lv_iload_n hx hb dX6_derive_19 rfl (lv_at hl 2 rfl) ?_
  obtain ⟨v5, hg, hf⟩ := ldA_inv hf
  refine r_ldA hC hw hg dX6_derive_20 ?_
  refine lv_astore (lv' := [(4, .ref v5), (0, .ref a0), (1, .int a1), (2, .int a2), (3, .int a3)]) hx hb dX6_derive_21 hl (Nat.le_of_ble_eq_true rfl) rfl (fun ls hl => ?_)
  refine lv_iload_n hx hb dX6_derive_23 rfl (lv_at hl 4 rfl) ?_
  refine lv_iconst (v := 2) hx hb dX6_derive_24 (by decide) ?_
  refine lv_icmp_ne (tgt := 46) hx hb dX6_derive_25 (by decide) (fun hc => ?_) (fun hc => ?_)
  · rw [if_neg hc] at hf
    exact t_X6_derive_L46 hC hr htab hf hw (lv_sub hl [1, 2, 4, 0] rfl)
  · rw [if_pos hc] at hf
    refine lv_aload hx hb dX6_derive_28 (lv_at hl 0 rfl) ?_
    obtain ⟨ho, hf⟩ := chk_inv hf
    obtain ⟨r25, σ24, hk, hf⟩ := bnd_inv hf
    refine z_callV (As := []) (rest := []) (m_X0_hasStar hC.2.2.2.2.2.2.2.2 hk) hC hw wd_X0_hasStar lkM_X6_166 (isO_sh ho) rfl rfl ⟨rfl, rfl⟩ ⟨(Nat.le_of_ble_eq_true rfl), (Nat.le_of_ble_eq_true rfl)⟩ hl.1 rfl (Nat.le_of_ble_eq_true rfl) dX6_derive_30 ⟨(Nat.le_of_ble_eq_true rfl), (Nat.le_of_ble_eq_true rfl)⟩ (fun H locs hw => ?_)
    refine lv_if_ne (tgt := 46) hx hb dX6_derive_33 (by decide) (fun hc => ?_) (fun hc => ?_)
    · rw [if_neg hc] at hf
      exact t_X6_derive_L46 hC hr htab hf hw (lv_sub hl [1, 2, 4, 0] rfl)
    · rw [if_pos hc] at hf
      exact z_throwS (k := 2) hC hw zB_up (Option.some.inj hf).symm htab zt_145_149_2 zstr_170 hl.1 dX6_derive_36 dX6_derive_39 dX6_derive_40 dX6_derive_42 dX6_derive_45 (Nat.le_of_ble_eq_true rfl) (Nat.le_of_ble_eq_true rfl) (Nat.le_of_ble_eq_true rfl) (Nat.le_of_ble_eq_true rfl) (Nat.le_of_ble_eq_true rfl) (Nat.le_of_ble_eq_true rfl)
set_option maxHeartbeats 4000000 in
set_option maxRecDepth 100000 in
theorem m_X6_scale (h9 : l.stackTraces = false) {Γ : zSh} {a0 : Nat} {a1 : Int32} {a2 : Int32} {σ : zSt} {out : ((Int32 × zSt) ⊕ (Nat × zSt))} (hf : f_X6_scale Γ a0 a1 a2 σ = some out) : vx_Met l yX6_scale (wq yX6_scale cX6_scale 4 (Option.some FieldType.int)) rm_X6_scale (zQ0 D cA B0 [.ref a0, .int a1, .int a2] Γ σ (ZB B0)) (zQx D cA B0 (fun r : Int32 => some (.int r)) Γ out (ZB B0)) (zXx D cA B0 Γ out (ZB B0)) 2 12 (FR B0) := by
  refine z_ofX h9 (by decide) (Nat.le_of_ble_eq_true rfl) ?_
  intro p e s m args below meth c ls hC hr htab hw hl
  have hx := hC.1
  have hb := hC.2.1
  have hl : lv_has ls 4 [(0, .ref a0), (1, .int a1), (2, .int a2)] := hl
  unfold f_X6_scale at hf
  refine lv_iload_n hx hb dX6_scale_0 rfl (lv_at hl 1 rfl) ?_
  obtain ⟨q, hk, hn, hxx⟩ := xbnd_inv hf
  refine z_xcallS (As := [.int a1]) (rest := []) (m_X6_checkSlot hC.2.2.2.2.2.2.2.2 hk) hC hw wd_X6_checkSlot lkM_X6_78 rfl ⟨rfl, rfl⟩ ⟨(Nat.le_of_ble_eq_true rfl), (Nat.le_of_ble_eq_true rfl)⟩ hl.1 rfl (Nat.le_of_ble_eq_true rfl) dX6_scale_1 ⟨(Nat.le_of_ble_eq_true rfl), (Nat.le_of_ble_eq_true rfl)⟩ (fun u9 σ1 eq H locs hw => ?_) (fun k9 s9 eq H locs q9 ce9 hw e1 e2 e3 => z_xout hC hw (hxx _ _ eq) htab e1 e2 e3 (Nat.le_of_ble_eq_true rfl) (Nat.le_of_ble_eq_true rfl))
  have hf := hn _ _ eq
  refine lv_iload_n hx hb dX6_scale_4 rfl (lv_at hl 2 rfl) ?_
  refine lv_iconst (v := 0) hx hb dX6_scale_5 (by decide) ?_
  refine lv_sipush (v := 10006) hx hb dX6_scale_6 (by decide) ?_
  obtain ⟨q, hk, hn, hxx⟩ := xbnd_inv hf
  refine z_xcallS (As := [.int a2, .int 0, .int 10006]) (rest := []) (m_X6_checkRange hC.2.2.2.2.2.2.2.2 hk) hC hw wd_X6_checkRange lkM_X6_81 rfl ⟨rfl, rfl⟩ ⟨(Nat.le_of_ble_eq_true rfl), (Nat.le_of_ble_eq_true rfl)⟩ hl.1 rfl (Nat.le_of_ble_eq_true rfl) dX6_scale_9 ⟨(Nat.le_of_ble_eq_true rfl), (Nat.le_of_ble_eq_true rfl)⟩ (fun u9 σ2 eq H locs hw => ?_) (fun k9 s9 eq H locs q9 ce9 hw e1 e2 e3 => z_xout hC hw (hxx _ _ eq) htab e1 e2 e3 (Nat.le_of_ble_eq_true rfl) (Nat.le_of_ble_eq_true rfl))
  have hf := hn _ _ eq
  refine lv_aload_n hx hb dX6_scale_12 rfl (lv_at hl 0 rfl) ?_
  refine lv_iload_n hx hb dX6_scale_13 rfl (lv_at hl 1 rfl) ?_
  obtain ⟨ho, hf⟩ := chk_inv hf
  obtain ⟨_, σ3, hk, hf⟩ := bnd_inv hf
  refine z_callV (As := [.int a1]) (rest := []) (m_X6_save hC.2.2.2.2.2.2.2.2 hk) hC hw wd_X6_save lkM_X6_88 (isO_sh ho) rfl rfl ⟨rfl, rfl⟩ ⟨(Nat.le_of_ble_eq_true rfl), (Nat.le_of_ble_eq_true rfl)⟩ hl.1 rfl (Nat.le_of_ble_eq_true rfl) dX6_scale_14 ⟨(Nat.le_of_ble_eq_true rfl), (Nat.le_of_ble_eq_true rfl)⟩ (fun H locs hw => ?_)
  refine lv_aload_n hx hb dX6_scale_17 rfl (lv_at hl 0 rfl) ?_
  obtain ⟨v4, hg, hf⟩ := gfR_inv hf
  refine r_gfR hC hw hg clX6 (Nat.le_of_ble_eq_true rfl) lkF_X6_13 rfl dX6_scale_18 ?_
  refine lv_iload_n hx hb dX6_scale_21 rfl (lv_at hl 1 rfl) ?_
  obtain ⟨v5, hg, hf⟩ := ldA_inv hf
  refine r_ldA hC hw hg dX6_scale_22 ?_
  refine lv_astore_n (lv' := [(3, .ref v5), (0, .ref a0), (1, .int a1), (2, .int a2)]) hx hb dX6_scale_23 rfl hl (Nat.le_of_ble_eq_true rfl) rfl (fun ls hl => ?_)
  refine lv_aload_n hx hb dX6_scale_24 rfl (lv_at hl 0 rfl) ?_
  obtain ⟨v6, hg, hf⟩ := gfR_inv hf
  refine r_gfR hC hw hg clX0 (Nat.le_of_ble_eq_true rfl) lkF_X6_190 rfl dX6_scale_25 ?_
  refine lv_iload_n hx hb dX6_scale_28 rfl (lv_at hl 3 rfl) ?_
  refine lv_aload_n hx hb dX6_scale_29 rfl (lv_at hl 0 rfl) ?_
  obtain ⟨v7, hg, hf⟩ := gfI_inv hf
  refine r_gfI hC hw hg clX0 (Nat.le_of_ble_eq_true rfl) lkF_X6_85 rfl dX6_scale_30 ?_
  obtain ⟨_, σ8, hk, hf⟩ := bnd_inv hf
  refine z_callS (As := [.ref v6, .int a2, .int v7]) (rest := []) (m_X6_multiply hC.2.2.2.2.2.2.2.2 hk) hC hw wd_X6_multiply lkM_X6_193 rfl ⟨rfl, rfl⟩ ⟨(Nat.le_of_ble_eq_true rfl), (Nat.le_of_ble_eq_true rfl)⟩ hl.1 rfl (Nat.le_of_ble_eq_true rfl) dX6_scale_33 ⟨(Nat.le_of_ble_eq_true rfl), (Nat.le_of_ble_eq_true rfl)⟩ (fun H locs hw => ?_)
  refine lv_aload_n hx hb dX6_scale_36 rfl (lv_at hl 0 rfl) ?_
  obtain ⟨ho, hf⟩ := chk_inv hf
  obtain ⟨r10, σ9, hk, hf⟩ := bnd_inv hf
  refine z_callV (As := []) (rest := []) (m_X0_emptyWeight hC.2.2.2.2.2.2.2.2 hk) hC hw wd_X0_emptyWeight lkM_X6_114 (isO_sh ho) rfl rfl ⟨rfl, rfl⟩ ⟨(Nat.le_of_ble_eq_true rfl), (Nat.le_of_ble_eq_true rfl)⟩ hl.1 rfl (Nat.le_of_ble_eq_true rfl) dX6_scale_37 ⟨(Nat.le_of_ble_eq_true rfl), (Nat.le_of_ble_eq_true rfl)⟩ (fun H locs hw => ?_)
  refine vx_ret ?_
  refine W.widen (k := 2) (n := 12) (Nat.le_of_ble_eq_true rfl) (Nat.le_of_ble_eq_true rfl) ?_
  exact W.iret hx hb hr (z_retx hw (Option.some.inj hf).symm rfl) hw.2.2.2.2.2 dX6_scale_40 hC.2.2.2.2.2.1
set_option maxHeartbeats 4000000 in
set_option maxRecDepth 100000 in
theorem t_X6_spaceSize_L55 (hC : zC p l s m args meth c cX6_spaceSize 3 RX6 D cA B0) (hr : meth.sig.returnType = (Option.some FieldType.int)) {Γ : zSh} {x0 : Nat} {σ : zSt} {out : (Int32 × zSt)} (hf : f_X6_spaceSize_L55 Γ x0 σ = some out) {H : Heap} {locs : List Loc} {ls : Array Slot} (hw : zO D cA B0 Γ σ Z s.heap H locs) (hl : lv_has ls 3 [(0, .ref x0)]) :
    W p l e rm_X6_spaceSize s m args below meth c H locs 0 0 (MQ below (zQ1 D cA B0 (some (.int out.1)) Γ out.2 Z) args s 0 0 (FR B0)) (F0 m 55 ls []) := by
  have hx := hC.1
  have hb := hC.2.1
  unfold f_X6_spaceSize_L55 at hf
  refine lv_aload_n hx hb dX6_spaceSize_55 rfl (lv_at hl 0 rfl) ?_
  obtain ⟨v8, hg, hf⟩ := gfR_inv hf
  refine r_gfR hC hw hg clX6 (Nat.le_of_ble_eq_true rfl) lkF_X6_33 rfl dX6_spaceSize_56 ?_
  obtain ⟨v9, hg, hf⟩ := gfI_inv hf
  refine r_gfI hC hw hg clX0 (Nat.le_of_ble_eq_true rfl) lkF_X6_85 rfl dX6_spaceSize_59 ?_
  first | (obtain ⟨rfl, rfl⟩ := sp_inv hf) | (obtain rfl := Option.some.inj hf)
  exact W.iret hx hb hr (z_ret hw rfl) hw.2.2.2.2.2 dX6_spaceSize_62 hC.2.2.2.2.2.1
set_option maxHeartbeats 4000000 in
set_option maxRecDepth 100000 in
theorem t_X6_spaceSize_L25 (hC : zC p l s m args meth c cX6_spaceSize 3 RX6 D cA B0) (hr : meth.sig.returnType = (Option.some FieldType.int)) {Γ : zSh} {x0 : Nat} {x2 : Int32} {σ : zSt} {out : (Int32 × zSt)} (hf : f_X6_spaceSize_L25 Γ x0 x2 σ = some out) {H : Heap} {locs : List Loc} {ls : Array Slot} (hw : zO D cA B0 Γ σ Z s.heap H locs) (hl : lv_has ls 3 [(0, .ref x0), (2, .int x2)]) :
    W p l e rm_X6_spaceSize s m args below meth c H locs 0 0 (MQ below (zQ1 D cA B0 (some (.int out.1)) Γ out.2 Z) args s 0 0 (FR B0)) (F0 m 25 ls []) := by
  have hx := hC.1
  have hb := hC.2.1
  unfold f_X6_spaceSize_L25 at hf
  refine lv_iload_n hx hb dX6_spaceSize_25 rfl (lv_at hl 1 rfl) ?_
  refine lv_iconst (v := 2) hx hb dX6_spaceSize_26 (by decide) ?_
  refine lv_icmp_ne (tgt := 44) hx hb dX6_spaceSize_27 (by decide) (fun hc => ?_) (fun hc => ?_)
  · rw [if_neg hc] at hf
    refine lv_aload_n hx hb dX6_spaceSize_44 rfl (lv_at hl 0 rfl) ?_
    obtain ⟨v5, hg, hf⟩ := gfR_inv hf
    refine r_gfR hC hw hg clX6 (Nat.le_of_ble_eq_true rfl) lkF_X6_57 rfl dX6_spaceSize_45 ?_
    refine lv_aload_n hx hb dX6_spaceSize_48 rfl (lv_at hl 0 rfl) ?_
    obtain ⟨v6, hg, hf⟩ := gfR_inv hf
    refine r_gfR hC hw hg clX6 (Nat.le_of_ble_eq_true rfl) lkF_X6_33 rfl dX6_spaceSize_49 ?_
    obtain ⟨ho, hf⟩ := chk_inv hf
    obtain ⟨_, σ7, hk, hf⟩ := bnd_inv hf
    refine z_callV (As := [.ref v6]) (rest := []) (m_X1_reduce hC.2.2.2.2.2.2.2.2 hk) hC hw wd_X1_reduce lkM_X6_184 (isO_sh ho) rfl rfl ⟨rfl, rfl⟩ ⟨(Nat.le_of_ble_eq_true rfl), (Nat.le_of_ble_eq_true rfl)⟩ hl.1 rfl (Nat.le_of_ble_eq_true rfl) dX6_spaceSize_52 ⟨(Nat.le_of_ble_eq_true rfl), (Nat.le_of_ble_eq_true rfl)⟩ (fun H locs hw => ?_)
    exact t_X6_spaceSize_L55 hC hr hf hw (lv_sub hl [0] rfl)
  · rw [if_pos hc] at hf
    refine lv_aload_n hx hb dX6_spaceSize_30 rfl (lv_at hl 0 rfl) ?_
    obtain ⟨v10, hg, hf⟩ := gfR_inv hf
    refine r_gfR hC hw hg clX6 (Nat.le_of_ble_eq_true rfl) lkF_X6_57 rfl dX6_spaceSize_31 ?_
    refine lv_aload_n hx hb dX6_spaceSize_34 rfl (lv_at hl 0 rfl) ?_
    obtain ⟨v11, hg, hf⟩ := gfR_inv hf
    refine r_gfR hC hw hg clX6 (Nat.le_of_ble_eq_true rfl) lkF_X6_33 rfl dX6_spaceSize_35 ?_
    obtain ⟨ho, hf⟩ := chk_inv hf
    obtain ⟨_, σ12, hk, hf⟩ := bnd_inv hf
    refine z_callV (As := [.ref v11]) (rest := []) (m_X1_minimize hC.2.2.2.2.2.2.2.2 hk) hC hw wd_X1_minimize lkM_X6_187 (isO_sh ho) rfl rfl ⟨rfl, rfl⟩ ⟨(Nat.le_of_ble_eq_true rfl), (Nat.le_of_ble_eq_true rfl)⟩ hl.1 rfl (Nat.le_of_ble_eq_true rfl) dX6_spaceSize_38 ⟨(Nat.le_of_ble_eq_true rfl), (Nat.le_of_ble_eq_true rfl)⟩ (fun H locs hw => ?_)
    refine lv_goto (tgt := 55) hx hb dX6_spaceSize_41 (by decide) ?_
    exact t_X6_spaceSize_L55 hC hr hf hw (lv_sub hl [0] rfl)
set_option maxHeartbeats 4000000 in
set_option maxRecDepth 100000 in
theorem m_X6_spaceSize (h9 : l.stackTraces = false) {Γ : zSh} {a0 : Nat} {a1 : Int32} {a2 : Int32} {σ : zSt} {r : Int32} {σ2 : zSt} (hf : f_X6_spaceSize Γ a0 a1 a2 σ = some (r, σ2)) : Met l yX6_spaceSize (wq yX6_spaceSize cX6_spaceSize 3 (Option.some FieldType.int)) rm_X6_spaceSize (zQ0 D cA B0 [.ref a0, .int a1, .int a2] Γ σ Z) (zQ1 D cA B0 (some (.int r)) Γ σ2 Z) 0 0 (FR B0) := by
  refine z_ofW h9 (by decide) (Nat.le_of_ble_eq_true rfl) ?_
  intro p e s m args below meth c ls hC hr _ hw hl
  have hx := hC.1
  have hb := hC.2.1
  have hl : lv_has ls 3 [(0, .ref a0), (1, .int a1), (2, .int a2)] := hl
  unfold f_X6_spaceSize at hf
  refine lv_aload_n hx hb dX6_spaceSize_0 rfl (lv_at hl 0 rfl) ?_
  obtain ⟨v1, hg, hf⟩ := gfR_inv hf
  refine r_gfR hC hw hg clX6 (Nat.le_of_ble_eq_true rfl) lkF_X6_33 rfl dX6_spaceSize_1 ?_
  refine lv_aload_n hx hb dX6_spaceSize_4 rfl (lv_at hl 0 rfl) ?_
  obtain ⟨v2, hg, hf⟩ := gfR_inv hf
  refine r_gfR hC hw hg clX6 (Nat.le_of_ble_eq_true rfl) lkF_X6_13 rfl dX6_spaceSize_5 ?_
  refine lv_iload_n hx hb dX6_spaceSize_8 rfl (lv_at hl 1 rfl) ?_
  obtain ⟨v3, hg, hf⟩ := ldA_inv hf
  refine r_ldA hC hw hg dX6_spaceSize_9 ?_
  obtain ⟨ho, hf⟩ := chk_inv hf
  obtain ⟨_, σ4, hk, hf⟩ := bnd_inv hf
  refine z_callV (As := [.ref v3]) (rest := []) (m_X0_copyFrom hC.2.2.2.2.2.2.2.2 hk) hC hw wd_X0_copyFrom lkM_X6_172 (isO_sh ho) rfl rfl ⟨rfl, rfl⟩ ⟨(Nat.le_of_ble_eq_true rfl), (Nat.le_of_ble_eq_true rfl)⟩ hl.1 rfl (Nat.le_of_ble_eq_true rfl) dX6_spaceSize_10 ⟨(Nat.le_of_ble_eq_true rfl), (Nat.le_of_ble_eq_true rfl)⟩ (fun H locs hw => ?_)
  refine lv_iload_n hx hb dX6_spaceSize_13 rfl (lv_at hl 2 rfl) ?_
  refine lv_iconst (v := 1) hx hb dX6_spaceSize_14 (by decide) ?_
  refine lv_icmp_ne (tgt := 25) hx hb dX6_spaceSize_15 (by decide) (fun hc => ?_) (fun hc => ?_)
  · rw [if_neg hc] at hf
    exact t_X6_spaceSize_L25 hC hr hf hw (lv_sub hl [0, 2] rfl)
  · rw [if_pos hc] at hf
    refine lv_aload_n hx hb dX6_spaceSize_18 rfl (lv_at hl 0 rfl) ?_
    obtain ⟨v13, hg, hf⟩ := gfR_inv hf
    refine r_gfR hC hw hg clX6 (Nat.le_of_ble_eq_true rfl) lkF_X6_33 rfl dX6_spaceSize_19 ?_
    obtain ⟨ho, hf⟩ := chk_inv hf
    obtain ⟨_, σ14, hk, hf⟩ := bnd_inv hf
    refine z_callV (As := []) (rest := []) (m_X0_reverse hC.2.2.2.2.2.2.2.2 hk) hC hw wd_X0_reverse lkM_X6_175 (isO_sh ho) rfl rfl ⟨rfl, rfl⟩ ⟨(Nat.le_of_ble_eq_true rfl), (Nat.le_of_ble_eq_true rfl)⟩ hl.1 rfl (Nat.le_of_ble_eq_true rfl) dX6_spaceSize_22 ⟨(Nat.le_of_ble_eq_true rfl), (Nat.le_of_ble_eq_true rfl)⟩ (fun H locs hw => ?_)
    exact t_X6_spaceSize_L25 hC hr hf hw (lv_sub hl [0, 2] rfl)
set_option maxHeartbeats 4000000 in
set_option maxRecDepth 100000 in
theorem m_X6_dimension (h9 : l.stackTraces = false) {Γ : zSh} {a0 : Nat} {a1 : Int32} {a2 : Int32} {σ : zSt} {out : ((Int32 × zSt) ⊕ (Nat × zSt))} (hf : f_X6_dimension Γ a0 a1 a2 σ = some out) : vx_Met l yX6_dimension (wq yX6_dimension cX6_dimension 3 (Option.some FieldType.int)) rm_X6_dimension (zQ0 D cA B0 [.ref a0, .int a1, .int a2] Γ σ (ZB B0)) (zQx D cA B0 (fun r : Int32 => some (.int r)) Γ out (ZB B0)) (zXx D cA B0 Γ out (ZB B0)) 2 12 (FR B0) := by
  refine z_ofX h9 (by decide) (Nat.le_of_ble_eq_true rfl) ?_
  intro p e s m args below meth c ls hC hr htab hw hl
  have hx := hC.1
  have hb := hC.2.1
  have hl : lv_has ls 3 [(0, .ref a0), (1, .int a1), (2, .int a2)] := hl
  unfold f_X6_dimension at hf
  refine lv_iload_n hx hb dX6_dimension_0 rfl (lv_at hl 1 rfl) ?_
  obtain ⟨q, hk, hn, hxx⟩ := xbnd_inv hf
  refine z_xcallS (As := [.int a1]) (rest := []) (m_X6_checkSlot hC.2.2.2.2.2.2.2.2 hk) hC hw wd_X6_checkSlot lkM_X6_78 rfl ⟨rfl, rfl⟩ ⟨(Nat.le_of_ble_eq_true rfl), (Nat.le_of_ble_eq_true rfl)⟩ hl.1 rfl (Nat.le_of_ble_eq_true rfl) dX6_dimension_1 ⟨(Nat.le_of_ble_eq_true rfl), (Nat.le_of_ble_eq_true rfl)⟩ (fun u9 σ1 eq H locs hw => ?_) (fun k9 s9 eq H locs q9 ce9 hw e1 e2 e3 => z_xout hC hw (hxx _ _ eq) htab e1 e2 e3 (Nat.le_of_ble_eq_true rfl) (Nat.le_of_ble_eq_true rfl))
  have hf := hn _ _ eq
  refine lv_iload_n hx hb dX6_dimension_4 rfl (lv_at hl 2 rfl) ?_
  refine lv_iconst (v := 0) hx hb dX6_dimension_5 (by decide) ?_
  refine lv_iconst (v := 2) hx hb dX6_dimension_6 (by decide) ?_
  obtain ⟨q, hk, hn, hxx⟩ := xbnd_inv hf
  refine z_xcallS (As := [.int a2, .int 0, .int 2]) (rest := []) (m_X6_checkRange hC.2.2.2.2.2.2.2.2 hk) hC hw wd_X6_checkRange lkM_X6_81 rfl ⟨rfl, rfl⟩ ⟨(Nat.le_of_ble_eq_true rfl), (Nat.le_of_ble_eq_true rfl)⟩ hl.1 rfl (Nat.le_of_ble_eq_true rfl) dX6_dimension_7 ⟨(Nat.le_of_ble_eq_true rfl), (Nat.le_of_ble_eq_true rfl)⟩ (fun u9 σ2 eq H locs hw => ?_) (fun k9 s9 eq H locs q9 ce9 hw e1 e2 e3 => z_xout hC hw (hxx _ _ eq) htab e1 e2 e3 (Nat.le_of_ble_eq_true rfl) (Nat.le_of_ble_eq_true rfl))
  have hf := hn _ _ eq
  refine lv_aload_n hx hb dX6_dimension_10 rfl (lv_at hl 0 rfl) ?_
  refine lv_iload_n hx hb dX6_dimension_11 rfl (lv_at hl 1 rfl) ?_
  refine lv_iload_n hx hb dX6_dimension_12 rfl (lv_at hl 2 rfl) ?_
  obtain ⟨ho, hf⟩ := chk_inv hf
  obtain ⟨r4, σ3, hk, hf⟩ := bnd_inv hf
  refine z_callV (As := [.int a1, .int a2]) (rest := []) (m_X6_spaceSize hC.2.2.2.2.2.2.2.2 hk) hC hw wd_X6_spaceSize lkM_X6_197 (isO_sh ho) rfl rfl ⟨rfl, rfl⟩ ⟨(Nat.le_of_ble_eq_true rfl), (Nat.le_of_ble_eq_true rfl)⟩ hl.1 rfl (Nat.le_of_ble_eq_true rfl) dX6_dimension_13 ⟨(Nat.le_of_ble_eq_true rfl), (Nat.le_of_ble_eq_true rfl)⟩ (fun H locs hw => ?_)
  refine vx_ret ?_
  refine W.widen (k := 2) (n := 12) (Nat.le_of_ble_eq_true rfl) (Nat.le_of_ble_eq_true rfl) ?_
  exact W.iret hx hb hr (z_retx hw (Option.some.inj hf).symm rfl) hw.2.2.2.2.2 dX6_dimension_16 hC.2.2.2.2.2.1
set_option maxHeartbeats 4000000 in
set_option maxRecDepth 100000 in
theorem t_X6_basisWord_L32 (hC : zC p l s m args meth c cX6_basisWord 3 RX6 D cA B0) (hr : meth.sig.returnType = (Option.some FieldType.int)) (htab : ∀ x ∈ c.exceptionTable.toList, False) {Γ : zSh}  {σ : zSt} {out : ((Int32 × zSt) ⊕ (Nat × zSt))} (hf : f_X6_basisWord_L32 Γ  σ = some out) {H : Heap} {locs : List Loc} {ls : Array Slot} (hw : zO D cA B0 Γ σ (ZB B0) s.heap H locs) (hl : lv_has ls 3 []) :
    W p l e rm_X6_basisWord s m args below meth c H locs 1 6 (vx_MQ below (zQx D cA B0 (fun r : Int32 => some (.int r)) Γ out (ZB B0)) (zXx D cA B0 Γ out (ZB B0)) args s 2 12 (FR B0)) (F0 m 32 ls []) := by
  have hx := hC.1
  have hb := hC.2.1
  unfold f_X6_basisWord_L32 at hf
  exact z_throwS (k := 0) hC hw zB_up (Option.some.inj hf).symm htab zt_204_208_0 zstr_206 hl.1 dX6_basisWord_32 dX6_basisWord_35 dX6_basisWord_36 dX6_basisWord_38 dX6_basisWord_41 (Nat.le_of_ble_eq_true rfl) (Nat.le_of_ble_eq_true rfl) (Nat.le_of_ble_eq_true rfl) (Nat.le_of_ble_eq_true rfl) (Nat.le_of_ble_eq_true rfl) (Nat.le_of_ble_eq_true rfl)
set_option maxHeartbeats 4000000 in
set_option maxRecDepth 100000 in
theorem m_X6_basisWord (h9 : l.stackTraces = false) {Γ : zSh} {a0 : Nat} {a1 : Int32} {a2 : Int32} {σ : zSt} {out : ((Int32 × zSt) ⊕ (Nat × zSt))} (hf : f_X6_basisWord Γ a0 a1 a2 σ = some out) : vx_Met l yX6_basisWord (wq yX6_basisWord cX6_basisWord 3 (Option.some FieldType.int)) rm_X6_basisWord (zQ0 D cA B0 [.ref a0, .int a1, .int a2] Γ σ (ZB B0)) (zQx D cA B0 (fun r : Int32 => some (.int r)) Γ out (ZB B0)) (zXx D cA B0 Γ out (ZB B0)) 2 12 (FR B0) := by
  refine z_ofX h9 (by decide) (Nat.le_of_ble_eq_true rfl) ?_
  intro p e s m args below meth c ls hC hr htab hw hl
  have hx := hC.1
  have hb := hC.2.1
  have hl : lv_has ls 3 [(0, .ref a0), (1, .int a1), (2, .int a2)] := hl
  unfold f_X6_basisWord at hf
  refine lv_iload_n hx hb dX6_basisWord_0 rfl (lv_at hl 1 rfl) ?_
  obtain ⟨q, hk, hn, hxx⟩ := xbnd_inv hf
  refine z_xcallS (As := [.int a1]) (rest := []) (m_X6_checkSlot hC.2.2.2.2.2.2.2.2 hk) hC hw wd_X6_checkSlot lkM_X6_78 rfl ⟨rfl, rfl⟩ ⟨(Nat.le_of_ble_eq_true rfl), (Nat.le_of_ble_eq_true rfl)⟩ hl.1 rfl (Nat.le_of_ble_eq_true rfl) dX6_basisWord_1 ⟨(Nat.le_of_ble_eq_true rfl), (Nat.le_of_ble_eq_true rfl)⟩ (fun u9 σ1 eq H locs hw => ?_) (fun k9 s9 eq H locs q9 ce9 hw e1 e2 e3 => z_xout hC hw (hxx _ _ eq) htab e1 e2 e3 (Nat.le_of_ble_eq_true rfl) (Nat.le_of_ble_eq_true rfl))
  have hf := hn _ _ eq
  refine lv_aload_n hx hb dX6_basisWord_4 rfl (lv_at hl 0 rfl) ?_
  obtain ⟨v2, hg, hf⟩ := gfR_inv hf
  refine r_gfR hC hw hg clX6 (Nat.le_of_ble_eq_true rfl) lkF_X6_57 rfl dX6_basisWord_5 ?_
  refine lv_aload_n hx hb dX6_basisWord_8 rfl (lv_at hl 0 rfl) ?_
  obtain ⟨v3, hg, hf⟩ := gfR_inv hf
  refine r_gfR hC hw hg clX6 (Nat.le_of_ble_eq_true rfl) lkF_X6_13 rfl dX6_basisWord_9 ?_
  refine lv_iload_n hx hb dX6_basisWord_12 rfl (lv_at hl 1 rfl) ?_
  obtain ⟨v4, hg, hf⟩ := ldA_inv hf
  refine r_ldA hC hw hg dX6_basisWord_13 ?_
  obtain ⟨ho, hf⟩ := chk_inv hf
  obtain ⟨_, σ5, hk, hf⟩ := bnd_inv hf
  refine z_callV (As := [.ref v4]) (rest := []) (m_X1_explore hC.2.2.2.2.2.2.2.2 hk) hC hw wd_X1_explore lkM_X6_139 (isO_sh ho) rfl rfl ⟨rfl, rfl⟩ ⟨(Nat.le_of_ble_eq_true rfl), (Nat.le_of_ble_eq_true rfl)⟩ hl.1 rfl (Nat.le_of_ble_eq_true rfl) dX6_basisWord_14 ⟨(Nat.le_of_ble_eq_true rfl), (Nat.le_of_ble_eq_true rfl)⟩ (fun H locs hw => ?_)
  refine lv_iload_n hx hb dX6_basisWord_17 rfl (lv_at hl 2 rfl) ?_
  refine lv_if_lt (tgt := 32) hx hb dX6_basisWord_18 (by decide) (fun hc => ?_) (fun hc => ?_)
  · rw [if_pos hc] at hf
    exact t_X6_basisWord_L32 hC hr htab hf hw (lv_sub hl [] rfl)
  · rw [if_neg hc] at hf
    refine lv_iload_n hx hb dX6_basisWord_21 rfl (lv_at hl 2 rfl) ?_
    refine lv_aload_n hx hb dX6_basisWord_22 rfl (lv_at hl 0 rfl) ?_
    obtain ⟨v6, hg, hf⟩ := gfR_inv hf
    refine r_gfR hC hw hg clX6 (Nat.le_of_ble_eq_true rfl) lkF_X6_57 rfl dX6_basisWord_23 ?_
    obtain ⟨v7, hg, hf⟩ := gfI_inv hf
    refine r_gfI hC hw hg clX1 (Nat.le_of_ble_eq_true rfl) lkF_X6_201 rfl dX6_basisWord_26 ?_
    refine lv_icmp_lt (tgt := 42) hx hb dX6_basisWord_29 (by decide) (fun hc => ?_) (fun hc => ?_)
    · rw [if_pos hc] at hf
      refine lv_aload_n hx hb dX6_basisWord_42 rfl (lv_at hl 0 rfl) ?_
      obtain ⟨v8, hg, hf⟩ := gfR_inv hf
      refine r_gfR hC hw hg clX6 (Nat.le_of_ble_eq_true rfl) lkF_X6_57 rfl dX6_basisWord_43 ?_
      obtain ⟨v9, hg, hf⟩ := gfR_inv hf
      refine r_gfR hC hw hg clX1 (Nat.le_of_ble_eq_true rfl) lkF_X6_209 rfl dX6_basisWord_46 ?_
      refine lv_iload_n hx hb dX6_basisWord_49 rfl (lv_at hl 2 rfl) ?_
      obtain ⟨v10, hg, hf⟩ := ldI_inv hf
      refine r_ldI hC hw hg dX6_basisWord_50 ?_
      refine vx_ret ?_
      refine W.widen (k := 2) (n := 12) (Nat.le_of_ble_eq_true rfl) (Nat.le_of_ble_eq_true rfl) ?_
      exact W.iret hx hb hr (z_retx hw (Option.some.inj hf).symm rfl) hw.2.2.2.2.2 dX6_basisWord_51 hC.2.2.2.2.2.1
    · rw [if_neg hc] at hf
      exact t_X6_basisWord_L32 hC hr htab hf hw (lv_sub hl [] rfl)
set_option maxHeartbeats 4000000 in
set_option maxRecDepth 100000 in
theorem m_X6_differing (h9 : l.stackTraces = false) {Γ : zSh} {a0 : Nat} {a1 : Int32} {a2 : Int32} {σ : zSt} {out : ((Int32 × zSt) ⊕ (Nat × zSt))} (hf : f_X6_differing Γ a0 a1 a2 σ = some out) : vx_Met l yX6_differing (wq yX6_differing cX6_differing 3 (Option.some FieldType.int)) rm_X6_differing (zQ0 D cA B0 [.ref a0, .int a1, .int a2] Γ σ (ZB B0)) (zQx D cA B0 (fun r : Int32 => some (.int r)) Γ out (ZB B0)) (zXx D cA B0 Γ out (ZB B0)) 2 12 (FR B0) := by
  refine z_ofX h9 (by decide) (Nat.le_of_ble_eq_true rfl) ?_
  intro p e s m args below meth c ls hC hr htab hw hl
  have hx := hC.1
  have hb := hC.2.1
  have hl : lv_has ls 3 [(0, .ref a0), (1, .int a1), (2, .int a2)] := hl
  unfold f_X6_differing at hf
  refine lv_iload_n hx hb dX6_differing_0 rfl (lv_at hl 1 rfl) ?_
  obtain ⟨q, hk, hn, hxx⟩ := xbnd_inv hf
  refine z_xcallS (As := [.int a1]) (rest := []) (m_X6_checkSlot hC.2.2.2.2.2.2.2.2 hk) hC hw wd_X6_checkSlot lkM_X6_78 rfl ⟨rfl, rfl⟩ ⟨(Nat.le_of_ble_eq_true rfl), (Nat.le_of_ble_eq_true rfl)⟩ hl.1 rfl (Nat.le_of_ble_eq_true rfl) dX6_differing_1 ⟨(Nat.le_of_ble_eq_true rfl), (Nat.le_of_ble_eq_true rfl)⟩ (fun u9 σ1 eq H locs hw => ?_) (fun k9 s9 eq H locs q9 ce9 hw e1 e2 e3 => z_xout hC hw (hxx _ _ eq) htab e1 e2 e3 (Nat.le_of_ble_eq_true rfl) (Nat.le_of_ble_eq_true rfl))
  have hf := hn _ _ eq
  refine lv_iload_n hx hb dX6_differing_4 rfl (lv_at hl 2 rfl) ?_
  obtain ⟨q, hk, hn, hxx⟩ := xbnd_inv hf
  refine z_xcallS (As := [.int a2]) (rest := []) (m_X6_checkSlot hC.2.2.2.2.2.2.2.2 hk) hC hw wd_X6_checkSlot lkM_X6_78 rfl ⟨rfl, rfl⟩ ⟨(Nat.le_of_ble_eq_true rfl), (Nat.le_of_ble_eq_true rfl)⟩ hl.1 rfl (Nat.le_of_ble_eq_true rfl) dX6_differing_5 ⟨(Nat.le_of_ble_eq_true rfl), (Nat.le_of_ble_eq_true rfl)⟩ (fun u9 σ2 eq H locs hw => ?_) (fun k9 s9 eq H locs q9 ce9 hw e1 e2 e3 => z_xout hC hw (hxx _ _ eq) htab e1 e2 e3 (Nat.le_of_ble_eq_true rfl) (Nat.le_of_ble_eq_true rfl))
  have hf := hn _ _ eq
  refine lv_aload_n hx hb dX6_differing_8 rfl (lv_at hl 0 rfl) ?_
  obtain ⟨v3, hg, hf⟩ := gfR_inv hf
  refine r_gfR hC hw hg clX6 (Nat.le_of_ble_eq_true rfl) lkF_X6_37 rfl dX6_differing_9 ?_
  refine lv_aload_n hx hb dX6_differing_12 rfl (lv_at hl 0 rfl) ?_
  obtain ⟨v4, hg, hf⟩ := gfR_inv hf
  refine r_gfR hC hw hg clX6 (Nat.le_of_ble_eq_true rfl) lkF_X6_13 rfl dX6_differing_13 ?_
  refine lv_iload_n hx hb dX6_differing_16 rfl (lv_at hl 1 rfl) ?_
  obtain ⟨v5, hg, hf⟩ := ldA_inv hf
  refine r_ldA hC hw hg dX6_differing_17 ?_
  refine lv_aload_n hx hb dX6_differing_18 rfl (lv_at hl 0 rfl) ?_
  obtain ⟨v6, hg, hf⟩ := gfR_inv hf
  refine r_gfR hC hw hg clX6 (Nat.le_of_ble_eq_true rfl) lkF_X6_13 rfl dX6_differing_19 ?_
  refine lv_iload_n hx hb dX6_differing_22 rfl (lv_at hl 2 rfl) ?_
  obtain ⟨v7, hg, hf⟩ := ldA_inv hf
  refine r_ldA hC hw hg dX6_differing_23 ?_
  obtain ⟨ho, hf⟩ := chk_inv hf
  obtain ⟨_, σ8, hk, hf⟩ := bnd_inv hf
  refine z_callV (As := [.ref v5, .ref v7]) (rest := []) (m_X0_becomeDifference hC.2.2.2.2.2.2.2.2 hk) hC hw wd_X0_becomeDifference lkM_X6_212 (isO_sh ho) rfl rfl ⟨rfl, rfl⟩ ⟨(Nat.le_of_ble_eq_true rfl), (Nat.le_of_ble_eq_true rfl)⟩ hl.1 rfl (Nat.le_of_ble_eq_true rfl) dX6_differing_24 ⟨(Nat.le_of_ble_eq_true rfl), (Nat.le_of_ble_eq_true rfl)⟩ (fun H locs hw => ?_)
  refine lv_aload_n hx hb dX6_differing_27 rfl (lv_at hl 0 rfl) ?_
  obtain ⟨v9, hg, hf⟩ := gfR_inv hf
  refine r_gfR hC hw hg clX6 (Nat.le_of_ble_eq_true rfl) lkF_X6_57 rfl dX6_differing_28 ?_
  refine lv_aload_n hx hb dX6_differing_31 rfl (lv_at hl 0 rfl) ?_
  obtain ⟨v10, hg, hf⟩ := gfR_inv hf
  refine r_gfR hC hw hg clX6 (Nat.le_of_ble_eq_true rfl) lkF_X6_37 rfl dX6_differing_32 ?_
  obtain ⟨ho, hf⟩ := chk_inv hf
  obtain ⟨_, σ11, hk, hf⟩ := bnd_inv hf
  refine z_callV (As := [.ref v10]) (rest := []) (m_X1_explore hC.2.2.2.2.2.2.2.2 hk) hC hw wd_X1_explore lkM_X6_139 (isO_sh ho) rfl rfl ⟨rfl, rfl⟩ ⟨(Nat.le_of_ble_eq_true rfl), (Nat.le_of_ble_eq_true rfl)⟩ hl.1 rfl (Nat.le_of_ble_eq_true rfl) dX6_differing_35 ⟨(Nat.le_of_ble_eq_true rfl), (Nat.le_of_ble_eq_true rfl)⟩ (fun H locs hw => ?_)
  refine lv_aload_n hx hb dX6_differing_38 rfl (lv_at hl 0 rfl) ?_
  obtain ⟨v12, hg, hf⟩ := gfR_inv hf
  refine r_gfR hC hw hg clX6 (Nat.le_of_ble_eq_true rfl) lkF_X6_57 rfl dX6_differing_39 ?_
  obtain ⟨ho, hf⟩ := chk_inv hf
  obtain ⟨r14, σ13, hk, hf⟩ := bnd_inv hf
  refine z_callV (As := []) (rest := []) (m_X1_firstWeighted hC.2.2.2.2.2.2.2.2 hk) hC hw wd_X1_firstWeighted lkM_X6_142 (isO_sh ho) rfl rfl ⟨rfl, rfl⟩ ⟨(Nat.le_of_ble_eq_true rfl), (Nat.le_of_ble_eq_true rfl)⟩ hl.1 rfl (Nat.le_of_ble_eq_true rfl) dX6_differing_42 ⟨(Nat.le_of_ble_eq_true rfl), (Nat.le_of_ble_eq_true rfl)⟩ (fun H locs hw => ?_)
  refine vx_ret ?_
  refine W.widen (k := 2) (n := 12) (Nat.le_of_ble_eq_true rfl) (Nat.le_of_ble_eq_true rfl) ?_
  exact W.iret hx hb hr (z_retx hw (Option.some.inj hf).symm rfl) hw.2.2.2.2.2 dX6_differing_45 hC.2.2.2.2.2.1
set_option maxHeartbeats 4000000 in
set_option maxRecDepth 100000 in
theorem m_X6_joinedWord (h9 : l.stackTraces = false) {Γ : zSh} {a0 : Int32} {a1 : Int32} {σ : zSt} {r : Int32} {σ2 : zSt} (hf : f_X6_joinedWord Γ a0 a1 σ = some (r, σ2)) : Met l yX6_joinedWord (wq yX6_joinedWord cX6_joinedWord 3 (Option.some FieldType.int)) rm_X6_joinedWord (zQ0 D cA B0 [.int a0, .int a1] Γ σ Z) (zQ1 D cA B0 (some (.int r)) Γ σ2 Z) 0 0 (FR B0) := by
  refine z_ofW h9 (by decide) (Nat.le_of_ble_eq_true rfl) ?_
  intro p e s m args below meth c ls hC hr _ hw hl
  have hx := hC.1
  have hb := hC.2.1
  have hl : lv_has ls 3 [(0, .int a0), (1, .int a1)] := hl
  unfold f_X6_joinedWord at hf
  refine lv_iconst (v := 1) hx hb dX6_joinedWord_0 (by decide) ?_
  refine lv_iload_n hx hb dX6_joinedWord_1 rfl (lv_at hl 1 rfl) ?_
  obtain ⟨r2, σ1, hk, hf⟩ := bnd_inv hf
  refine z_callS (As := [.int a1]) (rest := [.int 1]) (m_X6_lengthOf hC.2.2.2.2.2.2.2.2 hk) hC hw wd_X6_lengthOf lkM_X6_275 rfl ⟨rfl, rfl⟩ ⟨(Nat.le_of_ble_eq_true rfl), (Nat.le_of_ble_eq_true rfl)⟩ hl.1 rfl (Nat.le_of_ble_eq_true rfl) dX6_joinedWord_2 ⟨(Nat.le_of_ble_eq_true rfl), (Nat.le_of_ble_eq_true rfl)⟩ (fun H locs hw => ?_)
  refine lv_ishl hx hb dX6_joinedWord_5 ?_
  refine lv_istore_n (lv' := [(2, .int ((1 : Int32) <<< (r2 &&& 31))), (0, .int a0), (1, .int a1)]) hx hb dX6_joinedWord_6 rfl hl (Nat.le_of_ble_eq_true rfl) rfl (fun ls hl => ?_)
  refine lv_iload_n hx hb dX6_joinedWord_7 rfl (lv_at hl 1 rfl) ?_
  refine lv_iconst (v := 1) hx hb dX6_joinedWord_8 (by decide) ?_
  refine lv_iadd hx hb dX6_joinedWord_9 ?_
  refine lv_iload_n hx hb dX6_joinedWord_10 rfl (lv_at hl 0 rfl) ?_
  refine lv_imul hx hb dX6_joinedWord_11 ?_
  refine lv_iload_n hx hb dX6_joinedWord_12 rfl (lv_at hl 2 rfl) ?_
  refine lv_iconst (v := 1) hx hb dX6_joinedWord_13 (by decide) ?_
  refine lv_iadd hx hb dX6_joinedWord_14 ?_
  refine lv_iload_n hx hb dX6_joinedWord_15 rfl (lv_at hl 0 rfl) ?_
  refine lv_isub hx hb dX6_joinedWord_16 ?_
  refine lv_iadd hx hb dX6_joinedWord_17 ?_
  refine lv_iconst (v := 1) hx hb dX6_joinedWord_18 (by decide) ?_
  refine lv_isub hx hb dX6_joinedWord_19 ?_
  first | (obtain ⟨rfl, rfl⟩ := sp_inv hf) | (obtain rfl := Option.some.inj hf)
  exact W.iret hx hb hr (z_ret hw rfl) hw.2.2.2.2.2 dX6_joinedWord_20 hC.2.2.2.2.2.1
set_option maxHeartbeats 4000000 in
set_option maxRecDepth 100000 in
theorem t_X6_hankelRank_B34 (hC : zC p l s m args meth c cX6_hankelRank 5 RX6 D cA B0) (hr : meth.sig.returnType = (Option.some FieldType.int)) (htab : ∀ x ∈ c.exceptionTable.toList, False) {Γ : zSh} {x0 : Nat} {x1 : Int32} {x2 : Int32} {x3 : Int32} {x4 : Int32} {σ : zSt} {out : ((Int32 × zSt) ⊕ (zSt))} (hf : f_X6_hankelRank_B34 Γ x0 x1 x2 x3 x4 σ = some out) {H : Heap} {locs : List Loc} {ls : Array Slot} (hw : zO D cA B0 Γ σ (ZB B0) s.heap H locs) (hl : lv_has ls 5 [(0, .ref x0), (1, .int x1), (2, .int x2), (3, .int x3), (4, .int x4)])
    (kI : ∀ (z4 : Int32) (σ2 : zSt), out = .inl (z4, σ2) → ∀ (H : Heap) (locs : List Loc) (ls : Array Slot), zO D cA B0 Γ σ2 (ZB B0) s.heap H locs → lv_has ls 5 [(0, .ref x0), (1, .int x1), (2, .int x2), (3, .int x3), (4, .int z4)] → W p l e rm_X6_hankelRank s m args below meth c H locs 2 12 Q (F0 m 34 ls []))
    (kE : ∀ (σ2 : zSt), out = .inr σ2 → ∀ (H : Heap) (locs : List Loc) (ls : Array Slot), zO D cA B0 Γ σ2 (ZB B0) s.heap H locs → lv_has ls 5 [(0, .ref x0), (1, .int x1), (2, .int x2), (3, .int x3)] → W p l e rm_X6_hankelRank s m args below meth c H locs 2 12 Q (F0 m 77 ls [])) :
    W p l e rm_X6_hankelRank s m args below meth c H locs 2 12 Q (F0 m 34 ls []) := by
  have hx := hC.1
  have hb := hC.2.1
  unfold f_X6_hankelRank_B34 at hf
  refine lv_iload hx hb dX6_hankelRank_34 (lv_at hl 4 rfl) ?_
  refine lv_iload_n hx hb dX6_hankelRank_36 rfl (lv_at hl 2 rfl) ?_
  refine lv_icmp_ge (tgt := 77) hx hb dX6_hankelRank_37 (by decide) (fun hc => ?_) (fun hc => ?_)
  · rw [if_pos hc] at hf
    exact kE  σ (Option.some.inj hf).symm _ _ _ hw (lv_sub hl [0, 1, 2, 3] rfl)
  · rw [if_neg hc] at hf
    refine lv_aload_n hx hb dX6_hankelRank_40 rfl (lv_at hl 0 rfl) ?_
    obtain ⟨v7, hg, hf⟩ := gfR_inv hf
    refine r_gfR hC hw hg clX6 (Nat.le_of_ble_eq_true rfl) lkF_X6_64 rfl dX6_hankelRank_41 ?_
    obtain ⟨v8, hg, hf⟩ := gfR_inv hf
    refine r_gfR hC hw hg clX3 (Nat.le_of_ble_eq_true rfl) lkF_X6_215 rfl dX6_hankelRank_44 ?_
    refine lv_iload_n hx hb dX6_hankelRank_47 rfl (lv_at hl 3 rfl) ?_
    obtain ⟨v9, hg, hf⟩ := ldG_inv hf
    refine r_ldG hC hw hg dX6_hankelRank_48 ?_
    refine lv_iload hx hb dX6_hankelRank_49 (lv_at hl 4 rfl) ?_
    refine lv_aload_n hx hb dX6_hankelRank_51 rfl (lv_at hl 0 rfl) ?_
    obtain ⟨v10, hg, hf⟩ := gfR_inv hf
    refine r_gfR hC hw hg clX6 (Nat.le_of_ble_eq_true rfl) lkF_X6_50 rfl dX6_hankelRank_52 ?_
    refine lv_aload_n hx hb dX6_hankelRank_55 rfl (lv_at hl 0 rfl) ?_
    obtain ⟨v11, hg, hf⟩ := gfR_inv hf
    refine r_gfR hC hw hg clX6 (Nat.le_of_ble_eq_true rfl) lkF_X6_13 rfl dX6_hankelRank_56 ?_
    refine lv_iload_n hx hb dX6_hankelRank_59 rfl (lv_at hl 1 rfl) ?_
    obtain ⟨v12, hg, hf⟩ := ldA_inv hf
    refine r_ldA hC hw hg dX6_hankelRank_60 ?_
    refine lv_iload_n hx hb dX6_hankelRank_61 rfl (lv_at hl 3 rfl) ?_
    refine lv_iload hx hb dX6_hankelRank_62 (lv_at hl 4 rfl) ?_
    obtain ⟨r14, σ13, hk, hf⟩ := bnd_inv hf
    refine z_callS (As := [.int x3, .int x4]) (rest := [.ref v12, .ref v10, .int x4, .ref v9]) (m_X6_joinedWord hC.2.2.2.2.2.2.2.2 hk) hC hw wd_X6_joinedWord lkM_X6_218 rfl ⟨rfl, rfl⟩ ⟨(Nat.le_of_ble_eq_true rfl), (Nat.le_of_ble_eq_true rfl)⟩ hl.1 rfl (Nat.le_of_ble_eq_true rfl) dX6_hankelRank_64 ⟨(Nat.le_of_ble_eq_true rfl), (Nat.le_of_ble_eq_true rfl)⟩ (fun H locs hw => ?_)
    obtain ⟨ho, hf⟩ := chk_inv hf
    obtain ⟨r16, σ15, hk, hf⟩ := bnd_inv hf
    refine z_callV (As := [.ref v12, .int r14]) (rest := [.int x4, .ref v9]) (m_X4_weigh hC.2.2.2.2.2.2.2.2 hk) hC hw wd_X4_weigh lkM_X6_135 (isO_sh ho) rfl rfl ⟨rfl, rfl⟩ ⟨(Nat.le_of_ble_eq_true rfl), (Nat.le_of_ble_eq_true rfl)⟩ hl.1 rfl (Nat.le_of_ble_eq_true rfl) dX6_hankelRank_67 ⟨(Nat.le_of_ble_eq_true rfl), (Nat.le_of_ble_eq_true rfl)⟩ (fun H locs hw => ?_)
    obtain ⟨σ17, hg, hf⟩ := stI_inv hf
    refine r_stI hC hw hg dX6_hankelRank_70 (fun H locs hw => ?_)
    refine lv_iinc (v := (x4 + 1)) (lv' := [(4, .int (x4 + 1)), (0, .ref x0), (1, .int x1), (2, .int x2), (3, .int x3)]) hx hb dX6_hankelRank_71 hl (k := 4) rfl rfl (Nat.le_of_ble_eq_true rfl) rfl (fun ls hl => ?_)
    refine lv_goto (tgt := 34) hx hb dX6_hankelRank_74 (by decide) ?_
    exact kI (x4 + 1) σ17 (Option.some.inj hf).symm _ _ _ hw (lv_sub hl [1, 2, 3, 4, 0] rfl)
set_option maxHeartbeats 4000000 in
theorem l_X6_hankelRank_B34 (hC : zC p l s m args meth c cX6_hankelRank 5 RX6 D cA B0) (hr : meth.sig.returnType = (Option.some FieldType.int)) (htab : ∀ x ∈ c.exceptionTable.toList, False) {Γ : zSh} {x0 : Nat} {x1 : Int32} {x2 : Int32} {x3 : Int32} {σ2 : zSt} (kE : ∀ (H : Heap) (locs : List Loc) (ls : Array Slot), zO D cA B0 Γ σ2 (ZB B0) s.heap H locs → lv_has ls 5 [(0, .ref x0), (1, .int x1), (2, .int x2), (3, .int x3)] → W p l e rm_X6_hankelRank s m args below meth c H locs 2 12 Q (F0 m 77 ls [])) :
    ∀ (n : Nat) (x4 : Int32) (σ : zSt), loopM (fun q => f_X6_hankelRank_B34 Γ x0 x1 x2 x3 q.1 q.2) n (x4, σ) = some σ2 → ∀ (H : Heap) (locs : List Loc) (ls : Array Slot), zO D cA B0 Γ σ (ZB B0) s.heap H locs → lv_has ls 5 [(0, .ref x0), (1, .int x1), (2, .int x2), (3, .int x3), (4, .int x4)] → W p l e rm_X6_hankelRank s m args below meth c H locs 2 12 Q (F0 m 34 ls []) := by
  intro n
  induction n with
  | zero => intro x4 σ h; exact absurd h (by simp [loopM])
  | succ n ih =>
    intro x4 σ h H locs ls hw hl
    obtain ⟨r, h1, h2, h3⟩ := loopM_inv h
    exact t_X6_hankelRank_B34 hC hr htab h1 hw hl (fun z4 s2 e H locs ls hw hl => ih z4 s2 (h2 _ e) H locs ls hw hl) (fun s2 e H locs ls hw hl => by cases h3 _ e; exact kE H locs ls hw hl)
set_option maxHeartbeats 4000000 in
set_option maxRecDepth 100000 in
theorem t_X6_hankelRank_B26 (hC : zC p l s m args meth c cX6_hankelRank 5 RX6 D cA B0) (hr : meth.sig.returnType = (Option.some FieldType.int)) (htab : ∀ x ∈ c.exceptionTable.toList, False) {Γ : zSh} {x0 : Nat} {x1 : Int32} {x2 : Int32} {x3 : Int32} {σ : zSt} {out : ((Int32 × zSt) ⊕ (zSt))} (hf : f_X6_hankelRank_B26 Γ x0 x1 x2 x3 σ = some out) {H : Heap} {locs : List Loc} {ls : Array Slot} (hw : zO D cA B0 Γ σ (ZB B0) s.heap H locs) (hl : lv_has ls 5 [(0, .ref x0), (1, .int x1), (2, .int x2), (3, .int x3)])
    (kI : ∀ (z3 : Int32) (σ2 : zSt), out = .inl (z3, σ2) → ∀ (H : Heap) (locs : List Loc) (ls : Array Slot), zO D cA B0 Γ σ2 (ZB B0) s.heap H locs → lv_has ls 5 [(0, .ref x0), (1, .int x1), (2, .int x2), (3, .int z3)] → W p l e rm_X6_hankelRank s m args below meth c H locs 2 12 Q (F0 m 26 ls []))
    (kE : ∀ (σ2 : zSt), out = .inr σ2 → ∀ (H : Heap) (locs : List Loc) (ls : Array Slot), zO D cA B0 Γ σ2 (ZB B0) s.heap H locs → lv_has ls 5 [(0, .ref x0), (2, .int x2)] → W p l e rm_X6_hankelRank s m args below meth c H locs 2 12 Q (F0 m 83 ls [])) :
    W p l e rm_X6_hankelRank s m args below meth c H locs 2 12 Q (F0 m 26 ls []) := by
  have hx := hC.1
  have hb := hC.2.1
  unfold f_X6_hankelRank_B26 at hf
  refine lv_iload_n hx hb dX6_hankelRank_26 rfl (lv_at hl 3 rfl) ?_
  refine lv_iload_n hx hb dX6_hankelRank_27 rfl (lv_at hl 2 rfl) ?_
  refine lv_icmp_ge (tgt := 83) hx hb dX6_hankelRank_28 (by decide) (fun hc => ?_) (fun hc => ?_)
  · rw [if_pos hc] at hf
    exact kE  σ (Option.some.inj hf).symm _ _ _ hw (lv_sub hl [0, 2] rfl)
  · rw [if_neg hc] at hf
    refine lv_iconst (v := 0) hx hb dX6_hankelRank_31 (by decide) ?_
    refine lv_istore (lv' := [(4, .int 0), (0, .ref x0), (1, .int x1), (2, .int x2), (3, .int x3)]) hx hb dX6_hankelRank_32 hl (Nat.le_of_ble_eq_true rfl) rfl (fun ls hl => ?_)
    obtain ⟨σ18, hk, hf⟩ := lb0_inv hf
    refine l_X6_hankelRank_B34 hC hr htab (fun H locs ls hw hl => ?_) FUEL 0 σ hk _ _ _ hw (lv_sub hl [1, 2, 3, 4, 0] rfl)
    refine lv_iinc (v := (x3 + 1)) (lv' := [(3, .int (x3 + 1)), (0, .ref x0), (1, .int x1), (2, .int x2)]) hx hb dX6_hankelRank_77 hl (k := 3) rfl rfl (Nat.le_of_ble_eq_true rfl) rfl (fun ls hl => ?_)
    refine lv_goto (tgt := 26) hx hb dX6_hankelRank_80 (by decide) ?_
    exact kI (x3 + 1) σ18 (Option.some.inj hf).symm _ _ _ hw (lv_sub hl [1, 2, 3, 0] rfl)
set_option maxHeartbeats 4000000 in
theorem l_X6_hankelRank_B26 (hC : zC p l s m args meth c cX6_hankelRank 5 RX6 D cA B0) (hr : meth.sig.returnType = (Option.some FieldType.int)) (htab : ∀ x ∈ c.exceptionTable.toList, False) {Γ : zSh} {x0 : Nat} {x1 : Int32} {x2 : Int32} {σ2 : zSt} (kE : ∀ (H : Heap) (locs : List Loc) (ls : Array Slot), zO D cA B0 Γ σ2 (ZB B0) s.heap H locs → lv_has ls 5 [(0, .ref x0), (2, .int x2)] → W p l e rm_X6_hankelRank s m args below meth c H locs 2 12 Q (F0 m 83 ls [])) :
    ∀ (n : Nat) (x3 : Int32) (σ : zSt), loopM (fun q => f_X6_hankelRank_B26 Γ x0 x1 x2 q.1 q.2) n (x3, σ) = some σ2 → ∀ (H : Heap) (locs : List Loc) (ls : Array Slot), zO D cA B0 Γ σ (ZB B0) s.heap H locs → lv_has ls 5 [(0, .ref x0), (1, .int x1), (2, .int x2), (3, .int x3)] → W p l e rm_X6_hankelRank s m args below meth c H locs 2 12 Q (F0 m 26 ls []) := by
  intro n
  induction n with
  | zero => intro x3 σ h; exact absurd h (by simp [loopM])
  | succ n ih =>
    intro x3 σ h H locs ls hw hl
    obtain ⟨r, h1, h2, h3⟩ := loopM_inv h
    exact t_X6_hankelRank_B26 hC hr htab h1 hw hl (fun z3 s2 e H locs ls hw hl => ih z3 s2 (h2 _ e) H locs ls hw hl) (fun s2 e H locs ls hw hl => by cases h3 _ e; exact kE H locs ls hw hl)
set_option maxHeartbeats 4000000 in
set_option maxRecDepth 100000 in
theorem m_X6_hankelRank (h9 : l.stackTraces = false) {Γ : zSh} {a0 : Nat} {a1 : Int32} {a2 : Int32} {σ : zSt} {out : ((Int32 × zSt) ⊕ (Nat × zSt))} (hf : f_X6_hankelRank Γ a0 a1 a2 σ = some out) : vx_Met l yX6_hankelRank (wq yX6_hankelRank cX6_hankelRank 5 (Option.some FieldType.int)) rm_X6_hankelRank (zQ0 D cA B0 [.ref a0, .int a1, .int a2] Γ σ (ZB B0)) (zQx D cA B0 (fun r : Int32 => some (.int r)) Γ out (ZB B0)) (zXx D cA B0 Γ out (ZB B0)) 2 12 (FR B0) := by
  refine z_ofX h9 (by decide) (Nat.le_of_ble_eq_true rfl) ?_
  intro p e s m args below meth c ls hC hr htab hw hl
  have hx := hC.1
  have hb := hC.2.1
  have hl : lv_has ls 5 [(0, .ref a0), (1, .int a1), (2, .int a2)] := hl
  unfold f_X6_hankelRank at hf
  refine lv_iload_n hx hb dX6_hankelRank_0 rfl (lv_at hl 1 rfl) ?_
  obtain ⟨q, hk, hn, hxx⟩ := xbnd_inv hf
  refine z_xcallS (As := [.int a1]) (rest := []) (m_X6_checkSlot hC.2.2.2.2.2.2.2.2 hk) hC hw wd_X6_checkSlot lkM_X6_78 rfl ⟨rfl, rfl⟩ ⟨(Nat.le_of_ble_eq_true rfl), (Nat.le_of_ble_eq_true rfl)⟩ hl.1 rfl (Nat.le_of_ble_eq_true rfl) dX6_hankelRank_1 ⟨(Nat.le_of_ble_eq_true rfl), (Nat.le_of_ble_eq_true rfl)⟩ (fun u9 σ1 eq H locs hw => ?_) (fun k9 s9 eq H locs q9 ce9 hw e1 e2 e3 => z_xout hC hw (hxx _ _ eq) htab e1 e2 e3 (Nat.le_of_ble_eq_true rfl) (Nat.le_of_ble_eq_true rfl))
  have hf := hn _ _ eq
  refine lv_iload_n hx hb dX6_hankelRank_4 rfl (lv_at hl 2 rfl) ?_
  refine lv_iconst (v := 0) hx hb dX6_hankelRank_5 (by decide) ?_
  refine lv_bipush (v := 31) hx hb dX6_hankelRank_6 (by decide) ?_
  obtain ⟨q, hk, hn, hxx⟩ := xbnd_inv hf
  refine z_xcallS (As := [.int a2, .int 0, .int 31]) (rest := []) (m_X6_checkRange hC.2.2.2.2.2.2.2.2 hk) hC hw wd_X6_checkRange lkM_X6_81 rfl ⟨rfl, rfl⟩ ⟨(Nat.le_of_ble_eq_true rfl), (Nat.le_of_ble_eq_true rfl)⟩ hl.1 rfl (Nat.le_of_ble_eq_true rfl) dX6_hankelRank_8 ⟨(Nat.le_of_ble_eq_true rfl), (Nat.le_of_ble_eq_true rfl)⟩ (fun u9 σ2 eq H locs hw => ?_) (fun k9 s9 eq H locs q9 ce9 hw e1 e2 e3 => z_xout hC hw (hxx _ _ eq) htab e1 e2 e3 (Nat.le_of_ble_eq_true rfl) (Nat.le_of_ble_eq_true rfl))
  have hf := hn _ _ eq
  refine lv_aload_n hx hb dX6_hankelRank_11 rfl (lv_at hl 0 rfl) ?_
  obtain ⟨v3, hg, hf⟩ := gfR_inv hf
  refine r_gfR hC hw hg clX6 (Nat.le_of_ble_eq_true rfl) lkF_X6_50 rfl dX6_hankelRank_12 ?_
  refine lv_aload_n hx hb dX6_hankelRank_15 rfl (lv_at hl 0 rfl) ?_
  obtain ⟨v4, hg, hf⟩ := gfR_inv hf
  refine r_gfR hC hw hg clX6 (Nat.le_of_ble_eq_true rfl) lkF_X6_13 rfl dX6_hankelRank_16 ?_
  refine lv_iload_n hx hb dX6_hankelRank_19 rfl (lv_at hl 1 rfl) ?_
  obtain ⟨v5, hg, hf⟩ := ldA_inv hf
  refine r_ldA hC hw hg dX6_hankelRank_20 ?_
  obtain ⟨ho, hf⟩ := chk_inv hf
  obtain ⟨_, σ6, hk, hf⟩ := bnd_inv hf
  refine z_callV (As := [.ref v5]) (rest := []) (m_X4_start hC.2.2.2.2.2.2.2.2 hk) hC hw wd_X4_start lkM_X6_134 (isO_sh ho) rfl rfl ⟨rfl, rfl⟩ ⟨(Nat.le_of_ble_eq_true rfl), (Nat.le_of_ble_eq_true rfl)⟩ hl.1 rfl (Nat.le_of_ble_eq_true rfl) dX6_hankelRank_21 ⟨(Nat.le_of_ble_eq_true rfl), (Nat.le_of_ble_eq_true rfl)⟩ (fun H locs hw => ?_)
  refine lv_iconst (v := 0) hx hb dX6_hankelRank_24 (by decide) ?_
  refine lv_istore_n (lv' := [(3, .int 0), (0, .ref a0), (1, .int a1), (2, .int a2)]) hx hb dX6_hankelRank_25 rfl hl (Nat.le_of_ble_eq_true rfl) rfl (fun ls hl => ?_)
  obtain ⟨σ19, hk, hf⟩ := lb0_inv hf
  refine l_X6_hankelRank_B26 hC hr htab (fun H locs ls hw hl => ?_) FUEL 0 σ6 hk _ _ _ hw (lv_sub hl [1, 2, 3, 0] rfl)
  refine lv_aload_n hx hb dX6_hankelRank_83 rfl (lv_at hl 0 rfl) ?_
  obtain ⟨v20, hg, hf⟩ := gfR_inv hf
  refine r_gfR hC hw hg clX6 (Nat.le_of_ble_eq_true rfl) lkF_X6_64 rfl dX6_hankelRank_84 ?_
  refine lv_iload_n hx hb dX6_hankelRank_87 rfl (lv_at hl 1 rfl) ?_
  refine lv_iload_n hx hb dX6_hankelRank_88 rfl (lv_at hl 1 rfl) ?_
  obtain ⟨ho, hf⟩ := chk_inv hf
  obtain ⟨r22, σ21, hk, hf⟩ := bnd_inv hf
  refine z_callV (As := [.int a2, .int a2]) (rest := []) (m_X3_rank hC.2.2.2.2.2.2.2.2 hk) hC hw wd_X3_rank lkM_X6_221 (isO_sh ho) rfl rfl ⟨rfl, rfl⟩ ⟨(Nat.le_of_ble_eq_true rfl), (Nat.le_of_ble_eq_true rfl)⟩ hl.1 rfl (Nat.le_of_ble_eq_true rfl) dX6_hankelRank_89 ⟨(Nat.le_of_ble_eq_true rfl), (Nat.le_of_ble_eq_true rfl)⟩ (fun H locs hw => ?_)
  refine vx_ret ?_
  refine W.widen (k := 2) (n := 12) (Nat.le_of_ble_eq_true rfl) (Nat.le_of_ble_eq_true rfl) ?_
  exact W.iret hx hb hr (z_retx hw (Option.some.inj hf).symm rfl) hw.2.2.2.2.2 dX6_hankelRank_92 hC.2.2.2.2.2.1
set_option maxHeartbeats 4000000 in
set_option maxRecDepth 100000 in
theorem t_X6_collectTotals_B15 (hC : zC p l s m args meth c cX6_collectTotals 4 RX6 D cA B0) (hr : meth.sig.returnType = (Option.none : Option Jvm.ClassFile.FieldType)) {Γ : zSh} {x0 : Nat} {x1 : Int32} {x2 : Int32} {x3 : Int32} {σ : zSt} {out : ((Int32 × zSt) ⊕ (zSt))} (hf : f_X6_collectTotals_B15 Γ x0 x1 x2 x3 σ = some out) {H : Heap} {locs : List Loc} {ls : Array Slot} (hw : zO D cA B0 Γ σ Z s.heap H locs) (hl : lv_has ls 4 [(0, .ref x0), (1, .int x1), (2, .int x2), (3, .int x3)])
    (kI : ∀ (z3 : Int32) (σ2 : zSt), out = .inl (z3, σ2) → ∀ (H : Heap) (locs : List Loc) (ls : Array Slot), zO D cA B0 Γ σ2 Z s.heap H locs → lv_has ls 4 [(0, .ref x0), (1, .int x1), (2, .int x2), (3, .int z3)] → W p l e rm_X6_collectTotals s m args below meth c H locs 0 0 Q (F0 m 15 ls []))
    (kE : ∀ (σ2 : zSt), out = .inr σ2 → ∀ (H : Heap) (locs : List Loc) (ls : Array Slot), zO D cA B0 Γ σ2 Z s.heap H locs → lv_has ls 4 [] → W p l e rm_X6_collectTotals s m args below meth c H locs 0 0 Q (F0 m 58 ls [])) :
    W p l e rm_X6_collectTotals s m args below meth c H locs 0 0 Q (F0 m 15 ls []) := by
  have hx := hC.1
  have hb := hC.2.1
  unfold f_X6_collectTotals_B15 at hf
  refine lv_iload_n hx hb dX6_collectTotals_15 rfl (lv_at hl 3 rfl) ?_
  refine lv_iload_n hx hb dX6_collectTotals_16 rfl (lv_at hl 2 rfl) ?_
  refine lv_icmp_ge (tgt := 58) hx hb dX6_collectTotals_17 (by decide) (fun hc => ?_) (fun hc => ?_)
  · rw [if_pos hc] at hf
    exact kE  σ (Option.some.inj hf).symm _ _ _ hw (lv_sub hl [] rfl)
  · rw [if_neg hc] at hf
    refine lv_aload_n hx hb dX6_collectTotals_20 rfl (lv_at hl 0 rfl) ?_
    obtain ⟨v5, hg, hf⟩ := gfR_inv hf
    refine r_gfR hC hw hg clX6 (Nat.le_of_ble_eq_true rfl) lkF_X6_68 rfl dX6_collectTotals_21 ?_
    refine lv_iload_n hx hb dX6_collectTotals_24 rfl (lv_at hl 3 rfl) ?_
    refine lv_aload_n hx hb dX6_collectTotals_25 rfl (lv_at hl 0 rfl) ?_
    obtain ⟨v6, hg, hf⟩ := gfR_inv hf
    refine r_gfR hC hw hg clX6 (Nat.le_of_ble_eq_true rfl) lkF_X6_43 rfl dX6_collectTotals_26 ?_
    refine lv_aload_n hx hb dX6_collectTotals_29 rfl (lv_at hl 0 rfl) ?_
    obtain ⟨v7, hg, hf⟩ := gfR_inv hf
    refine r_gfR hC hw hg clX6 (Nat.le_of_ble_eq_true rfl) lkF_X6_13 rfl dX6_collectTotals_30 ?_
    refine lv_iload_n hx hb dX6_collectTotals_33 rfl (lv_at hl 1 rfl) ?_
    obtain ⟨v8, hg, hf⟩ := ldA_inv hf
    refine r_ldA hC hw hg dX6_collectTotals_34 ?_
    obtain ⟨ho, hf⟩ := chk_inv hf
    obtain ⟨r10, σ9, hk, hf⟩ := bnd_inv hf
    refine z_callV (As := [.ref v8]) (rest := [.int x3, .ref v5]) (m_X5_value hC.2.2.2.2.2.2.2.2 hk) hC hw wd_X5_value lkM_X6_127 (isO_sh ho) rfl rfl ⟨rfl, rfl⟩ ⟨(Nat.le_of_ble_eq_true rfl), (Nat.le_of_ble_eq_true rfl)⟩ hl.1 rfl (Nat.le_of_ble_eq_true rfl) dX6_collectTotals_35 ⟨(Nat.le_of_ble_eq_true rfl), (Nat.le_of_ble_eq_true rfl)⟩ (fun H locs hw => ?_)
    obtain ⟨σ11, hg, hf⟩ := stI_inv hf
    refine r_stI hC hw hg dX6_collectTotals_38 (fun H locs hw => ?_)
    refine lv_aload_n hx hb dX6_collectTotals_39 rfl (lv_at hl 0 rfl) ?_
    obtain ⟨v12, hg, hf⟩ := gfR_inv hf
    refine r_gfR hC hw hg clX6 (Nat.le_of_ble_eq_true rfl) lkF_X6_43 rfl dX6_collectTotals_40 ?_
    refine lv_aload_n hx hb dX6_collectTotals_43 rfl (lv_at hl 0 rfl) ?_
    obtain ⟨v13, hg, hf⟩ := gfR_inv hf
    refine r_gfR hC hw hg clX6 (Nat.le_of_ble_eq_true rfl) lkF_X6_13 rfl dX6_collectTotals_44 ?_
    refine lv_iload_n hx hb dX6_collectTotals_47 rfl (lv_at hl 1 rfl) ?_
    obtain ⟨v14, hg, hf⟩ := ldA_inv hf
    refine r_ldA hC hw hg dX6_collectTotals_48 ?_
    obtain ⟨ho, hf⟩ := chk_inv hf
    obtain ⟨_, σ15, hk, hf⟩ := bnd_inv hf
    refine z_callV (As := [.ref v14]) (rest := []) (m_X5_takeBoth hC.2.2.2.2.2.2.2.2 hk) hC hw wd_X5_takeBoth lkM_X6_131 (isO_sh ho) rfl rfl ⟨rfl, rfl⟩ ⟨(Nat.le_of_ble_eq_true rfl), (Nat.le_of_ble_eq_true rfl)⟩ hl.1 rfl (Nat.le_of_ble_eq_true rfl) dX6_collectTotals_49 ⟨(Nat.le_of_ble_eq_true rfl), (Nat.le_of_ble_eq_true rfl)⟩ (fun H locs hw => ?_)
    refine lv_iinc (v := (x3 + 1)) (lv' := [(3, .int (x3 + 1)), (0, .ref x0), (1, .int x1), (2, .int x2)]) hx hb dX6_collectTotals_52 hl (k := 3) rfl rfl (Nat.le_of_ble_eq_true rfl) rfl (fun ls hl => ?_)
    refine lv_goto (tgt := 15) hx hb dX6_collectTotals_55 (by decide) ?_
    exact kI (x3 + 1) σ15 (Option.some.inj hf).symm _ _ _ hw (lv_sub hl [1, 2, 3, 0] rfl)
set_option maxHeartbeats 4000000 in
theorem l_X6_collectTotals_B15 (hC : zC p l s m args meth c cX6_collectTotals 4 RX6 D cA B0) (hr : meth.sig.returnType = (Option.none : Option Jvm.ClassFile.FieldType)) {Γ : zSh} {x0 : Nat} {x1 : Int32} {x2 : Int32} {σ2 : zSt} (kE : ∀ (H : Heap) (locs : List Loc) (ls : Array Slot), zO D cA B0 Γ σ2 Z s.heap H locs → lv_has ls 4 [] → W p l e rm_X6_collectTotals s m args below meth c H locs 0 0 Q (F0 m 58 ls [])) :
    ∀ (n : Nat) (x3 : Int32) (σ : zSt), loopM (fun q => f_X6_collectTotals_B15 Γ x0 x1 x2 q.1 q.2) n (x3, σ) = some σ2 → ∀ (H : Heap) (locs : List Loc) (ls : Array Slot), zO D cA B0 Γ σ Z s.heap H locs → lv_has ls 4 [(0, .ref x0), (1, .int x1), (2, .int x2), (3, .int x3)] → W p l e rm_X6_collectTotals s m args below meth c H locs 0 0 Q (F0 m 15 ls []) := by
  intro n
  induction n with
  | zero => intro x3 σ h; exact absurd h (by simp [loopM])
  | succ n ih =>
    intro x3 σ h H locs ls hw hl
    obtain ⟨r, h1, h2, h3⟩ := loopM_inv h
    exact t_X6_collectTotals_B15 hC hr h1 hw hl (fun z3 s2 e H locs ls hw hl => ih z3 s2 (h2 _ e) H locs ls hw hl) (fun s2 e H locs ls hw hl => by cases h3 _ e; exact kE H locs ls hw hl)
set_option maxHeartbeats 4000000 in
set_option maxRecDepth 100000 in
theorem m_X6_collectTotals (h9 : l.stackTraces = false) {Γ : zSh} {a0 : Nat} {a1 : Int32} {a2 : Int32} {σ : zSt} {r : Unit} {σ2 : zSt} (hf : f_X6_collectTotals Γ a0 a1 a2 σ = some (r, σ2)) : Met l yX6_collectTotals (wq yX6_collectTotals cX6_collectTotals 4 (Option.none : Option Jvm.ClassFile.FieldType)) rm_X6_collectTotals (zQ0 D cA B0 [.ref a0, .int a1, .int a2] Γ σ Z) (zQ1 D cA B0 (none) Γ σ2 Z) 0 0 (FR B0) := by
  refine z_ofW h9 (by decide) (Nat.le_of_ble_eq_true rfl) ?_
  intro p e s m args below meth c ls hC hr _ hw hl
  have hx := hC.1
  have hb := hC.2.1
  have hl : lv_has ls 4 [(0, .ref a0), (1, .int a1), (2, .int a2)] := hl
  unfold f_X6_collectTotals at hf
  refine lv_aload_n hx hb dX6_collectTotals_0 rfl (lv_at hl 0 rfl) ?_
  obtain ⟨v1, hg, hf⟩ := gfR_inv hf
  refine r_gfR hC hw hg clX6 (Nat.le_of_ble_eq_true rfl) lkF_X6_43 rfl dX6_collectTotals_1 ?_
  refine lv_aload_n hx hb dX6_collectTotals_4 rfl (lv_at hl 0 rfl) ?_
  obtain ⟨v2, hg, hf⟩ := gfR_inv hf
  refine r_gfR hC hw hg clX6 (Nat.le_of_ble_eq_true rfl) lkF_X6_13 rfl dX6_collectTotals_5 ?_
  refine lv_iload_n hx hb dX6_collectTotals_8 rfl (lv_at hl 1 rfl) ?_
  obtain ⟨v3, hg, hf⟩ := ldA_inv hf
  refine r_ldA hC hw hg dX6_collectTotals_9 ?_
  obtain ⟨ho, hf⟩ := chk_inv hf
  obtain ⟨_, σ4, hk, hf⟩ := bnd_inv hf
  refine z_callV (As := [.ref v3]) (rest := []) (m_X5_start hC.2.2.2.2.2.2.2.2 hk) hC hw wd_X5_start lkM_X6_119 (isO_sh ho) rfl rfl ⟨rfl, rfl⟩ ⟨(Nat.le_of_ble_eq_true rfl), (Nat.le_of_ble_eq_true rfl)⟩ hl.1 rfl (Nat.le_of_ble_eq_true rfl) dX6_collectTotals_10 ⟨(Nat.le_of_ble_eq_true rfl), (Nat.le_of_ble_eq_true rfl)⟩ (fun H locs hw => ?_)
  refine lv_iconst (v := 0) hx hb dX6_collectTotals_13 (by decide) ?_
  refine lv_istore_n (lv' := [(3, .int 0), (0, .ref a0), (1, .int a1), (2, .int a2)]) hx hb dX6_collectTotals_14 rfl hl (Nat.le_of_ble_eq_true rfl) rfl (fun ls hl => ?_)
  obtain ⟨σ16, hk, hf⟩ := lb0_inv hf
  refine l_X6_collectTotals_B15 hC hr (fun H locs ls hw hl => ?_) FUEL 0 σ4 hk _ _ _ hw (lv_sub hl [1, 2, 3, 0] rfl)
  first | (obtain ⟨rfl, rfl⟩ := sp_inv hf) | (obtain rfl := Option.some.inj hf)
  exact W.vret hx hb hr (z_ret hw rfl) hw.2.2.2.2.2 dX6_collectTotals_58 hC.2.2.2.2.2.1
set_option maxHeartbeats 4000000 in
set_option maxRecDepth 100000 in
theorem t_X6_fillRecurrences_B10 (hC : zC p l s m args meth c cX6_fillRecurrences 4 RX6 D cA B0) (hr : meth.sig.returnType = (Option.none : Option Jvm.ClassFile.FieldType)) {Γ : zSh} {x0 : Nat} {x1 : Int32} {x2 : Int32} {x3 : Int32} {σ : zSt} {out : ((Int32 × zSt) ⊕ (zSt))} (hf : f_X6_fillRecurrences_B10 Γ x0 x1 x2 x3 σ = some out) {H : Heap} {locs : List Loc} {ls : Array Slot} (hw : zO D cA B0 Γ σ Z s.heap H locs) (hl : lv_has ls 4 [(0, .ref x0), (1, .int x1), (2, .int x2), (3, .int x3)])
    (kI : ∀ (z3 : Int32) (σ2 : zSt), out = .inl (z3, σ2) → ∀ (H : Heap) (locs : List Loc) (ls : Array Slot), zO D cA B0 Γ σ2 Z s.heap H locs → lv_has ls 4 [(0, .ref x0), (1, .int x1), (2, .int x2), (3, .int z3)] → W p l e rm_X6_fillRecurrences s m args below meth c H locs 0 0 Q (F0 m 10 ls []))
    (kE : ∀ (σ2 : zSt), out = .inr σ2 → ∀ (H : Heap) (locs : List Loc) (ls : Array Slot), zO D cA B0 Γ σ2 Z s.heap H locs → lv_has ls 4 [(0, .ref x0), (1, .int x1), (2, .int x2)] → W p l e rm_X6_fillRecurrences s m args below meth c H locs 0 0 Q (F0 m 40 ls [])) :
    W p l e rm_X6_fillRecurrences s m args below meth c H locs 0 0 Q (F0 m 10 ls []) := by
  have hx := hC.1
  have hb := hC.2.1
  unfold f_X6_fillRecurrences_B10 at hf
  refine lv_iload_n hx hb dX6_fillRecurrences_10 rfl (lv_at hl 3 rfl) ?_
  refine lv_iload_n hx hb dX6_fillRecurrences_11 rfl (lv_at hl 1 rfl) ?_
  refine lv_icmp_gt (tgt := 40) hx hb dX6_fillRecurrences_12 (by decide) (fun hc => ?_) (fun hc => ?_)
  · rw [if_pos hc] at hf
    exact kE  σ (Option.some.inj hf).symm _ _ _ hw (lv_sub hl [0, 1, 2] rfl)
  · rw [if_neg hc] at hf
    refine lv_aload_n hx hb dX6_fillRecurrences_15 rfl (lv_at hl 0 rfl) ?_
    obtain ⟨v1, hg, hf⟩ := gfR_inv hf
    refine r_gfR hC hw hg clX6 (Nat.le_of_ble_eq_true rfl) lkF_X6_64 rfl dX6_fillRecurrences_16 ?_
    obtain ⟨v2, hg, hf⟩ := gfR_inv hf
    refine r_gfR hC hw hg clX3 (Nat.le_of_ble_eq_true rfl) lkF_X6_215 rfl dX6_fillRecurrences_19 ?_
    refine lv_iload_n hx hb dX6_fillRecurrences_22 rfl (lv_at hl 2 rfl) ?_
    obtain ⟨v3, hg, hf⟩ := ldG_inv hf
    refine r_ldG hC hw hg dX6_fillRecurrences_23 ?_
    refine lv_iload_n hx hb dX6_fillRecurrences_24 rfl (lv_at hl 3 rfl) ?_
    refine lv_aload_n hx hb dX6_fillRecurrences_25 rfl (lv_at hl 0 rfl) ?_
    obtain ⟨v4, hg, hf⟩ := gfR_inv hf
    refine r_gfR hC hw hg clX6 (Nat.le_of_ble_eq_true rfl) lkF_X6_68 rfl dX6_fillRecurrences_26 ?_
    refine lv_iload_n hx hb dX6_fillRecurrences_29 rfl (lv_at hl 2 rfl) ?_
    refine lv_iload_n hx hb dX6_fillRecurrences_30 rfl (lv_at hl 3 rfl) ?_
    refine lv_iadd hx hb dX6_fillRecurrences_31 ?_
    obtain ⟨v5, hg, hf⟩ := ldI_inv hf
    refine r_ldI hC hw hg dX6_fillRecurrences_32 ?_
    obtain ⟨σ6, hg, hf⟩ := stI_inv hf
    refine r_stI hC hw hg dX6_fillRecurrences_33 (fun H locs hw => ?_)
    refine lv_iinc (v := (x3 + 1)) (lv' := [(3, .int (x3 + 1)), (0, .ref x0), (1, .int x1), (2, .int x2)]) hx hb dX6_fillRecurrences_34 hl (k := 3) rfl rfl (Nat.le_of_ble_eq_true rfl) rfl (fun ls hl => ?_)
    refine lv_goto (tgt := 10) hx hb dX6_fillRecurrences_37 (by decide) ?_
    exact kI (x3 + 1) σ6 (Option.some.inj hf).symm _ _ _ hw (lv_sub hl [1, 2, 3, 0] rfl)
set_option maxHeartbeats 4000000 in
theorem l_X6_fillRecurrences_B10 (hC : zC p l s m args meth c cX6_fillRecurrences 4 RX6 D cA B0) (hr : meth.sig.returnType = (Option.none : Option Jvm.ClassFile.FieldType)) {Γ : zSh} {x0 : Nat} {x1 : Int32} {x2 : Int32} {σ2 : zSt} (kE : ∀ (H : Heap) (locs : List Loc) (ls : Array Slot), zO D cA B0 Γ σ2 Z s.heap H locs → lv_has ls 4 [(0, .ref x0), (1, .int x1), (2, .int x2)] → W p l e rm_X6_fillRecurrences s m args below meth c H locs 0 0 Q (F0 m 40 ls [])) :
    ∀ (n : Nat) (x3 : Int32) (σ : zSt), loopM (fun q => f_X6_fillRecurrences_B10 Γ x0 x1 x2 q.1 q.2) n (x3, σ) = some σ2 → ∀ (H : Heap) (locs : List Loc) (ls : Array Slot), zO D cA B0 Γ σ Z s.heap H locs → lv_has ls 4 [(0, .ref x0), (1, .int x1), (2, .int x2), (3, .int x3)] → W p l e rm_X6_fillRecurrences s m args below meth c H locs 0 0 Q (F0 m 10 ls []) := by
  intro n
  induction n with
  | zero => intro x3 σ h; exact absurd h (by simp [loopM])
  | succ n ih =>
    intro x3 σ h H locs ls hw hl
    obtain ⟨r, h1, h2, h3⟩ := loopM_inv h
    exact t_X6_fillRecurrences_B10 hC hr h1 hw hl (fun z3 s2 e H locs ls hw hl => ih z3 s2 (h2 _ e) H locs ls hw hl) (fun s2 e H locs ls hw hl => by cases h3 _ e; exact kE H locs ls hw hl)
set_option maxHeartbeats 4000000 in
set_option maxRecDepth 100000 in
theorem t_X6_fillRecurrences_B2 (hC : zC p l s m args meth c cX6_fillRecurrences 4 RX6 D cA B0) (hr : meth.sig.returnType = (Option.none : Option Jvm.ClassFile.FieldType)) {Γ : zSh} {x0 : Nat} {x1 : Int32} {x2 : Int32} {σ : zSt} {out : ((Int32 × zSt) ⊕ (zSt))} (hf : f_X6_fillRecurrences_B2 Γ x0 x1 x2 σ = some out) {H : Heap} {locs : List Loc} {ls : Array Slot} (hw : zO D cA B0 Γ σ Z s.heap H locs) (hl : lv_has ls 4 [(0, .ref x0), (1, .int x1), (2, .int x2)])
    (kI : ∀ (z2 : Int32) (σ2 : zSt), out = .inl (z2, σ2) → ∀ (H : Heap) (locs : List Loc) (ls : Array Slot), zO D cA B0 Γ σ2 Z s.heap H locs → lv_has ls 4 [(0, .ref x0), (1, .int x1), (2, .int z2)] → W p l e rm_X6_fillRecurrences s m args below meth c H locs 0 0 Q (F0 m 2 ls []))
    (kE : ∀ (σ2 : zSt), out = .inr σ2 → ∀ (H : Heap) (locs : List Loc) (ls : Array Slot), zO D cA B0 Γ σ2 Z s.heap H locs → lv_has ls 4 [] → W p l e rm_X6_fillRecurrences s m args below meth c H locs 0 0 Q (F0 m 46 ls [])) :
    W p l e rm_X6_fillRecurrences s m args below meth c H locs 0 0 Q (F0 m 2 ls []) := by
  have hx := hC.1
  have hb := hC.2.1
  unfold f_X6_fillRecurrences_B2 at hf
  refine lv_iload_n hx hb dX6_fillRecurrences_2 rfl (lv_at hl 2 rfl) ?_
  refine lv_bipush (v := 31) hx hb dX6_fillRecurrences_3 (by decide) ?_
  refine lv_icmp_ge (tgt := 46) hx hb dX6_fillRecurrences_5 (by decide) (fun hc => ?_) (fun hc => ?_)
  · rw [if_pos hc] at hf
    exact kE  σ (Option.some.inj hf).symm _ _ _ hw (lv_sub hl [] rfl)
  · rw [if_neg hc] at hf
    refine lv_iconst (v := 0) hx hb dX6_fillRecurrences_8 (by decide) ?_
    refine lv_istore_n (lv' := [(3, .int 0), (0, .ref x0), (1, .int x1), (2, .int x2)]) hx hb dX6_fillRecurrences_9 rfl hl (Nat.le_of_ble_eq_true rfl) rfl (fun ls hl => ?_)
    obtain ⟨σ7, hk, hf⟩ := lb0_inv hf
    refine l_X6_fillRecurrences_B10 hC hr (fun H locs ls hw hl => ?_) FUEL 0 σ hk _ _ _ hw (lv_sub hl [1, 2, 3, 0] rfl)
    refine lv_iinc (v := (x2 + 1)) (lv' := [(2, .int (x2 + 1)), (0, .ref x0), (1, .int x1)]) hx hb dX6_fillRecurrences_40 hl (k := 2) rfl rfl (Nat.le_of_ble_eq_true rfl) rfl (fun ls hl => ?_)
    refine lv_goto (tgt := 2) hx hb dX6_fillRecurrences_43 (by decide) ?_
    exact kI (x2 + 1) σ7 (Option.some.inj hf).symm _ _ _ hw (lv_sub hl [1, 2, 0] rfl)
set_option maxHeartbeats 4000000 in
theorem l_X6_fillRecurrences_B2 (hC : zC p l s m args meth c cX6_fillRecurrences 4 RX6 D cA B0) (hr : meth.sig.returnType = (Option.none : Option Jvm.ClassFile.FieldType)) {Γ : zSh} {x0 : Nat} {x1 : Int32} {σ2 : zSt} (kE : ∀ (H : Heap) (locs : List Loc) (ls : Array Slot), zO D cA B0 Γ σ2 Z s.heap H locs → lv_has ls 4 [] → W p l e rm_X6_fillRecurrences s m args below meth c H locs 0 0 Q (F0 m 46 ls [])) :
    ∀ (n : Nat) (x2 : Int32) (σ : zSt), loopM (fun q => f_X6_fillRecurrences_B2 Γ x0 x1 q.1 q.2) n (x2, σ) = some σ2 → ∀ (H : Heap) (locs : List Loc) (ls : Array Slot), zO D cA B0 Γ σ Z s.heap H locs → lv_has ls 4 [(0, .ref x0), (1, .int x1), (2, .int x2)] → W p l e rm_X6_fillRecurrences s m args below meth c H locs 0 0 Q (F0 m 2 ls []) := by
  intro n
  induction n with
  | zero => intro x2 σ h; exact absurd h (by simp [loopM])
  | succ n ih =>
    intro x2 σ h H locs ls hw hl
    obtain ⟨r, h1, h2, h3⟩ := loopM_inv h
    exact t_X6_fillRecurrences_B2 hC hr h1 hw hl (fun z2 s2 e H locs ls hw hl => ih z2 s2 (h2 _ e) H locs ls hw hl) (fun s2 e H locs ls hw hl => by cases h3 _ e; exact kE H locs ls hw hl)
set_option maxHeartbeats 4000000 in
set_option maxRecDepth 100000 in
theorem m_X6_fillRecurrences (h9 : l.stackTraces = false) {Γ : zSh} {a0 : Nat} {a1 : Int32} {σ : zSt} {r : Unit} {σ2 : zSt} (hf : f_X6_fillRecurrences Γ a0 a1 σ = some (r, σ2)) : Met l yX6_fillRecurrences (wq yX6_fillRecurrences cX6_fillRecurrences 4 (Option.none : Option Jvm.ClassFile.FieldType)) rm_X6_fillRecurrences (zQ0 D cA B0 [.ref a0, .int a1] Γ σ Z) (zQ1 D cA B0 (none) Γ σ2 Z) 0 0 (FR B0) := by
  refine z_ofW h9 (by decide) (Nat.le_of_ble_eq_true rfl) ?_
  intro p e s m args below meth c ls hC hr _ hw hl
  have hx := hC.1
  have hb := hC.2.1
  have hl : lv_has ls 4 [(0, .ref a0), (1, .int a1)] := hl
  unfold f_X6_fillRecurrences at hf
  refine lv_iconst (v := 0) hx hb dX6_fillRecurrences_0 (by decide) ?_
  refine lv_istore_n (lv' := [(2, .int 0), (0, .ref a0), (1, .int a1)]) hx hb dX6_fillRecurrences_1 rfl hl (Nat.le_of_ble_eq_true rfl) rfl (fun ls hl => ?_)
  obtain ⟨σ8, hk, hf⟩ := lb0_inv hf
  refine l_X6_fillRecurrences_B2 hC hr (fun H locs ls hw hl => ?_) FUEL 0 σ hk _ _ _ hw (lv_sub hl [1, 2, 0] rfl)
  first | (obtain ⟨rfl, rfl⟩ := sp_inv hf) | (obtain rfl := Option.some.inj hf)
  exact W.vret hx hb hr (z_ret hw rfl) hw.2.2.2.2.2 dX6_fillRecurrences_46 hC.2.2.2.2.2.1
set_option maxHeartbeats 4000000 in
set_option maxRecDepth 100000 in
theorem t_X6_recurs_L62 (hC : zC p l s m args meth c cX6_recurs 4 RX6 D cA B0) (hr : meth.sig.returnType = (Option.some FieldType.boolean)) (htab : ∀ x ∈ c.exceptionTable.toList, False) {Γ : zSh} {s0 : Int32} {σ : zSt} {out : ((Int32 × zSt) ⊕ (Nat × zSt))} (hf : f_X6_recurs_L62 Γ s0 σ = some out) {H : Heap} {locs : List Loc} {ls : Array Slot} (hw : zO D cA B0 Γ σ (ZB B0) s.heap H locs) (hl : lv_has ls 4 []) :
    W p l e rm_X6_recurs s m args below meth c H locs 2 12 (vx_MQ below (zQx D cA B0 (fun r : Int32 => some (.int r)) Γ out (ZB B0)) (zXx D cA B0 Γ out (ZB B0)) args s 2 12 (FR B0)) (F0 m 62 ls [.int s0]) := by
  have hx := hC.1
  have hb := hC.2.1
  unfold f_X6_recurs_L62 at hf
  obtain ⟨hz, hf⟩ := chk_inv hf
  refine vx_ret ?_
  refine W.widen (k := 2) (n := 12) (Nat.le_of_ble_eq_true rfl) (Nat.le_of_ble_eq_true rfl) ?_
  exact W.zret hx hb hr (isB_n hz).1 (z_retx hw (Option.some.inj hf).symm rfl) hw.2.2.2.2.2 dX6_recurs_62 hC.2.2.2.2.2.1
set_option maxHeartbeats 4000000 in
set_option maxRecDepth 100000 in
theorem m_X6_recurs (h9 : l.stackTraces = false) {Γ : zSh} {a0 : Nat} {a1 : Int32} {a2 : Int32} {σ : zSt} {out : ((Int32 × zSt) ⊕ (Nat × zSt))} (hf : f_X6_recurs Γ a0 a1 a2 σ = some out) : vx_Met l yX6_recurs (wq yX6_recurs cX6_recurs 4 (Option.some FieldType.boolean)) rm_X6_recurs (zQ0 D cA B0 [.ref a0, .int a1, .int a2] Γ σ (ZB B0)) (zQx D cA B0 (fun r : Int32 => some (.int r)) Γ out (ZB B0)) (zXx D cA B0 Γ out (ZB B0)) 2 12 (FR B0) := by
  refine z_ofX h9 (by decide) (Nat.le_of_ble_eq_true rfl) ?_
  intro p e s m args below meth c ls hC hr htab hw hl
  have hx := hC.1
  have hb := hC.2.1
  have hl : lv_has ls 4 [(0, .ref a0), (1, .int a1), (2, .int a2)] := hl
  unfold f_X6_recurs at hf
  refine lv_iload_n hx hb dX6_recurs_0 rfl (lv_at hl 1 rfl) ?_
  obtain ⟨q, hk, hn, hxx⟩ := xbnd_inv hf
  refine z_xcallS (As := [.int a1]) (rest := []) (m_X6_checkSlot hC.2.2.2.2.2.2.2.2 hk) hC hw wd_X6_checkSlot lkM_X6_78 rfl ⟨rfl, rfl⟩ ⟨(Nat.le_of_ble_eq_true rfl), (Nat.le_of_ble_eq_true rfl)⟩ hl.1 rfl (Nat.le_of_ble_eq_true rfl) dX6_recurs_1 ⟨(Nat.le_of_ble_eq_true rfl), (Nat.le_of_ble_eq_true rfl)⟩ (fun u9 σ1 eq H locs hw => ?_) (fun k9 s9 eq H locs q9 ce9 hw e1 e2 e3 => z_xout hC hw (hxx _ _ eq) htab e1 e2 e3 (Nat.le_of_ble_eq_true rfl) (Nat.le_of_ble_eq_true rfl))
  have hf := hn _ _ eq
  refine lv_iload_n hx hb dX6_recurs_4 rfl (lv_at hl 2 rfl) ?_
  refine lv_iconst (v := 1) hx hb dX6_recurs_5 (by decide) ?_
  refine lv_bipush (v := 12) hx hb dX6_recurs_6 (by decide) ?_
  obtain ⟨q, hk, hn, hxx⟩ := xbnd_inv hf
  refine z_xcallS (As := [.int a2, .int 1, .int 12]) (rest := []) (m_X6_checkRange hC.2.2.2.2.2.2.2.2 hk) hC hw wd_X6_checkRange lkM_X6_81 rfl ⟨rfl, rfl⟩ ⟨(Nat.le_of_ble_eq_true rfl), (Nat.le_of_ble_eq_true rfl)⟩ hl.1 rfl (Nat.le_of_ble_eq_true rfl) dX6_recurs_8 ⟨(Nat.le_of_ble_eq_true rfl), (Nat.le_of_ble_eq_true rfl)⟩ (fun u9 σ2 eq H locs hw => ?_) (fun k9 s9 eq H locs q9 ce9 hw e1 e2 e3 => z_xout hC hw (hxx _ _ eq) htab e1 e2 e3 (Nat.le_of_ble_eq_true rfl) (Nat.le_of_ble_eq_true rfl))
  have hf := hn _ _ eq
  refine lv_aload_n hx hb dX6_recurs_11 rfl (lv_at hl 0 rfl) ?_
  refine lv_iload_n hx hb dX6_recurs_12 rfl (lv_at hl 1 rfl) ?_
  refine lv_bipush (v := 31) hx hb dX6_recurs_13 (by decide) ?_
  refine lv_iload_n hx hb dX6_recurs_15 rfl (lv_at hl 2 rfl) ?_
  refine lv_iadd hx hb dX6_recurs_16 ?_
  obtain ⟨ho, hf⟩ := chk_inv hf
  obtain ⟨_, σ3, hk, hf⟩ := bnd_inv hf
  refine z_callV (As := [.int a1, .int (31 + a2)]) (rest := []) (m_X6_collectTotals hC.2.2.2.2.2.2.2.2 hk) hC hw wd_X6_collectTotals lkM_X6_224 (isO_sh ho) rfl rfl ⟨rfl, rfl⟩ ⟨(Nat.le_of_ble_eq_true rfl), (Nat.le_of_ble_eq_true rfl)⟩ hl.1 rfl (Nat.le_of_ble_eq_true rfl) dX6_recurs_17 ⟨(Nat.le_of_ble_eq_true rfl), (Nat.le_of_ble_eq_true rfl)⟩ (fun H locs hw => ?_)
  refine lv_aload_n hx hb dX6_recurs_20 rfl (lv_at hl 0 rfl) ?_
  refine lv_iload_n hx hb dX6_recurs_21 rfl (lv_at hl 2 rfl) ?_
  obtain ⟨ho, hf⟩ := chk_inv hf
  obtain ⟨_, σ4, hk, hf⟩ := bnd_inv hf
  refine z_callV (As := [.int a2]) (rest := []) (m_X6_fillRecurrences hC.2.2.2.2.2.2.2.2 hk) hC hw wd_X6_fillRecurrences lkM_X6_227 (isO_sh ho) rfl rfl ⟨rfl, rfl⟩ ⟨(Nat.le_of_ble_eq_true rfl), (Nat.le_of_ble_eq_true rfl)⟩ hl.1 rfl (Nat.le_of_ble_eq_true rfl) dX6_recurs_22 ⟨(Nat.le_of_ble_eq_true rfl), (Nat.le_of_ble_eq_true rfl)⟩ (fun H locs hw => ?_)
  refine lv_aload_n hx hb dX6_recurs_25 rfl (lv_at hl 0 rfl) ?_
  obtain ⟨v5, hg, hf⟩ := gfR_inv hf
  refine r_gfR hC hw hg clX6 (Nat.le_of_ble_eq_true rfl) lkF_X6_64 rfl dX6_recurs_26 ?_
  refine lv_bipush (v := 31) hx hb dX6_recurs_29 (by decide) ?_
  refine lv_iload_n hx hb dX6_recurs_31 rfl (lv_at hl 2 rfl) ?_
  obtain ⟨ho, hf⟩ := chk_inv hf
  obtain ⟨r7, σ6, hk, hf⟩ := bnd_inv hf
  refine z_callV (As := [.int 31, .int a2]) (rest := []) (m_X3_rank hC.2.2.2.2.2.2.2.2 hk) hC hw wd_X3_rank lkM_X6_221 (isO_sh ho) rfl rfl ⟨rfl, rfl⟩ ⟨(Nat.le_of_ble_eq_true rfl), (Nat.le_of_ble_eq_true rfl)⟩ hl.1 rfl (Nat.le_of_ble_eq_true rfl) dX6_recurs_32 ⟨(Nat.le_of_ble_eq_true rfl), (Nat.le_of_ble_eq_true rfl)⟩ (fun H locs hw => ?_)
  refine lv_istore_n (lv' := [(3, .int r7), (0, .ref a0), (1, .int a1), (2, .int a2)]) hx hb dX6_recurs_35 rfl hl (Nat.le_of_ble_eq_true rfl) rfl (fun ls hl => ?_)
  refine lv_aload_n hx hb dX6_recurs_36 rfl (lv_at hl 1 rfl) ?_
  refine lv_iload_n hx hb dX6_recurs_37 rfl (lv_at hl 3 rfl) ?_
  obtain ⟨ho, hf⟩ := chk_inv hf
  obtain ⟨_, σ8, hk, hf⟩ := bnd_inv hf
  refine z_callV (As := [.int a2]) (rest := []) (m_X6_fillRecurrences hC.2.2.2.2.2.2.2.2 hk) hC hw wd_X6_fillRecurrences lkM_X6_227 (isO_sh ho) rfl rfl ⟨rfl, rfl⟩ ⟨(Nat.le_of_ble_eq_true rfl), (Nat.le_of_ble_eq_true rfl)⟩ hl.1 rfl (Nat.le_of_ble_eq_true rfl) dX6_recurs_38 ⟨(Nat.le_of_ble_eq_true rfl), (Nat.le_of_ble_eq_true rfl)⟩ (fun H locs hw => ?_)
  refine lv_aload_n hx hb dX6_recurs_41 rfl (lv_at hl 1 rfl) ?_
  obtain ⟨v9, hg, hf⟩ := gfR_inv hf
  refine r_gfR hC hw hg clX6 (Nat.le_of_ble_eq_true rfl) lkF_X6_64 rfl dX6_recurs_42 ?_
  refine lv_bipush (v := 31) hx hb dX6_recurs_45 (by decide) ?_
  refine lv_iload_n hx hb dX6_recurs_47 rfl (lv_at hl 3 rfl) ?_
  refine lv_iconst (v := 1) hx hb dX6_recurs_48 (by decide) ?_
  refine lv_iadd hx hb dX6_recurs_49 ?_
  obtain ⟨ho, hf⟩ := chk_inv hf
  obtain ⟨r11, σ10, hk, hf⟩ := bnd_inv hf
  refine z_callV (As := [.int 31, .int (a2 + 1)]) (rest := []) (m_X3_rank hC.2.2.2.2.2.2.2.2 hk) hC hw wd_X3_rank lkM_X6_221 (isO_sh ho) rfl rfl ⟨rfl, rfl⟩ ⟨(Nat.le_of_ble_eq_true rfl), (Nat.le_of_ble_eq_true rfl)⟩ hl.1 rfl (Nat.le_of_ble_eq_true rfl) dX6_recurs_50 ⟨(Nat.le_of_ble_eq_true rfl), (Nat.le_of_ble_eq_true rfl)⟩ (fun H locs hw => ?_)
  refine lv_iload_n hx hb dX6_recurs_53 rfl (lv_at hl 0 rfl) ?_
  refine lv_icmp_ne (tgt := 61) hx hb dX6_recurs_54 (by decide) (fun hc => ?_) (fun hc => ?_)
  · rw [if_neg hc] at hf
    refine lv_iconst (v := 0) hx hb dX6_recurs_61 (by decide) ?_
    exact t_X6_recurs_L62 hC hr htab hf hw (lv_sub hl [] rfl)
  · rw [if_pos hc] at hf
    refine lv_iconst (v := 1) hx hb dX6_recurs_57 (by decide) ?_
    refine lv_goto (tgt := 62) hx hb dX6_recurs_58 (by decide) ?_
    exact t_X6_recurs_L62 hC hr htab hf hw (lv_sub hl [] rfl)
set_option maxHeartbeats 4000000 in
set_option maxRecDepth 100000 in
theorem m_X6_inverse (h9 : l.stackTraces = false) {Γ : zSh} {a0 : Nat} {a1 : Int32} {σ : zSt} {out : ((Int32 × zSt) ⊕ (Nat × zSt))} (hf : f_X6_inverse Γ a0 a1 σ = some out) : vx_Met l yX6_inverse (wq yX6_inverse cX6_inverse 2 (Option.some FieldType.int)) rm_X6_inverse (zQ0 D cA B0 [.ref a0, .int a1] Γ σ (ZB B0)) (zQx D cA B0 (fun r : Int32 => some (.int r)) Γ out (ZB B0)) (zXx D cA B0 Γ out (ZB B0)) 1 6 (FR B0) := by
  refine z_ofX h9 (by decide) (Nat.le_of_ble_eq_true rfl) ?_
  intro p e s m args below meth c ls hC hr htab hw hl
  have hx := hC.1
  have hb := hC.2.1
  have hl : lv_has ls 2 [(0, .ref a0), (1, .int a1)] := hl
  unfold f_X6_inverse at hf
  refine lv_iload_n hx hb dX6_inverse_0 rfl (lv_at hl 1 rfl) ?_
  refine lv_iconst (v := 1) hx hb dX6_inverse_1 (by decide) ?_
  refine lv_sipush (v := 10006) hx hb dX6_inverse_2 (by decide) ?_
  obtain ⟨q, hk, hn, hxx⟩ := xbnd_inv hf
  refine z_xcallS (As := [.int a1, .int 1, .int 10006]) (rest := []) (m_X6_checkRange hC.2.2.2.2.2.2.2.2 hk) hC hw wd_X6_checkRange lkM_X6_81 rfl ⟨rfl, rfl⟩ ⟨(Nat.le_of_ble_eq_true rfl), (Nat.le_of_ble_eq_true rfl)⟩ hl.1 rfl (Nat.le_of_ble_eq_true rfl) dX6_inverse_5 ⟨(Nat.le_of_ble_eq_true rfl), (Nat.le_of_ble_eq_true rfl)⟩ (fun u9 σ1 eq H locs hw => ?_) (fun k9 s9 eq H locs q9 ce9 hw e1 e2 e3 => z_xout hC hw (hxx _ _ eq) htab e1 e2 e3 (Nat.le_of_ble_eq_true rfl) (Nat.le_of_ble_eq_true rfl))
  have hf := hn _ _ eq
  refine lv_iload_n hx hb dX6_inverse_8 rfl (lv_at hl 1 rfl) ?_
  obtain ⟨r3, σ2, hk, hf⟩ := bnd_inv hf
  refine z_callS (As := [.int a1]) (rest := []) (m_X6_reciprocal hC.2.2.2.2.2.2.2.2 hk) hC hw wd_X6_reciprocal lkM_X6_230 rfl ⟨rfl, rfl⟩ ⟨(Nat.le_of_ble_eq_true rfl), (Nat.le_of_ble_eq_true rfl)⟩ hl.1 rfl (Nat.le_of_ble_eq_true rfl) dX6_inverse_9 ⟨(Nat.le_of_ble_eq_true rfl), (Nat.le_of_ble_eq_true rfl)⟩ (fun H locs hw => ?_)
  refine vx_ret ?_
  refine W.widen (k := 1) (n := 6) (Nat.le_of_ble_eq_true rfl) (Nat.le_of_ble_eq_true rfl) ?_
  exact W.iret hx hb hr (z_retx hw (Option.some.inj hf).symm rfl) hw.2.2.2.2.2 dX6_inverse_12 hC.2.2.2.2.2.1
set_option maxHeartbeats 4000000 in
set_option maxRecDepth 100000 in
theorem m_X6_append (h9 : l.stackTraces = false) {Γ : zSh} {a0 : Nat} {a1 : Int32} {σ : zSt} {out : ((Int32 × zSt) ⊕ (Nat × zSt))} (hf : f_X6_append Γ a0 a1 σ = some out) : vx_Met l yX6_append (wq yX6_append cX6_append 2 (Option.some FieldType.int)) rm_X6_append (zQ0 D cA B0 [.ref a0, .int a1] Γ σ (ZB B0)) (zQx D cA B0 (fun r : Int32 => some (.int r)) Γ out (ZB B0)) (zXx D cA B0 Γ out (ZB B0)) 2 12 (FR B0) := by
  refine z_ofX h9 (by decide) (Nat.le_of_ble_eq_true rfl) ?_
  intro p e s m args below meth c ls hC hr htab hw hl
  have hx := hC.1
  have hb := hC.2.1
  have hl : lv_has ls 2 [(0, .ref a0), (1, .int a1)] := hl
  unfold f_X6_append at hf
  refine lv_iload_n hx hb dX6_append_0 rfl (lv_at hl 1 rfl) ?_
  refine lv_iconst (v := 0) hx hb dX6_append_1 (by decide) ?_
  refine lv_bipush (v := 127) hx hb dX6_append_2 (by decide) ?_
  obtain ⟨q, hk, hn, hxx⟩ := xbnd_inv hf
  refine z_xcallS (As := [.int a1, .int 0, .int 127]) (rest := []) (m_X6_checkRange hC.2.2.2.2.2.2.2.2 hk) hC hw wd_X6_checkRange lkM_X6_81 rfl ⟨rfl, rfl⟩ ⟨(Nat.le_of_ble_eq_true rfl), (Nat.le_of_ble_eq_true rfl)⟩ hl.1 rfl (Nat.le_of_ble_eq_true rfl) dX6_append_4 ⟨(Nat.le_of_ble_eq_true rfl), (Nat.le_of_ble_eq_true rfl)⟩ (fun u9 σ1 eq H locs hw => ?_) (fun k9 s9 eq H locs q9 ce9 hw e1 e2 e3 => z_xout hC hw (hxx _ _ eq) htab e1 e2 e3 (Nat.le_of_ble_eq_true rfl) (Nat.le_of_ble_eq_true rfl))
  have hf := hn _ _ eq
  refine lv_aload_n hx hb dX6_append_7 rfl (lv_at hl 0 rfl) ?_
  obtain ⟨v2, hg, hf⟩ := gfR_inv hf
  refine r_gfR hC hw hg clX6 (Nat.le_of_ble_eq_true rfl) lkF_X6_74 rfl dX6_append_8 ?_
  obtain ⟨v3, hg, hf⟩ := gfI_inv hf
  refine r_gfI hC hw hg clX2 (Nat.le_of_ble_eq_true rfl) lkF_X6_233 rfl dX6_append_11 ?_
  refine lv_bipush (v := 60) hx hb dX6_append_14 (by decide) ?_
  refine lv_icmp_lt (tgt := 29) hx hb dX6_append_16 (by decide) (fun hc => ?_) (fun hc => ?_)
  · rw [if_pos hc] at hf
    refine lv_aload_n hx hb dX6_append_29 rfl (lv_at hl 0 rfl) ?_
    obtain ⟨v4, hg, hf⟩ := gfR_inv hf
    refine r_gfR hC hw hg clX6 (Nat.le_of_ble_eq_true rfl) lkF_X6_74 rfl dX6_append_30 ?_
    obtain ⟨v5, hg, hf⟩ := gfR_inv hf
    refine r_gfR hC hw hg clX2 (Nat.le_of_ble_eq_true rfl) lkF_X6_238 rfl dX6_append_33 ?_
    refine lv_aload_n hx hb dX6_append_36 rfl (lv_at hl 0 rfl) ?_
    obtain ⟨v6, hg, hf⟩ := gfR_inv hf
    refine r_gfR hC hw hg clX6 (Nat.le_of_ble_eq_true rfl) lkF_X6_74 rfl dX6_append_37 ?_
    obtain ⟨v7, hg, hf⟩ := gfI_inv hf
    refine r_gfI hC hw hg clX2 (Nat.le_of_ble_eq_true rfl) lkF_X6_233 rfl dX6_append_40 ?_
    refine lv_iload_n hx hb dX6_append_43 rfl (lv_at hl 1 rfl) ?_
    obtain ⟨σ8, hg, hf⟩ := stI_inv hf
    refine r_stI hC hw hg dX6_append_44 (fun H locs hw => ?_)
    refine lv_aload_n hx hb dX6_append_45 rfl (lv_at hl 0 rfl) ?_
    obtain ⟨v9, hg, hf⟩ := gfR_inv hf
    refine r_gfR hC hw hg clX6 (Nat.le_of_ble_eq_true rfl) lkF_X6_74 rfl dX6_append_46 ?_
    refine lv_dup hx hb dX6_append_49 rfl ?_
    obtain ⟨v10, hg, hf⟩ := gfI_inv hf
    refine r_gfI hC hw hg clX2 (Nat.le_of_ble_eq_true rfl) lkF_X6_233 rfl dX6_append_50 ?_
    refine lv_iconst (v := 1) hx hb dX6_append_53 (by decide) ?_
    refine lv_iadd hx hb dX6_append_54 ?_
    obtain ⟨σ11, hg, hf⟩ := pfI_inv hf
    refine r_pfI hC hw hg clX2 (Nat.le_of_ble_eq_true rfl) lkF_X6_233 rfl rfl rfl dX6_append_55 (fun H locs hw => ?_)
    refine lv_aload_n hx hb dX6_append_58 rfl (lv_at hl 0 rfl) ?_
    obtain ⟨v12, hg, hf⟩ := gfR_inv hf
    refine r_gfR hC hw hg clX6 (Nat.le_of_ble_eq_true rfl) lkF_X6_74 rfl dX6_append_59 ?_
    obtain ⟨v13, hg, hf⟩ := gfI_inv hf
    refine r_gfI hC hw hg clX2 (Nat.le_of_ble_eq_true rfl) lkF_X6_233 rfl dX6_append_62 ?_
    refine vx_ret ?_
    refine W.widen (k := 2) (n := 12) (Nat.le_of_ble_eq_true rfl) (Nat.le_of_ble_eq_true rfl) ?_
    exact W.iret hx hb hr (z_retx hw (Option.some.inj hf).symm rfl) hw.2.2.2.2.2 dX6_append_65 hC.2.2.2.2.2.1
  · rw [if_neg hc] at hf
    exact z_throwS (k := 2) hC hw zB_up (Option.some.inj hf).symm htab zt_145_149_2 zstr_236 hl.1 dX6_append_19 dX6_append_22 dX6_append_23 dX6_append_25 dX6_append_28 (Nat.le_of_ble_eq_true rfl) (Nat.le_of_ble_eq_true rfl) (Nat.le_of_ble_eq_true rfl) (Nat.le_of_ble_eq_true rfl) (Nat.le_of_ble_eq_true rfl) (Nat.le_of_ble_eq_true rfl)
set_option maxHeartbeats 4000000 in
set_option maxRecDepth 100000 in
theorem m_X6_clearText (h9 : l.stackTraces = false) {Γ : zSh} {a0 : Nat} {σ : zSt} {r : Int32} {σ2 : zSt} (hf : f_X6_clearText Γ a0 σ = some (r, σ2)) : Met l yX6_clearText (wq yX6_clearText cX6_clearText 2 (Option.some FieldType.int)) rm_X6_clearText (zQ0 D cA B0 [.ref a0] Γ σ Z) (zQ1 D cA B0 (some (.int r)) Γ σ2 Z) 0 0 (FR B0) := by
  refine z_ofW h9 (by decide) (Nat.le_of_ble_eq_true rfl) ?_
  intro p e s m args below meth c ls hC hr _ hw hl
  have hx := hC.1
  have hb := hC.2.1
  have hl : lv_has ls 2 [(0, .ref a0)] := hl
  unfold f_X6_clearText at hf
  refine lv_aload_n hx hb dX6_clearText_0 rfl (lv_at hl 0 rfl) ?_
  obtain ⟨v1, hg, hf⟩ := gfR_inv hf
  refine r_gfR hC hw hg clX6 (Nat.le_of_ble_eq_true rfl) lkF_X6_74 rfl dX6_clearText_1 ?_
  obtain ⟨v2, hg, hf⟩ := gfI_inv hf
  refine r_gfI hC hw hg clX2 (Nat.le_of_ble_eq_true rfl) lkF_X6_233 rfl dX6_clearText_4 ?_
  refine lv_istore_n (lv' := [(1, .int v2), (0, .ref a0)]) hx hb dX6_clearText_7 rfl hl (Nat.le_of_ble_eq_true rfl) rfl (fun ls hl => ?_)
  refine lv_aload_n hx hb dX6_clearText_8 rfl (lv_at hl 1 rfl) ?_
  obtain ⟨v3, hg, hf⟩ := gfR_inv hf
  refine r_gfR hC hw hg clX6 (Nat.le_of_ble_eq_true rfl) lkF_X6_74 rfl dX6_clearText_9 ?_
  refine lv_iconst (v := 0) hx hb dX6_clearText_12 (by decide) ?_
  obtain ⟨σ4, hg, hf⟩ := pfI_inv hf
  refine r_pfI hC hw hg clX2 (Nat.le_of_ble_eq_true rfl) lkF_X6_233 rfl rfl rfl dX6_clearText_13 (fun H locs hw => ?_)
  refine lv_iload_n hx hb dX6_clearText_16 rfl (lv_at hl 0 rfl) ?_
  first | (obtain ⟨rfl, rfl⟩ := sp_inv hf) | (obtain rfl := Option.some.inj hf)
  exact W.iret hx hb hr (z_ret hw rfl) hw.2.2.2.2.2 dX6_clearText_17 hC.2.2.2.2.2.1
set_option maxHeartbeats 4000000 in
set_option maxRecDepth 100000 in
theorem m_X6_parse (h9 : l.stackTraces = false) {Γ : zSh} {a0 : Nat} {a1 : Int32} {σ : zSt} {out : ((Int32 × zSt) ⊕ (Nat × zSt))} (hf : f_X6_parse Γ a0 a1 σ = some out) : vx_Met l yX6_parse (wq yX6_parse cX6_parse 3 (Option.some FieldType.int)) rm_X6_parse (zQ0 D cA B0 [.ref a0, .int a1] Γ σ (ZB B0)) (zQx D cA B0 (fun r : Int32 => some (.int r)) Γ out (ZB B0)) (zXx D cA B0 Γ out (ZB B0)) 1 6 (FR B0) := by
  refine z_ofX h9 (by decide) (Nat.le_of_ble_eq_true rfl) ?_
  intro p e s m args below meth c ls hC hr htab hw hl
  have hx := hC.1
  have hb := hC.2.1
  have hl : lv_has ls 3 [(0, .ref a0), (1, .int a1)] := hl
  unfold f_X6_parse at hf
  refine lv_iload_n hx hb dX6_parse_0 rfl (lv_at hl 1 rfl) ?_
  obtain ⟨q, hk, hn, hxx⟩ := xbnd_inv hf
  refine z_xcallS (As := [.int a1]) (rest := []) (m_X6_checkSlot hC.2.2.2.2.2.2.2.2 hk) hC hw wd_X6_checkSlot lkM_X6_78 rfl ⟨rfl, rfl⟩ ⟨(Nat.le_of_ble_eq_true rfl), (Nat.le_of_ble_eq_true rfl)⟩ hl.1 rfl (Nat.le_of_ble_eq_true rfl) dX6_parse_1 ⟨(Nat.le_of_ble_eq_true rfl), (Nat.le_of_ble_eq_true rfl)⟩ (fun u9 σ1 eq H locs hw => ?_) (fun k9 s9 eq H locs q9 ce9 hw e1 e2 e3 => z_xout hC hw (hxx _ _ eq) htab e1 e2 e3 (Nat.le_of_ble_eq_true rfl) (Nat.le_of_ble_eq_true rfl))
  have hf := hn _ _ eq
  refine lv_aload_n hx hb dX6_parse_4 rfl (lv_at hl 0 rfl) ?_
  obtain ⟨v2, hg, hf⟩ := gfR_inv hf
  refine r_gfR hC hw hg clX6 (Nat.le_of_ble_eq_true rfl) lkF_X6_74 rfl dX6_parse_5 ?_
  obtain ⟨ho, hf⟩ := chk_inv hf
  obtain ⟨r4, σ3, hk, hf⟩ := bnd_inv hf
  refine z_callV (As := []) (rest := []) (m_X2_syntaxError hC.2.2.2.2.2.2.2.2 hk) hC hw wd_X2_syntaxError lkM_X6_241 (isO_sh ho) rfl rfl ⟨rfl, rfl⟩ ⟨(Nat.le_of_ble_eq_true rfl), (Nat.le_of_ble_eq_true rfl)⟩ hl.1 rfl (Nat.le_of_ble_eq_true rfl) dX6_parse_8 ⟨(Nat.le_of_ble_eq_true rfl), (Nat.le_of_ble_eq_true rfl)⟩ (fun H locs hw => ?_)
  refine lv_istore_n (lv' := [(2, .int r4), (0, .ref a0), (1, .int a1)]) hx hb dX6_parse_11 rfl hl (Nat.le_of_ble_eq_true rfl) rfl (fun ls hl => ?_)
  refine lv_iload_n hx hb dX6_parse_12 rfl (lv_at hl 0 rfl) ?_
  refine lv_iconst (v := (-1)) hx hb dX6_parse_13 (by decide) ?_
  refine lv_icmp_eq (tgt := 22) hx hb dX6_parse_14 (by decide) (fun hc => ?_) (fun hc => ?_)
  · rw [if_pos hc] at hf
    refine lv_aload_n hx hb dX6_parse_22 rfl (lv_at hl 1 rfl) ?_
    obtain ⟨v5, hg, hf⟩ := gfR_inv hf
    refine r_gfR hC hw hg clX6 (Nat.le_of_ble_eq_true rfl) lkF_X6_74 rfl dX6_parse_23 ?_
    refine lv_aload_n hx hb dX6_parse_26 rfl (lv_at hl 1 rfl) ?_
    obtain ⟨v6, hg, hf⟩ := gfR_inv hf
    refine r_gfR hC hw hg clX6 (Nat.le_of_ble_eq_true rfl) lkF_X6_57 rfl dX6_parse_27 ?_
    obtain ⟨ho, hf⟩ := chk_inv hf
    obtain ⟨r8, σ7, hk, hf⟩ := bnd_inv hf
    refine z_callV (As := [.ref v6]) (rest := []) (m_X2_evaluate hC.2.2.2.2.2.2.2.2 hk) hC hw wd_X2_evaluate lkM_X6_244 (isO_sh ho) rfl rfl ⟨rfl, rfl⟩ ⟨(Nat.le_of_ble_eq_true rfl), (Nat.le_of_ble_eq_true rfl)⟩ hl.1 rfl (Nat.le_of_ble_eq_true rfl) dX6_parse_30 ⟨(Nat.le_of_ble_eq_true rfl), (Nat.le_of_ble_eq_true rfl)⟩ (fun H locs hw => ?_)
    refine lv_if_ne (tgt := 39) hx hb dX6_parse_33 (by decide) (fun hc => ?_) (fun hc => ?_)
    · rw [if_neg hc] at hf
      refine lv_aload_n hx hb dX6_parse_39 rfl (lv_at hl 1 rfl) ?_
      obtain ⟨v9, hg, hf⟩ := gfR_inv hf
      refine r_gfR hC hw hg clX6 (Nat.le_of_ble_eq_true rfl) lkF_X6_33 rfl dX6_parse_40 ?_
      refine lv_aload_n hx hb dX6_parse_43 rfl (lv_at hl 1 rfl) ?_
      obtain ⟨v10, hg, hf⟩ := gfR_inv hf
      refine r_gfR hC hw hg clX6 (Nat.le_of_ble_eq_true rfl) lkF_X6_74 rfl dX6_parse_44 ?_
      obtain ⟨v11, hg, hf⟩ := gfR_inv hf
      refine r_gfR hC hw hg clX2 (Nat.le_of_ble_eq_true rfl) lkF_X6_248 rfl dX6_parse_47 ?_
      refine lv_iconst (v := 0) hx hb dX6_parse_50 (by decide) ?_
      obtain ⟨v12, hg, hf⟩ := ldA_inv hf
      refine r_ldA hC hw hg dX6_parse_51 ?_
      obtain ⟨ho, hf⟩ := chk_inv hf
      obtain ⟨_, σ13, hk, hf⟩ := bnd_inv hf
      refine z_callV (As := [.ref v12]) (rest := []) (m_X0_copyFrom hC.2.2.2.2.2.2.2.2 hk) hC hw wd_X0_copyFrom lkM_X6_172 (isO_sh ho) rfl rfl ⟨rfl, rfl⟩ ⟨(Nat.le_of_ble_eq_true rfl), (Nat.le_of_ble_eq_true rfl)⟩ hl.1 rfl (Nat.le_of_ble_eq_true rfl) dX6_parse_52 ⟨(Nat.le_of_ble_eq_true rfl), (Nat.le_of_ble_eq_true rfl)⟩ (fun H locs hw => ?_)
      refine lv_aload_n hx hb dX6_parse_55 rfl (lv_at hl 1 rfl) ?_
      refine lv_iload_n hx hb dX6_parse_56 rfl (lv_at hl 2 rfl) ?_
      obtain ⟨ho, hf⟩ := chk_inv hf
      obtain ⟨r15, σ14, hk, hf⟩ := bnd_inv hf
      refine z_callV (As := [.int a1]) (rest := []) (m_X6_store hC.2.2.2.2.2.2.2.2 hk) hC hw wd_X6_store lkM_X6_162 (isO_sh ho) rfl rfl ⟨rfl, rfl⟩ ⟨(Nat.le_of_ble_eq_true rfl), (Nat.le_of_ble_eq_true rfl)⟩ hl.1 rfl (Nat.le_of_ble_eq_true rfl) dX6_parse_57 ⟨(Nat.le_of_ble_eq_true rfl), (Nat.le_of_ble_eq_true rfl)⟩ (fun H locs hw => ?_)
      refine vx_ret ?_
      refine W.widen (k := 1) (n := 6) (Nat.le_of_ble_eq_true rfl) (Nat.le_of_ble_eq_true rfl) ?_
      exact W.iret hx hb hr (z_retx hw (Option.some.inj hf).symm rfl) hw.2.2.2.2.2 dX6_parse_60 hC.2.2.2.2.2.1
    · rw [if_pos hc] at hf
      refine lv_bipush (v := (-2)) hx hb dX6_parse_36 (by decide) ?_
      refine vx_ret ?_
      refine W.widen (k := 1) (n := 6) (Nat.le_of_ble_eq_true rfl) (Nat.le_of_ble_eq_true rfl) ?_
      exact W.iret hx hb hr (z_retx hw (Option.some.inj hf).symm rfl) hw.2.2.2.2.2 dX6_parse_38 hC.2.2.2.2.2.1
  · rw [if_neg hc] at hf
    refine lv_bipush (v := (-10)) hx hb dX6_parse_17 (by decide) ?_
    refine lv_iload_n hx hb dX6_parse_19 rfl (lv_at hl 0 rfl) ?_
    refine lv_isub hx hb dX6_parse_20 ?_
    refine vx_ret ?_
    refine W.widen (k := 1) (n := 6) (Nat.le_of_ble_eq_true rfl) (Nat.le_of_ble_eq_true rfl) ?_
    exact W.iret hx hb hr (z_retx hw (Option.some.inj hf).symm rfl) hw.2.2.2.2.2 dX6_parse_21 hC.2.2.2.2.2.1
set_option maxHeartbeats 4000000 in
set_option maxRecDepth 100000 in
theorem m_X6_undo (h9 : l.stackTraces = false) {Γ : zSh} {a0 : Nat} {σ : zSt} {out : ((Int32 × zSt) ⊕ (Nat × zSt))} (hf : f_X6_undo Γ a0 σ = some out) : vx_Met l yX6_undo (wq yX6_undo cX6_undo 1 (Option.some FieldType.int)) rm_X6_undo (zQ0 D cA B0 [.ref a0] Γ σ (ZB B0)) (zQx D cA B0 (fun r : Int32 => some (.int r)) Γ out (ZB B0)) (zXx D cA B0 Γ out (ZB B0)) 1 6 (FR B0) := by
  refine z_ofX h9 (by decide) (Nat.le_of_ble_eq_true rfl) ?_
  intro p e s m args below meth c ls hC hr htab hw hl
  have hx := hC.1
  have hb := hC.2.1
  have hl : lv_has ls 1 [(0, .ref a0)] := hl
  unfold f_X6_undo at hf
  refine lv_aload_n hx hb dX6_undo_0 rfl (lv_at hl 0 rfl) ?_
  obtain ⟨v1, hg, hf⟩ := gfI_inv hf
  refine r_gfI hC hw hg clX6 (Nat.le_of_ble_eq_true rfl) lkF_X6_24 rfl dX6_undo_1 ?_
  refine lv_if_gt (tgt := 17) hx hb dX6_undo_4 (by decide) (fun hc => ?_) (fun hc => ?_)
  · rw [if_pos hc] at hf
    refine lv_aload_n hx hb dX6_undo_17 rfl (lv_at hl 0 rfl) ?_
    refine lv_dup hx hb dX6_undo_18 rfl ?_
    obtain ⟨v2, hg, hf⟩ := gfI_inv hf
    refine r_gfI hC hw hg clX6 (Nat.le_of_ble_eq_true rfl) lkF_X6_24 rfl dX6_undo_19 ?_
    refine lv_iconst (v := 1) hx hb dX6_undo_22 (by decide) ?_
    refine lv_isub hx hb dX6_undo_23 ?_
    obtain ⟨σ3, hg, hf⟩ := pfI_inv hf
    refine r_pfI hC hw hg clX6 (Nat.le_of_ble_eq_true rfl) lkF_X6_24 rfl rfl rfl dX6_undo_24 (fun H locs hw => ?_)
    refine lv_aload_n hx hb dX6_undo_27 rfl (lv_at hl 0 rfl) ?_
    obtain ⟨v4, hg, hf⟩ := gfR_inv hf
    refine r_gfR hC hw hg clX6 (Nat.le_of_ble_eq_true rfl) lkF_X6_13 rfl dX6_undo_28 ?_
    refine lv_aload_n hx hb dX6_undo_31 rfl (lv_at hl 0 rfl) ?_
    obtain ⟨v5, hg, hf⟩ := gfR_inv hf
    refine r_gfR hC hw hg clX6 (Nat.le_of_ble_eq_true rfl) lkF_X6_20 rfl dX6_undo_32 ?_
    refine lv_aload_n hx hb dX6_undo_35 rfl (lv_at hl 0 rfl) ?_
    obtain ⟨v6, hg, hf⟩ := gfI_inv hf
    refine r_gfI hC hw hg clX6 (Nat.le_of_ble_eq_true rfl) lkF_X6_24 rfl dX6_undo_36 ?_
    obtain ⟨v7, hg, hf⟩ := ldI_inv hf
    refine r_ldI hC hw hg dX6_undo_39 ?_
    obtain ⟨v8, hg, hf⟩ := ldA_inv hf
    refine r_ldA hC hw hg dX6_undo_40 ?_
    refine lv_aload_n hx hb dX6_undo_41 rfl (lv_at hl 0 rfl) ?_
    obtain ⟨v9, hg, hf⟩ := gfR_inv hf
    refine r_gfR hC hw hg clX6 (Nat.le_of_ble_eq_true rfl) lkF_X6_17 rfl dX6_undo_42 ?_
    refine lv_aload_n hx hb dX6_undo_45 rfl (lv_at hl 0 rfl) ?_
    obtain ⟨v10, hg, hf⟩ := gfI_inv hf
    refine r_gfI hC hw hg clX6 (Nat.le_of_ble_eq_true rfl) lkF_X6_24 rfl dX6_undo_46 ?_
    obtain ⟨v11, hg, hf⟩ := ldA_inv hf
    refine r_ldA hC hw hg dX6_undo_49 ?_
    obtain ⟨ho, hf⟩ := chk_inv hf
    obtain ⟨_, σ12, hk, hf⟩ := bnd_inv hf
    refine z_callV (As := [.ref v11]) (rest := []) (m_X0_copyFrom hC.2.2.2.2.2.2.2.2 hk) hC hw wd_X0_copyFrom lkM_X6_172 (isO_sh ho) rfl rfl ⟨rfl, rfl⟩ ⟨(Nat.le_of_ble_eq_true rfl), (Nat.le_of_ble_eq_true rfl)⟩ hl.1 rfl (Nat.le_of_ble_eq_true rfl) dX6_undo_50 ⟨(Nat.le_of_ble_eq_true rfl), (Nat.le_of_ble_eq_true rfl)⟩ (fun H locs hw => ?_)
    refine lv_aload_n hx hb dX6_undo_53 rfl (lv_at hl 0 rfl) ?_
    obtain ⟨v13, hg, hf⟩ := gfI_inv hf
    refine r_gfI hC hw hg clX6 (Nat.le_of_ble_eq_true rfl) lkF_X6_24 rfl dX6_undo_54 ?_
    refine vx_ret ?_
    refine W.widen (k := 1) (n := 6) (Nat.le_of_ble_eq_true rfl) (Nat.le_of_ble_eq_true rfl) ?_
    exact W.iret hx hb hr (z_retx hw (Option.some.inj hf).symm rfl) hw.2.2.2.2.2 dX6_undo_57 hC.2.2.2.2.2.1
  · rw [if_neg hc] at hf
    exact z_throwS (k := 2) hC hw zB_up (Option.some.inj hf).symm htab zt_145_149_2 zstr_251 hl.1 dX6_undo_7 dX6_undo_10 dX6_undo_11 dX6_undo_13 dX6_undo_16 (Nat.le_of_ble_eq_true rfl) (Nat.le_of_ble_eq_true rfl) (Nat.le_of_ble_eq_true rfl) (Nat.le_of_ble_eq_true rfl) (Nat.le_of_ble_eq_true rfl) (Nat.le_of_ble_eq_true rfl)
set_option maxHeartbeats 4000000 in
set_option maxRecDepth 100000 in
theorem t_X6_digest_B34 (hC : zC p l s m args meth c cX6_digest 5 RX6 D cA B0) (hr : meth.sig.returnType = (Option.some FieldType.long)) {Γ : zSh} {x0 : Nat} {x3 : Int32} {x1 : Int64} {x4 : Int32} {σ : zSt} {out : ((Int64 × Int32 × zSt) ⊕ (Int64 × zSt))} (hf : f_X6_digest_B34 Γ x0 x3 x1 x4 σ = some out) {H : Heap} {locs : List Loc} {ls : Array Slot} (hw : zO D cA B0 Γ σ Z s.heap H locs) (hl : lv_has ls 5 [(0, .ref x0), (1, .long x1), (3, .int x3), (4, .int x4)])
    (kI : ∀ (z1 : Int64) (z4 : Int32) (σ2 : zSt), out = .inl (z1, z4, σ2) → ∀ (H : Heap) (locs : List Loc) (ls : Array Slot), zO D cA B0 Γ σ2 Z s.heap H locs → lv_has ls 5 [(0, .ref x0), (1, .long z1), (3, .int x3), (4, .int z4)] → W p l e rm_X6_digest s m args below meth c H locs 0 0 Q (F0 m 34 ls []))
    (kE : ∀ (z1 : Int64) (σ2 : zSt), out = .inr (z1, σ2) → ∀ (H : Heap) (locs : List Loc) (ls : Array Slot), zO D cA B0 Γ σ2 Z s.heap H locs → lv_has ls 5 [(0, .ref x0), (1, .long z1), (3, .int x3)] → W p l e rm_X6_digest s m args below meth c H locs 0 0 Q (F0 m 61 ls [])) :
    W p l e rm_X6_digest s m args below meth c H locs 0 0 Q (F0 m 34 ls []) := by
  have hx := hC.1
  have hb := hC.2.1
  unfold f_X6_digest_B34 at hf
  refine lv_iload hx hb dX6_digest_34 (lv_at hl 3 rfl) ?_
  refine lv_iconst (v := 2) hx hb dX6_digest_36 (by decide) ?_
  refine lv_icmp_gt (tgt := 61) hx hb dX6_digest_37 (by decide) (fun hc => ?_) (fun hc => ?_)
  · rw [if_pos hc] at hf
    exact kE x1 σ (Option.some.inj hf).symm _ _ _ hw (lv_sub hl [0, 1, 2] rfl)
  · rw [if_neg hc] at hf
    refine lv_ldc2 (v := 31) hx hb hC.2.2.2.1 (hC.2.2.2.2.1 _ lkJ_X6_259) dX6_digest_40 ?_
    refine lv_lload_n hx hb dX6_digest_43 rfl (lv_at hl 1 rfl) ?_
    refine lv_lmul hx hb dX6_digest_44 ?_
    refine lv_aload_n hx hb dX6_digest_45 rfl (lv_at hl 0 rfl) ?_
    refine lv_iload_n hx hb dX6_digest_46 rfl (lv_at hl 2 rfl) ?_
    refine lv_iload hx hb dX6_digest_47 (lv_at hl 3 rfl) ?_
    obtain ⟨ho, hf⟩ := chk_inv hf
    obtain ⟨r8, σ7, hk, hf⟩ := bnd_inv hf
    refine z_callV (As := [.int x3, .int x4]) (rest := [.long (31 * x1)]) (m_X6_spaceSize hC.2.2.2.2.2.2.2.2 hk) hC hw wd_X6_spaceSize lkM_X6_197 (isO_sh ho) rfl rfl ⟨rfl, rfl⟩ ⟨(Nat.le_of_ble_eq_true rfl), (Nat.le_of_ble_eq_true rfl)⟩ hl.1 rfl (Nat.le_of_ble_eq_true rfl) dX6_digest_49 ⟨(Nat.le_of_ble_eq_true rfl), (Nat.le_of_ble_eq_true rfl)⟩ (fun H locs hw => ?_)
    refine lv_i2l hx hb dX6_digest_52 rfl ?_
    refine lv_ladd hx hb dX6_digest_53 ?_
    refine lv_lstore_n (lv' := [(1, .long ((31 * x1) + (r8.toInt64))), (0, .ref x0), (3, .int x3), (4, .int x4)]) hx hb dX6_digest_54 rfl hl (Nat.le_of_ble_eq_true rfl) rfl (fun ls hl => ?_)
    refine lv_iinc (v := (x4 + 1)) (lv' := [(4, .int (x4 + 1)), (1, .long ((31 * x1) + (r8.toInt64))), (0, .ref x0), (3, .int x3)]) hx hb dX6_digest_55 hl (k := 3) rfl rfl (Nat.le_of_ble_eq_true rfl) rfl (fun ls hl => ?_)
    refine lv_goto (tgt := 34) hx hb dX6_digest_58 (by decide) ?_
    exact kI ((31 * x1) + (r8.toInt64)) (x4 + 1) σ7 (Option.some.inj hf).symm _ _ _ hw (lv_sub hl [2, 1, 3, 0] rfl)
set_option maxHeartbeats 4000000 in
theorem l_X6_digest_B34 (hC : zC p l s m args meth c cX6_digest 5 RX6 D cA B0) (hr : meth.sig.returnType = (Option.some FieldType.long)) {Γ : zSh} {x0 : Nat} {x3 : Int32} {w1 : Int64} {σ2 : zSt} (kE : ∀ (H : Heap) (locs : List Loc) (ls : Array Slot), zO D cA B0 Γ σ2 Z s.heap H locs → lv_has ls 5 [(0, .ref x0), (1, .long w1), (3, .int x3)] → W p l e rm_X6_digest s m args below meth c H locs 0 0 Q (F0 m 61 ls [])) :
    ∀ (n : Nat) (x1 : Int64) (x4 : Int32) (σ : zSt), loopM (fun q => f_X6_digest_B34 Γ x0 x3 q.1 q.2.1 q.2.2) n (x1, x4, σ) = some (w1, σ2) → ∀ (H : Heap) (locs : List Loc) (ls : Array Slot), zO D cA B0 Γ σ Z s.heap H locs → lv_has ls 5 [(0, .ref x0), (1, .long x1), (3, .int x3), (4, .int x4)] → W p l e rm_X6_digest s m args below meth c H locs 0 0 Q (F0 m 34 ls []) := by
  intro n
  induction n with
  | zero => intro x1 x4 σ h; exact absurd h (by simp [loopM])
  | succ n ih =>
    intro x1 x4 σ h H locs ls hw hl
    obtain ⟨r, h1, h2, h3⟩ := loopM_inv h
    exact t_X6_digest_B34 hC hr h1 hw hl (fun z1 z4 s2 e H locs ls hw hl => ih z1 z4 s2 (h2 _ e) H locs ls hw hl) (fun z1 s2 e H locs ls hw hl => by cases h3 _ e; exact kE H locs ls hw hl)
set_option maxHeartbeats 4000000 in
set_option maxRecDepth 100000 in
theorem t_X6_digest_B15 (hC : zC p l s m args meth c cX6_digest 5 RX6 D cA B0) (hr : meth.sig.returnType = (Option.some FieldType.long)) {Γ : zSh} {x0 : Nat} {x1 : Int64} {x3 : Int32} {σ : zSt} {out : ((Int64 × Int32 × zSt) ⊕ (Int64 × zSt))} (hf : f_X6_digest_B15 Γ x0 x1 x3 σ = some out) {H : Heap} {locs : List Loc} {ls : Array Slot} (hw : zO D cA B0 Γ σ Z s.heap H locs) (hl : lv_has ls 5 [(0, .ref x0), (1, .long x1), (3, .int x3)])
    (kI : ∀ (z1 : Int64) (z3 : Int32) (σ2 : zSt), out = .inl (z1, z3, σ2) → ∀ (H : Heap) (locs : List Loc) (ls : Array Slot), zO D cA B0 Γ σ2 Z s.heap H locs → lv_has ls 5 [(0, .ref x0), (1, .long z1), (3, .int z3)] → W p l e rm_X6_digest s m args below meth c H locs 0 0 Q (F0 m 15 ls []))
    (kE : ∀ (z1 : Int64) (σ2 : zSt), out = .inr (z1, σ2) → ∀ (H : Heap) (locs : List Loc) (ls : Array Slot), zO D cA B0 Γ σ2 Z s.heap H locs → lv_has ls 5 [(0, .ref x0), (1, .long z1)] → W p l e rm_X6_digest s m args below meth c H locs 0 0 Q (F0 m 67 ls [])) :
    W p l e rm_X6_digest s m args below meth c H locs 0 0 Q (F0 m 15 ls []) := by
  have hx := hC.1
  have hb := hC.2.1
  unfold f_X6_digest_B15 at hf
  refine lv_iload_n hx hb dX6_digest_15 rfl (lv_at hl 2 rfl) ?_
  refine lv_iconst (v := 4) hx hb dX6_digest_16 (by decide) ?_
  refine lv_icmp_ge (tgt := 67) hx hb dX6_digest_17 (by decide) (fun hc => ?_) (fun hc => ?_)
  · rw [if_pos hc] at hf
    exact kE x1 σ (Option.some.inj hf).symm _ _ _ hw (lv_sub hl [0, 1] rfl)
  · rw [if_neg hc] at hf
    refine lv_aload_n hx hb dX6_digest_20 rfl (lv_at hl 0 rfl) ?_
    obtain ⟨v3, hg, hf⟩ := gfR_inv hf
    refine r_gfR hC hw hg clX6 (Nat.le_of_ble_eq_true rfl) lkF_X6_13 rfl dX6_digest_21 ?_
    refine lv_iload_n hx hb dX6_digest_24 rfl (lv_at hl 2 rfl) ?_
    obtain ⟨v4, hg, hf⟩ := ldA_inv hf
    refine r_ldA hC hw hg dX6_digest_25 ?_
    refine lv_lload_n hx hb dX6_digest_26 rfl (lv_at hl 1 rfl) ?_
    obtain ⟨ho, hf⟩ := chk_inv hf
    obtain ⟨r6, σ5, hk, hf⟩ := bnd_inv hf
    refine z_callV (As := [.long x1]) (rest := []) (m_X0_hash hC.2.2.2.2.2.2.2.2 hk) hC hw wd_X0_hash lkM_X6_255 (isO_sh ho) rfl rfl ⟨rfl, rfl⟩ ⟨(Nat.le_of_ble_eq_true rfl), (Nat.le_of_ble_eq_true rfl)⟩ hl.1 rfl (Nat.le_of_ble_eq_true rfl) dX6_digest_27 ⟨(Nat.le_of_ble_eq_true rfl), (Nat.le_of_ble_eq_true rfl)⟩ (fun H locs hw => ?_)
    refine lv_lstore_n (lv' := [(1, .long r6), (0, .ref x0), (3, .int x3)]) hx hb dX6_digest_30 rfl hl (Nat.le_of_ble_eq_true rfl) rfl (fun ls hl => ?_)
    refine lv_iconst (v := 0) hx hb dX6_digest_31 (by decide) ?_
    refine lv_istore (lv' := [(4, .int 0), (1, .long r6), (0, .ref x0), (3, .int x3)]) hx hb dX6_digest_32 hl (Nat.le_of_ble_eq_true rfl) rfl (fun ls hl => ?_)
    obtain ⟨w10, σ9, hk, hf⟩ := lb1_inv hf
    refine l_X6_digest_B34 hC hr (fun H locs ls hw hl => ?_) FUEL r6 0 σ5 hk _ _ _ hw (lv_sub hl [2, 1, 3, 0] rfl)
    refine lv_iinc (v := (x3 + 1)) (lv' := [(3, .int (x3 + 1)), (0, .ref x0), (1, .long w10)]) hx hb dX6_digest_61 hl (k := 2) rfl rfl (Nat.le_of_ble_eq_true rfl) rfl (fun ls hl => ?_)
    refine lv_goto (tgt := 15) hx hb dX6_digest_64 (by decide) ?_
    exact kI w10 (x3 + 1) σ9 (Option.some.inj hf).symm _ _ _ hw (lv_sub hl [1, 2, 0] rfl)
set_option maxHeartbeats 4000000 in
theorem l_X6_digest_B15 (hC : zC p l s m args meth c cX6_digest 5 RX6 D cA B0) (hr : meth.sig.returnType = (Option.some FieldType.long)) {Γ : zSh} {x0 : Nat} {w1 : Int64} {σ2 : zSt} (kE : ∀ (H : Heap) (locs : List Loc) (ls : Array Slot), zO D cA B0 Γ σ2 Z s.heap H locs → lv_has ls 5 [(0, .ref x0), (1, .long w1)] → W p l e rm_X6_digest s m args below meth c H locs 0 0 Q (F0 m 67 ls [])) :
    ∀ (n : Nat) (x1 : Int64) (x3 : Int32) (σ : zSt), loopM (fun q => f_X6_digest_B15 Γ x0 q.1 q.2.1 q.2.2) n (x1, x3, σ) = some (w1, σ2) → ∀ (H : Heap) (locs : List Loc) (ls : Array Slot), zO D cA B0 Γ σ Z s.heap H locs → lv_has ls 5 [(0, .ref x0), (1, .long x1), (3, .int x3)] → W p l e rm_X6_digest s m args below meth c H locs 0 0 Q (F0 m 15 ls []) := by
  intro n
  induction n with
  | zero => intro x1 x3 σ h; exact absurd h (by simp [loopM])
  | succ n ih =>
    intro x1 x3 σ h H locs ls hw hl
    obtain ⟨r, h1, h2, h3⟩ := loopM_inv h
    exact t_X6_digest_B15 hC hr h1 hw hl (fun z1 z3 s2 e H locs ls hw hl => ih z1 z3 s2 (h2 _ e) H locs ls hw hl) (fun z1 s2 e H locs ls hw hl => by cases h3 _ e; exact kE H locs ls hw hl)
set_option maxHeartbeats 4000000 in
set_option maxRecDepth 100000 in
theorem m_X6_digest (h9 : l.stackTraces = false) {Γ : zSh} {a0 : Nat} {σ : zSt} {r : Int64} {σ2 : zSt} (hf : f_X6_digest Γ a0 σ = some (r, σ2)) : Met l yX6_digest (wq yX6_digest cX6_digest 5 (Option.some FieldType.long)) rm_X6_digest (zQ0 D cA B0 [.ref a0] Γ σ Z) (zQ1 D cA B0 (some (.long r)) Γ σ2 Z) 0 0 (FR B0) := by
  refine z_ofW h9 (by decide) (Nat.le_of_ble_eq_true rfl) ?_
  intro p e s m args below meth c ls hC hr _ hw hl
  have hx := hC.1
  have hb := hC.2.1
  have hl : lv_has ls 5 [(0, .ref a0)] := hl
  unfold f_X6_digest at hf
  refine lv_ldc2 (v := 93589) hx hb hC.2.2.2.1 (hC.2.2.2.2.1 _ lkJ_X6_253) dX6_digest_0 ?_
  refine lv_aload_n hx hb dX6_digest_3 rfl (lv_at hl 0 rfl) ?_
  obtain ⟨v1, hg, hf⟩ := gfR_inv hf
  refine r_gfR hC hw hg clX6 (Nat.le_of_ble_eq_true rfl) lkF_X6_74 rfl dX6_digest_4 ?_
  obtain ⟨v2, hg, hf⟩ := gfI_inv hf
  refine r_gfI hC hw hg clX2 (Nat.le_of_ble_eq_true rfl) lkF_X6_233 rfl dX6_digest_7 ?_
  refine lv_i2l hx hb dX6_digest_10 rfl ?_
  refine lv_ladd hx hb dX6_digest_11 ?_
  refine lv_lstore_n (lv' := [(1, .long (93589 + (v2.toInt64))), (0, .ref a0)]) hx hb dX6_digest_12 rfl hl (Nat.le_of_ble_eq_true rfl) rfl (fun ls hl => ?_)
  refine lv_iconst (v := 0) hx hb dX6_digest_13 (by decide) ?_
  refine lv_istore_n (lv' := [(3, .int 0), (1, .long (93589 + (v2.toInt64))), (0, .ref a0)]) hx hb dX6_digest_14 rfl hl (Nat.le_of_ble_eq_true rfl) rfl (fun ls hl => ?_)
  obtain ⟨w12, σ11, hk, hf⟩ := lb1_inv hf
  refine l_X6_digest_B15 hC hr (fun H locs ls hw hl => ?_) FUEL (93589 + (v2.toInt64)) 0 σ hk _ _ _ hw (lv_sub hl [2, 1, 0] rfl)
  refine lv_ldc2 (v := 31) hx hb hC.2.2.2.1 (hC.2.2.2.2.1 _ lkJ_X6_259) dX6_digest_67 ?_
  refine lv_lload_n hx hb dX6_digest_70 rfl (lv_at hl 1 rfl) ?_
  refine lv_lmul hx hb dX6_digest_71 ?_
  refine lv_aload_n hx hb dX6_digest_72 rfl (lv_at hl 0 rfl) ?_
  obtain ⟨v13, hg, hf⟩ := gfI_inv hf
  refine r_gfI hC hw hg clX6 (Nat.le_of_ble_eq_true rfl) lkF_X6_24 rfl dX6_digest_73 ?_
  refine lv_i2l hx hb dX6_digest_76 rfl ?_
  refine lv_ladd hx hb dX6_digest_77 ?_
  first | (obtain ⟨rfl, rfl⟩ := sp_inv hf) | (obtain rfl := Option.some.inj hf)
  exact W.lret hx hb hr (z_ret hw rfl) hw.2.2.2.2.2 dX6_digest_78 hC.2.2.2.2.2.1
set_option maxHeartbeats 4000000 in
set_option maxRecDepth 100000 in
theorem m_X7_thrown (h9 : l.stackTraces = false) {Γ : zSh} {a0 : Nat} {σ : zSt} {r : Int32} {σ2 : zSt} (hf : f_X7_thrown Γ a0 σ = some (r, σ2)) : Met l yX7_thrown (wq yX7_thrown cX7_thrown 1 (Option.some FieldType.int)) rm_X7_thrown (zQ0 D cA B0 [.ref a0] Γ σ Z) (zQ1 D cA B0 (some (.int r)) Γ σ2 Z) 0 0 (FR B0) := by
  refine z_ofW h9 (by decide) (Nat.le_of_ble_eq_true rfl) ?_
  intro p e s m args below meth c ls hC hr _ hw hl
  have hx := hC.1
  have hb := hC.2.1
  have hl : lv_has ls 1 [(0, .ref a0)] := hl
  unfold f_X7_thrown at hf
  refine lv_aload_n hx hb dX7_thrown_0 rfl (lv_at hl 0 rfl) ?_
  obtain ⟨v1, hg, hf⟩ := gfI_inv hf
  refine r_gfI hC hw hg clX7 (Nat.le_of_ble_eq_true rfl) lkF_X7_59 rfl dX7_thrown_1 ?_
  first | (obtain ⟨rfl, rfl⟩ := sp_inv hf) | (obtain rfl := Option.some.inj hf)
  exact W.iret hx hb hr (z_ret hw rfl) hw.2.2.2.2.2 dX7_thrown_4 hC.2.2.2.2.2.1
set_option maxHeartbeats 4000000 in
set_option maxRecDepth 100000 in
theorem t_X7_in_L18 (hC : zC p l s m args meth c cX7_in 6 RX7 D cA B0) (hr : meth.sig.returnType = (Option.some FieldType.boolean)) {Γ : zSh} {s0 : Int32} {σ : zSt} {out : (Int32 × zSt)} (hf : f_X7_in_L18 Γ s0 σ = some out) {H : Heap} {locs : List Loc} {ls : Array Slot} (hw : zO D cA B0 Γ σ Z s.heap H locs) (hl : lv_has ls 6 []) :
    W p l e rm_X7_in s m args below meth c H locs 0 0 (MQ below (zQ1 D cA B0 (some (.int out.1)) Γ out.2 Z) args s 0 0 (FR B0)) (F0 m 18 ls [.int s0]) := by
  have hx := hC.1
  have hb := hC.2.1
  unfold f_X7_in_L18 at hf
  obtain ⟨hz, hf⟩ := chk_inv hf
  first | (obtain ⟨rfl, rfl⟩ := sp_inv hf) | (obtain rfl := Option.some.inj hf)
  exact W.zret hx hb hr (isB_n hz).1 (z_ret hw rfl) hw.2.2.2.2.2 dX7_in_18 hC.2.2.2.2.2.1
set_option maxHeartbeats 4000000 in
set_option maxRecDepth 100000 in
theorem t_X7_in_L17 (hC : zC p l s m args meth c cX7_in 6 RX7 D cA B0) (hr : meth.sig.returnType = (Option.some FieldType.boolean)) {Γ : zSh}  {σ : zSt} {out : (Int32 × zSt)} (hf : f_X7_in_L17 Γ  σ = some out) {H : Heap} {locs : List Loc} {ls : Array Slot} (hw : zO D cA B0 Γ σ Z s.heap H locs) (hl : lv_has ls 6 []) :
    W p l e rm_X7_in s m args below meth c H locs 0 0 (MQ below (zQ1 D cA B0 (some (.int out.1)) Γ out.2 Z) args s 0 0 (FR B0)) (F0 m 17 ls []) := by
  have hx := hC.1
  have hb := hC.2.1
  unfold f_X7_in_L17 at hf
  refine lv_iconst (v := 0) hx hb dX7_in_17 (by decide) ?_
  exact t_X7_in_L18 hC hr hf hw (lv_sub hl [] rfl)
set_option maxHeartbeats 4000000 in
set_option maxRecDepth 100000 in
theorem m_X7_in (h9 : l.stackTraces = false) {Γ : zSh} {a0 : Int64} {a1 : Int64} {a2 : Int64} {σ : zSt} {r : Int32} {σ2 : zSt} (hf : f_X7_in Γ a0 a1 a2 σ = some (r, σ2)) : Met l yX7_in (wq yX7_in cX7_in 6 (Option.some FieldType.boolean)) rm_X7_in (zQ0 D cA B0 [.long a0, .long a1, .long a2] Γ σ Z) (zQ1 D cA B0 (some (.int r)) Γ σ2 Z) 0 0 (FR B0) := by
  refine z_ofW h9 (by decide) (Nat.le_of_ble_eq_true rfl) ?_
  intro p e s m args below meth c ls hC hr _ hw hl
  have hx := hC.1
  have hb := hC.2.1
  have hl : lv_has ls 6 [(0, .long a0), (2, .long a1), (4, .long a2)] := hl
  unfold f_X7_in at hf
  refine lv_lload_n hx hb dX7_in_0 rfl (lv_at hl 0 rfl) ?_
  refine lv_lload_n hx hb dX7_in_1 rfl (lv_at hl 1 rfl) ?_
  refine W.lcmp hx hb dX7_in_2 ?_
  refine lv_if_lt (tgt := 17) hx hb dX7_in_3 (by decide) (fun hc => ?_) (fun hc => ?_)
  · rw [if_pos hc] at hf
    exact t_X7_in_L17 hC hr hf hw (lv_sub hl [] rfl)
  · rw [if_neg hc] at hf
    refine lv_lload_n hx hb dX7_in_6 rfl (lv_at hl 0 rfl) ?_
    refine lv_lload hx hb dX7_in_7 (lv_at hl 2 rfl) ?_
    refine W.lcmp hx hb dX7_in_9 ?_
    refine lv_if_gt (tgt := 17) hx hb dX7_in_10 (by decide) (fun hc => ?_) (fun hc => ?_)
    · rw [if_pos hc] at hf
      exact t_X7_in_L17 hC hr hf hw (lv_sub hl [] rfl)
    · rw [if_neg hc] at hf
      refine lv_iconst (v := 1) hx hb dX7_in_13 (by decide) ?_
      refine lv_goto (tgt := 18) hx hb dX7_in_14 (by decide) ?_
      exact t_X7_in_L18 hC hr hf hw (lv_sub hl [] rfl)
set_option maxHeartbeats 4000000 in
set_option maxRecDepth 100000 in
theorem t_X7_goes_L41 (hC : zC p l s m args meth c cX7_goes 4 RX7 D cA B0) (hr : meth.sig.returnType = (Option.some FieldType.boolean)) {Γ : zSh} {s0 : Int32} {σ : zSt} {out : (Int32 × zSt)} (hf : f_X7_goes_L41 Γ s0 σ = some out) {H : Heap} {locs : List Loc} {ls : Array Slot} (hw : zO D cA B0 Γ σ Z s.heap H locs) (hl : lv_has ls 4 []) :
    W p l e rm_X7_goes s m args below meth c H locs 0 0 (MQ below (zQ1 D cA B0 (some (.int out.1)) Γ out.2 Z) args s 0 0 (FR B0)) (F0 m 41 ls [.int s0]) := by
  have hx := hC.1
  have hb := hC.2.1
  unfold f_X7_goes_L41 at hf
  obtain ⟨hz, hf⟩ := chk_inv hf
  first | (obtain ⟨rfl, rfl⟩ := sp_inv hf) | (obtain rfl := Option.some.inj hf)
  exact W.zret hx hb hr (isB_n hz).1 (z_ret hw rfl) hw.2.2.2.2.2 dX7_goes_41 hC.2.2.2.2.2.1
set_option maxHeartbeats 4000000 in
set_option maxRecDepth 100000 in
theorem t_X7_goes_L26 (hC : zC p l s m args meth c cX7_goes 4 RX7 D cA B0) (hr : meth.sig.returnType = (Option.some FieldType.boolean)) {Γ : zSh} {x0 : Nat} {s0 : Int32} {s1 : Nat} {σ : zSt} {out : (Int32 × zSt)} (hf : f_X7_goes_L26 Γ x0 s0 s1 σ = some out) {H : Heap} {locs : List Loc} {ls : Array Slot} (hw : zO D cA B0 Γ σ Z s.heap H locs) (hl : lv_has ls 4 [(0, .ref x0)]) :
    W p l e rm_X7_goes s m args below meth c H locs 0 0 (MQ below (zQ1 D cA B0 (some (.int out.1)) Γ out.2 Z) args s 0 0 (FR B0)) (F0 m 26 ls [.int s0, .ref s1]) := by
  have hx := hC.1
  have hb := hC.2.1
  unfold f_X7_goes_L26 at hf
  obtain ⟨σ1, hg, hf⟩ := pfI_inv hf
  refine r_pfI hC hw hg clX7 (Nat.le_of_ble_eq_true rfl) lkF_X7_59 rfl rfl rfl dX7_goes_26 (fun H locs hw => ?_)
  refine lv_aload_n hx hb dX7_goes_29 rfl (lv_at hl 0 rfl) ?_
  obtain ⟨v2, hg, hf⟩ := gfI_inv hf
  refine r_gfI hC hw hg clX7 (Nat.le_of_ble_eq_true rfl) lkF_X7_59 rfl dX7_goes_30 ?_
  refine lv_if_ne (tgt := 40) hx hb dX7_goes_33 (by decide) (fun hc => ?_) (fun hc => ?_)
  · rw [if_neg hc] at hf
    refine lv_iconst (v := 0) hx hb dX7_goes_40 (by decide) ?_
    exact t_X7_goes_L41 hC hr hf hw (lv_sub hl [] rfl)
  · rw [if_pos hc] at hf
    refine lv_iconst (v := 1) hx hb dX7_goes_36 (by decide) ?_
    refine lv_goto (tgt := 41) hx hb dX7_goes_37 (by decide) ?_
    exact t_X7_goes_L41 hC hr hf hw (lv_sub hl [] rfl)
set_option maxHeartbeats 4000000 in
set_option maxRecDepth 100000 in
theorem m_X7_goes (h9 : l.stackTraces = false) {Γ : zSh} {a0 : Nat} {a1 : Int32} {a2 : Int32} {a3 : Int32} {σ : zSt} {r : Int32} {σ2 : zSt} (hf : f_X7_goes Γ a0 a1 a2 a3 σ = some (r, σ2)) : Met l yX7_goes (wq yX7_goes cX7_goes 4 (Option.some FieldType.boolean)) rm_X7_goes (zQ0 D cA B0 [.ref a0, .int a1, .int a2, .int a3] Γ σ Z) (zQ1 D cA B0 (some (.int r)) Γ σ2 Z) 0 0 (FR B0) := by
  refine z_ofW h9 (by decide) (Nat.le_of_ble_eq_true rfl) ?_
  intro p e s m args below meth c ls hC hr _ hw hl
  have hx := hC.1
  have hb := hC.2.1
  have hl : lv_has ls 4 [(0, .ref a0), (1, .int a1), (2, .int a2), (3, .int a3)] := hl
  unfold f_X7_goes at hf
  refine lv_aload_n hx hb dX7_goes_0 rfl (lv_at hl 0 rfl) ?_
  refine lv_iload_n hx hb dX7_goes_1 rfl (lv_at hl 1 rfl) ?_
  refine lv_if_ne (tgt := 9) hx hb dX7_goes_2 (by decide) (fun hc => ?_) (fun hc => ?_)
  · rw [if_neg hc] at hf
    refine lv_iload_n hx hb dX7_goes_9 rfl (lv_at hl 2 rfl) ?_
    refine lv_if_ne (tgt := 17) hx hb dX7_goes_10 (by decide) (fun hc => ?_) (fun hc => ?_)
    · rw [if_neg hc] at hf
      refine lv_iload_n hx hb dX7_goes_17 rfl (lv_at hl 3 rfl) ?_
      refine lv_if_ne (tgt := 25) hx hb dX7_goes_18 (by decide) (fun hc => ?_) (fun hc => ?_)
      · rw [if_neg hc] at hf
        refine lv_iconst (v := 0) hx hb dX7_goes_25 (by decide) ?_
        exact t_X7_goes_L26 hC hr hf hw (lv_sub hl [0] rfl)
      · rw [if_pos hc] at hf
        refine lv_iconst (v := 3) hx hb dX7_goes_21 (by decide) ?_
        refine lv_goto (tgt := 26) hx hb dX7_goes_22 (by decide) ?_
        exact t_X7_goes_L26 hC hr hf hw (lv_sub hl [0] rfl)
    · rw [if_pos hc] at hf
      refine lv_iconst (v := 2) hx hb dX7_goes_13 (by decide) ?_
      refine lv_goto (tgt := 26) hx hb dX7_goes_14 (by decide) ?_
      exact t_X7_goes_L26 hC hr hf hw (lv_sub hl [0] rfl)
  · rw [if_pos hc] at hf
    refine lv_iconst (v := 1) hx hb dX7_goes_5 (by decide) ?_
    refine lv_goto (tgt := 26) hx hb dX7_goes_6 (by decide) ?_
    exact t_X7_goes_L26 hC hr hf hw (lv_sub hl [0] rfl)
set_option maxHeartbeats 4000000 in
set_option maxRecDepth 100000 in
theorem t_X7_save_B51 (hC : zC p l s m args meth c cX7_save 2 RX7 D cA B0) (hr : meth.sig.returnType = (Option.none : Option Jvm.ClassFile.FieldType)) {Γ : zSh} {x0 : Nat} {x1 : Int32} {σ : zSt} {out : ((Int32 × zSt) ⊕ (zSt))} (hf : f_X7_save_B51 Γ x0 x1 σ = some out) {H : Heap} {locs : List Loc} {ls : Array Slot} (hw : zO D cA B0 Γ σ Z s.heap H locs) (hl : lv_has ls 2 [(0, .ref x0), (1, .int x1)])
    (kI : ∀ (z1 : Int32) (σ2 : zSt), out = .inl (z1, σ2) → ∀ (H : Heap) (locs : List Loc) (ls : Array Slot), zO D cA B0 Γ σ2 Z s.heap H locs → lv_has ls 2 [(0, .ref x0), (1, .int z1)] → W p l e rm_X7_save s m args below meth c H locs 0 0 Q (F0 m 51 ls []))
    (kE : ∀ (σ2 : zSt), out = .inr σ2 → ∀ (H : Heap) (locs : List Loc) (ls : Array Slot), zO D cA B0 Γ σ2 Z s.heap H locs → lv_has ls 2 [(0, .ref x0)] → W p l e rm_X7_save s m args below meth c H locs 0 0 Q (F0 m 85 ls [])) :
    W p l e rm_X7_save s m args below meth c H locs 0 0 Q (F0 m 51 ls []) := by
  have hx := hC.1
  have hb := hC.2.1
  unfold f_X7_save_B51 at hf
  refine lv_iload_n hx hb dX7_save_51 rfl (lv_at hl 1 rfl) ?_
  refine lv_sipush (v := 1252) hx hb dX7_save_52 (by decide) ?_
  refine lv_icmp_ge (tgt := 85) hx hb dX7_save_55 (by decide) (fun hc => ?_) (fun hc => ?_)
  · rw [if_pos hc] at hf
    exact kE  σ (Option.some.inj hf).symm _ _ _ hw (lv_sub hl [0] rfl)
  · rw [if_neg hc] at hf
    refine lv_aload_n hx hb dX7_save_58 rfl (lv_at hl 0 rfl) ?_
    obtain ⟨v2, hg, hf⟩ := gfR_inv hf
    refine r_gfR hC hw hg clX7 (Nat.le_of_ble_eq_true rfl) lkF_X7_13 rfl dX7_save_59 ?_
    refine lv_sipush (v := 1252) hx hb dX7_save_62 (by decide) ?_
    refine lv_aload_n hx hb dX7_save_65 rfl (lv_at hl 0 rfl) ?_
    obtain ⟨v3, hg, hf⟩ := gfI_inv hf
    refine r_gfI hC hw hg clX7 (Nat.le_of_ble_eq_true rfl) lkF_X7_63 rfl dX7_save_66 ?_
    refine lv_imul hx hb dX7_save_69 ?_
    refine lv_iload_n hx hb dX7_save_70 rfl (lv_at hl 1 rfl) ?_
    refine lv_iadd hx hb dX7_save_71 ?_
    refine lv_aload_n hx hb dX7_save_72 rfl (lv_at hl 0 rfl) ?_
    obtain ⟨v4, hg, hf⟩ := gfR_inv hf
    refine r_gfR hC hw hg clX7 (Nat.le_of_ble_eq_true rfl) lkF_X7_7 rfl dX7_save_73 ?_
    refine lv_iload_n hx hb dX7_save_76 rfl (lv_at hl 1 rfl) ?_
    obtain ⟨v5, hg, hf⟩ := ldI_inv hf
    refine r_ldI hC hw hg dX7_save_77 ?_
    obtain ⟨σ6, hg, hf⟩ := stI_inv hf
    refine r_stI hC hw hg dX7_save_78 (fun H locs hw => ?_)
    refine lv_iinc (v := (x1 + 1)) (lv' := [(1, .int (x1 + 1)), (0, .ref x0)]) hx hb dX7_save_79 hl (k := 1) rfl rfl (Nat.le_of_ble_eq_true rfl) rfl (fun ls hl => ?_)
    refine lv_goto (tgt := 51) hx hb dX7_save_82 (by decide) ?_
    exact kI (x1 + 1) σ6 (Option.some.inj hf).symm _ _ _ hw (lv_sub hl [1, 0] rfl)
set_option maxHeartbeats 4000000 in
theorem l_X7_save_B51 (hC : zC p l s m args meth c cX7_save 2 RX7 D cA B0) (hr : meth.sig.returnType = (Option.none : Option Jvm.ClassFile.FieldType)) {Γ : zSh} {x0 : Nat} {σ2 : zSt} (kE : ∀ (H : Heap) (locs : List Loc) (ls : Array Slot), zO D cA B0 Γ σ2 Z s.heap H locs → lv_has ls 2 [(0, .ref x0)] → W p l e rm_X7_save s m args below meth c H locs 0 0 Q (F0 m 85 ls [])) :
    ∀ (n : Nat) (x1 : Int32) (σ : zSt), loopM (fun q => f_X7_save_B51 Γ x0 q.1 q.2) n (x1, σ) = some σ2 → ∀ (H : Heap) (locs : List Loc) (ls : Array Slot), zO D cA B0 Γ σ Z s.heap H locs → lv_has ls 2 [(0, .ref x0), (1, .int x1)] → W p l e rm_X7_save s m args below meth c H locs 0 0 Q (F0 m 51 ls []) := by
  intro n
  induction n with
  | zero => intro x1 σ h; exact absurd h (by simp [loopM])
  | succ n ih =>
    intro x1 σ h H locs ls hw hl
    obtain ⟨r, h1, h2, h3⟩ := loopM_inv h
    exact t_X7_save_B51 hC hr h1 hw hl (fun z1 s2 e H locs ls hw hl => ih z1 s2 (h2 _ e) H locs ls hw hl) (fun s2 e H locs ls hw hl => by cases h3 _ e; exact kE H locs ls hw hl)
set_option maxHeartbeats 4000000 in
set_option maxRecDepth 100000 in
theorem t_X7_save_L49 (hC : zC p l s m args meth c cX7_save 2 RX7 D cA B0) (hr : meth.sig.returnType = (Option.none : Option Jvm.ClassFile.FieldType)) {Γ : zSh} {x0 : Nat} {σ : zSt} {out : (Unit × zSt)} (hf : f_X7_save_L49 Γ x0 σ = some out) {H : Heap} {locs : List Loc} {ls : Array Slot} (hw : zO D cA B0 Γ σ Z s.heap H locs) (hl : lv_has ls 2 [(0, .ref x0)]) :
    W p l e rm_X7_save s m args below meth c H locs 0 0 (MQ below (zQ1 D cA B0 (none) Γ out.2 Z) args s 0 0 (FR B0)) (F0 m 49 ls []) := by
  have hx := hC.1
  have hb := hC.2.1
  unfold f_X7_save_L49 at hf
  refine lv_iconst (v := 0) hx hb dX7_save_49 (by decide) ?_
  refine lv_istore_n (lv' := [(1, .int 0), (0, .ref x0)]) hx hb dX7_save_50 rfl hl (Nat.le_of_ble_eq_true rfl) rfl (fun ls hl => ?_)
  obtain ⟨σ7, hk, hf⟩ := lb0_inv hf
  refine l_X7_save_B51 hC hr (fun H locs ls hw hl => ?_) FUEL 0 σ hk _ _ _ hw (lv_sub hl [1, 0] rfl)
  refine lv_aload_n hx hb dX7_save_85 rfl (lv_at hl 0 rfl) ?_
  refine lv_dup hx hb dX7_save_86 rfl ?_
  obtain ⟨v8, hg, hf⟩ := gfI_inv hf
  refine r_gfI hC hw hg clX7 (Nat.le_of_ble_eq_true rfl) lkF_X7_63 rfl dX7_save_87 ?_
  refine lv_iconst (v := 1) hx hb dX7_save_90 (by decide) ?_
  refine lv_iadd hx hb dX7_save_91 ?_
  obtain ⟨σ9, hg, hf⟩ := pfI_inv hf
  refine r_pfI hC hw hg clX7 (Nat.le_of_ble_eq_true rfl) lkF_X7_63 rfl rfl rfl dX7_save_92 (fun H locs hw => ?_)
  first | (obtain ⟨rfl, rfl⟩ := sp_inv hf) | (obtain rfl := Option.some.inj hf)
  exact W.vret hx hb hr (z_ret hw rfl) hw.2.2.2.2.2 dX7_save_95 hC.2.2.2.2.2.1
set_option maxHeartbeats 4000000 in
set_option maxRecDepth 100000 in
theorem t_X7_save_B10 (hC : zC p l s m args meth c cX7_save 2 RX7 D cA B0) (hr : meth.sig.returnType = (Option.none : Option Jvm.ClassFile.FieldType)) {Γ : zSh} {x0 : Nat} {x1 : Int32} {σ : zSt} {out : ((Int32 × zSt) ⊕ (zSt))} (hf : f_X7_save_B10 Γ x0 x1 σ = some out) {H : Heap} {locs : List Loc} {ls : Array Slot} (hw : zO D cA B0 Γ σ Z s.heap H locs) (hl : lv_has ls 2 [(0, .ref x0), (1, .int x1)])
    (kI : ∀ (z1 : Int32) (σ2 : zSt), out = .inl (z1, σ2) → ∀ (H : Heap) (locs : List Loc) (ls : Array Slot), zO D cA B0 Γ σ2 Z s.heap H locs → lv_has ls 2 [(0, .ref x0), (1, .int z1)] → W p l e rm_X7_save s m args below meth c H locs 0 0 Q (F0 m 10 ls []))
    (kE : ∀ (σ2 : zSt), out = .inr σ2 → ∀ (H : Heap) (locs : List Loc) (ls : Array Slot), zO D cA B0 Γ σ2 Z s.heap H locs → lv_has ls 2 [(0, .ref x0)] → W p l e rm_X7_save s m args below meth c H locs 0 0 Q (F0 m 39 ls [])) :
    W p l e rm_X7_save s m args below meth c H locs 0 0 Q (F0 m 10 ls []) := by
  have hx := hC.1
  have hb := hC.2.1
  unfold f_X7_save_B10 at hf
  refine lv_iload_n hx hb dX7_save_10 rfl (lv_at hl 1 rfl) ?_
  refine lv_sipush (v := 3756) hx hb dX7_save_11 (by decide) ?_
  refine lv_icmp_ge (tgt := 39) hx hb dX7_save_14 (by decide) (fun hc => ?_) (fun hc => ?_)
  · rw [if_pos hc] at hf
    exact kE  σ (Option.some.inj hf).symm _ _ _ hw (lv_sub hl [0] rfl)
  · rw [if_neg hc] at hf
    refine lv_aload_n hx hb dX7_save_17 rfl (lv_at hl 0 rfl) ?_
    obtain ⟨v10, hg, hf⟩ := gfR_inv hf
    refine r_gfR hC hw hg clX7 (Nat.le_of_ble_eq_true rfl) lkF_X7_13 rfl dX7_save_18 ?_
    refine lv_iload_n hx hb dX7_save_21 rfl (lv_at hl 1 rfl) ?_
    refine lv_aload_n hx hb dX7_save_22 rfl (lv_at hl 0 rfl) ?_
    obtain ⟨v11, hg, hf⟩ := gfR_inv hf
    refine r_gfR hC hw hg clX7 (Nat.le_of_ble_eq_true rfl) lkF_X7_13 rfl dX7_save_23 ?_
    refine lv_iload_n hx hb dX7_save_26 rfl (lv_at hl 1 rfl) ?_
    refine lv_sipush (v := 1252) hx hb dX7_save_27 (by decide) ?_
    refine lv_iadd hx hb dX7_save_30 ?_
    obtain ⟨v12, hg, hf⟩ := ldI_inv hf
    refine r_ldI hC hw hg dX7_save_31 ?_
    obtain ⟨σ13, hg, hf⟩ := stI_inv hf
    refine r_stI hC hw hg dX7_save_32 (fun H locs hw => ?_)
    refine lv_iinc (v := (x1 + 1)) (lv' := [(1, .int (x1 + 1)), (0, .ref x0)]) hx hb dX7_save_33 hl (k := 1) rfl rfl (Nat.le_of_ble_eq_true rfl) rfl (fun ls hl => ?_)
    refine lv_goto (tgt := 10) hx hb dX7_save_36 (by decide) ?_
    exact kI (x1 + 1) σ13 (Option.some.inj hf).symm _ _ _ hw (lv_sub hl [1, 0] rfl)
set_option maxHeartbeats 4000000 in
theorem l_X7_save_B10 (hC : zC p l s m args meth c cX7_save 2 RX7 D cA B0) (hr : meth.sig.returnType = (Option.none : Option Jvm.ClassFile.FieldType)) {Γ : zSh} {x0 : Nat} {σ2 : zSt} (kE : ∀ (H : Heap) (locs : List Loc) (ls : Array Slot), zO D cA B0 Γ σ2 Z s.heap H locs → lv_has ls 2 [(0, .ref x0)] → W p l e rm_X7_save s m args below meth c H locs 0 0 Q (F0 m 39 ls [])) :
    ∀ (n : Nat) (x1 : Int32) (σ : zSt), loopM (fun q => f_X7_save_B10 Γ x0 q.1 q.2) n (x1, σ) = some σ2 → ∀ (H : Heap) (locs : List Loc) (ls : Array Slot), zO D cA B0 Γ σ Z s.heap H locs → lv_has ls 2 [(0, .ref x0), (1, .int x1)] → W p l e rm_X7_save s m args below meth c H locs 0 0 Q (F0 m 10 ls []) := by
  intro n
  induction n with
  | zero => intro x1 σ h; exact absurd h (by simp [loopM])
  | succ n ih =>
    intro x1 σ h H locs ls hw hl
    obtain ⟨r, h1, h2, h3⟩ := loopM_inv h
    exact t_X7_save_B10 hC hr h1 hw hl (fun z1 s2 e H locs ls hw hl => ih z1 s2 (h2 _ e) H locs ls hw hl) (fun s2 e H locs ls hw hl => by cases h3 _ e; exact kE H locs ls hw hl)
set_option maxHeartbeats 4000000 in
set_option maxRecDepth 100000 in
theorem m_X7_save (h9 : l.stackTraces = false) {Γ : zSh} {a0 : Nat} {σ : zSt} {r : Unit} {σ2 : zSt} (hf : f_X7_save Γ a0 σ = some (r, σ2)) : Met l yX7_save (wq yX7_save cX7_save 2 (Option.none : Option Jvm.ClassFile.FieldType)) rm_X7_save (zQ0 D cA B0 [.ref a0] Γ σ Z) (zQ1 D cA B0 (none) Γ σ2 Z) 0 0 (FR B0) := by
  refine z_ofW h9 (by decide) (Nat.le_of_ble_eq_true rfl) ?_
  intro p e s m args below meth c ls hC hr _ hw hl
  have hx := hC.1
  have hb := hC.2.1
  have hl : lv_has ls 2 [(0, .ref a0)] := hl
  unfold f_X7_save at hf
  refine lv_aload_n hx hb dX7_save_0 rfl (lv_at hl 0 rfl) ?_
  obtain ⟨v1, hg, hf⟩ := gfI_inv hf
  refine r_gfI hC hw hg clX7 (Nat.le_of_ble_eq_true rfl) lkF_X7_63 rfl dX7_save_1 ?_
  refine lv_iconst (v := 4) hx hb dX7_save_4 (by decide) ?_
  refine lv_icmp_ne (tgt := 49) hx hb dX7_save_5 (by decide) (fun hc => ?_) (fun hc => ?_)
  · rw [if_neg hc] at hf
    exact t_X7_save_L49 hC hr hf hw (lv_sub hl [0] rfl)
  · rw [if_pos hc] at hf
    refine lv_iconst (v := 0) hx hb dX7_save_8 (by decide) ?_
    refine lv_istore_n (lv' := [(1, .int 0), (0, .ref a0)]) hx hb dX7_save_9 rfl hl (Nat.le_of_ble_eq_true rfl) rfl (fun ls hl => ?_)
    obtain ⟨σ14, hk, hf⟩ := lb0_inv hf
    refine l_X7_save_B10 hC hr (fun H locs ls hw hl => ?_) FUEL 0 σ hk _ _ _ hw (lv_sub hl [1, 0] rfl)
    refine lv_aload_n hx hb dX7_save_39 rfl (lv_at hl 0 rfl) ?_
    refine lv_dup hx hb dX7_save_40 rfl ?_
    obtain ⟨v15, hg, hf⟩ := gfI_inv hf
    refine r_gfI hC hw hg clX7 (Nat.le_of_ble_eq_true rfl) lkF_X7_63 rfl dX7_save_41 ?_
    refine lv_iconst (v := 1) hx hb dX7_save_44 (by decide) ?_
    refine lv_isub hx hb dX7_save_45 ?_
    obtain ⟨σ16, hg, hf⟩ := pfI_inv hf
    refine r_pfI hC hw hg clX7 (Nat.le_of_ble_eq_true rfl) lkF_X7_63 rfl rfl rfl dX7_save_46 (fun H locs hw => ?_)
    exact t_X7_save_L49 hC hr hf hw (lv_sub hl [0] rfl)
set_option maxHeartbeats 4000000 in
set_option maxRecDepth 100000 in
theorem m_X7_isSlot (h9 : l.stackTraces = false) {Γ : zSh} {a0 : Int32} {σ : zSt} {r : Int32} {σ2 : zSt} (hf : f_X7_isSlot Γ a0 σ = some (r, σ2)) : Met l yX7_isSlot (wq yX7_isSlot cX7_isSlot 1 (Option.some FieldType.boolean)) rm_X7_isSlot (zQ0 D cA B0 [.int a0] Γ σ Z) (zQ1 D cA B0 (some (.int r)) Γ σ2 Z) 0 0 (FR B0) := by
  refine z_ofW h9 (by decide) (Nat.le_of_ble_eq_true rfl) ?_
  intro p e s m args below meth c ls hC hr _ hw hl
  have hx := hC.1
  have hb := hC.2.1
  have hl : lv_has ls 1 [(0, .int a0)] := hl
  unfold f_X7_isSlot at hf
  refine lv_iload_n hx hb dX7_isSlot_0 rfl (lv_at hl 0 rfl) ?_
  refine lv_i2l hx hb dX7_isSlot_1 rfl ?_
  refine lv_lconst (v := 0) hx hb dX7_isSlot_2 (by decide) ?_
  refine lv_ldc2 (v := 3) hx hb hC.2.2.2.1 (hC.2.2.2.2.1 _ lkJ_X7_66) dX7_isSlot_3 ?_
  obtain ⟨r2, σ1, hk, hf⟩ := bnd_inv hf
  refine z_callS (As := [.long (a0.toInt64), .long 0, .long 3]) (rest := []) (m_X7_in hC.2.2.2.2.2.2.2.2 hk) hC hw wd_X7_in lkM_X7_68 rfl ⟨rfl, rfl⟩ ⟨(Nat.le_of_ble_eq_true rfl), (Nat.le_of_ble_eq_true rfl)⟩ hl.1 rfl (Nat.le_of_ble_eq_true rfl) dX7_isSlot_6 ⟨(Nat.le_of_ble_eq_true rfl), (Nat.le_of_ble_eq_true rfl)⟩ (fun H locs hw => ?_)
  obtain ⟨hz, hf⟩ := chk_inv hf
  first | (obtain ⟨rfl, rfl⟩ := sp_inv hf) | (obtain rfl := Option.some.inj hf)
  exact W.zret hx hb hr (isB_n hz).1 (z_ret hw rfl) hw.2.2.2.2.2 dX7_isSlot_9 hC.2.2.2.2.2.1
set_option maxHeartbeats 4000000 in
set_option maxRecDepth 100000 in
theorem m_X7_isNumber (h9 : l.stackTraces = false) {Γ : zSh} {a0 : Int32} {σ : zSt} {r : Int32} {σ2 : zSt} (hf : f_X7_isNumber Γ a0 σ = some (r, σ2)) : Met l yX7_isNumber (wq yX7_isNumber cX7_isNumber 1 (Option.some FieldType.boolean)) rm_X7_isNumber (zQ0 D cA B0 [.int a0] Γ σ Z) (zQ1 D cA B0 (some (.int r)) Γ σ2 Z) 0 0 (FR B0) := by
  refine z_ofW h9 (by decide) (Nat.le_of_ble_eq_true rfl) ?_
  intro p e s m args below meth c ls hC hr _ hw hl
  have hx := hC.1
  have hb := hC.2.1
  have hl : lv_has ls 1 [(0, .int a0)] := hl
  unfold f_X7_isNumber at hf
  refine lv_iload_n hx hb dX7_isNumber_0 rfl (lv_at hl 0 rfl) ?_
  refine lv_i2l hx hb dX7_isNumber_1 rfl ?_
  refine lv_lconst (v := 0) hx hb dX7_isNumber_2 (by decide) ?_
  refine lv_ldc2 (v := 10006) hx hb hC.2.2.2.1 (hC.2.2.2.2.1 _ lkJ_X7_72) dX7_isNumber_3 ?_
  obtain ⟨r2, σ1, hk, hf⟩ := bnd_inv hf
  refine z_callS (As := [.long (a0.toInt64), .long 0, .long 10006]) (rest := []) (m_X7_in hC.2.2.2.2.2.2.2.2 hk) hC hw wd_X7_in lkM_X7_68 rfl ⟨rfl, rfl⟩ ⟨(Nat.le_of_ble_eq_true rfl), (Nat.le_of_ble_eq_true rfl)⟩ hl.1 rfl (Nat.le_of_ble_eq_true rfl) dX7_isNumber_6 ⟨(Nat.le_of_ble_eq_true rfl), (Nat.le_of_ble_eq_true rfl)⟩ (fun H locs hw => ?_)
  obtain ⟨hz, hf⟩ := chk_inv hf
  first | (obtain ⟨rfl, rfl⟩ := sp_inv hf) | (obtain rfl := Option.some.inj hf)
  exact W.zret hx hb hr (isB_n hz).1 (z_ret hw rfl) hw.2.2.2.2.2 dX7_isNumber_9 hC.2.2.2.2.2.1
set_option maxHeartbeats 4000000 in
set_option maxRecDepth 100000 in
theorem t_X7_power_B7_L31 (hC : zC p l s m args meth c cX7_power 5 RX7 D cA B0) (hr : meth.sig.returnType = (Option.some FieldType.int)) {Γ : zSh} {x3 : Int32} {x4 : Int32} {s0 : Int32}  {σ : zSt} {out : ((Int32 × Int32 × Int32 × zSt) ⊕ (Int32 × zSt))} (hf : f_X7_power_B7_L31 Γ x3 x4 s0 σ = some out) {H : Heap} {locs : List Loc} {ls : Array Slot} (hw : zO D cA B0 Γ σ Z s.heap H locs) (hl : lv_has ls 5 [(3, .int x3), (4, .int x4)])
    (kI : ∀ (z2 : Int32) (z3 : Int32) (z4 : Int32) (σ2 : zSt), out = .inl (z2, z3, z4, σ2) → ∀ (H : Heap) (locs : List Loc) (ls : Array Slot), zO D cA B0 Γ σ2 Z s.heap H locs → lv_has ls 5 [(2, .int z2), (3, .int z3), (4, .int z4)] → W p l e rm_X7_power s m args below meth c H locs 0 0 Q (F0 m 7 ls []))
    (kE : ∀ (z2 : Int32) (σ2 : zSt), out = .inr (z2, σ2) → ∀ (H : Heap) (locs : List Loc) (ls : Array Slot), zO D cA B0 Γ σ2 Z s.heap H locs → lv_has ls 5 [(2, .int z2)] → W p l e rm_X7_power s m args below meth c H locs 0 0 Q (F0 m 49 ls [])) :
    W p l e rm_X7_power s m args below meth c H locs 0 0 Q (F0 m 31 ls [.int s0]) := by
  have hx := hC.1
  have hb := hC.2.1
  unfold f_X7_power_B7_L31 at hf
  refine lv_istore_n (lv' := [(2, .int s0), (3, .int x3), (4, .int x4)]) hx hb dX7_power_31 rfl hl (Nat.le_of_ble_eq_true rfl) rfl (fun ls hl => ?_)
  refine lv_iload_n hx hb dX7_power_32 rfl (lv_at hl 1 rfl) ?_
  refine lv_iload_n hx hb dX7_power_33 rfl (lv_at hl 1 rfl) ?_
  refine lv_imul hx hb dX7_power_34 ?_
  refine lv_sipush (v := 10007) hx hb dX7_power_35 (by decide) ?_
  obtain ⟨v2, hg, hf⟩ := rmI_inv hf
  refine r_rmI hC hg dX7_power_38 ?_
  refine lv_istore_n (lv' := [(3, .int v2), (2, .int s0), (4, .int x4)]) hx hb dX7_power_39 rfl hl (Nat.le_of_ble_eq_true rfl) rfl (fun ls hl => ?_)
  refine lv_iload hx hb dX7_power_40 (lv_at hl 2 rfl) ?_
  refine lv_iconst (v := 2) hx hb dX7_power_42 (by decide) ?_
  obtain ⟨v3, hg, hf⟩ := dvI_inv hf
  refine r_dvI hC hg dX7_power_43 ?_
  refine lv_istore (lv' := [(4, .int v3), (3, .int v2), (2, .int s0)]) hx hb dX7_power_44 hl (Nat.le_of_ble_eq_true rfl) rfl (fun ls hl => ?_)
  refine lv_goto (tgt := 7) hx hb dX7_power_46 (by decide) ?_
  exact kI s0 v2 v3 σ (Option.some.inj hf).symm _ _ _ hw (lv_sub hl [2, 1, 0] rfl)
set_option maxHeartbeats 4000000 in
set_option maxRecDepth 100000 in
theorem t_X7_power_B7 (hC : zC p l s m args meth c cX7_power 5 RX7 D cA B0) (hr : meth.sig.returnType = (Option.some FieldType.int)) {Γ : zSh} {x2 : Int32} {x3 : Int32} {x4 : Int32} {σ : zSt} {out : ((Int32 × Int32 × Int32 × zSt) ⊕ (Int32 × zSt))} (hf : f_X7_power_B7 Γ x2 x3 x4 σ = some out) {H : Heap} {locs : List Loc} {ls : Array Slot} (hw : zO D cA B0 Γ σ Z s.heap H locs) (hl : lv_has ls 5 [(2, .int x2), (3, .int x3), (4, .int x4)])
    (kI : ∀ (z2 : Int32) (z3 : Int32) (z4 : Int32) (σ2 : zSt), out = .inl (z2, z3, z4, σ2) → ∀ (H : Heap) (locs : List Loc) (ls : Array Slot), zO D cA B0 Γ σ2 Z s.heap H locs → lv_has ls 5 [(2, .int z2), (3, .int z3), (4, .int z4)] → W p l e rm_X7_power s m args below meth c H locs 0 0 Q (F0 m 7 ls []))
    (kE : ∀ (z2 : Int32) (σ2 : zSt), out = .inr (z2, σ2) → ∀ (H : Heap) (locs : List Loc) (ls : Array Slot), zO D cA B0 Γ σ2 Z s.heap H locs → lv_has ls 5 [(2, .int z2)] → W p l e rm_X7_power s m args below meth c H locs 0 0 Q (F0 m 49 ls [])) :
    W p l e rm_X7_power s m args below meth c H locs 0 0 Q (F0 m 7 ls []) := by
  have hx := hC.1
  have hb := hC.2.1
  unfold f_X7_power_B7 at hf
  refine lv_iload hx hb dX7_power_7 (lv_at hl 2 rfl) ?_
  refine lv_if_le (tgt := 49) hx hb dX7_power_9 (by decide) (fun hc => ?_) (fun hc => ?_)
  · rw [if_pos hc] at hf
    exact kE x2 σ (Option.some.inj hf).symm _ _ _ hw (lv_sub hl [0] rfl)
  · rw [if_neg hc] at hf
    refine lv_iload hx hb dX7_power_12 (lv_at hl 2 rfl) ?_
    refine lv_iconst (v := 2) hx hb dX7_power_14 (by decide) ?_
    obtain ⟨v1, hg, hf⟩ := rmI_inv hf
    refine r_rmI hC hg dX7_power_15 ?_
    refine lv_iconst (v := 1) hx hb dX7_power_16 (by decide) ?_
    refine lv_icmp_ne (tgt := 30) hx hb dX7_power_17 (by decide) (fun hc => ?_) (fun hc => ?_)
    · rw [if_neg hc] at hf
      refine lv_iload_n hx hb dX7_power_30 rfl (lv_at hl 0 rfl) ?_
      exact t_X7_power_B7_L31 hC hr hf hw (lv_sub hl [1, 2] rfl) kI kE
    · rw [if_pos hc] at hf
      refine lv_iload_n hx hb dX7_power_20 rfl (lv_at hl 0 rfl) ?_
      refine lv_iload_n hx hb dX7_power_21 rfl (lv_at hl 1 rfl) ?_
      refine lv_imul hx hb dX7_power_22 ?_
      refine lv_sipush (v := 10007) hx hb dX7_power_23 (by decide) ?_
      obtain ⟨v4, hg, hf⟩ := rmI_inv hf
      refine r_rmI hC hg dX7_power_26 ?_
      refine lv_goto (tgt := 31) hx hb dX7_power_27 (by decide) ?_
      exact t_X7_power_B7_L31 hC hr hf hw (lv_sub hl [1, 2] rfl) kI kE
set_option maxHeartbeats 4000000 in
theorem l_X7_power_B7 (hC : zC p l s m args meth c cX7_power 5 RX7 D cA B0) (hr : meth.sig.returnType = (Option.some FieldType.int)) {Γ : zSh} {w2 : Int32} {σ2 : zSt} (kE : ∀ (H : Heap) (locs : List Loc) (ls : Array Slot), zO D cA B0 Γ σ2 Z s.heap H locs → lv_has ls 5 [(2, .int w2)] → W p l e rm_X7_power s m args below meth c H locs 0 0 Q (F0 m 49 ls [])) :
    ∀ (n : Nat) (x2 : Int32) (x3 : Int32) (x4 : Int32) (σ : zSt), loopM (fun q => f_X7_power_B7 Γ q.1 q.2.1 q.2.2.1 q.2.2.2) n (x2, x3, x4, σ) = some (w2, σ2) → ∀ (H : Heap) (locs : List Loc) (ls : Array Slot), zO D cA B0 Γ σ Z s.heap H locs → lv_has ls 5 [(2, .int x2), (3, .int x3), (4, .int x4)] → W p l e rm_X7_power s m args below meth c H locs 0 0 Q (F0 m 7 ls []) := by
  intro n
  induction n with
  | zero => intro x2 x3 x4 σ h; exact absurd h (by simp [loopM])
  | succ n ih =>
    intro x2 x3 x4 σ h H locs ls hw hl
    obtain ⟨r, h1, h2, h3⟩ := loopM_inv h
    exact t_X7_power_B7 hC hr h1 hw hl (fun z2 z3 z4 s2 e H locs ls hw hl => ih z2 z3 z4 s2 (h2 _ e) H locs ls hw hl) (fun z2 s2 e H locs ls hw hl => by cases h3 _ e; exact kE H locs ls hw hl)
set_option maxHeartbeats 4000000 in
set_option maxRecDepth 100000 in
theorem m_X7_power (h9 : l.stackTraces = false) {Γ : zSh} {a0 : Int32} {a1 : Int32} {σ : zSt} {r : Int32} {σ2 : zSt} (hf : f_X7_power Γ a0 a1 σ = some (r, σ2)) : Met l yX7_power (wq yX7_power cX7_power 5 (Option.some FieldType.int)) rm_X7_power (zQ0 D cA B0 [.int a0, .int a1] Γ σ Z) (zQ1 D cA B0 (some (.int r)) Γ σ2 Z) 0 0 (FR B0) := by
  refine z_ofW h9 (by decide) (Nat.le_of_ble_eq_true rfl) ?_
  intro p e s m args below meth c ls hC hr _ hw hl
  have hx := hC.1
  have hb := hC.2.1
  have hl : lv_has ls 5 [(0, .int a0), (1, .int a1)] := hl
  unfold f_X7_power at hf
  refine lv_iconst (v := 1) hx hb dX7_power_0 (by decide) ?_
  refine lv_istore_n (lv' := [(2, .int 1), (0, .int a0), (1, .int a1)]) hx hb dX7_power_1 rfl hl (Nat.le_of_ble_eq_true rfl) rfl (fun ls hl => ?_)
  refine lv_iload_n hx hb dX7_power_2 rfl (lv_at hl 1 rfl) ?_
  refine lv_istore_n (lv' := [(3, .int a0), (2, .int 1), (0, .int a0), (1, .int a1)]) hx hb dX7_power_3 rfl hl (Nat.le_of_ble_eq_true rfl) rfl (fun ls hl => ?_)
  refine lv_iload_n hx hb dX7_power_4 rfl (lv_at hl 3 rfl) ?_
  refine lv_istore (lv' := [(4, .int a1), (3, .int a0), (2, .int 1), (0, .int a0), (1, .int a1)]) hx hb dX7_power_5 hl (Nat.le_of_ble_eq_true rfl) rfl (fun ls hl => ?_)
  obtain ⟨w6, σ5, hk, hf⟩ := lb1_inv hf
  refine l_X7_power_B7 hC hr (fun H locs ls hw hl => ?_) FUEL 1 a0 a1 σ hk _ _ _ hw (lv_sub hl [2, 1, 0] rfl)
  refine lv_iload_n hx hb dX7_power_49 rfl (lv_at hl 0 rfl) ?_
  first | (obtain ⟨rfl, rfl⟩ := sp_inv hf) | (obtain rfl := Option.some.inj hf)
  exact W.iret hx hb hr (z_ret hw rfl) hw.2.2.2.2.2 dX7_power_50 hC.2.2.2.2.2.1
end
