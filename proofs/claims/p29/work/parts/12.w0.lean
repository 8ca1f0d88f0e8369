section
variable {p : Program} {l : Launch} {e : Env} {s : State} {m : MethodId} {args : Array Value} {below : List Frame} {meth : Method} {c : Code} {Q : State → Prop} {D : va_G} {cA : Nat → ClassId} {B0 : Nat} {Z : Nat → Prop}
set_option maxHeartbeats 4000000 in
set_option maxRecDepth 100000 in
theorem m_J7_rangeCheck_23922 (h9 : l.stackTraces = false) {Γ : zSh} {a0 : Int32} {a1 : Int32} {a2 : Int32} {σ : zSt} {r : Unit} {σ2 : zSt} (hf : f_J7_rangeCheck_23922 Γ a0 a1 a2 σ = some (r, σ2)) : Met l yJ7_rangeCheck_23922 (wq yJ7_rangeCheck_23922 cJ7_rangeCheck_23922 3 (Option.none : Option Jvm.ClassFile.FieldType)) rm_J7_rangeCheck_23922 (zQ0 D cA B0 [.int a0, .int a1, .int a2] Γ σ Z) (zQ1 D cA B0 (none) Γ σ2 Z) 0 0 (FR B0) := by
  refine z_ofW h9 (by decide) (Nat.le_of_ble_eq_true rfl) ?_
  intro p e s m args below meth c ls hC hr _ hw hl
  have hx := hC.1
  have hb := hC.2.1
  have hl : lv_has ls 3 [(0, .int a0), (1, .int a1), (2, .int a2)] := hl
  unfold f_J7_rangeCheck_23922 at hf
  refine lv_iload_n hx hb dJ7_rangeCheck_23922_0 rfl (lv_at hl 1 rfl) ?_
  refine lv_iload_n hx hb dJ7_rangeCheck_23922_1 rfl (lv_at hl 2 rfl) ?_
  refine lv_icmp_le (tgt := 46) hx hb dJ7_rangeCheck_23922_2 (by decide) (fun hc => ?_) (fun hc => ?_)
  · rw [if_pos hc] at hf
    refine lv_iload_n hx hb dJ7_rangeCheck_23922_46 rfl (lv_at hl 1 rfl) ?_
    refine lv_if_ge (tgt := 59) hx hb dJ7_rangeCheck_23922_47 (by decide) (fun hc => ?_) (fun hc => ?_)
    · rw [if_pos hc] at hf
      refine lv_iload_n hx hb dJ7_rangeCheck_23922_59 rfl (lv_at hl 2 rfl) ?_
      refine lv_iload_n hx hb dJ7_rangeCheck_23922_60 rfl (lv_at hl 0 rfl) ?_
      refine lv_icmp_le (tgt := 73) hx hb dJ7_rangeCheck_23922_61 (by decide) (fun hc => ?_) (fun hc => ?_)
      · rw [if_pos hc] at hf
        first | (obtain ⟨rfl, rfl⟩ := sp_inv hf) | (obtain rfl := Option.some.inj hf)
        exact W.vret hx hb hr (z_ret hw rfl) hw.2.2.2.2.2 dJ7_rangeCheck_23922_73 hC.2.2.2.2.2.1
      · rw [if_neg hc] at hf
        cases hf
    · rw [if_neg hc] at hf
      cases hf
  · rw [if_neg hc] at hf
    cases hf
set_option maxHeartbeats 4000000 in
set_option maxRecDepth 100000 in
theorem t_J7_fill_fda19_B10 (hC : zC p l s m args meth c cJ7_fill_fda19 5 RJ7 D cA B0) (hr : meth.sig.returnType = (Option.none : Option Jvm.ClassFile.FieldType)) {Γ : zSh} {x0 : Nat} {x2 : Int32} {x3 : Int32} {x4 : Int32} {σ : zSt} {out : ((Int32 × zSt) ⊕ (zSt))} (hf : f_J7_fill_fda19_B10 Γ x0 x2 x3 x4 σ = some out) {H : Heap} {locs : List Loc} {ls : Array Slot} (hw : zO D cA B0 Γ σ Z s.heap H locs) (hl : lv_has ls 5 [(0, .ref x0), (2, .int x2), (3, .int x3), (4, .int x4)])
    (kI : ∀ (z4 : Int32) (σ2 : zSt), out = .inl (z4, σ2) → ∀ (H : Heap) (locs : List Loc) (ls : Array Slot), zO D cA B0 Γ σ2 Z s.heap H locs → lv_has ls 5 [(0, .ref x0), (2, .int x2), (3, .int x3), (4, .int z4)] → W p l e rm_J7_fill_fda19 s m args below meth c H locs 0 0 Q (F0 m 10 ls []))
    (kE : ∀ (σ2 : zSt), out = .inr σ2 → ∀ (H : Heap) (locs : List Loc) (ls : Array Slot), zO D cA B0 Γ σ2 Z s.heap H locs → lv_has ls 5 [] → W p l e rm_J7_fill_fda19 s m args below meth c H locs 0 0 Q (F0 m 27 ls [])) :
    W p l e rm_J7_fill_fda19 s m args below meth c H locs 0 0 Q (F0 m 10 ls []) := by
  have hx := hC.1
  have hb := hC.2.1
  unfold f_J7_fill_fda19_B10 at hf
  refine lv_iload hx hb dJ7_fill_fda19_10 (lv_at hl 3 rfl) ?_
  refine lv_iload_n hx hb dJ7_fill_fda19_12 rfl (lv_at hl 1 rfl) ?_
  refine lv_icmp_ge (tgt := 27) hx hb dJ7_fill_fda19_13 (by decide) (fun hc => ?_) (fun hc => ?_)
  · rw [if_pos hc] at hf
    exact kE  σ (Option.some.inj hf).symm _ _ _ hw (lv_sub hl [] rfl)
  · rw [if_neg hc] at hf
    refine lv_aload_n hx hb dJ7_fill_fda19_16 rfl (lv_at hl 0 rfl) ?_
    refine lv_iload hx hb dJ7_fill_fda19_17 (lv_at hl 3 rfl) ?_
    refine lv_iload_n hx hb dJ7_fill_fda19_19 rfl (lv_at hl 2 rfl) ?_
    obtain ⟨σ3, hg, hf⟩ := stI_inv hf
    refine r_stI hC hw hg dJ7_fill_fda19_20 (fun H locs hw => ?_)
    refine lv_iinc (v := (x4 + 1)) (lv' := [(4, .int (x4 + 1)), (0, .ref x0), (2, .int x2), (3, .int x3)]) hx hb dJ7_fill_fda19_21 hl (k := 3) rfl rfl (Nat.le_of_ble_eq_true rfl) rfl (fun ls hl => ?_)
    refine lv_goto (tgt := 10) hx hb dJ7_fill_fda19_24 (by decide) ?_
    exact kI (x4 + 1) σ3 (Option.some.inj hf).symm _ _ _ hw (lv_sub hl [1, 2, 3, 0] rfl)
set_option maxHeartbeats 4000000 in
theorem l_J7_fill_fda19_B10 (hC : zC p l s m args meth c cJ7_fill_fda19 5 RJ7 D cA B0) (hr : meth.sig.returnType = (Option.none : Option Jvm.ClassFile.FieldType)) {Γ : zSh} {x0 : Nat} {x2 : Int32} {x3 : Int32} {σ2 : zSt} (kE : ∀ (H : Heap) (locs : List Loc) (ls : Array Slot), zO D cA B0 Γ σ2 Z s.heap H locs → lv_has ls 5 [] → W p l e rm_J7_fill_fda19 s m args below meth c H locs 0 0 Q (F0 m 27 ls [])) :
    ∀ (n : Nat) (x4 : Int32) (σ : zSt), loopM (fun q => f_J7_fill_fda19_B10 Γ x0 x2 x3 q.1 q.2) n (x4, σ) = some σ2 → ∀ (H : Heap) (locs : List Loc) (ls : Array Slot), zO D cA B0 Γ σ Z s.heap H locs → lv_has ls 5 [(0, .ref x0), (2, .int x2), (3, .int x3), (4, .int x4)] → W p l e rm_J7_fill_fda19 s m args below meth c H locs 0 0 Q (F0 m 10 ls []) := by
  intro n
  induction n with
  | zero => intro x4 σ h; exact absurd h (by simp [loopM])
  | succ n ih =>
    intro x4 σ h H locs ls hw hl
    obtain ⟨r, h1, h2, h3⟩ := loopM_inv h
    exact t_J7_fill_fda19_B10 hC hr h1 hw hl (fun z4 s2 e H locs ls hw hl => ih z4 s2 (h2 _ e) H locs ls hw hl) (fun s2 e H locs ls hw hl => by cases h3 _ e; exact kE H locs ls hw hl)
set_option maxHeartbeats 4000000 in
set_option maxRecDepth 100000 in
theorem m_J7_fill_fda19 (h9 : l.stackTraces = false) {Γ : zSh} {a0 : Nat} {a1 : Int32} {a2 : Int32} {a3 : Int32} {σ : zSt} {r : Unit} {σ2 : zSt} (hf : f_J7_fill_fda19 Γ a0 a1 a2 a3 σ = some (r, σ2)) : Met l yJ7_fill_fda19 (wq yJ7_fill_fda19 cJ7_fill_fda19 5 (Option.none : Option Jvm.ClassFile.FieldType)) rm_J7_fill_fda19 (zQ0 D cA B0 [.ref a0, .int a1, .int a2, .int a3] Γ σ Z) (zQ1 D cA B0 (none) Γ σ2 Z) 0 0 (FR B0) := by
  refine z_ofW h9 (by decide) (Nat.le_of_ble_eq_true rfl) ?_
  intro p e s m args below meth c ls hC hr _ hw hl
  have hx := hC.1
  have hb := hC.2.1
  have hl : lv_has ls 5 [(0, .ref a0), (1, .int a1), (2, .int a2), (3, .int a3)] := hl
  unfold f_J7_fill_fda19 at hf
  refine lv_aload_n hx hb dJ7_fill_fda19_0 rfl (lv_at hl 0 rfl) ?_
  obtain ⟨v1, hg, hf⟩ := alI_inv hf
  refine r_alI hC hw hg dJ7_fill_fda19_1 ?_
  refine lv_iload_n hx hb dJ7_fill_fda19_2 rfl (lv_at hl 1 rfl) ?_
  refine lv_iload_n hx hb dJ7_fill_fda19_3 rfl (lv_at hl 2 rfl) ?_
  obtain ⟨_, σ2, hk, hf⟩ := bnd_inv hf
  refine z_callS (As := [.int v1, .int a1, .int a2]) (rest := []) (m_J7_rangeCheck_23922 hC.2.2.2.2.2.2.2.2 hk) hC hw wd_J7_rangeCheck_23922 lkM_J7_13 rfl ⟨rfl, rfl⟩ ⟨(Nat.le_of_ble_eq_true rfl), (Nat.le_of_ble_eq_true rfl)⟩ hl.1 rfl (Nat.le_of_ble_eq_true rfl) dJ7_fill_fda19_4 ⟨(Nat.le_of_ble_eq_true rfl), (Nat.le_of_ble_eq_true rfl)⟩ (fun H locs hw => ?_)
  refine lv_iload_n hx hb dJ7_fill_fda19_7 rfl (lv_at hl 1 rfl) ?_
  refine lv_istore (lv' := [(4, .int a1), (0, .ref a0), (1, .int a1), (2, .int a2), (3, .int a3)]) hx hb dJ7_fill_fda19_8 hl (Nat.le_of_ble_eq_true rfl) rfl (fun ls hl => ?_)
  obtain ⟨σ4, hk, hf⟩ := lb0_inv hf
  refine l_J7_fill_fda19_B10 hC hr (fun H locs ls hw hl => ?_) FUEL a1 σ2 hk _ _ _ hw (lv_sub hl [1, 3, 4, 0] rfl)
  first | (obtain ⟨rfl, rfl⟩ := sp_inv hf) | (obtain rfl := Option.some.inj hf)
  exact W.vret hx hb hr (z_ret hw rfl) hw.2.2.2.2.2 dJ7_fill_fda19_27 hC.2.2.2.2.2.1
set_option maxHeartbeats 4000000 in
set_option maxRecDepth 100000 in
theorem t_X0_clear_B27 (hC : zC p l s m args meth c cX0_clear 3 RX0 D cA B0) (hr : meth.sig.returnType = (Option.none : Option Jvm.ClassFile.FieldType)) {Γ : zSh} {x0 : Nat} {x1 : Int32} {x2 : Int32} {σ : zSt} {out : ((Int32 × zSt) ⊕ (zSt))} (hf : f_X0_clear_B27 Γ x0 x1 x2 σ = some out) {H : Heap} {locs : List Loc} {ls : Array Slot} (hw : zO D cA B0 Γ σ Z s.heap H locs) (hl : lv_has ls 3 [(0, .ref x0), (1, .int x1), (2, .int x2)])
    (kI : ∀ (z2 : Int32) (σ2 : zSt), out = .inl (z2, σ2) → ∀ (H : Heap) (locs : List Loc) (ls : Array Slot), zO D cA B0 Γ σ2 Z s.heap H locs → lv_has ls 3 [(0, .ref x0), (1, .int x1), (2, .int z2)] → W p l e rm_X0_clear s m args below meth c H locs 0 0 Q (F0 m 27 ls []))
    (kE : ∀ (σ2 : zSt), out = .inr σ2 → ∀ (H : Heap) (locs : List Loc) (ls : Array Slot), zO D cA B0 Γ σ2 Z s.heap H locs → lv_has ls 3 [] → W p l e rm_X0_clear s m args below meth c H locs 0 0 Q (F0 m 52 ls [])) :
    W p l e rm_X0_clear s m args below meth c H locs 0 0 Q (F0 m 27 ls []) := by
  have hx := hC.1
  have hb := hC.2.1
  unfold f_X0_clear_B27 at hf
  refine lv_iload_n hx hb dX0_clear_27 rfl (lv_at hl 2 rfl) ?_
  refine lv_iconst (v := 2) hx hb dX0_clear_28 (by decide) ?_
  refine lv_icmp_ge (tgt := 52) hx hb dX0_clear_29 (by decide) (fun hc => ?_) (fun hc => ?_)
  · rw [if_pos hc] at hf
    exact kE  σ (Option.some.inj hf).symm _ _ _ hw (lv_sub hl [] rfl)
  · rw [if_neg hc] at hf
    refine lv_aload_n hx hb dX0_clear_32 rfl (lv_at hl 0 rfl) ?_
    obtain ⟨v6, hg, hf⟩ := gfR_inv hf
    refine r_gfR hC hw hg clX0 (Nat.le_of_ble_eq_true rfl) lkF_X0_24 rfl dX0_clear_33 ?_
    refine lv_iload_n hx hb dX0_clear_36 rfl (lv_at hl 2 rfl) ?_
    obtain ⟨v7, hg, hf⟩ := ldG_inv hf
    refine r_ldG hC hw hg dX0_clear_37 ?_
    refine lv_iconst (v := 0) hx hb dX0_clear_38 (by decide) ?_
    refine lv_iload_n hx hb dX0_clear_39 rfl (lv_at hl 1 rfl) ?_
    refine lv_iload_n hx hb dX0_clear_40 rfl (lv_at hl 1 rfl) ?_
    refine lv_imul hx hb dX0_clear_41 ?_
    refine lv_iconst (v := 0) hx hb dX0_clear_42 (by decide) ?_
    obtain ⟨_, σ8, hk, hf⟩ := bnd_inv hf
    refine z_callS (As := [.ref v7, .int 0, .int (x1 * x1), .int 0]) (rest := []) (m_J7_fill_fda19 hC.2.2.2.2.2.2.2.2 hk) hC hw wd_J7_fill_fda19 lkM_X0_27 rfl ⟨rfl, rfl⟩ ⟨(Nat.le_of_ble_eq_true rfl), (Nat.le_of_ble_eq_true rfl)⟩ hl.1 rfl (Nat.le_of_ble_eq_true rfl) dX0_clear_43 ⟨(Nat.le_of_ble_eq_true rfl), (Nat.le_of_ble_eq_true rfl)⟩ (fun H locs hw => ?_)
    refine lv_iinc (v := (x2 + 1)) (lv' := [(2, .int (x2 + 1)), (0, .ref x0), (1, .int x1)]) hx hb dX0_clear_46 hl (k := 2) rfl rfl (Nat.le_of_ble_eq_true rfl) rfl (fun ls hl => ?_)
    refine lv_goto (tgt := 27) hx hb dX0_clear_49 (by decide) ?_
    exact kI (x2 + 1) σ8 (Option.some.inj hf).symm _ _ _ hw (lv_sub hl [1, 2, 0] rfl)
set_option maxHeartbeats 4000000 in
theorem l_X0_clear_B27 (hC : zC p l s m args meth c cX0_clear 3 RX0 D cA B0) (hr : meth.sig.returnType = (Option.none : Option Jvm.ClassFile.FieldType)) {Γ : zSh} {x0 : Nat} {x1 : Int32} {σ2 : zSt} (kE : ∀ (H : Heap) (locs : List Loc) (ls : Array Slot), zO D cA B0 Γ σ2 Z s.heap H locs → lv_has ls 3 [] → W p l e rm_X0_clear s m args below meth c H locs 0 0 Q (F0 m 52 ls [])) :
    ∀ (n : Nat) (x2 : Int32) (σ : zSt), loopM (fun q => f_X0_clear_B27 Γ x0 x1 q.1 q.2) n (x2, σ) = some σ2 → ∀ (H : Heap) (locs : List Loc) (ls : Array Slot), zO D cA B0 Γ σ Z s.heap H locs → lv_has ls 3 [(0, .ref x0), (1, .int x1), (2, .int x2)] → W p l e rm_X0_clear s m args below meth c H locs 0 0 Q (F0 m 27 ls []) := by
  intro n
  induction n with
  | zero => intro x2 σ h; exact absurd h (by simp [loopM])
  | succ n ih =>
    intro x2 σ h H locs ls hw hl
    obtain ⟨r, h1, h2, h3⟩ := loopM_inv h
    exact t_X0_clear_B27 hC hr h1 hw hl (fun z2 s2 e H locs ls hw hl => ih z2 s2 (h2 _ e) H locs ls hw hl) (fun s2 e H locs ls hw hl => by cases h3 _ e; exact kE H locs ls hw hl)
set_option maxHeartbeats 4000000 in
set_option maxRecDepth 100000 in
theorem m_X0_clear (h9 : l.stackTraces = false) {Γ : zSh} {a0 : Nat} {a1 : Int32} {σ : zSt} {r : Unit} {σ2 : zSt} (hf : f_X0_clear Γ a0 a1 σ = some (r, σ2)) : Met l yX0_clear (wq yX0_clear cX0_clear 3 (Option.none : Option Jvm.ClassFile.FieldType)) rm_X0_clear (zQ0 D cA B0 [.ref a0, .int a1] Γ σ Z) (zQ1 D cA B0 (none) Γ σ2 Z) 0 0 (FR B0) := by
  refine z_ofW h9 (by decide) (Nat.le_of_ble_eq_true rfl) ?_
  intro p e s m args below meth c ls hC hr _ hw hl
  have hx := hC.1
  have hb := hC.2.1
  have hl : lv_has ls 3 [(0, .ref a0), (1, .int a1)] := hl
  unfold f_X0_clear at hf
  refine lv_aload_n hx hb dX0_clear_0 rfl (lv_at hl 0 rfl) ?_
  refine lv_iload_n hx hb dX0_clear_1 rfl (lv_at hl 1 rfl) ?_
  obtain ⟨σ1, hg, hf⟩ := pfI_inv hf
  refine r_pfI hC hw hg clX0 (Nat.le_of_ble_eq_true rfl) lkF_X0_9 rfl rfl rfl dX0_clear_2 (fun H locs hw => ?_)
  refine lv_aload_n hx hb dX0_clear_5 rfl (lv_at hl 0 rfl) ?_
  obtain ⟨v2, hg, hf⟩ := gfR_inv hf
  refine r_gfR hC hw hg clX0 (Nat.le_of_ble_eq_true rfl) lkF_X0_15 rfl dX0_clear_6 ?_
  refine lv_iconst (v := 0) hx hb dX0_clear_9 (by decide) ?_
  refine lv_iload_n hx hb dX0_clear_10 rfl (lv_at hl 1 rfl) ?_
  refine lv_iconst (v := 0) hx hb dX0_clear_11 (by decide) ?_
  obtain ⟨_, σ3, hk, hf⟩ := bnd_inv hf
  refine z_callS (As := [.ref v2, .int 0, .int a1, .int 0]) (rest := []) (m_J7_fill_fda19 hC.2.2.2.2.2.2.2.2 hk) hC hw wd_J7_fill_fda19 lkM_X0_27 rfl ⟨rfl, rfl⟩ ⟨(Nat.le_of_ble_eq_true rfl), (Nat.le_of_ble_eq_true rfl)⟩ hl.1 rfl (Nat.le_of_ble_eq_true rfl) dX0_clear_12 ⟨(Nat.le_of_ble_eq_true rfl), (Nat.le_of_ble_eq_true rfl)⟩ (fun H locs hw => ?_)
  refine lv_aload_n hx hb dX0_clear_15 rfl (lv_at hl 0 rfl) ?_
  obtain ⟨v4, hg, hf⟩ := gfR_inv hf
  refine r_gfR hC hw hg clX0 (Nat.le_of_ble_eq_true rfl) lkF_X0_19 rfl dX0_clear_16 ?_
  refine lv_iconst (v := 0) hx hb dX0_clear_19 (by decide) ?_
  refine lv_iload_n hx hb dX0_clear_20 rfl (lv_at hl 1 rfl) ?_
  refine lv_iconst (v := 0) hx hb dX0_clear_21 (by decide) ?_
  obtain ⟨_, σ5, hk, hf⟩ := bnd_inv hf
  refine z_callS (As := [.ref v4, .int 0, .int a1, .int 0]) (rest := []) (m_J7_fill_fda19 hC.2.2.2.2.2.2.2.2 hk) hC hw wd_J7_fill_fda19 lkM_X0_27 rfl ⟨rfl, rfl⟩ ⟨(Nat.le_of_ble_eq_true rfl), (Nat.le_of_ble_eq_true rfl)⟩ hl.1 rfl (Nat.le_of_ble_eq_true rfl) dX0_clear_22 ⟨(Nat.le_of_ble_eq_true rfl), (Nat.le_of_ble_eq_true rfl)⟩ (fun H locs hw => ?_)
  refine lv_iconst (v := 0) hx hb dX0_clear_25 (by decide) ?_
  refine lv_istore_n (lv' := [(2, .int 0), (0, .ref a0), (1, .int a1)]) hx hb dX0_clear_26 rfl hl (Nat.le_of_ble_eq_true rfl) rfl (fun ls hl => ?_)
  obtain ⟨σ9, hk, hf⟩ := lb0_inv hf
  refine l_X0_clear_B27 hC hr (fun H locs ls hw hl => ?_) FUEL 0 σ5 hk _ _ _ hw (lv_sub hl [1, 2, 0] rfl)
  first | (obtain ⟨rfl, rfl⟩ := sp_inv hf) | (obtain rfl := Option.some.inj hf)
  exact W.vret hx hb hr (z_ret hw rfl) hw.2.2.2.2.2 dX0_clear_52 hC.2.2.2.2.2.1
set_option maxHeartbeats 4000000 in
set_option maxRecDepth 100000 in
theorem t_X0_copyFrom_B44 (hC : zC p l s m args meth c cX0_copyFrom 3 RX0 D cA B0) (hr : meth.sig.returnType = (Option.none : Option Jvm.ClassFile.FieldType)) {Γ : zSh} {x0 : Nat} {x1 : Nat} {x2 : Int32} {σ : zSt} {out : ((Int32 × zSt) ⊕ (zSt))} (hf : f_X0_copyFrom_B44 Γ x0 x1 x2 σ = some out) {H : Heap} {locs : List Loc} {ls : Array Slot} (hw : zO D cA B0 Γ σ Z s.heap H locs) (hl : lv_has ls 3 [(0, .ref x0), (1, .ref x1), (2, .int x2)])
    (kI : ∀ (z2 : Int32) (σ2 : zSt), out = .inl (z2, σ2) → ∀ (H : Heap) (locs : List Loc) (ls : Array Slot), zO D cA B0 Γ σ2 Z s.heap H locs → lv_has ls 3 [(0, .ref x0), (1, .ref x1), (2, .int z2)] → W p l e rm_X0_copyFrom s m args below meth c H locs 0 0 Q (F0 m 44 ls []))
    (kE : ∀ (σ2 : zSt), out = .inr σ2 → ∀ (H : Heap) (locs : List Loc) (ls : Array Slot), zO D cA B0 Γ σ2 Z s.heap H locs → lv_has ls 3 [] → W p l e rm_X0_copyFrom s m args below meth c H locs 0 0 Q (F0 m 81 ls [])) :
    W p l e rm_X0_copyFrom s m args below meth c H locs 0 0 Q (F0 m 44 ls []) := by
  have hx := hC.1
  have hb := hC.2.1
  unfold f_X0_copyFrom_B44 at hf
  refine lv_iload_n hx hb dX0_copyFrom_44 rfl (lv_at hl 2 rfl) ?_
  refine lv_iconst (v := 2) hx hb dX0_copyFrom_45 (by decide) ?_
  refine lv_icmp_ge (tgt := 81) hx hb dX0_copyFrom_46 (by decide) (fun hc => ?_) (fun hc => ?_)
  · rw [if_pos hc] at hf
    exact kE  σ (Option.some.inj hf).symm _ _ _ hw (lv_sub hl [] rfl)
  · rw [if_neg hc] at hf
    refine lv_aload_n hx hb dX0_copyFrom_49 rfl (lv_at hl 1 rfl) ?_
    obtain ⟨v11, hg, hf⟩ := gfR_inv hf
    refine r_gfR hC hw hg clX0 (Nat.le_of_ble_eq_true rfl) lkF_X0_24 rfl dX0_copyFrom_50 ?_
    refine lv_iload_n hx hb dX0_copyFrom_53 rfl (lv_at hl 2 rfl) ?_
    obtain ⟨v12, hg, hf⟩ := ldG_inv hf
    refine r_ldG hC hw hg dX0_copyFrom_54 ?_
    refine lv_iconst (v := 0) hx hb dX0_copyFrom_55 (by decide) ?_
    refine lv_aload_n hx hb dX0_copyFrom_56 rfl (lv_at hl 0 rfl) ?_
    obtain ⟨v13, hg, hf⟩ := gfR_inv hf
    refine r_gfR hC hw hg clX0 (Nat.le_of_ble_eq_true rfl) lkF_X0_24 rfl dX0_copyFrom_57 ?_
    refine lv_iload_n hx hb dX0_copyFrom_60 rfl (lv_at hl 2 rfl) ?_
    obtain ⟨v14, hg, hf⟩ := ldG_inv hf
    refine r_ldG hC hw hg dX0_copyFrom_61 ?_
    refine lv_iconst (v := 0) hx hb dX0_copyFrom_62 (by decide) ?_
    refine lv_aload_n hx hb dX0_copyFrom_63 rfl (lv_at hl 0 rfl) ?_
    obtain ⟨v15, hg, hf⟩ := gfI_inv hf
    refine r_gfI hC hw hg clX0 (Nat.le_of_ble_eq_true rfl) lkF_X0_9 rfl dX0_copyFrom_64 ?_
    refine lv_aload_n hx hb dX0_copyFrom_67 rfl (lv_at hl 0 rfl) ?_
    obtain ⟨v16, hg, hf⟩ := gfI_inv hf
    refine r_gfI hC hw hg clX0 (Nat.le_of_ble_eq_true rfl) lkF_X0_9 rfl dX0_copyFrom_68 ?_
    refine lv_imul hx hb dX0_copyFrom_71 ?_
    obtain ⟨σ17, hg, hf⟩ := cpI_inv hf
    refine r_cpI hC hw hg hl.1 lkM_X0_33 (Nat.le_of_ble_eq_true rfl) (Nat.le_of_ble_eq_true rfl) dX0_copyFrom_72 (fun H locs hw => ?_)
    refine lv_iinc (v := (x2 + 1)) (lv' := [(2, .int (x2 + 1)), (0, .ref x0), (1, .ref x1)]) hx hb dX0_copyFrom_75 hl (k := 2) rfl rfl (Nat.le_of_ble_eq_true rfl) rfl (fun ls hl => ?_)
    refine lv_goto (tgt := 44) hx hb dX0_copyFrom_78 (by decide) ?_
    exact kI (x2 + 1) σ17 (Option.some.inj hf).symm _ _ _ hw (lv_sub hl [1, 2, 0] rfl)
set_option maxHeartbeats 4000000 in
theorem l_X0_copyFrom_B44 (hC : zC p l s m args meth c cX0_copyFrom 3 RX0 D cA B0) (hr : meth.sig.returnType = (Option.none : Option Jvm.ClassFile.FieldType)) {Γ : zSh} {x0 : Nat} {x1 : Nat} {σ2 : zSt} (kE : ∀ (H : Heap) (locs : List Loc) (ls : Array Slot), zO D cA B0 Γ σ2 Z s.heap H locs → lv_has ls 3 [] → W p l e rm_X0_copyFrom s m args below meth c H locs 0 0 Q (F0 m 81 ls [])) :
    ∀ (n : Nat) (x2 : Int32) (σ : zSt), loopM (fun q => f_X0_copyFrom_B44 Γ x0 x1 q.1 q.2) n (x2, σ) = some σ2 → ∀ (H : Heap) (locs : List Loc) (ls : Array Slot), zO D cA B0 Γ σ Z s.heap H locs → lv_has ls 3 [(0, .ref x0), (1, .ref x1), (2, .int x2)] → W p l e rm_X0_copyFrom s m args below meth c H locs 0 0 Q (F0 m 44 ls []) := by
  intro n
  induction n with
  | zero => intro x2 σ h; exact absurd h (by simp [loopM])
  | succ n ih =>
    intro x2 σ h H locs ls hw hl
    obtain ⟨r, h1, h2, h3⟩ := loopM_inv h
    exact t_X0_copyFrom_B44 hC hr h1 hw hl (fun z2 s2 e H locs ls hw hl => ih z2 s2 (h2 _ e) H locs ls hw hl) (fun s2 e H locs ls hw hl => by cases h3 _ e; exact kE H locs ls hw hl)
set_option maxHeartbeats 4000000 in
set_option maxRecDepth 100000 in
theorem m_X0_copyFrom (h9 : l.stackTraces = false) {Γ : zSh} {a0 : Nat} {a1 : Nat} {σ : zSt} {r : Unit} {σ2 : zSt} (hf : f_X0_copyFrom Γ a0 a1 σ = some (r, σ2)) : Met l yX0_copyFrom (wq yX0_copyFrom cX0_copyFrom 3 (Option.none : Option Jvm.ClassFile.FieldType)) rm_X0_copyFrom (zQ0 D cA B0 [.ref a0, .ref a1] Γ σ Z) (zQ1 D cA B0 (none) Γ σ2 Z) 0 0 (FR B0) := by
  refine z_ofW h9 (by decide) (Nat.le_of_ble_eq_true rfl) ?_
  intro p e s m args below meth c ls hC hr _ hw hl
  have hx := hC.1
  have hb := hC.2.1
  have hl : lv_has ls 3 [(0, .ref a0), (1, .ref a1)] := hl
  unfold f_X0_copyFrom at hf
  refine lv_aload_n hx hb dX0_copyFrom_0 rfl (lv_at hl 0 rfl) ?_
  refine lv_aload_n hx hb dX0_copyFrom_1 rfl (lv_at hl 1 rfl) ?_
  obtain ⟨v1, hg, hf⟩ := gfI_inv hf
  refine r_gfI hC hw hg clX0 (Nat.le_of_ble_eq_true rfl) lkF_X0_9 rfl dX0_copyFrom_2 ?_
  obtain ⟨σ2, hg, hf⟩ := pfI_inv hf
  refine r_pfI hC hw hg clX0 (Nat.le_of_ble_eq_true rfl) lkF_X0_9 rfl rfl rfl dX0_copyFrom_5 (fun H locs hw => ?_)
  refine lv_aload_n hx hb dX0_copyFrom_8 rfl (lv_at hl 1 rfl) ?_
  obtain ⟨v3, hg, hf⟩ := gfR_inv hf
  refine r_gfR hC hw hg clX0 (Nat.le_of_ble_eq_true rfl) lkF_X0_15 rfl dX0_copyFrom_9 ?_
  refine lv_iconst (v := 0) hx hb dX0_copyFrom_12 (by decide) ?_
  refine lv_aload_n hx hb dX0_copyFrom_13 rfl (lv_at hl 0 rfl) ?_
  obtain ⟨v4, hg, hf⟩ := gfR_inv hf
  refine r_gfR hC hw hg clX0 (Nat.le_of_ble_eq_true rfl) lkF_X0_15 rfl dX0_copyFrom_14 ?_
  refine lv_iconst (v := 0) hx hb dX0_copyFrom_17 (by decide) ?_
  refine lv_aload_n hx hb dX0_copyFrom_18 rfl (lv_at hl 0 rfl) ?_
  obtain ⟨v5, hg, hf⟩ := gfI_inv hf
  refine r_gfI hC hw hg clX0 (Nat.le_of_ble_eq_true rfl) lkF_X0_9 rfl dX0_copyFrom_19 ?_
  obtain ⟨σ6, hg, hf⟩ := cpI_inv hf
  refine r_cpI hC hw hg hl.1 lkM_X0_33 (Nat.le_of_ble_eq_true rfl) (Nat.le_of_ble_eq_true rfl) dX0_copyFrom_22 (fun H locs hw => ?_)
  refine lv_aload_n hx hb dX0_copyFrom_25 rfl (lv_at hl 1 rfl) ?_
  obtain ⟨v7, hg, hf⟩ := gfR_inv hf
  refine r_gfR hC hw hg clX0 (Nat.le_of_ble_eq_true rfl) lkF_X0_19 rfl dX0_copyFrom_26 ?_
  refine lv_iconst (v := 0) hx hb dX0_copyFrom_29 (by decide) ?_
  refine lv_aload_n hx hb dX0_copyFrom_30 rfl (lv_at hl 0 rfl) ?_
  obtain ⟨v8, hg, hf⟩ := gfR_inv hf
  refine r_gfR hC hw hg clX0 (Nat.le_of_ble_eq_true rfl) lkF_X0_19 rfl dX0_copyFrom_31 ?_
  refine lv_iconst (v := 0) hx hb dX0_copyFrom_34 (by decide) ?_
  refine lv_aload_n hx hb dX0_copyFrom_35 rfl (lv_at hl 0 rfl) ?_
  obtain ⟨v9, hg, hf⟩ := gfI_inv hf
  refine r_gfI hC hw hg clX0 (Nat.le_of_ble_eq_true rfl) lkF_X0_9 rfl dX0_copyFrom_36 ?_
  obtain ⟨σ10, hg, hf⟩ := cpI_inv hf
  refine r_cpI hC hw hg hl.1 lkM_X0_33 (Nat.le_of_ble_eq_true rfl) (Nat.le_of_ble_eq_true rfl) dX0_copyFrom_39 (fun H locs hw => ?_)
  refine lv_iconst (v := 0) hx hb dX0_copyFrom_42 (by decide) ?_
  refine lv_istore_n (lv' := [(2, .int 0), (0, .ref a0), (1, .ref a1)]) hx hb dX0_copyFrom_43 rfl hl (Nat.le_of_ble_eq_true rfl) rfl (fun ls hl => ?_)
  obtain ⟨σ18, hk, hf⟩ := lb0_inv hf
  refine l_X0_copyFrom_B44 hC hr (fun H locs ls hw hl => ?_) FUEL 0 σ10 hk _ _ _ hw (lv_sub hl [1, 2, 0] rfl)
  first | (obtain ⟨rfl, rfl⟩ := sp_inv hf) | (obtain rfl := Option.some.inj hf)
  exact W.vret hx hb hr (z_ret hw rfl) hw.2.2.2.2.2 dX0_copyFrom_81 hC.2.2.2.2.2.1
set_option maxHeartbeats 4000000 in
set_option maxRecDepth 100000 in
theorem m_X0_nextDraw (h9 : l.stackTraces = false) {Γ : zSh} {a0 : Int64} {σ : zSt} {r : Int64} {σ2 : zSt} (hf : f_X0_nextDraw Γ a0 σ = some (r, σ2)) : Met l yX0_nextDraw (wq yX0_nextDraw cX0_nextDraw 2 (Option.some FieldType.long)) rm_X0_nextDraw (zQ0 D cA B0 [.long a0] Γ σ Z) (zQ1 D cA B0 (some (.long r)) Γ σ2 Z) 0 0 (FR B0) := by
  refine z_ofW h9 (by decide) (Nat.le_of_ble_eq_true rfl) ?_
  intro p e s m args below meth c ls hC hr _ hw hl
  have hx := hC.1
  have hb := hC.2.1
  have hl : lv_has ls 2 [(0, .long a0)] := hl
  unfold f_X0_nextDraw at hf
  refine lv_ldc2 (v := 1103515245) hx hb hC.2.2.2.1 (hC.2.2.2.2.1 _ lkJ_X0_47) dX0_nextDraw_0 ?_
  refine lv_lload_n hx hb dX0_nextDraw_3 rfl (lv_at hl 0 rfl) ?_
  refine lv_lmul hx hb dX0_nextDraw_4 ?_
  refine lv_ldc2 (v := 12345) hx hb hC.2.2.2.1 (hC.2.2.2.2.1 _ lkJ_X0_49) dX0_nextDraw_5 ?_
  refine lv_ladd hx hb dX0_nextDraw_8 ?_
  refine lv_ldc2 (v := 2147483648) hx hb hC.2.2.2.1 (hC.2.2.2.2.1 _ lkJ_X0_51) dX0_nextDraw_9 ?_
  obtain ⟨v1, hg, hf⟩ := rmL_inv hf
  refine r_rmL hC hg dX0_nextDraw_12 ?_
  first | (obtain ⟨rfl, rfl⟩ := sp_inv hf) | (obtain rfl := Option.some.inj hf)
  exact W.lret hx hb hr (z_ret hw rfl) hw.2.2.2.2.2 dX0_nextDraw_13 hC.2.2.2.2.2.1
set_option maxHeartbeats 4000000 in
set_option maxRecDepth 100000 in
theorem m_X0_drawn (h9 : l.stackTraces = false) {Γ : zSh} {a0 : Int64} {σ : zSt} {r : Int32} {σ2 : zSt} (hf : f_X0_drawn Γ a0 σ = some (r, σ2)) : Met l yX0_drawn (wq yX0_drawn cX0_drawn 2 (Option.some FieldType.int)) rm_X0_drawn (zQ0 D cA B0 [.long a0] Γ σ Z) (zQ1 D cA B0 (some (.int r)) Γ σ2 Z) 0 0 (FR B0) := by
  refine z_ofW h9 (by decide) (Nat.le_of_ble_eq_true rfl) ?_
  intro p e s m args below meth c ls hC hr _ hw hl
  have hx := hC.1
  have hb := hC.2.1
  have hl : lv_has ls 2 [(0, .long a0)] := hl
  unfold f_X0_drawn at hf
  refine lv_lload_n hx hb dX0_drawn_0 rfl (lv_at hl 0 rfl) ?_
  refine lv_ldc2 (v := 65536) hx hb hC.2.2.2.1 (hC.2.2.2.2.1 _ lkJ_X0_53) dX0_drawn_1 ?_
  obtain ⟨v1, hg, hf⟩ := dvL_inv hf
  refine r_dvL hC hg dX0_drawn_4 ?_
  refine lv_ldc2 (v := 4) hx hb hC.2.2.2.1 (hC.2.2.2.2.1 _ lkJ_X0_55) dX0_drawn_5 ?_
  obtain ⟨v2, hg, hf⟩ := rmL_inv hf
  refine r_rmL hC hg dX0_drawn_8 ?_
  refine lv_l2i hx hb dX0_drawn_9 rfl ?_
  first | (obtain ⟨rfl, rfl⟩ := sp_inv hf) | (obtain rfl := Option.some.inj hf)
  exact W.iret hx hb hr (z_ret hw rfl) hw.2.2.2.2.2 dX0_drawn_10 hC.2.2.2.2.2.1
set_option maxHeartbeats 4000000 in
set_option maxRecDepth 100000 in
theorem t_X0_draw_B11 (hC : zC p l s m args meth c cX0_draw 7 RX0 D cA B0) (hr : meth.sig.returnType = (Option.none : Option Jvm.ClassFile.FieldType)) {Γ : zSh} {x0 : Nat} {x1 : Int32} {x3 : Int64} {x5 : Int32} {σ : zSt} {out : ((Int64 × Int32 × zSt) ⊕ (Int64 × zSt))} (hf : f_X0_draw_B11 Γ x0 x1 x3 x5 σ = some out) {H : Heap} {locs : List Loc} {ls : Array Slot} (hw : zO D cA B0 Γ σ Z s.heap H locs) (hl : lv_has ls 7 [(0, .ref x0), (1, .int x1), (3, .long x3), (5, .int x5)])
    (kI : ∀ (z3 : Int64) (z5 : Int32) (σ2 : zSt), out = .inl (z3, z5, σ2) → ∀ (H : Heap) (locs : List Loc) (ls : Array Slot), zO D cA B0 Γ σ2 Z s.heap H locs → lv_has ls 7 [(0, .ref x0), (1, .int x1), (3, .long z3), (5, .int z5)] → W p l e rm_X0_draw s m args below meth c H locs 0 0 Q (F0 m 11 ls []))
    (kE : ∀ (z3 : Int64) (σ2 : zSt), out = .inr (z3, σ2) → ∀ (H : Heap) (locs : List Loc) (ls : Array Slot), zO D cA B0 Γ σ2 Z s.heap H locs → lv_has ls 7 [(0, .ref x0), (1, .int x1), (3, .long z3)] → W p l e rm_X0_draw s m args below meth c H locs 0 0 Q (F0 m 55 ls [])) :
    W p l e rm_X0_draw s m args below meth c H locs 0 0 Q (F0 m 11 ls []) := by
  have hx := hC.1
  have hb := hC.2.1
  unfold f_X0_draw_B11 at hf
  refine lv_iload hx hb dX0_draw_11 (lv_at hl 3 rfl) ?_
  refine lv_iload_n hx hb dX0_draw_13 rfl (lv_at hl 1 rfl) ?_
  refine lv_icmp_ge (tgt := 55) hx hb dX0_draw_14 (by decide) (fun hc => ?_) (fun hc => ?_)
  · rw [if_pos hc] at hf
    exact kE x3 σ (Option.some.inj hf).symm _ _ _ hw (lv_sub hl [0, 1, 2] rfl)
  · rw [if_neg hc] at hf
    refine lv_lload_n hx hb dX0_draw_17 rfl (lv_at hl 2 rfl) ?_
    obtain ⟨r3, σ2, hk, hf⟩ := bnd_inv hf
    refine z_callS (As := [.long x3]) (rest := []) (m_X0_nextDraw hC.2.2.2.2.2.2.2.2 hk) hC hw wd_X0_nextDraw lkM_X0_39 rfl ⟨rfl, rfl⟩ ⟨(Nat.le_of_ble_eq_true rfl), (Nat.le_of_ble_eq_true rfl)⟩ hl.1 rfl (Nat.le_of_ble_eq_true rfl) dX0_draw_18 ⟨(Nat.le_of_ble_eq_true rfl), (Nat.le_of_ble_eq_true rfl)⟩ (fun H locs hw => ?_)
    refine lv_lstore_n (lv' := [(3, .long r3), (0, .ref x0), (1, .int x1), (5, .int x5)]) hx hb dX0_draw_21 rfl hl (Nat.le_of_ble_eq_true rfl) rfl (fun ls hl => ?_)
    refine lv_aload_n hx hb dX0_draw_22 rfl (lv_at hl 1 rfl) ?_
    obtain ⟨v4, hg, hf⟩ := gfR_inv hf
    refine r_gfR hC hw hg clX0 (Nat.le_of_ble_eq_true rfl) lkF_X0_15 rfl dX0_draw_23 ?_
    refine lv_iload hx hb dX0_draw_26 (lv_at hl 3 rfl) ?_
    refine lv_lload_n hx hb dX0_draw_28 rfl (lv_at hl 0 rfl) ?_
    obtain ⟨r6, σ5, hk, hf⟩ := bnd_inv hf
    refine z_callS (As := [.long r3]) (rest := [.int x5, .ref v4]) (m_X0_drawn hC.2.2.2.2.2.2.2.2 hk) hC hw wd_X0_drawn lkM_X0_43 rfl ⟨rfl, rfl⟩ ⟨(Nat.le_of_ble_eq_true rfl), (Nat.le_of_ble_eq_true rfl)⟩ hl.1 rfl (Nat.le_of_ble_eq_true rfl) dX0_draw_29 ⟨(Nat.le_of_ble_eq_true rfl), (Nat.le_of_ble_eq_true rfl)⟩ (fun H locs hw => ?_)
    obtain ⟨σ7, hg, hf⟩ := stI_inv hf
    refine r_stI hC hw hg dX0_draw_32 (fun H locs hw => ?_)
    refine lv_lload_n hx hb dX0_draw_33 rfl (lv_at hl 0 rfl) ?_
    obtain ⟨r9, σ8, hk, hf⟩ := bnd_inv hf
    refine z_callS (As := [.long r3]) (rest := []) (m_X0_nextDraw hC.2.2.2.2.2.2.2.2 hk) hC hw wd_X0_nextDraw lkM_X0_39 rfl ⟨rfl, rfl⟩ ⟨(Nat.le_of_ble_eq_true rfl), (Nat.le_of_ble_eq_true rfl)⟩ hl.1 rfl (Nat.le_of_ble_eq_true rfl) dX0_draw_34 ⟨(Nat.le_of_ble_eq_true rfl), (Nat.le_of_ble_eq_true rfl)⟩ (fun H locs hw => ?_)
    refine lv_lstore_n (lv' := [(3, .long r9), (0, .ref x0), (1, .int x1), (5, .int x5)]) hx hb dX0_draw_37 rfl hl (Nat.le_of_ble_eq_true rfl) rfl (fun ls hl => ?_)
    refine lv_aload_n hx hb dX0_draw_38 rfl (lv_at hl 1 rfl) ?_
    obtain ⟨v10, hg, hf⟩ := gfR_inv hf
    refine r_gfR hC hw hg clX0 (Nat.le_of_ble_eq_true rfl) lkF_X0_19 rfl dX0_draw_39 ?_
    refine lv_iload hx hb dX0_draw_42 (lv_at hl 3 rfl) ?_
    refine lv_lload_n hx hb dX0_draw_44 rfl (lv_at hl 0 rfl) ?_
    obtain ⟨r12, σ11, hk, hf⟩ := bnd_inv hf
    refine z_callS (As := [.long r9]) (rest := [.int x5, .ref v10]) (m_X0_drawn hC.2.2.2.2.2.2.2.2 hk) hC hw wd_X0_drawn lkM_X0_43 rfl ⟨rfl, rfl⟩ ⟨(Nat.le_of_ble_eq_true rfl), (Nat.le_of_ble_eq_true rfl)⟩ hl.1 rfl (Nat.le_of_ble_eq_true rfl) dX0_draw_45 ⟨(Nat.le_of_ble_eq_true rfl), (Nat.le_of_ble_eq_true rfl)⟩ (fun H locs hw => ?_)
    obtain ⟨σ13, hg, hf⟩ := stI_inv hf
    refine r_stI hC hw hg dX0_draw_48 (fun H locs hw => ?_)
    refine lv_iinc (v := (x5 + 1)) (lv' := [(5, .int (x5 + 1)), (3, .long r9), (0, .ref x0), (1, .int x1)]) hx hb dX0_draw_49 hl (k := 3) rfl rfl (Nat.le_of_ble_eq_true rfl) rfl (fun ls hl => ?_)
    refine lv_goto (tgt := 11) hx hb dX0_draw_52 (by decide) ?_
    exact kI r9 (x5 + 1) σ13 (Option.some.inj hf).symm _ _ _ hw (lv_sub hl [2, 3, 1, 0] rfl)
set_option maxHeartbeats 4000000 in
theorem l_X0_draw_B11 (hC : zC p l s m args meth c cX0_draw 7 RX0 D cA B0) (hr : meth.sig.returnType = (Option.none : Option Jvm.ClassFile.FieldType)) {Γ : zSh} {x0 : Nat} {x1 : Int32} {w3 : Int64} {σ2 : zSt} (kE : ∀ (H : Heap) (locs : List Loc) (ls : Array Slot), zO D cA B0 Γ σ2 Z s.heap H locs → lv_has ls 7 [(0, .ref x0), (1, .int x1), (3, .long w3)] → W p l e rm_X0_draw s m args below meth c H locs 0 0 Q (F0 m 55 ls [])) :
    ∀ (n : Nat) (x3 : Int64) (x5 : Int32) (σ : zSt), loopM (fun q => f_X0_draw_B11 Γ x0 x1 q.1 q.2.1 q.2.2) n (x3, x5, σ) = some (w3, σ2) → ∀ (H : Heap) (locs : List Loc) (ls : Array Slot), zO D cA B0 Γ σ Z s.heap H locs → lv_has ls 7 [(0, .ref x0), (1, .int x1), (3, .long x3), (5, .int x5)] → W p l e rm_X0_draw s m args below meth c H locs 0 0 Q (F0 m 11 ls []) := by
  intro n
  induction n with
  | zero => intro x3 x5 σ h; exact absurd h (by simp [loopM])
  | succ n ih =>
    intro x3 x5 σ h H locs ls hw hl
    obtain ⟨r, h1, h2, h3⟩ := loopM_inv h
    exact t_X0_draw_B11 hC hr h1 hw hl (fun z3 z5 s2 e H locs ls hw hl => ih z3 z5 s2 (h2 _ e) H locs ls hw hl) (fun z3 s2 e H locs ls hw hl => by cases h3 _ e; exact kE H locs ls hw hl)
set_option maxHeartbeats 4000000 in
set_option maxRecDepth 100000 in
theorem t_X0_draw_B67 (hC : zC p l s m args meth c cX0_draw 7 RX0 D cA B0) (hr : meth.sig.returnType = (Option.none : Option Jvm.ClassFile.FieldType)) {Γ : zSh} {x0 : Nat} {x1 : Int32} {x5 : Int32} {x3 : Int64} {x6 : Int32} {σ : zSt} {out : ((Int64 × Int32 × zSt) ⊕ (Int64 × zSt))} (hf : f_X0_draw_B67 Γ x0 x1 x5 x3 x6 σ = some out) {H : Heap} {locs : List Loc} {ls : Array Slot} (hw : zO D cA B0 Γ σ Z s.heap H locs) (hl : lv_has ls 7 [(0, .ref x0), (1, .int x1), (3, .long x3), (5, .int x5), (6, .int x6)])
    (kI : ∀ (z3 : Int64) (z6 : Int32) (σ2 : zSt), out = .inl (z3, z6, σ2) → ∀ (H : Heap) (locs : List Loc) (ls : Array Slot), zO D cA B0 Γ σ2 Z s.heap H locs → lv_has ls 7 [(0, .ref x0), (1, .int x1), (3, .long z3), (5, .int x5), (6, .int z6)] → W p l e rm_X0_draw s m args below meth c H locs 0 0 Q (F0 m 67 ls []))
    (kE : ∀ (z3 : Int64) (σ2 : zSt), out = .inr (z3, σ2) → ∀ (H : Heap) (locs : List Loc) (ls : Array Slot), zO D cA B0 Γ σ2 Z s.heap H locs → lv_has ls 7 [(0, .ref x0), (1, .int x1), (3, .long z3), (5, .int x5)] → W p l e rm_X0_draw s m args below meth c H locs 0 0 Q (F0 m 100 ls [])) :
    W p l e rm_X0_draw s m args below meth c H locs 0 0 Q (F0 m 67 ls []) := by
  have hx := hC.1
  have hb := hC.2.1
  unfold f_X0_draw_B67 at hf
  refine lv_iload hx hb dX0_draw_67 (lv_at hl 4 rfl) ?_
  refine lv_iload_n hx hb dX0_draw_69 rfl (lv_at hl 1 rfl) ?_
  refine lv_iload_n hx hb dX0_draw_70 rfl (lv_at hl 1 rfl) ?_
  refine lv_imul hx hb dX0_draw_71 ?_
  refine lv_icmp_ge (tgt := 100) hx hb dX0_draw_72 (by decide) (fun hc => ?_) (fun hc => ?_)
  · rw [if_pos hc] at hf
    exact kE x3 σ (Option.some.inj hf).symm _ _ _ hw (lv_sub hl [0, 1, 2, 3] rfl)
  · rw [if_neg hc] at hf
    refine lv_lload_n hx hb dX0_draw_75 rfl (lv_at hl 2 rfl) ?_
    obtain ⟨r17, σ16, hk, hf⟩ := bnd_inv hf
    refine z_callS (As := [.long x3]) (rest := []) (m_X0_nextDraw hC.2.2.2.2.2.2.2.2 hk) hC hw wd_X0_nextDraw lkM_X0_39 rfl ⟨rfl, rfl⟩ ⟨(Nat.le_of_ble_eq_true rfl), (Nat.le_of_ble_eq_true rfl)⟩ hl.1 rfl (Nat.le_of_ble_eq_true rfl) dX0_draw_76 ⟨(Nat.le_of_ble_eq_true rfl), (Nat.le_of_ble_eq_true rfl)⟩ (fun H locs hw => ?_)
    refine lv_lstore_n (lv' := [(3, .long r17), (0, .ref x0), (1, .int x1), (5, .int x5), (6, .int x6)]) hx hb dX0_draw_79 rfl hl (Nat.le_of_ble_eq_true rfl) rfl (fun ls hl => ?_)
    refine lv_aload_n hx hb dX0_draw_80 rfl (lv_at hl 1 rfl) ?_
    obtain ⟨v18, hg, hf⟩ := gfR_inv hf
    refine r_gfR hC hw hg clX0 (Nat.le_of_ble_eq_true rfl) lkF_X0_24 rfl dX0_draw_81 ?_
    refine lv_iload hx hb dX0_draw_84 (lv_at hl 3 rfl) ?_
    obtain ⟨v19, hg, hf⟩ := ldG_inv hf
    refine r_ldG hC hw hg dX0_draw_86 ?_
    refine lv_iload hx hb dX0_draw_87 (lv_at hl 4 rfl) ?_
    refine lv_lload_n hx hb dX0_draw_89 rfl (lv_at hl 0 rfl) ?_
    obtain ⟨r21, σ20, hk, hf⟩ := bnd_inv hf
    refine z_callS (As := [.long r17]) (rest := [.int x6, .ref v19]) (m_X0_drawn hC.2.2.2.2.2.2.2.2 hk) hC hw wd_X0_drawn lkM_X0_43 rfl ⟨rfl, rfl⟩ ⟨(Nat.le_of_ble_eq_true rfl), (Nat.le_of_ble_eq_true rfl)⟩ hl.1 rfl (Nat.le_of_ble_eq_true rfl) dX0_draw_90 ⟨(Nat.le_of_ble_eq_true rfl), (Nat.le_of_ble_eq_true rfl)⟩ (fun H locs hw => ?_)
    obtain ⟨σ22, hg, hf⟩ := stI_inv hf
    refine r_stI hC hw hg dX0_draw_93 (fun H locs hw => ?_)
    refine lv_iinc (v := (x6 + 1)) (lv' := [(6, .int (x6 + 1)), (3, .long r17), (0, .ref x0), (1, .int x1), (5, .int x5)]) hx hb dX0_draw_94 hl (k := 4) rfl rfl (Nat.le_of_ble_eq_true rfl) rfl (fun ls hl => ?_)
    refine lv_goto (tgt := 67) hx hb dX0_draw_97 (by decide) ?_
    exact kI r17 (x6 + 1) σ22 (Option.some.inj hf).symm _ _ _ hw (lv_sub hl [2, 3, 1, 4, 0] rfl)
set_option maxHeartbeats 4000000 in
theorem l_X0_draw_B67 (hC : zC p l s m args meth c cX0_draw 7 RX0 D cA B0) (hr : meth.sig.returnType = (Option.none : Option Jvm.ClassFile.FieldType)) {Γ : zSh} {x0 : Nat} {x1 : Int32} {x5 : Int32} {w3 : Int64} {σ2 : zSt} (kE : ∀ (H : Heap) (locs : List Loc) (ls : Array Slot), zO D cA B0 Γ σ2 Z s.heap H locs → lv_has ls 7 [(0, .ref x0), (1, .int x1), (3, .long w3), (5, .int x5)] → W p l e rm_X0_draw s m args below meth c H locs 0 0 Q (F0 m 100 ls [])) :
    ∀ (n : Nat) (x3 : Int64) (x6 : Int32) (σ : zSt), loopM (fun q => f_X0_draw_B67 Γ x0 x1 x5 q.1 q.2.1 q.2.2) n (x3, x6, σ) = some (w3, σ2) → ∀ (H : Heap) (locs : List Loc) (ls : Array Slot), zO D cA B0 Γ σ Z s.heap H locs → lv_has ls 7 [(0, .ref x0), (1, .int x1), (3, .long x3), (5, .int x5), (6, .int x6)] → W p l e rm_X0_draw s m args below meth c H locs 0 0 Q (F0 m 67 ls []) := by
  intro n
  induction n with
  | zero => intro x3 x6 σ h; exact absurd h (by simp [loopM])
  | succ n ih =>
    intro x3 x6 σ h H locs ls hw hl
    obtain ⟨r, h1, h2, h3⟩ := loopM_inv h
    exact t_X0_draw_B67 hC hr h1 hw hl (fun z3 z6 s2 e H locs ls hw hl => ih z3 z6 s2 (h2 _ e) H locs ls hw hl) (fun z3 s2 e H locs ls hw hl => by cases h3 _ e; exact kE H locs ls hw hl)
set_option maxHeartbeats 4000000 in
set_option maxRecDepth 100000 in
theorem t_X0_draw_B58 (hC : zC p l s m args meth c cX0_draw 7 RX0 D cA B0) (hr : meth.sig.returnType = (Option.none : Option Jvm.ClassFile.FieldType)) {Γ : zSh} {x0 : Nat} {x1 : Int32} {x3 : Int64} {x5 : Int32} {σ : zSt} {out : ((Int64 × Int32 × zSt) ⊕ (zSt))} (hf : f_X0_draw_B58 Γ x0 x1 x3 x5 σ = some out) {H : Heap} {locs : List Loc} {ls : Array Slot} (hw : zO D cA B0 Γ σ Z s.heap H locs) (hl : lv_has ls 7 [(0, .ref x0), (1, .int x1), (3, .long x3), (5, .int x5)])
    (kI : ∀ (z3 : Int64) (z5 : Int32) (σ2 : zSt), out = .inl (z3, z5, σ2) → ∀ (H : Heap) (locs : List Loc) (ls : Array Slot), zO D cA B0 Γ σ2 Z s.heap H locs → lv_has ls 7 [(0, .ref x0), (1, .int x1), (3, .long z3), (5, .int z5)] → W p l e rm_X0_draw s m args below meth c H locs 0 0 Q (F0 m 58 ls []))
    (kE : ∀ (σ2 : zSt), out = .inr σ2 → ∀ (H : Heap) (locs : List Loc) (ls : Array Slot), zO D cA B0 Γ σ2 Z s.heap H locs → lv_has ls 7 [] → W p l e rm_X0_draw s m args below meth c H locs 0 0 Q (F0 m 106 ls [])) :
    W p l e rm_X0_draw s m args below meth c H locs 0 0 Q (F0 m 58 ls []) := by
  have hx := hC.1
  have hb := hC.2.1
  unfold f_X0_draw_B58 at hf
  refine lv_iload hx hb dX0_draw_58 (lv_at hl 3 rfl) ?_
  refine lv_iconst (v := 2) hx hb dX0_draw_60 (by decide) ?_
  refine lv_icmp_ge (tgt := 106) hx hb dX0_draw_61 (by decide) (fun hc => ?_) (fun hc => ?_)
  · rw [if_pos hc] at hf
    exact kE  σ (Option.some.inj hf).symm _ _ _ hw (lv_sub hl [] rfl)
  · rw [if_neg hc] at hf
    refine lv_iconst (v := 0) hx hb dX0_draw_64 (by decide) ?_
    refine lv_istore (lv' := [(6, .int 0), (0, .ref x0), (1, .int x1), (3, .long x3), (5, .int x5)]) hx hb dX0_draw_65 hl (Nat.le_of_ble_eq_true rfl) rfl (fun ls hl => ?_)
    obtain ⟨w24, σ23, hk, hf⟩ := lb1_inv hf
    refine l_X0_draw_B67 hC hr (fun H locs ls hw hl => ?_) FUEL x3 0 σ hk _ _ _ hw (lv_sub hl [1, 2, 3, 4, 0] rfl)
    refine lv_iinc (v := (x5 + 1)) (lv' := [(5, .int (x5 + 1)), (0, .ref x0), (1, .int x1), (3, .long w24)]) hx hb dX0_draw_100 hl (k := 3) rfl rfl (Nat.le_of_ble_eq_true rfl) rfl (fun ls hl => ?_)
    refine lv_goto (tgt := 58) hx hb dX0_draw_103 (by decide) ?_
    exact kI w24 (x5 + 1) σ23 (Option.some.inj hf).symm _ _ _ hw (lv_sub hl [1, 2, 3, 0] rfl)
set_option maxHeartbeats 4000000 in
theorem l_X0_draw_B58 (hC : zC p l s m args meth c cX0_draw 7 RX0 D cA B0) (hr : meth.sig.returnType = (Option.none : Option Jvm.ClassFile.FieldType)) {Γ : zSh} {x0 : Nat} {x1 : Int32} {σ2 : zSt} (kE : ∀ (H : Heap) (locs : List Loc) (ls : Array Slot), zO D cA B0 Γ σ2 Z s.heap H locs → lv_has ls 7 [] → W p l e rm_X0_draw s m args below meth c H locs 0 0 Q (F0 m 106 ls [])) :
    ∀ (n : Nat) (x3 : Int64) (x5 : Int32) (σ : zSt), loopM (fun q => f_X0_draw_B58 Γ x0 x1 q.1 q.2.1 q.2.2) n (x3, x5, σ) = some σ2 → ∀ (H : Heap) (locs : List Loc) (ls : Array Slot), zO D cA B0 Γ σ Z s.heap H locs → lv_has ls 7 [(0, .ref x0), (1, .int x1), (3, .long x3), (5, .int x5)] → W p l e rm_X0_draw s m args below meth c H locs 0 0 Q (F0 m 58 ls []) := by
  intro n
  induction n with
  | zero => intro x3 x5 σ h; exact absurd h (by simp [loopM])
  | succ n ih =>
    intro x3 x5 σ h H locs ls hw hl
    obtain ⟨r, h1, h2, h3⟩ := loopM_inv h
    exact t_X0_draw_B58 hC hr h1 hw hl (fun z3 z5 s2 e H locs ls hw hl => ih z3 z5 s2 (h2 _ e) H locs ls hw hl) (fun s2 e H locs ls hw hl => by cases h3 _ e; exact kE H locs ls hw hl)
set_option maxHeartbeats 4000000 in
set_option maxRecDepth 100000 in
theorem m_X0_draw (h9 : l.stackTraces = false) {Γ : zSh} {a0 : Nat} {a1 : Int32} {a2 : Int32} {σ : zSt} {r : Unit} {σ2 : zSt} (hf : f_X0_draw Γ a0 a1 a2 σ = some (r, σ2)) : Met l yX0_draw (wq yX0_draw cX0_draw 7 (Option.none : Option Jvm.ClassFile.FieldType)) rm_X0_draw (zQ0 D cA B0 [.ref a0, .int a1, .int a2] Γ σ Z) (zQ1 D cA B0 (none) Γ σ2 Z) 0 0 (FR B0) := by
  refine z_ofW h9 (by decide) (Nat.le_of_ble_eq_true rfl) ?_
  intro p e s m args below meth c ls hC hr _ hw hl
  have hx := hC.1
  have hb := hC.2.1
  have hl : lv_has ls 7 [(0, .ref a0), (1, .int a1), (2, .int a2)] := hl
  unfold f_X0_draw at hf
  refine lv_aload_n hx hb dX0_draw_0 rfl (lv_at hl 0 rfl) ?_
  refine lv_iload_n hx hb dX0_draw_1 rfl (lv_at hl 1 rfl) ?_
  obtain ⟨σ1, hg, hf⟩ := pfI_inv hf
  refine r_pfI hC hw hg clX0 (Nat.le_of_ble_eq_true rfl) lkF_X0_9 rfl rfl rfl dX0_draw_2 (fun H locs hw => ?_)
  refine lv_iload_n hx hb dX0_draw_5 rfl (lv_at hl 2 rfl) ?_
  refine lv_i2l hx hb dX0_draw_6 rfl ?_
  refine lv_lstore_n (lv' := [(3, .long (a2.toInt64)), (0, .ref a0), (1, .int a1), (2, .int a2)]) hx hb dX0_draw_7 rfl hl (Nat.le_of_ble_eq_true rfl) rfl (fun ls hl => ?_)
  refine lv_iconst (v := 0) hx hb dX0_draw_8 (by decide) ?_
  refine lv_istore (lv' := [(5, .int 0), (3, .long (a2.toInt64)), (0, .ref a0), (1, .int a1), (2, .int a2)]) hx hb dX0_draw_9 hl (Nat.le_of_ble_eq_true rfl) rfl (fun ls hl => ?_)
  obtain ⟨w15, σ14, hk, hf⟩ := lb1_inv hf
  refine l_X0_draw_B11 hC hr (fun H locs ls hw hl => ?_) FUEL (a2.toInt64) 0 σ1 hk _ _ _ hw (lv_sub hl [2, 3, 1, 0] rfl)
  refine lv_iconst (v := 0) hx hb dX0_draw_55 (by decide) ?_
  refine lv_istore (lv' := [(5, .int 0), (0, .ref a0), (1, .int a1), (3, .long w15)]) hx hb dX0_draw_56 hl (Nat.le_of_ble_eq_true rfl) rfl (fun ls hl => ?_)
  obtain ⟨σ25, hk, hf⟩ := lb0_inv hf
  refine l_X0_draw_B58 hC hr (fun H locs ls hw hl => ?_) FUEL w15 0 σ14 hk _ _ _ hw (lv_sub hl [1, 2, 3, 0] rfl)
  first | (obtain ⟨rfl, rfl⟩ := sp_inv hf) | (obtain rfl := Option.some.inj hf)
  exact W.vret hx hb hr (z_ret hw rfl) hw.2.2.2.2.2 dX0_draw_106 hC.2.2.2.2.2.1
set_option maxHeartbeats 4000000 in
set_option maxRecDepth 100000 in
theorem t_X0_placeBlock_B45 (hC : zC p l s m args meth c cX0_placeBlock 6 RX0 D cA B0) (hr : meth.sig.returnType = (Option.none : Option Jvm.ClassFile.FieldType)) {Γ : zSh} {x0 : Nat} {x1 : Nat} {x2 : Int32} {x3 : Int32} {x4 : Int32} {x5 : Int32} {σ : zSt} {out : ((Int32 × zSt) ⊕ (zSt))} (hf : f_X0_placeBlock_B45 Γ x0 x1 x2 x3 x4 x5 σ = some out) {H : Heap} {locs : List Loc} {ls : Array Slot} (hw : zO D cA B0 Γ σ Z s.heap H locs) (hl : lv_has ls 6 [(0, .ref x0), (1, .ref x1), (2, .int x2), (3, .int x3), (4, .int x4), (5, .int x5)])
    (kI : ∀ (z5 : Int32) (σ2 : zSt), out = .inl (z5, σ2) → ∀ (H : Heap) (locs : List Loc) (ls : Array Slot), zO D cA B0 Γ σ2 Z s.heap H locs → lv_has ls 6 [(0, .ref x0), (1, .ref x1), (2, .int x2), (3, .int x3), (4, .int x4), (5, .int z5)] → W p l e rm_X0_placeBlock s m args below meth c H locs 0 0 Q (F0 m 45 ls []))
    (kE : ∀ (σ2 : zSt), out = .inr σ2 → ∀ (H : Heap) (locs : List Loc) (ls : Array Slot), zO D cA B0 Γ σ2 Z s.heap H locs → lv_has ls 6 [(0, .ref x0), (1, .ref x1), (2, .int x2), (3, .int x3), (4, .int x4)] → W p l e rm_X0_placeBlock s m args below meth c H locs 0 0 Q (F0 m 90 ls [])) :
    W p l e rm_X0_placeBlock s m args below meth c H locs 0 0 Q (F0 m 45 ls []) := by
  have hx := hC.1
  have hb := hC.2.1
  unfold f_X0_placeBlock_B45 at hf
  refine lv_iload hx hb dX0_placeBlock_45 (lv_at hl 5 rfl) ?_
  refine lv_iload_n hx hb dX0_placeBlock_47 rfl (lv_at hl 3 rfl) ?_
  refine lv_icmp_ge (tgt := 90) hx hb dX0_placeBlock_48 (by decide) (fun hc => ?_) (fun hc => ?_)
  · rw [if_pos hc] at hf
    exact kE  σ (Option.some.inj hf).symm _ _ _ hw (lv_sub hl [0, 1, 2, 3, 4] rfl)
  · rw [if_neg hc] at hf
    refine lv_aload_n hx hb dX0_placeBlock_51 rfl (lv_at hl 1 rfl) ?_
    obtain ⟨v8, hg, hf⟩ := gfR_inv hf
    refine r_gfR hC hw hg clX0 (Nat.le_of_ble_eq_true rfl) lkF_X0_24 rfl dX0_placeBlock_52 ?_
    refine lv_iload hx hb dX0_placeBlock_55 (lv_at hl 4 rfl) ?_
    obtain ⟨v9, hg, hf⟩ := ldG_inv hf
    refine r_ldG hC hw hg dX0_placeBlock_57 ?_
    refine lv_iload hx hb dX0_placeBlock_58 (lv_at hl 5 rfl) ?_
    refine lv_iload_n hx hb dX0_placeBlock_60 rfl (lv_at hl 3 rfl) ?_
    refine lv_imul hx hb dX0_placeBlock_61 ?_
    refine lv_aload_n hx hb dX0_placeBlock_62 rfl (lv_at hl 0 rfl) ?_
    obtain ⟨v10, hg, hf⟩ := gfR_inv hf
    refine r_gfR hC hw hg clX0 (Nat.le_of_ble_eq_true rfl) lkF_X0_24 rfl dX0_placeBlock_63 ?_
    refine lv_iload hx hb dX0_placeBlock_66 (lv_at hl 4 rfl) ?_
    obtain ⟨v11, hg, hf⟩ := ldG_inv hf
    refine r_ldG hC hw hg dX0_placeBlock_68 ?_
    refine lv_iload_n hx hb dX0_placeBlock_69 rfl (lv_at hl 2 rfl) ?_
    refine lv_iload hx hb dX0_placeBlock_70 (lv_at hl 5 rfl) ?_
    refine lv_iadd hx hb dX0_placeBlock_72 ?_
    refine lv_aload_n hx hb dX0_placeBlock_73 rfl (lv_at hl 0 rfl) ?_
    obtain ⟨v12, hg, hf⟩ := gfI_inv hf
    refine r_gfI hC hw hg clX0 (Nat.le_of_ble_eq_true rfl) lkF_X0_9 rfl dX0_placeBlock_74 ?_
    refine lv_imul hx hb dX0_placeBlock_77 ?_
    refine lv_iload_n hx hb dX0_placeBlock_78 rfl (lv_at hl 2 rfl) ?_
    refine lv_iadd hx hb dX0_placeBlock_79 ?_
    refine lv_iload_n hx hb dX0_placeBlock_80 rfl (lv_at hl 3 rfl) ?_
    obtain ⟨σ13, hg, hf⟩ := cpI_inv hf
    refine r_cpI hC hw hg hl.1 lkM_X0_33 (Nat.le_of_ble_eq_true rfl) (Nat.le_of_ble_eq_true rfl) dX0_placeBlock_81 (fun H locs hw => ?_)
    refine lv_iinc (v := (x5 + 1)) (lv' := [(5, .int (x5 + 1)), (0, .ref x0), (1, .ref x1), (2, .int x2), (3, .int x3), (4, .int x4)]) hx hb dX0_placeBlock_84 hl (k := 5) rfl rfl (Nat.le_of_ble_eq_true rfl) rfl (fun ls hl => ?_)
    refine lv_goto (tgt := 45) hx hb dX0_placeBlock_87 (by decide) ?_
    exact kI (x5 + 1) σ13 (Option.some.inj hf).symm _ _ _ hw (lv_sub hl [1, 2, 3, 4, 5, 0] rfl)
set_option maxHeartbeats 4000000 in
theorem l_X0_placeBlock_B45 (hC : zC p l s m args meth c cX0_placeBlock 6 RX0 D cA B0) (hr : meth.sig.returnType = (Option.none : Option Jvm.ClassFile.FieldType)) {Γ : zSh} {x0 : Nat} {x1 : Nat} {x2 : Int32} {x3 : Int32} {x4 : Int32} {σ2 : zSt} (kE : ∀ (H : Heap) (locs : List Loc) (ls : Array Slot), zO D cA B0 Γ σ2 Z s.heap H locs → lv_has ls 6 [(0, .ref x0), (1, .ref x1), (2, .int x2), (3, .int x3), (4, .int x4)] → W p l e rm_X0_placeBlock s m args below meth c H locs 0 0 Q (F0 m 90 ls [])) :
    ∀ (n : Nat) (x5 : Int32) (σ : zSt), loopM (fun q => f_X0_placeBlock_B45 Γ x0 x1 x2 x3 x4 q.1 q.2) n (x5, σ) = some σ2 → ∀ (H : Heap) (locs : List Loc) (ls : Array Slot), zO D cA B0 Γ σ Z s.heap H locs → lv_has ls 6 [(0, .ref x0), (1, .ref x1), (2, .int x2), (3, .int x3), (4, .int x4), (5, .int x5)] → W p l e rm_X0_placeBlock s m args below meth c H locs 0 0 Q (F0 m 45 ls []) := by
  intro n
  induction n with
  | zero => intro x5 σ h; exact absurd h (by simp [loopM])
  | succ n ih =>
    intro x5 σ h H locs ls hw hl
    obtain ⟨r, h1, h2, h3⟩ := loopM_inv h
    exact t_X0_placeBlock_B45 hC hr h1 hw hl (fun z5 s2 e H locs ls hw hl => ih z5 s2 (h2 _ e) H locs ls hw hl) (fun s2 e H locs ls hw hl => by cases h3 _ e; exact kE H locs ls hw hl)
set_option maxHeartbeats 4000000 in
set_option maxRecDepth 100000 in
theorem t_X0_placeBlock_B36 (hC : zC p l s m args meth c cX0_placeBlock 6 RX0 D cA B0) (hr : meth.sig.returnType = (Option.none : Option Jvm.ClassFile.FieldType)) {Γ : zSh} {x0 : Nat} {x1 : Nat} {x2 : Int32} {x3 : Int32} {x4 : Int32} {σ : zSt} {out : ((Int32 × zSt) ⊕ (zSt))} (hf : f_X0_placeBlock_B36 Γ x0 x1 x2 x3 x4 σ = some out) {H : Heap} {locs : List Loc} {ls : Array Slot} (hw : zO D cA B0 Γ σ Z s.heap H locs) (hl : lv_has ls 6 [(0, .ref x0), (1, .ref x1), (2, .int x2), (3, .int x3), (4, .int x4)])
    (kI : ∀ (z4 : Int32) (σ2 : zSt), out = .inl (z4, σ2) → ∀ (H : Heap) (locs : List Loc) (ls : Array Slot), zO D cA B0 Γ σ2 Z s.heap H locs → lv_has ls 6 [(0, .ref x0), (1, .ref x1), (2, .int x2), (3, .int x3), (4, .int z4)] → W p l e rm_X0_placeBlock s m args below meth c H locs 0 0 Q (F0 m 36 ls []))
    (kE : ∀ (σ2 : zSt), out = .inr σ2 → ∀ (H : Heap) (locs : List Loc) (ls : Array Slot), zO D cA B0 Γ σ2 Z s.heap H locs → lv_has ls 6 [] → W p l e rm_X0_placeBlock s m args below meth c H locs 0 0 Q (F0 m 96 ls [])) :
    W p l e rm_X0_placeBlock s m args below meth c H locs 0 0 Q (F0 m 36 ls []) := by
  have hx := hC.1
  have hb := hC.2.1
  unfold f_X0_placeBlock_B36 at hf
  refine lv_iload hx hb dX0_placeBlock_36 (lv_at hl 4 rfl) ?_
  refine lv_iconst (v := 2) hx hb dX0_placeBlock_38 (by decide) ?_
  refine lv_icmp_ge (tgt := 96) hx hb dX0_placeBlock_39 (by decide) (fun hc => ?_) (fun hc => ?_)
  · rw [if_pos hc] at hf
    exact kE  σ (Option.some.inj hf).symm _ _ _ hw (lv_sub hl [] rfl)
  · rw [if_neg hc] at hf
    refine lv_iconst (v := 0) hx hb dX0_placeBlock_42 (by decide) ?_
    refine lv_istore (lv' := [(5, .int 0), (0, .ref x0), (1, .ref x1), (2, .int x2), (3, .int x3), (4, .int x4)]) hx hb dX0_placeBlock_43 hl (Nat.le_of_ble_eq_true rfl) rfl (fun ls hl => ?_)
    obtain ⟨σ14, hk, hf⟩ := lb0_inv hf
    refine l_X0_placeBlock_B45 hC hr (fun H locs ls hw hl => ?_) FUEL 0 σ hk _ _ _ hw (lv_sub hl [1, 2, 3, 4, 5, 0] rfl)
    refine lv_iinc (v := (x4 + 1)) (lv' := [(4, .int (x4 + 1)), (0, .ref x0), (1, .ref x1), (2, .int x2), (3, .int x3)]) hx hb dX0_placeBlock_90 hl (k := 4) rfl rfl (Nat.le_of_ble_eq_true rfl) rfl (fun ls hl => ?_)
    refine lv_goto (tgt := 36) hx hb dX0_placeBlock_93 (by decide) ?_
    exact kI (x4 + 1) σ14 (Option.some.inj hf).symm _ _ _ hw (lv_sub hl [1, 2, 3, 4, 0] rfl)
set_option maxHeartbeats 4000000 in
theorem l_X0_placeBlock_B36 (hC : zC p l s m args meth c cX0_placeBlock 6 RX0 D cA B0) (hr : meth.sig.returnType = (Option.none : Option Jvm.ClassFile.FieldType)) {Γ : zSh} {x0 : Nat} {x1 : Nat} {x2 : Int32} {x3 : Int32} {σ2 : zSt} (kE : ∀ (H : Heap) (locs : List Loc) (ls : Array Slot), zO D cA B0 Γ σ2 Z s.heap H locs → lv_has ls 6 [] → W p l e rm_X0_placeBlock s m args below meth c H locs 0 0 Q (F0 m 96 ls [])) :
    ∀ (n : Nat) (x4 : Int32) (σ : zSt), loopM (fun q => f_X0_placeBlock_B36 Γ x0 x1 x2 x3 q.1 q.2) n (x4, σ) = some σ2 → ∀ (H : Heap) (locs : List Loc) (ls : Array Slot), zO D cA B0 Γ σ Z s.heap H locs → lv_has ls 6 [(0, .ref x0), (1, .ref x1), (2, .int x2), (3, .int x3), (4, .int x4)] → W p l e rm_X0_placeBlock s m args below meth c H locs 0 0 Q (F0 m 36 ls []) := by
  intro n
  induction n with
  | zero => intro x4 σ h; exact absurd h (by simp [loopM])
  | succ n ih =>
    intro x4 σ h H locs ls hw hl
    obtain ⟨r, h1, h2, h3⟩ := loopM_inv h
    exact t_X0_placeBlock_B36 hC hr h1 hw hl (fun z4 s2 e H locs ls hw hl => ih z4 s2 (h2 _ e) H locs ls hw hl) (fun s2 e H locs ls hw hl => by cases h3 _ e; exact kE H locs ls hw hl)
set_option maxHeartbeats 4000000 in
set_option maxRecDepth 100000 in
theorem m_X0_placeBlock (h9 : l.stackTraces = false) {Γ : zSh} {a0 : Nat} {a1 : Nat} {a2 : Int32} {σ : zSt} {r : Unit} {σ2 : zSt} (hf : f_X0_placeBlock Γ a0 a1 a2 σ = some (r, σ2)) : Met l yX0_placeBlock (wq yX0_placeBlock cX0_placeBlock 6 (Option.none : Option Jvm.ClassFile.FieldType)) rm_X0_placeBlock (zQ0 D cA B0 [.ref a0, .ref a1, .int a2] Γ σ Z) (zQ1 D cA B0 (none) Γ σ2 Z) 0 0 (FR B0) := by
  refine z_ofW h9 (by decide) (Nat.le_of_ble_eq_true rfl) ?_
  intro p e s m args below meth c ls hC hr _ hw hl
  have hx := hC.1
  have hb := hC.2.1
  have hl : lv_has ls 6 [(0, .ref a0), (1, .ref a1), (2, .int a2)] := hl
  unfold f_X0_placeBlock at hf
  refine lv_aload_n hx hb dX0_placeBlock_0 rfl (lv_at hl 1 rfl) ?_
  obtain ⟨v1, hg, hf⟩ := gfI_inv hf
  refine r_gfI hC hw hg clX0 (Nat.le_of_ble_eq_true rfl) lkF_X0_9 rfl dX0_placeBlock_1 ?_
  refine lv_istore_n (lv' := [(3, .int v1), (0, .ref a0), (1, .ref a1), (2, .int a2)]) hx hb dX0_placeBlock_4 rfl hl (Nat.le_of_ble_eq_true rfl) rfl (fun ls hl => ?_)
  refine lv_aload_n hx hb dX0_placeBlock_5 rfl (lv_at hl 2 rfl) ?_
  obtain ⟨v2, hg, hf⟩ := gfR_inv hf
  refine r_gfR hC hw hg clX0 (Nat.le_of_ble_eq_true rfl) lkF_X0_15 rfl dX0_placeBlock_6 ?_
  refine lv_iconst (v := 0) hx hb dX0_placeBlock_9 (by decide) ?_
  refine lv_aload_n hx hb dX0_placeBlock_10 rfl (lv_at hl 1 rfl) ?_
  obtain ⟨v3, hg, hf⟩ := gfR_inv hf
  refine r_gfR hC hw hg clX0 (Nat.le_of_ble_eq_true rfl) lkF_X0_15 rfl dX0_placeBlock_11 ?_
  refine lv_iload_n hx hb dX0_placeBlock_14 rfl (lv_at hl 3 rfl) ?_
  refine lv_iload_n hx hb dX0_placeBlock_15 rfl (lv_at hl 0 rfl) ?_
  obtain ⟨σ4, hg, hf⟩ := cpI_inv hf
  refine r_cpI hC hw hg hl.1 lkM_X0_33 (Nat.le_of_ble_eq_true rfl) (Nat.le_of_ble_eq_true rfl) dX0_placeBlock_16 (fun H locs hw => ?_)
  refine lv_aload_n hx hb dX0_placeBlock_19 rfl (lv_at hl 2 rfl) ?_
  obtain ⟨v5, hg, hf⟩ := gfR_inv hf
  refine r_gfR hC hw hg clX0 (Nat.le_of_ble_eq_true rfl) lkF_X0_19 rfl dX0_placeBlock_20 ?_
  refine lv_iconst (v := 0) hx hb dX0_placeBlock_23 (by decide) ?_
  refine lv_aload_n hx hb dX0_placeBlock_24 rfl (lv_at hl 1 rfl) ?_
  obtain ⟨v6, hg, hf⟩ := gfR_inv hf
  refine r_gfR hC hw hg clX0 (Nat.le_of_ble_eq_true rfl) lkF_X0_19 rfl dX0_placeBlock_25 ?_
  refine lv_iload_n hx hb dX0_placeBlock_28 rfl (lv_at hl 3 rfl) ?_
  refine lv_iload_n hx hb dX0_placeBlock_29 rfl (lv_at hl 0 rfl) ?_
  obtain ⟨σ7, hg, hf⟩ := cpI_inv hf
  refine r_cpI hC hw hg hl.1 lkM_X0_33 (Nat.le_of_ble_eq_true rfl) (Nat.le_of_ble_eq_true rfl) dX0_placeBlock_30 (fun H locs hw => ?_)
  refine lv_iconst (v := 0) hx hb dX0_placeBlock_33 (by decide) ?_
  refine lv_istore (lv' := [(4, .int 0), (3, .int v1), (0, .ref a0), (1, .ref a1), (2, .int a2)]) hx hb dX0_placeBlock_34 hl (Nat.le_of_ble_eq_true rfl) rfl (fun ls hl => ?_)
  obtain ⟨σ15, hk, hf⟩ := lb0_inv hf
  refine l_X0_placeBlock_B36 hC hr (fun H locs ls hw hl => ?_) FUEL 0 σ7 hk _ _ _ hw (lv_sub hl [2, 3, 4, 1, 0] rfl)
  first | (obtain ⟨rfl, rfl⟩ := sp_inv hf) | (obtain rfl := Option.some.inj hf)
  exact W.vret hx hb hr (z_ret hw rfl) hw.2.2.2.2.2 dX0_placeBlock_96 hC.2.2.2.2.2.1
set_option maxHeartbeats 4000000 in
set_option maxRecDepth 100000 in
theorem m_X0_becomeSum (h9 : l.stackTraces = false) {Γ : zSh} {a0 : Nat} {a1 : Nat} {a2 : Nat} {σ : zSt} {r : Unit} {σ2 : zSt} (hf : f_X0_becomeSum Γ a0 a1 a2 σ = some (r, σ2)) : Met l yX0_becomeSum (wq yX0_becomeSum cX0_becomeSum 3 (Option.none : Option Jvm.ClassFile.FieldType)) rm_X0_becomeSum (zQ0 D cA B0 [.ref a0, .ref a1, .ref a2] Γ σ Z) (zQ1 D cA B0 (none) Γ σ2 Z) 0 0 (FR B0) := by
  refine z_ofW h9 (by decide) (Nat.le_of_ble_eq_true rfl) ?_
  intro p e s m args below meth c ls hC hr _ hw hl
  have hx := hC.1
  have hb := hC.2.1
  have hl : lv_has ls 3 [(0, .ref a0), (1, .ref a1), (2, .ref a2)] := hl
  unfold f_X0_becomeSum at hf
  refine lv_aload_n hx hb dX0_becomeSum_0 rfl (lv_at hl 0 rfl) ?_
  refine lv_aload_n hx hb dX0_becomeSum_1 rfl (lv_at hl 1 rfl) ?_
  obtain ⟨v1, hg, hf⟩ := gfI_inv hf
  refine r_gfI hC hw hg clX0 (Nat.le_of_ble_eq_true rfl) lkF_X0_9 rfl dX0_becomeSum_2 ?_
  refine lv_aload_n hx hb dX0_becomeSum_5 rfl (lv_at hl 2 rfl) ?_
  obtain ⟨v2, hg, hf⟩ := gfI_inv hf
  refine r_gfI hC hw hg clX0 (Nat.le_of_ble_eq_true rfl) lkF_X0_9 rfl dX0_becomeSum_6 ?_
  refine lv_iadd hx hb dX0_becomeSum_9 ?_
  obtain ⟨ho, hf⟩ := chk_inv hf
  obtain ⟨_, σ3, hk, hf⟩ := bnd_inv hf
  refine z_callV (As := [.int (v1 + v2)]) (rest := []) (m_X0_clear hC.2.2.2.2.2.2.2.2 hk) hC hw wd_X0_clear lkM_X0_57 (isO_sh ho) rfl rfl ⟨rfl, rfl⟩ ⟨(Nat.le_of_ble_eq_true rfl), (Nat.le_of_ble_eq_true rfl)⟩ hl.1 rfl (Nat.le_of_ble_eq_true rfl) dX0_becomeSum_10 ⟨(Nat.le_of_ble_eq_true rfl), (Nat.le_of_ble_eq_true rfl)⟩ (fun H locs hw => ?_)
  refine lv_aload_n hx hb dX0_becomeSum_13 rfl (lv_at hl 0 rfl) ?_
  refine lv_aload_n hx hb dX0_becomeSum_14 rfl (lv_at hl 1 rfl) ?_
  refine lv_iconst (v := 0) hx hb dX0_becomeSum_15 (by decide) ?_
  obtain ⟨ho, hf⟩ := chk_inv hf
  obtain ⟨_, σ4, hk, hf⟩ := bnd_inv hf
  refine z_callV (As := [.ref a1, .int 0]) (rest := []) (m_X0_placeBlock hC.2.2.2.2.2.2.2.2 hk) hC hw wd_X0_placeBlock lkM_X0_61 (isO_sh ho) rfl rfl ⟨rfl, rfl⟩ ⟨(Nat.le_of_ble_eq_true rfl), (Nat.le_of_ble_eq_true rfl)⟩ hl.1 rfl (Nat.le_of_ble_eq_true rfl) dX0_becomeSum_16 ⟨(Nat.le_of_ble_eq_true rfl), (Nat.le_of_ble_eq_true rfl)⟩ (fun H locs hw => ?_)
  refine lv_aload_n hx hb dX0_becomeSum_19 rfl (lv_at hl 0 rfl) ?_
  refine lv_aload_n hx hb dX0_becomeSum_20 rfl (lv_at hl 2 rfl) ?_
  refine lv_aload_n hx hb dX0_becomeSum_21 rfl (lv_at hl 1 rfl) ?_
  obtain ⟨v5, hg, hf⟩ := gfI_inv hf
  refine r_gfI hC hw hg clX0 (Nat.le_of_ble_eq_true rfl) lkF_X0_9 rfl dX0_becomeSum_22 ?_
  obtain ⟨ho, hf⟩ := chk_inv hf
  obtain ⟨_, σ6, hk, hf⟩ := bnd_inv hf
  refine z_callV (As := [.ref a2, .int v5]) (rest := []) (m_X0_placeBlock hC.2.2.2.2.2.2.2.2 hk) hC hw wd_X0_placeBlock lkM_X0_61 (isO_sh ho) rfl rfl ⟨rfl, rfl⟩ ⟨(Nat.le_of_ble_eq_true rfl), (Nat.le_of_ble_eq_true rfl)⟩ hl.1 rfl (Nat.le_of_ble_eq_true rfl) dX0_becomeSum_25 ⟨(Nat.le_of_ble_eq_true rfl), (Nat.le_of_ble_eq_true rfl)⟩ (fun H locs hw => ?_)
  first | (obtain ⟨rfl, rfl⟩ := sp_inv hf) | (obtain rfl := Option.some.inj hf)
  exact W.vret hx hb hr (z_ret hw rfl) hw.2.2.2.2.2 dX0_becomeSum_28 hC.2.2.2.2.2.1
set_option maxHeartbeats 4000000 in
set_option maxRecDepth 100000 in
theorem t_X0_becomeDifference_B11 (hC : zC p l s m args meth c cX0_becomeDifference 4 RX0 D cA B0) (hr : meth.sig.returnType = (Option.none : Option Jvm.ClassFile.FieldType)) {Γ : zSh} {x0 : Nat} {x3 : Int32} {σ : zSt} {out : ((Int32 × zSt) ⊕ (zSt))} (hf : f_X0_becomeDifference_B11 Γ x0 x3 σ = some out) {H : Heap} {locs : List Loc} {ls : Array Slot} (hw : zO D cA B0 Γ σ Z s.heap H locs) (hl : lv_has ls 4 [(0, .ref x0), (3, .int x3)])
    (kI : ∀ (z3 : Int32) (σ2 : zSt), out = .inl (z3, σ2) → ∀ (H : Heap) (locs : List Loc) (ls : Array Slot), zO D cA B0 Γ σ2 Z s.heap H locs → lv_has ls 4 [(0, .ref x0), (3, .int z3)] → W p l e rm_X0_becomeDifference s m args below meth c H locs 0 0 Q (F0 m 11 ls []))
    (kE : ∀ (σ2 : zSt), out = .inr σ2 → ∀ (H : Heap) (locs : List Loc) (ls : Array Slot), zO D cA B0 Γ σ2 Z s.heap H locs → lv_has ls 4 [] → W p l e rm_X0_becomeDifference s m args below meth c H locs 0 0 Q (F0 m 45 ls [])) :
    W p l e rm_X0_becomeDifference s m args below meth c H locs 0 0 Q (F0 m 11 ls []) := by
  have hx := hC.1
  have hb := hC.2.1
  unfold f_X0_becomeDifference_B11 at hf
  refine lv_iload_n hx hb dX0_becomeDifference_11 rfl (lv_at hl 1 rfl) ?_
  refine lv_aload_n hx hb dX0_becomeDifference_12 rfl (lv_at hl 0 rfl) ?_
  obtain ⟨v3, hg, hf⟩ := gfI_inv hf
  refine r_gfI hC hw hg clX0 (Nat.le_of_ble_eq_true rfl) lkF_X0_9 rfl dX0_becomeDifference_13 ?_
  refine lv_icmp_ge (tgt := 45) hx hb dX0_becomeDifference_16 (by decide) (fun hc => ?_) (fun hc => ?_)
  · rw [if_pos hc] at hf
    exact kE  σ (Option.some.inj hf).symm _ _ _ hw (lv_sub hl [] rfl)
  · rw [if_neg hc] at hf
    refine lv_aload_n hx hb dX0_becomeDifference_19 rfl (lv_at hl 0 rfl) ?_
    obtain ⟨v4, hg, hf⟩ := gfR_inv hf
    refine r_gfR hC hw hg clX0 (Nat.le_of_ble_eq_true rfl) lkF_X0_15 rfl dX0_becomeDifference_20 ?_
    refine lv_iload_n hx hb dX0_becomeDifference_23 rfl (lv_at hl 1 rfl) ?_
    refine lv_sipush (v := 10007) hx hb dX0_becomeDifference_24 (by decide) ?_
    refine lv_aload_n hx hb dX0_becomeDifference_27 rfl (lv_at hl 0 rfl) ?_
    obtain ⟨v5, hg, hf⟩ := gfR_inv hf
    refine r_gfR hC hw hg clX0 (Nat.le_of_ble_eq_true rfl) lkF_X0_15 rfl dX0_becomeDifference_28 ?_
    refine lv_iload_n hx hb dX0_becomeDifference_31 rfl (lv_at hl 1 rfl) ?_
    obtain ⟨v6, hg, hf⟩ := ldI_inv hf
    refine r_ldI hC hw hg dX0_becomeDifference_32 ?_
    refine lv_isub hx hb dX0_becomeDifference_33 ?_
    refine lv_sipush (v := 10007) hx hb dX0_becomeDifference_34 (by decide) ?_
    obtain ⟨v7, hg, hf⟩ := rmI_inv hf
    refine r_rmI hC hg dX0_becomeDifference_37 ?_
    obtain ⟨σ8, hg, hf⟩ := stI_inv hf
    refine r_stI hC hw hg dX0_becomeDifference_38 (fun H locs hw => ?_)
    refine lv_iinc (v := (x3 + 1)) (lv' := [(3, .int (x3 + 1)), (0, .ref x0)]) hx hb dX0_becomeDifference_39 hl (k := 1) rfl rfl (Nat.le_of_ble_eq_true rfl) rfl (fun ls hl => ?_)
    refine lv_goto (tgt := 11) hx hb dX0_becomeDifference_42 (by decide) ?_
    exact kI (x3 + 1) σ8 (Option.some.inj hf).symm _ _ _ hw (lv_sub hl [1, 0] rfl)
set_option maxHeartbeats 4000000 in
theorem l_X0_becomeDifference_B11 (hC : zC p l s m args meth c cX0_becomeDifference 4 RX0 D cA B0) (hr : meth.sig.returnType = (Option.none : Option Jvm.ClassFile.FieldType)) {Γ : zSh} {x0 : Nat} {σ2 : zSt} (kE : ∀ (H : Heap) (locs : List Loc) (ls : Array Slot), zO D cA B0 Γ σ2 Z s.heap H locs → lv_has ls 4 [] → W p l e rm_X0_becomeDifference s m args below meth c H locs 0 0 Q (F0 m 45 ls [])) :
    ∀ (n : Nat) (x3 : Int32) (σ : zSt), loopM (fun q => f_X0_becomeDifference_B11 Γ x0 q.1 q.2) n (x3, σ) = some σ2 → ∀ (H : Heap) (locs : List Loc) (ls : Array Slot), zO D cA B0 Γ σ Z s.heap H locs → lv_has ls 4 [(0, .ref x0), (3, .int x3)] → W p l e rm_X0_becomeDifference s m args below meth c H locs 0 0 Q (F0 m 11 ls []) := by
  intro n
  induction n with
  | zero => intro x3 σ h; exact absurd h (by simp [loopM])
  | succ n ih =>
    intro x3 σ h H locs ls hw hl
    obtain ⟨r, h1, h2, h3⟩ := loopM_inv h
    exact t_X0_becomeDifference_B11 hC hr h1 hw hl (fun z3 s2 e H locs ls hw hl => ih z3 s2 (h2 _ e) H locs ls hw hl) (fun s2 e H locs ls hw hl => by cases h3 _ e; exact kE H locs ls hw hl)
set_option maxHeartbeats 4000000 in
set_option maxRecDepth 100000 in
theorem m_X0_becomeDifference (h9 : l.stackTraces = false) {Γ : zSh} {a0 : Nat} {a1 : Nat} {a2 : Nat} {σ : zSt} {r : Unit} {σ2 : zSt} (hf : f_X0_becomeDifference Γ a0 a1 a2 σ = some (r, σ2)) : Met l yX0_becomeDifference (wq yX0_becomeDifference cX0_becomeDifference 4 (Option.none : Option Jvm.ClassFile.FieldType)) rm_X0_becomeDifference (zQ0 D cA B0 [.ref a0, .ref a1, .ref a2] Γ σ Z) (zQ1 D cA B0 (none) Γ σ2 Z) 0 0 (FR B0) := by
  refine z_ofW h9 (by decide) (Nat.le_of_ble_eq_true rfl) ?_
  intro p e s m args below meth c ls hC hr _ hw hl
  have hx := hC.1
  have hb := hC.2.1
  have hl : lv_has ls 4 [(0, .ref a0), (1, .ref a1), (2, .ref a2)] := hl
  unfold f_X0_becomeDifference at hf
  refine lv_aload_n hx hb dX0_becomeDifference_0 rfl (lv_at hl 0 rfl) ?_
  refine lv_aload_n hx hb dX0_becomeDifference_1 rfl (lv_at hl 1 rfl) ?_
  refine lv_aload_n hx hb dX0_becomeDifference_2 rfl (lv_at hl 2 rfl) ?_
  obtain ⟨ho, hf⟩ := chk_inv hf
  obtain ⟨_, σ1, hk, hf⟩ := bnd_inv hf
  refine z_callV (As := [.ref a1, .ref a2]) (rest := []) (m_X0_becomeSum hC.2.2.2.2.2.2.2.2 hk) hC hw wd_X0_becomeSum lkM_X0_65 (isO_sh ho) rfl rfl ⟨rfl, rfl⟩ ⟨(Nat.le_of_ble_eq_true rfl), (Nat.le_of_ble_eq_true rfl)⟩ hl.1 rfl (Nat.le_of_ble_eq_true rfl) dX0_becomeDifference_3 ⟨(Nat.le_of_ble_eq_true rfl), (Nat.le_of_ble_eq_true rfl)⟩ (fun H locs hw => ?_)
  refine lv_aload_n hx hb dX0_becomeDifference_6 rfl (lv_at hl 1 rfl) ?_
  obtain ⟨v2, hg, hf⟩ := gfI_inv hf
  refine r_gfI hC hw hg clX0 (Nat.le_of_ble_eq_true rfl) lkF_X0_9 rfl dX0_becomeDifference_7 ?_
  refine lv_istore_n (lv' := [(3, .int v2), (0, .ref a0), (1, .ref a1), (2, .ref a2)]) hx hb dX0_becomeDifference_10 rfl hl (Nat.le_of_ble_eq_true rfl) rfl (fun ls hl => ?_)
  obtain ⟨σ9, hk, hf⟩ := lb0_inv hf
  refine l_X0_becomeDifference_B11 hC hr (fun H locs ls hw hl => ?_) FUEL v2 σ1 hk _ _ _ hw (lv_sub hl [1, 0] rfl)
  first | (obtain ⟨rfl, rfl⟩ := sp_inv hf) | (obtain rfl := Option.some.inj hf)
  exact W.vret hx hb hr (z_ret hw rfl) hw.2.2.2.2.2 dX0_becomeDifference_45 hC.2.2.2.2.2.1
set_option maxHeartbeats 4000000 in
set_option maxRecDepth 100000 in
theorem t_X0_placeProducts_B50 (hC : zC p l s m args meth c cX0_placeProducts 11 RX0 D cA B0) (hr : meth.sig.returnType = (Option.none : Option Jvm.ClassFile.FieldType)) {Γ : zSh} {x0 : Nat} {x1 : Nat} {x2 : Int32} {x3 : Nat} {x4 : Int32} {x5 : Int32} {x6 : Int32} {x7 : Int32} {x8 : Int32} {x9 : Int32} {σ : zSt} {out : ((Int32 × zSt) ⊕ (zSt))} (hf : f_X0_placeProducts_B50 Γ x0 x1 x2 x3 x4 x5 x6 x7 x8 x9 σ = some out) {H : Heap} {locs : List Loc} {ls : Array Slot} (hw : zO D cA B0 Γ σ Z s.heap H locs) (hl : lv_has ls 11 [(0, .ref x0), (1, .ref x1), (2, .int x2), (3, .ref x3), (4, .int x4), (5, .int x5), (6, .int x6), (7, .int x7), (8, .int x8), (9, .int x9)])
    (kI : ∀ (z9 : Int32) (σ2 : zSt), out = .inl (z9, σ2) → ∀ (H : Heap) (locs : List Loc) (ls : Array Slot), zO D cA B0 Γ σ2 Z s.heap H locs → lv_has ls 11 [(0, .ref x0), (1, .ref x1), (2, .int x2), (3, .ref x3), (4, .int x4), (5, .int x5), (6, .int x6), (7, .int x7), (8, .int x8), (9, .int z9)] → W p l e rm_X0_placeProducts s m args below meth c H locs 0 0 Q (F0 m 50 ls []))
    (kE : ∀ (σ2 : zSt), out = .inr σ2 → ∀ (H : Heap) (locs : List Loc) (ls : Array Slot), zO D cA B0 Γ σ2 Z s.heap H locs → lv_has ls 11 [(0, .ref x0), (1, .ref x1), (2, .int x2), (3, .ref x3), (4, .int x4), (5, .int x5), (6, .int x6), (7, .int x7)] → W p l e rm_X0_placeProducts s m args below meth c H locs 0 0 Q (F0 m 115 ls [])) :
    W p l e rm_X0_placeProducts s m args below meth c H locs 0 0 Q (F0 m 50 ls []) := by
  have hx := hC.1
  have hb := hC.2.1
  unfold f_X0_placeProducts_B50 at hf
  refine lv_iload hx hb dX0_placeProducts_50 (lv_at hl 9 rfl) ?_
  refine lv_aload_n hx hb dX0_placeProducts_52 rfl (lv_at hl 3 rfl) ?_
  obtain ⟨v8, hg, hf⟩ := gfI_inv hf
  refine r_gfI hC hw hg clX0 (Nat.le_of_ble_eq_true rfl) lkF_X0_9 rfl dX0_placeProducts_53 ?_
  refine lv_icmp_ge (tgt := 115) hx hb dX0_placeProducts_56 (by decide) (fun hc => ?_) (fun hc => ?_)
  · rw [if_pos hc] at hf
    exact kE  σ (Option.some.inj hf).symm _ _ _ hw (lv_sub hl [0, 1, 2, 3, 4, 5, 6, 7] rfl)
  · rw [if_neg hc] at hf
    refine lv_aload_n hx hb dX0_placeProducts_59 rfl (lv_at hl 3 rfl) ?_
    obtain ⟨v9, hg, hf⟩ := gfR_inv hf
    refine r_gfR hC hw hg clX0 (Nat.le_of_ble_eq_true rfl) lkF_X0_24 rfl dX0_placeProducts_60 ?_
    refine lv_iload hx hb dX0_placeProducts_63 (lv_at hl 5 rfl) ?_
    obtain ⟨v10, hg, hf⟩ := ldG_inv hf
    refine r_ldG hC hw hg dX0_placeProducts_65 ?_
    refine lv_iload hx hb dX0_placeProducts_66 (lv_at hl 4 rfl) ?_
    refine lv_aload_n hx hb dX0_placeProducts_68 rfl (lv_at hl 3 rfl) ?_
    obtain ⟨v11, hg, hf⟩ := gfI_inv hf
    refine r_gfI hC hw hg clX0 (Nat.le_of_ble_eq_true rfl) lkF_X0_9 rfl dX0_placeProducts_69 ?_
    refine lv_imul hx hb dX0_placeProducts_72 ?_
    refine lv_iload hx hb dX0_placeProducts_73 (lv_at hl 9 rfl) ?_
    refine lv_iadd hx hb dX0_placeProducts_75 ?_
    obtain ⟨v12, hg, hf⟩ := ldI_inv hf
    refine r_ldI hC hw hg dX0_placeProducts_76 ?_
    refine lv_istore (lv' := [(10, .int v12), (0, .ref x0), (1, .ref x1), (2, .int x2), (3, .ref x3), (4, .int x4), (5, .int x5), (6, .int x6), (7, .int x7), (8, .int x8), (9, .int x9)]) hx hb dX0_placeProducts_77 hl (Nat.le_of_ble_eq_true rfl) rfl (fun ls hl => ?_)
    refine lv_aload_n hx hb dX0_placeProducts_79 rfl (lv_at hl 1 rfl) ?_
    obtain ⟨v13, hg, hf⟩ := gfR_inv hf
    refine r_gfR hC hw hg clX0 (Nat.le_of_ble_eq_true rfl) lkF_X0_24 rfl dX0_placeProducts_80 ?_
    refine lv_iload hx hb dX0_placeProducts_83 (lv_at hl 6 rfl) ?_
    obtain ⟨v14, hg, hf⟩ := ldG_inv hf
    refine r_ldG hC hw hg dX0_placeProducts_85 ?_
    refine lv_iload hx hb dX0_placeProducts_86 (lv_at hl 7 rfl) ?_
    refine lv_aload_n hx hb dX0_placeProducts_88 rfl (lv_at hl 4 rfl) ?_
    obtain ⟨v15, hg, hf⟩ := gfI_inv hf
    refine r_gfI hC hw hg clX0 (Nat.le_of_ble_eq_true rfl) lkF_X0_9 rfl dX0_placeProducts_89 ?_
    refine lv_iload hx hb dX0_placeProducts_92 (lv_at hl 8 rfl) ?_
    refine lv_imul hx hb dX0_placeProducts_94 ?_
    refine lv_iadd hx hb dX0_placeProducts_95 ?_
    refine lv_iload hx hb dX0_placeProducts_96 (lv_at hl 10 rfl) ?_
    refine lv_iadd hx hb dX0_placeProducts_98 ?_
    refine lv_iload hx hb dX0_placeProducts_99 (lv_at hl 9 rfl) ?_
    refine lv_iload hx hb dX0_placeProducts_101 (lv_at hl 0 rfl) ?_
    refine lv_imul hx hb dX0_placeProducts_103 ?_
    refine lv_sipush (v := 10007) hx hb dX0_placeProducts_104 (by decide) ?_
    obtain ⟨v16, hg, hf⟩ := rmI_inv hf
    refine r_rmI hC hg dX0_placeProducts_107 ?_
    obtain ⟨σ17, hg, hf⟩ := stI_inv hf
    refine r_stI hC hw hg dX0_placeProducts_108 (fun H locs hw => ?_)
    refine lv_iinc (v := (x9 + 1)) (lv' := [(9, .int (x9 + 1)), (10, .int v12), (0, .ref x0), (1, .ref x1), (2, .int x2), (3, .ref x3), (4, .int x4), (5, .int x5), (6, .int x6), (7, .int x7), (8, .int x8)]) hx hb dX0_placeProducts_109 hl (k := 10) rfl rfl (Nat.le_of_ble_eq_true rfl) rfl (fun ls hl => ?_)
    refine lv_goto (tgt := 50) hx hb dX0_placeProducts_112 (by decide) ?_
    exact kI (x9 + 1) σ17 (Option.some.inj hf).symm _ _ _ hw (lv_sub hl [2, 3, 4, 5, 6, 7, 8, 9, 10, 0] rfl)
set_option maxHeartbeats 4000000 in
theorem l_X0_placeProducts_B50 (hC : zC p l s m args meth c cX0_placeProducts 11 RX0 D cA B0) (hr : meth.sig.returnType = (Option.none : Option Jvm.ClassFile.FieldType)) {Γ : zSh} {x0 : Nat} {x1 : Nat} {x2 : Int32} {x3 : Nat} {x4 : Int32} {x5 : Int32} {x6 : Int32} {x7 : Int32} {x8 : Int32} {σ2 : zSt} (kE : ∀ (H : Heap) (locs : List Loc) (ls : Array Slot), zO D cA B0 Γ σ2 Z s.heap H locs → lv_has ls 11 [(0, .ref x0), (1, .ref x1), (2, .int x2), (3, .ref x3), (4, .int x4), (5, .int x5), (6, .int x6), (7, .int x7)] → W p l e rm_X0_placeProducts s m args below meth c H locs 0 0 Q (F0 m 115 ls [])) :
    ∀ (n : Nat) (x9 : Int32) (σ : zSt), loopM (fun q => f_X0_placeProducts_B50 Γ x0 x1 x2 x3 x4 x5 x6 x7 x8 q.1 q.2) n (x9, σ) = some σ2 → ∀ (H : Heap) (locs : List Loc) (ls : Array Slot), zO D cA B0 Γ σ Z s.heap H locs → lv_has ls 11 [(0, .ref x0), (1, .ref x1), (2, .int x2), (3, .ref x3), (4, .int x4), (5, .int x5), (6, .int x6), (7, .int x7), (8, .int x8), (9, .int x9)] → W p l e rm_X0_placeProducts s m args below meth c H locs 0 0 Q (F0 m 50 ls []) := by
  intro n
  induction n with
  | zero => intro x9 σ h; exact absurd h (by simp [loopM])
  | succ n ih =>
    intro x9 σ h H locs ls hw hl
    obtain ⟨r, h1, h2, h3⟩ := loopM_inv h
    exact t_X0_placeProducts_B50 hC hr h1 hw hl (fun z9 s2 e H locs ls hw hl => ih z9 s2 (h2 _ e) H locs ls hw hl) (fun s2 e H locs ls hw hl => by cases h3 _ e; exact kE H locs ls hw hl)
set_option maxHeartbeats 4000000 in
set_option maxRecDepth 100000 in
theorem t_X0_placeProducts_B19 (hC : zC p l s m args meth c cX0_placeProducts 11 RX0 D cA B0) (hr : meth.sig.returnType = (Option.none : Option Jvm.ClassFile.FieldType)) {Γ : zSh} {x0 : Nat} {x1 : Nat} {x2 : Int32} {x3 : Nat} {x4 : Int32} {x5 : Int32} {x6 : Int32} {x7 : Int32} {σ : zSt} {out : ((Int32 × zSt) ⊕ (zSt))} (hf : f_X0_placeProducts_B19 Γ x0 x1 x2 x3 x4 x5 x6 x7 σ = some out) {H : Heap} {locs : List Loc} {ls : Array Slot} (hw : zO D cA B0 Γ σ Z s.heap H locs) (hl : lv_has ls 11 [(0, .ref x0), (1, .ref x1), (2, .int x2), (3, .ref x3), (4, .int x4), (5, .int x5), (6, .int x6), (7, .int x7)])
    (kI : ∀ (z7 : Int32) (σ2 : zSt), out = .inl (z7, σ2) → ∀ (H : Heap) (locs : List Loc) (ls : Array Slot), zO D cA B0 Γ σ2 Z s.heap H locs → lv_has ls 11 [(0, .ref x0), (1, .ref x1), (2, .int x2), (3, .ref x3), (4, .int x4), (5, .int x5), (6, .int x6), (7, .int z7)] → W p l e rm_X0_placeProducts s m args below meth c H locs 0 0 Q (F0 m 19 ls []))
    (kE : ∀ (σ2 : zSt), out = .inr σ2 → ∀ (H : Heap) (locs : List Loc) (ls : Array Slot), zO D cA B0 Γ σ2 Z s.heap H locs → lv_has ls 11 [] → W p l e rm_X0_placeProducts s m args below meth c H locs 0 0 Q (F0 m 121 ls [])) :
    W p l e rm_X0_placeProducts s m args below meth c H locs 0 0 Q (F0 m 19 ls []) := by
  have hx := hC.1
  have hb := hC.2.1
  unfold f_X0_placeProducts_B19 at hf
  refine lv_iload hx hb dX0_placeProducts_19 (lv_at hl 7 rfl) ?_
  refine lv_aload_n hx hb dX0_placeProducts_21 rfl (lv_at hl 1 rfl) ?_
  obtain ⟨v3, hg, hf⟩ := gfI_inv hf
  refine r_gfI hC hw hg clX0 (Nat.le_of_ble_eq_true rfl) lkF_X0_9 rfl dX0_placeProducts_22 ?_
  refine lv_icmp_ge (tgt := 121) hx hb dX0_placeProducts_25 (by decide) (fun hc => ?_) (fun hc => ?_)
  · rw [if_pos hc] at hf
    exact kE  σ (Option.some.inj hf).symm _ _ _ hw (lv_sub hl [] rfl)
  · rw [if_neg hc] at hf
    refine lv_aload_n hx hb dX0_placeProducts_28 rfl (lv_at hl 1 rfl) ?_
    obtain ⟨v4, hg, hf⟩ := gfR_inv hf
    refine r_gfR hC hw hg clX0 (Nat.le_of_ble_eq_true rfl) lkF_X0_24 rfl dX0_placeProducts_29 ?_
    refine lv_iload hx hb dX0_placeProducts_32 (lv_at hl 5 rfl) ?_
    obtain ⟨v5, hg, hf⟩ := ldG_inv hf
    refine r_ldG hC hw hg dX0_placeProducts_34 ?_
    refine lv_iload_n hx hb dX0_placeProducts_35 rfl (lv_at hl 2 rfl) ?_
    refine lv_aload_n hx hb dX0_placeProducts_36 rfl (lv_at hl 1 rfl) ?_
    obtain ⟨v6, hg, hf⟩ := gfI_inv hf
    refine r_gfI hC hw hg clX0 (Nat.le_of_ble_eq_true rfl) lkF_X0_9 rfl dX0_placeProducts_37 ?_
    refine lv_imul hx hb dX0_placeProducts_40 ?_
    refine lv_iload hx hb dX0_placeProducts_41 (lv_at hl 7 rfl) ?_
    refine lv_iadd hx hb dX0_placeProducts_43 ?_
    obtain ⟨v7, hg, hf⟩ := ldI_inv hf
    refine r_ldI hC hw hg dX0_placeProducts_44 ?_
    refine lv_istore (lv' := [(8, .int v7), (0, .ref x0), (1, .ref x1), (2, .int x2), (3, .ref x3), (4, .int x4), (5, .int x5), (6, .int x6), (7, .int x7)]) hx hb dX0_placeProducts_45 hl (Nat.le_of_ble_eq_true rfl) rfl (fun ls hl => ?_)
    refine lv_iconst (v := 0) hx hb dX0_placeProducts_47 (by decide) ?_
    refine lv_istore (lv' := [(9, .int 0), (8, .int v7), (0, .ref x0), (1, .ref x1), (2, .int x2), (3, .ref x3), (4, .int x4), (5, .int x5), (6, .int x6), (7, .int x7)]) hx hb dX0_placeProducts_48 hl (Nat.le_of_ble_eq_true rfl) rfl (fun ls hl => ?_)
    obtain ⟨σ18, hk, hf⟩ := lb0_inv hf
    refine l_X0_placeProducts_B50 hC hr (fun H locs ls hw hl => ?_) FUEL 0 σ hk _ _ _ hw (lv_sub hl [2, 3, 4, 5, 6, 7, 8, 9, 1, 0] rfl)
    refine lv_iinc (v := (x7 + 1)) (lv' := [(7, .int (x7 + 1)), (0, .ref x0), (1, .ref x1), (2, .int x2), (3, .ref x3), (4, .int x4), (5, .int x5), (6, .int x6)]) hx hb dX0_placeProducts_115 hl (k := 7) rfl rfl (Nat.le_of_ble_eq_true rfl) rfl (fun ls hl => ?_)
    refine lv_goto (tgt := 19) hx hb dX0_placeProducts_118 (by decide) ?_
    exact kI (x7 + 1) σ18 (Option.some.inj hf).symm _ _ _ hw (lv_sub hl [1, 2, 3, 4, 5, 6, 7, 0] rfl)
set_option maxHeartbeats 4000000 in
theorem l_X0_placeProducts_B19 (hC : zC p l s m args meth c cX0_placeProducts 11 RX0 D cA B0) (hr : meth.sig.returnType = (Option.none : Option Jvm.ClassFile.FieldType)) {Γ : zSh} {x0 : Nat} {x1 : Nat} {x2 : Int32} {x3 : Nat} {x4 : Int32} {x5 : Int32} {x6 : Int32} {σ2 : zSt} (kE : ∀ (H : Heap) (locs : List Loc) (ls : Array Slot), zO D cA B0 Γ σ2 Z s.heap H locs → lv_has ls 11 [] → W p l e rm_X0_placeProducts s m args below meth c H locs 0 0 Q (F0 m 121 ls [])) :
    ∀ (n : Nat) (x7 : Int32) (σ : zSt), loopM (fun q => f_X0_placeProducts_B19 Γ x0 x1 x2 x3 x4 x5 x6 q.1 q.2) n (x7, σ) = some σ2 → ∀ (H : Heap) (locs : List Loc) (ls : Array Slot), zO D cA B0 Γ σ Z s.heap H locs → lv_has ls 11 [(0, .ref x0), (1, .ref x1), (2, .int x2), (3, .ref x3), (4, .int x4), (5, .int x5), (6, .int x6), (7, .int x7)] → W p l e rm_X0_placeProducts s m args below meth c H locs 0 0 Q (F0 m 19 ls []) := by
  intro n
  induction n with
  | zero => intro x7 σ h; exact absurd h (by simp [loopM])
  | succ n ih =>
    intro x7 σ h H locs ls hw hl
    obtain ⟨r, h1, h2, h3⟩ := loopM_inv h
    exact t_X0_placeProducts_B19 hC hr h1 hw hl (fun z7 s2 e H locs ls hw hl => ih z7 s2 (h2 _ e) H locs ls hw hl) (fun s2 e H locs ls hw hl => by cases h3 _ e; exact kE H locs ls hw hl)
set_option maxHeartbeats 4000000 in
set_option maxRecDepth 100000 in
theorem m_X0_placeProducts (h9 : l.stackTraces = false) {Γ : zSh} {a0 : Nat} {a1 : Nat} {a2 : Int32} {a3 : Nat} {a4 : Int32} {a5 : Int32} {σ : zSt} {r : Unit} {σ2 : zSt} (hf : f_X0_placeProducts Γ a0 a1 a2 a3 a4 a5 σ = some (r, σ2)) : Met l yX0_placeProducts (wq yX0_placeProducts cX0_placeProducts 11 (Option.none : Option Jvm.ClassFile.FieldType)) rm_X0_placeProducts (zQ0 D cA B0 [.ref a0, .ref a1, .int a2, .ref a3, .int a4, .int a5] Γ σ Z) (zQ1 D cA B0 (none) Γ σ2 Z) 0 0 (FR B0) := by
  refine z_ofW h9 (by decide) (Nat.le_of_ble_eq_true rfl) ?_
  intro p e s m args below meth c ls hC hr _ hw hl
  have hx := hC.1
  have hb := hC.2.1
  have hl : lv_has ls 11 [(0, .ref a0), (1, .ref a1), (2, .int a2), (3, .ref a3), (4, .int a4), (5, .int a5)] := hl
  unfold f_X0_placeProducts at hf
  refine lv_aload_n hx hb dX0_placeProducts_0 rfl (lv_at hl 3 rfl) ?_
  obtain ⟨v1, hg, hf⟩ := gfI_inv hf
  refine r_gfI hC hw hg clX0 (Nat.le_of_ble_eq_true rfl) lkF_X0_9 rfl dX0_placeProducts_1 ?_
  refine lv_iload_n hx hb dX0_placeProducts_4 rfl (lv_at hl 2 rfl) ?_
  refine lv_imul hx hb dX0_placeProducts_5 ?_
  refine lv_iload hx hb dX0_placeProducts_6 (lv_at hl 4 rfl) ?_
  refine lv_iadd hx hb dX0_placeProducts_8 ?_
  refine lv_aload_n hx hb dX0_placeProducts_9 rfl (lv_at hl 0 rfl) ?_
  obtain ⟨v2, hg, hf⟩ := gfI_inv hf
  refine r_gfI hC hw hg clX0 (Nat.le_of_ble_eq_true rfl) lkF_X0_9 rfl dX0_placeProducts_10 ?_
  refine lv_imul hx hb dX0_placeProducts_13 ?_
  refine lv_istore (lv' := [(6, .int (((v1 * a2) + a4) * v2)), (0, .ref a0), (1, .ref a1), (2, .int a2), (3, .ref a3), (4, .int a4), (5, .int a5)]) hx hb dX0_placeProducts_14 hl (Nat.le_of_ble_eq_true rfl) rfl (fun ls hl => ?_)
  refine lv_iconst (v := 0) hx hb dX0_placeProducts_16 (by decide) ?_
  refine lv_istore (lv' := [(7, .int 0), (6, .int (((v1 * a2) + a4) * v2)), (0, .ref a0), (1, .ref a1), (2, .int a2), (3, .ref a3), (4, .int a4), (5, .int a5)]) hx hb dX0_placeProducts_17 hl (Nat.le_of_ble_eq_true rfl) rfl (fun ls hl => ?_)
  obtain ⟨σ19, hk, hf⟩ := lb0_inv hf
  refine l_X0_placeProducts_B19 hC hr (fun H locs ls hw hl => ?_) FUEL 0 σ hk _ _ _ hw (lv_sub hl [2, 3, 4, 5, 6, 7, 1, 0] rfl)
  first | (obtain ⟨rfl, rfl⟩ := sp_inv hf) | (obtain rfl := Option.some.inj hf)
  exact W.vret hx hb hr (z_ret hw rfl) hw.2.2.2.2.2 dX0_placeProducts_121 hC.2.2.2.2.2.1
set_option maxHeartbeats 4000000 in
set_option maxRecDepth 100000 in
theorem t_X0_becomeHadamard_B99 (hC : zC p l s m args meth c cX0_becomeHadamard 7 RX0 D cA B0) (hr : meth.sig.returnType = (Option.none : Option Jvm.ClassFile.FieldType)) {Γ : zSh} {x0 : Nat} {x1 : Nat} {x2 : Nat} {x3 : Int32} {x4 : Int32} {x6 : Int32} {σ : zSt} {out : ((Int32 × zSt) ⊕ (zSt))} (hf : f_X0_becomeHadamard_B99 Γ x0 x1 x2 x3 x4 x6 σ = some out) {H : Heap} {locs : List Loc} {ls : Array Slot} (hw : zO D cA B0 Γ σ Z s.heap H locs) (hl : lv_has ls 7 [(0, .ref x0), (1, .ref x1), (2, .ref x2), (3, .int x3), (4, .int x4), (6, .int x6)])
    (kI : ∀ (z6 : Int32) (σ2 : zSt), out = .inl (z6, σ2) → ∀ (H : Heap) (locs : List Loc) (ls : Array Slot), zO D cA B0 Γ σ2 Z s.heap H locs → lv_has ls 7 [(0, .ref x0), (1, .ref x1), (2, .ref x2), (3, .int x3), (4, .int x4), (6, .int z6)] → W p l e rm_X0_becomeHadamard s m args below meth c H locs 0 0 Q (F0 m 99 ls []))
    (kE : ∀ (σ2 : zSt), out = .inr σ2 → ∀ (H : Heap) (locs : List Loc) (ls : Array Slot), zO D cA B0 Γ σ2 Z s.heap H locs → lv_has ls 7 [(0, .ref x0), (1, .ref x1), (2, .ref x2), (3, .int x3), (4, .int x4)] → W p l e rm_X0_becomeHadamard s m args below meth c H locs 0 0 Q (F0 m 122 ls [])) :
    W p l e rm_X0_becomeHadamard s m args below meth c H locs 0 0 Q (F0 m 99 ls []) := by
  have hx := hC.1
  have hb := hC.2.1
  unfold f_X0_becomeHadamard_B99 at hf
  refine lv_iload hx hb dX0_becomeHadamard_99 (lv_at hl 5 rfl) ?_
  refine lv_iconst (v := 2) hx hb dX0_becomeHadamard_101 (by decide) ?_
  refine lv_icmp_ge (tgt := 122) hx hb dX0_becomeHadamard_102 (by decide) (fun hc => ?_) (fun hc => ?_)
  · rw [if_pos hc] at hf
    exact kE  σ (Option.some.inj hf).symm _ _ _ hw (lv_sub hl [0, 1, 2, 3, 4] rfl)
  · rw [if_neg hc] at hf
    refine lv_aload_n hx hb dX0_becomeHadamard_105 rfl (lv_at hl 0 rfl) ?_
    refine lv_aload_n hx hb dX0_becomeHadamard_106 rfl (lv_at hl 1 rfl) ?_
    refine lv_iload_n hx hb dX0_becomeHadamard_107 rfl (lv_at hl 3 rfl) ?_
    refine lv_aload_n hx hb dX0_becomeHadamard_108 rfl (lv_at hl 2 rfl) ?_
    refine lv_iload hx hb dX0_becomeHadamard_109 (lv_at hl 4 rfl) ?_
    refine lv_iload hx hb dX0_becomeHadamard_111 (lv_at hl 5 rfl) ?_
    obtain ⟨ho, hf⟩ := chk_inv hf
    obtain ⟨_, σ21, hk, hf⟩ := bnd_inv hf
    refine z_callV (As := [.ref x1, .int x3, .ref x2, .int x4, .int x6]) (rest := []) (m_X0_placeProducts hC.2.2.2.2.2.2.2.2 hk) hC hw wd_X0_placeProducts lkM_X0_69 (isO_sh ho) rfl rfl ⟨rfl, rfl⟩ ⟨(Nat.le_of_ble_eq_true rfl), (Nat.le_of_ble_eq_true rfl)⟩ hl.1 rfl (Nat.le_of_ble_eq_true rfl) dX0_becomeHadamard_113 ⟨(Nat.le_of_ble_eq_true rfl), (Nat.le_of_ble_eq_true rfl)⟩ (fun H locs hw => ?_)
    refine lv_iinc (v := (x6 + 1)) (lv' := [(6, .int (x6 + 1)), (0, .ref x0), (1, .ref x1), (2, .ref x2), (3, .int x3), (4, .int x4)]) hx hb dX0_becomeHadamard_116 hl (k := 5) rfl rfl (Nat.le_of_ble_eq_true rfl) rfl (fun ls hl => ?_)
    refine lv_goto (tgt := 99) hx hb dX0_becomeHadamard_119 (by decide) ?_
    exact kI (x6 + 1) σ21 (Option.some.inj hf).symm _ _ _ hw (lv_sub hl [1, 2, 3, 4, 5, 0] rfl)
set_option maxHeartbeats 4000000 in
theorem l_X0_becomeHadamard_B99 (hC : zC p l s m args meth c cX0_becomeHadamard 7 RX0 D cA B0) (hr : meth.sig.returnType = (Option.none : Option Jvm.ClassFile.FieldType)) {Γ : zSh} {x0 : Nat} {x1 : Nat} {x2 : Nat} {x3 : Int32} {x4 : Int32} {σ2 : zSt} (kE : ∀ (H : Heap) (locs : List Loc) (ls : Array Slot), zO D cA B0 Γ σ2 Z s.heap H locs → lv_has ls 7 [(0, .ref x0), (1, .ref x1), (2, .ref x2), (3, .int x3), (4, .int x4)] → W p l e rm_X0_becomeHadamard s m args below meth c H locs 0 0 Q (F0 m 122 ls [])) :
    ∀ (n : Nat) (x6 : Int32) (σ : zSt), loopM (fun q => f_X0_becomeHadamard_B99 Γ x0 x1 x2 x3 x4 q.1 q.2) n (x6, σ) = some σ2 → ∀ (H : Heap) (locs : List Loc) (ls : Array Slot), zO D cA B0 Γ σ Z s.heap H locs → lv_has ls 7 [(0, .ref x0), (1, .ref x1), (2, .ref x2), (3, .int x3), (4, .int x4), (6, .int x6)] → W p l e rm_X0_becomeHadamard s m args below meth c H locs 0 0 Q (F0 m 99 ls []) := by
  intro n
  induction n with
  | zero => intro x6 σ h; exact absurd h (by simp [loopM])
  | succ n ih =>
    intro x6 σ h H locs ls hw hl
    obtain ⟨r, h1, h2, h3⟩ := loopM_inv h
    exact t_X0_becomeHadamard_B99 hC hr h1 hw hl (fun z6 s2 e H locs ls hw hl => ih z6 s2 (h2 _ e) H locs ls hw hl) (fun s2 e H locs ls hw hl => by cases h3 _ e; exact kE H locs ls hw hl)
set_option maxHeartbeats 4000000 in
set_option maxRecDepth 100000 in
theorem t_X0_becomeHadamard_B26 (hC : zC p l s m args meth c cX0_becomeHadamard 7 RX0 D cA B0) (hr : meth.sig.returnType = (Option.none : Option Jvm.ClassFile.FieldType)) {Γ : zSh} {x0 : Nat} {x1 : Nat} {x2 : Nat} {x3 : Int32} {x4 : Int32} {σ : zSt} {out : ((Int32 × zSt) ⊕ (zSt))} (hf : f_X0_becomeHadamard_B26 Γ x0 x1 x2 x3 x4 σ = some out) {H : Heap} {locs : List Loc} {ls : Array Slot} (hw : zO D cA B0 Γ σ Z s.heap H locs) (hl : lv_has ls 7 [(0, .ref x0), (1, .ref x1), (2, .ref x2), (3, .int x3), (4, .int x4)])
    (kI : ∀ (z4 : Int32) (σ2 : zSt), out = .inl (z4, σ2) → ∀ (H : Heap) (locs : List Loc) (ls : Array Slot), zO D cA B0 Γ σ2 Z s.heap H locs → lv_has ls 7 [(0, .ref x0), (1, .ref x1), (2, .ref x2), (3, .int x3), (4, .int z4)] → W p l e rm_X0_becomeHadamard s m args below meth c H locs 0 0 Q (F0 m 26 ls []))
    (kE : ∀ (σ2 : zSt), out = .inr σ2 → ∀ (H : Heap) (locs : List Loc) (ls : Array Slot), zO D cA B0 Γ σ2 Z s.heap H locs → lv_has ls 7 [(0, .ref x0), (1, .ref x1), (2, .ref x2), (3, .int x3)] → W p l e rm_X0_becomeHadamard s m args below meth c H locs 0 0 Q (F0 m 128 ls [])) :
    W p l e rm_X0_becomeHadamard s m args below meth c H locs 0 0 Q (F0 m 26 ls []) := by
  have hx := hC.1
  have hb := hC.2.1
  unfold f_X0_becomeHadamard_B26 at hf
  refine lv_iload hx hb dX0_becomeHadamard_26 (lv_at hl 4 rfl) ?_
  refine lv_aload_n hx hb dX0_becomeHadamard_28 rfl (lv_at hl 2 rfl) ?_
  obtain ⟨v5, hg, hf⟩ := gfI_inv hf
  refine r_gfI hC hw hg clX0 (Nat.le_of_ble_eq_true rfl) lkF_X0_9 rfl dX0_becomeHadamard_29 ?_
  refine lv_icmp_ge (tgt := 128) hx hb dX0_becomeHadamard_32 (by decide) (fun hc => ?_) (fun hc => ?_)
  · rw [if_pos hc] at hf
    exact kE  σ (Option.some.inj hf).symm _ _ _ hw (lv_sub hl [0, 1, 2, 3] rfl)
  · rw [if_neg hc] at hf
    refine lv_aload_n hx hb dX0_becomeHadamard_35 rfl (lv_at hl 2 rfl) ?_
    obtain ⟨v6, hg, hf⟩ := gfI_inv hf
    refine r_gfI hC hw hg clX0 (Nat.le_of_ble_eq_true rfl) lkF_X0_9 rfl dX0_becomeHadamard_36 ?_
    refine lv_iload_n hx hb dX0_becomeHadamard_39 rfl (lv_at hl 3 rfl) ?_
    refine lv_imul hx hb dX0_becomeHadamard_40 ?_
    refine lv_iload hx hb dX0_becomeHadamard_41 (lv_at hl 4 rfl) ?_
    refine lv_iadd hx hb dX0_becomeHadamard_43 ?_
    refine lv_istore (lv' := [(5, .int ((v6 * x3) + x4)), (0, .ref x0), (1, .ref x1), (2, .ref x2), (3, .int x3), (4, .int x4)]) hx hb dX0_becomeHadamard_44 hl (Nat.le_of_ble_eq_true rfl) rfl (fun ls hl => ?_)
    refine lv_aload_n hx hb dX0_becomeHadamard_46 rfl (lv_at hl 1 rfl) ?_
    obtain ⟨v7, hg, hf⟩ := gfR_inv hf
    refine r_gfR hC hw hg clX0 (Nat.le_of_ble_eq_true rfl) lkF_X0_15 rfl dX0_becomeHadamard_47 ?_
    refine lv_iload hx hb dX0_becomeHadamard_50 (lv_at hl 0 rfl) ?_
    refine lv_aload_n hx hb dX0_becomeHadamard_52 rfl (lv_at hl 2 rfl) ?_
    obtain ⟨v8, hg, hf⟩ := gfR_inv hf
    refine r_gfR hC hw hg clX0 (Nat.le_of_ble_eq_true rfl) lkF_X0_15 rfl dX0_becomeHadamard_53 ?_
    refine lv_iload_n hx hb dX0_becomeHadamard_56 rfl (lv_at hl 4 rfl) ?_
    obtain ⟨v9, hg, hf⟩ := ldI_inv hf
    refine r_ldI hC hw hg dX0_becomeHadamard_57 ?_
    refine lv_aload_n hx hb dX0_becomeHadamard_58 rfl (lv_at hl 3 rfl) ?_
    obtain ⟨v10, hg, hf⟩ := gfR_inv hf
    refine r_gfR hC hw hg clX0 (Nat.le_of_ble_eq_true rfl) lkF_X0_15 rfl dX0_becomeHadamard_59 ?_
    refine lv_iload hx hb dX0_becomeHadamard_62 (lv_at hl 5 rfl) ?_
    obtain ⟨v11, hg, hf⟩ := ldI_inv hf
    refine r_ldI hC hw hg dX0_becomeHadamard_64 ?_
    refine lv_imul hx hb dX0_becomeHadamard_65 ?_
    refine lv_sipush (v := 10007) hx hb dX0_becomeHadamard_66 (by decide) ?_
    obtain ⟨v12, hg, hf⟩ := rmI_inv hf
    refine r_rmI hC hg dX0_becomeHadamard_69 ?_
    obtain ⟨σ13, hg, hf⟩ := stI_inv hf
    refine r_stI hC hw hg dX0_becomeHadamard_70 (fun H locs hw => ?_)
    refine lv_aload_n hx hb dX0_becomeHadamard_71 rfl (lv_at hl 1 rfl) ?_
    obtain ⟨v14, hg, hf⟩ := gfR_inv hf
    refine r_gfR hC hw hg clX0 (Nat.le_of_ble_eq_true rfl) lkF_X0_19 rfl dX0_becomeHadamard_72 ?_
    refine lv_iload hx hb dX0_becomeHadamard_75 (lv_at hl 0 rfl) ?_
    refine lv_aload_n hx hb dX0_becomeHadamard_77 rfl (lv_at hl 2 rfl) ?_
    obtain ⟨v15, hg, hf⟩ := gfR_inv hf
    refine r_gfR hC hw hg clX0 (Nat.le_of_ble_eq_true rfl) lkF_X0_19 rfl dX0_becomeHadamard_78 ?_
    refine lv_iload_n hx hb dX0_becomeHadamard_81 rfl (lv_at hl 4 rfl) ?_
    obtain ⟨v16, hg, hf⟩ := ldI_inv hf
    refine r_ldI hC hw hg dX0_becomeHadamard_82 ?_
    refine lv_aload_n hx hb dX0_becomeHadamard_83 rfl (lv_at hl 3 rfl) ?_
    obtain ⟨v17, hg, hf⟩ := gfR_inv hf
    refine r_gfR hC hw hg clX0 (Nat.le_of_ble_eq_true rfl) lkF_X0_19 rfl dX0_becomeHadamard_84 ?_
    refine lv_iload hx hb dX0_becomeHadamard_87 (lv_at hl 5 rfl) ?_
    obtain ⟨v18, hg, hf⟩ := ldI_inv hf
    refine r_ldI hC hw hg dX0_becomeHadamard_89 ?_
    refine lv_imul hx hb dX0_becomeHadamard_90 ?_
    refine lv_sipush (v := 10007) hx hb dX0_becomeHadamard_91 (by decide) ?_
    obtain ⟨v19, hg, hf⟩ := rmI_inv hf
    refine r_rmI hC hg dX0_becomeHadamard_94 ?_
    obtain ⟨σ20, hg, hf⟩ := stI_inv hf
    refine r_stI hC hw hg dX0_becomeHadamard_95 (fun H locs hw => ?_)
    refine lv_iconst (v := 0) hx hb dX0_becomeHadamard_96 (by decide) ?_
    refine lv_istore (lv' := [(6, .int 0), (5, .int ((v6 * x3) + x4)), (0, .ref x0), (1, .ref x1), (2, .ref x2), (3, .int x3), (4, .int x4)]) hx hb dX0_becomeHadamard_97 hl (Nat.le_of_ble_eq_true rfl) rfl (fun ls hl => ?_)
    obtain ⟨σ22, hk, hf⟩ := lb0_inv hf
    refine l_X0_becomeHadamard_B99 hC hr (fun H locs ls hw hl => ?_) FUEL 0 σ20 hk _ _ _ hw (lv_sub hl [2, 3, 4, 5, 6, 0] rfl)
    refine lv_iinc (v := (x4 + 1)) (lv' := [(4, .int (x4 + 1)), (0, .ref x0), (1, .ref x1), (2, .ref x2), (3, .int x3)]) hx hb dX0_becomeHadamard_122 hl (k := 4) rfl rfl (Nat.le_of_ble_eq_true rfl) rfl (fun ls hl => ?_)
    refine lv_goto (tgt := 26) hx hb dX0_becomeHadamard_125 (by decide) ?_
    exact kI (x4 + 1) σ22 (Option.some.inj hf).symm _ _ _ hw (lv_sub hl [1, 2, 3, 4, 0] rfl)
set_option maxHeartbeats 4000000 in
theorem l_X0_becomeHadamard_B26 (hC : zC p l s m args meth c cX0_becomeHadamard 7 RX0 D cA B0) (hr : meth.sig.returnType = (Option.none : Option Jvm.ClassFile.FieldType)) {Γ : zSh} {x0 : Nat} {x1 : Nat} {x2 : Nat} {x3 : Int32} {σ2 : zSt} (kE : ∀ (H : Heap) (locs : List Loc) (ls : Array Slot), zO D cA B0 Γ σ2 Z s.heap H locs → lv_has ls 7 [(0, .ref x0), (1, .ref x1), (2, .ref x2), (3, .int x3)] → W p l e rm_X0_becomeHadamard s m args below meth c H locs 0 0 Q (F0 m 128 ls [])) :
    ∀ (n : Nat) (x4 : Int32) (σ : zSt), loopM (fun q => f_X0_becomeHadamard_B26 Γ x0 x1 x2 x3 q.1 q.2) n (x4, σ) = some σ2 → ∀ (H : Heap) (locs : List Loc) (ls : Array Slot), zO D cA B0 Γ σ Z s.heap H locs → lv_has ls 7 [(0, .ref x0), (1, .ref x1), (2, .ref x2), (3, .int x3), (4, .int x4)] → W p l e rm_X0_becomeHadamard s m args below meth c H locs 0 0 Q (F0 m 26 ls []) := by
  intro n
  induction n with
  | zero => intro x4 σ h; exact absurd h (by simp [loopM])
  | succ n ih =>
    intro x4 σ h H locs ls hw hl
    obtain ⟨r, h1, h2, h3⟩ := loopM_inv h
    exact t_X0_becomeHadamard_B26 hC hr h1 hw hl (fun z4 s2 e H locs ls hw hl => ih z4 s2 (h2 _ e) H locs ls hw hl) (fun s2 e H locs ls hw hl => by cases h3 _ e; exact kE H locs ls hw hl)
set_option maxHeartbeats 4000000 in
set_option maxRecDepth 100000 in
theorem t_X0_becomeHadamard_B15 (hC : zC p l s m args meth c cX0_becomeHadamard 7 RX0 D cA B0) (hr : meth.sig.returnType = (Option.none : Option Jvm.ClassFile.FieldType)) {Γ : zSh} {x0 : Nat} {x1 : Nat} {x2 : Nat} {x3 : Int32} {σ : zSt} {out : ((Int32 × zSt) ⊕ (zSt))} (hf : f_X0_becomeHadamard_B15 Γ x0 x1 x2 x3 σ = some out) {H : Heap} {locs : List Loc} {ls : Array Slot} (hw : zO D cA B0 Γ σ Z s.heap H locs) (hl : lv_has ls 7 [(0, .ref x0), (1, .ref x1), (2, .ref x2), (3, .int x3)])
    (kI : ∀ (z3 : Int32) (σ2 : zSt), out = .inl (z3, σ2) → ∀ (H : Heap) (locs : List Loc) (ls : Array Slot), zO D cA B0 Γ σ2 Z s.heap H locs → lv_has ls 7 [(0, .ref x0), (1, .ref x1), (2, .ref x2), (3, .int z3)] → W p l e rm_X0_becomeHadamard s m args below meth c H locs 0 0 Q (F0 m 15 ls []))
    (kE : ∀ (σ2 : zSt), out = .inr σ2 → ∀ (H : Heap) (locs : List Loc) (ls : Array Slot), zO D cA B0 Γ σ2 Z s.heap H locs → lv_has ls 7 [] → W p l e rm_X0_becomeHadamard s m args below meth c H locs 0 0 Q (F0 m 134 ls [])) :
    W p l e rm_X0_becomeHadamard s m args below meth c H locs 0 0 Q (F0 m 15 ls []) := by
  have hx := hC.1
  have hb := hC.2.1
  unfold f_X0_becomeHadamard_B15 at hf
  refine lv_iload_n hx hb dX0_becomeHadamard_15 rfl (lv_at hl 3 rfl) ?_
  refine lv_aload_n hx hb dX0_becomeHadamard_16 rfl (lv_at hl 1 rfl) ?_
  obtain ⟨v4, hg, hf⟩ := gfI_inv hf
  refine r_gfI hC hw hg clX0 (Nat.le_of_ble_eq_true rfl) lkF_X0_9 rfl dX0_becomeHadamard_17 ?_
  refine lv_icmp_ge (tgt := 134) hx hb dX0_becomeHadamard_20 (by decide) (fun hc => ?_) (fun hc => ?_)
  · rw [if_pos hc] at hf
    exact kE  σ (Option.some.inj hf).symm _ _ _ hw (lv_sub hl [] rfl)
  · rw [if_neg hc] at hf
    refine lv_iconst (v := 0) hx hb dX0_becomeHadamard_23 (by decide) ?_
    refine lv_istore (lv' := [(4, .int 0), (0, .ref x0), (1, .ref x1), (2, .ref x2), (3, .int x3)]) hx hb dX0_becomeHadamard_24 hl (Nat.le_of_ble_eq_true rfl) rfl (fun ls hl => ?_)
    obtain ⟨σ23, hk, hf⟩ := lb0_inv hf
    refine l_X0_becomeHadamard_B26 hC hr (fun H locs ls hw hl => ?_) FUEL 0 σ hk _ _ _ hw (lv_sub hl [1, 2, 3, 4, 0] rfl)
    refine lv_iinc (v := (x3 + 1)) (lv' := [(3, .int (x3 + 1)), (0, .ref x0), (1, .ref x1), (2, .ref x2)]) hx hb dX0_becomeHadamard_128 hl (k := 3) rfl rfl (Nat.le_of_ble_eq_true rfl) rfl (fun ls hl => ?_)
    refine lv_goto (tgt := 15) hx hb dX0_becomeHadamard_131 (by decide) ?_
    exact kI (x3 + 1) σ23 (Option.some.inj hf).symm _ _ _ hw (lv_sub hl [1, 2, 3, 0] rfl)
set_option maxHeartbeats 4000000 in
theorem l_X0_becomeHadamard_B15 (hC : zC p l s m args meth c cX0_becomeHadamard 7 RX0 D cA B0) (hr : meth.sig.returnType = (Option.none : Option Jvm.ClassFile.FieldType)) {Γ : zSh} {x0 : Nat} {x1 : Nat} {x2 : Nat} {σ2 : zSt} (kE : ∀ (H : Heap) (locs : List Loc) (ls : Array Slot), zO D cA B0 Γ σ2 Z s.heap H locs → lv_has ls 7 [] → W p l e rm_X0_becomeHadamard s m args below meth c H locs 0 0 Q (F0 m 134 ls [])) :
    ∀ (n : Nat) (x3 : Int32) (σ : zSt), loopM (fun q => f_X0_becomeHadamard_B15 Γ x0 x1 x2 q.1 q.2) n (x3, σ) = some σ2 → ∀ (H : Heap) (locs : List Loc) (ls : Array Slot), zO D cA B0 Γ σ Z s.heap H locs → lv_has ls 7 [(0, .ref x0), (1, .ref x1), (2, .ref x2), (3, .int x3)] → W p l e rm_X0_becomeHadamard s m args below meth c H locs 0 0 Q (F0 m 15 ls []) := by
  intro n
  induction n with
  | zero => intro x3 σ h; exact absurd h (by simp [loopM])
  | succ n ih =>
    intro x3 σ h H locs ls hw hl
    obtain ⟨r, h1, h2, h3⟩ := loopM_inv h
    exact t_X0_becomeHadamard_B15 hC hr h1 hw hl (fun z3 s2 e H locs ls hw hl => ih z3 s2 (h2 _ e) H locs ls hw hl) (fun s2 e H locs ls hw hl => by cases h3 _ e; exact kE H locs ls hw hl)
set_option maxHeartbeats 4000000 in
set_option maxRecDepth 100000 in
theorem m_X0_becomeHadamard (h9 : l.stackTraces = false) {Γ : zSh} {a0 : Nat} {a1 : Nat} {a2 : Nat} {σ : zSt} {r : Unit} {σ2 : zSt} (hf : f_X0_becomeHadamard Γ a0 a1 a2 σ = some (r, σ2)) : Met l yX0_becomeHadamard (wq yX0_becomeHadamard cX0_becomeHadamard 7 (Option.none : Option Jvm.ClassFile.FieldType)) rm_X0_becomeHadamard (zQ0 D cA B0 [.ref a0, .ref a1, .ref a2] Γ σ Z) (zQ1 D cA B0 (none) Γ σ2 Z) 0 0 (FR B0) := by
  refine z_ofW h9 (by decide) (Nat.le_of_ble_eq_true rfl) ?_
  intro p e s m args below meth c ls hC hr _ hw hl
  have hx := hC.1
  have hb := hC.2.1
  have hl : lv_has ls 7 [(0, .ref a0), (1, .ref a1), (2, .ref a2)] := hl
  unfold f_X0_becomeHadamard at hf
  refine lv_aload_n hx hb dX0_becomeHadamard_0 rfl (lv_at hl 0 rfl) ?_
  refine lv_aload_n hx hb dX0_becomeHadamard_1 rfl (lv_at hl 1 rfl) ?_
  obtain ⟨v1, hg, hf⟩ := gfI_inv hf
  refine r_gfI hC hw hg clX0 (Nat.le_of_ble_eq_true rfl) lkF_X0_9 rfl dX0_becomeHadamard_2 ?_
  refine lv_aload_n hx hb dX0_becomeHadamard_5 rfl (lv_at hl 2 rfl) ?_
  obtain ⟨v2, hg, hf⟩ := gfI_inv hf
  refine r_gfI hC hw hg clX0 (Nat.le_of_ble_eq_true rfl) lkF_X0_9 rfl dX0_becomeHadamard_6 ?_
  refine lv_imul hx hb dX0_becomeHadamard_9 ?_
  obtain ⟨σ3, hg, hf⟩ := pfI_inv hf
  refine r_pfI hC hw hg clX0 (Nat.le_of_ble_eq_true rfl) lkF_X0_9 rfl rfl rfl dX0_becomeHadamard_10 (fun H locs hw => ?_)
  refine lv_iconst (v := 0) hx hb dX0_becomeHadamard_13 (by decide) ?_
  refine lv_istore_n (lv' := [(3, .int 0), (0, .ref a0), (1, .ref a1), (2, .ref a2)]) hx hb dX0_becomeHadamard_14 rfl hl (Nat.le_of_ble_eq_true rfl) rfl (fun ls hl => ?_)
  obtain ⟨σ24, hk, hf⟩ := lb0_inv hf
  refine l_X0_becomeHadamard_B15 hC hr (fun H locs ls hw hl => ?_) FUEL 0 σ3 hk _ _ _ hw (lv_sub hl [1, 2, 3, 0] rfl)
  first | (obtain ⟨rfl, rfl⟩ := sp_inv hf) | (obtain rfl := Option.some.inj hf)
  exact W.vret hx hb hr (z_ret hw rfl) hw.2.2.2.2.2 dX0_becomeHadamard_134 hC.2.2.2.2.2.1
set_option maxHeartbeats 4000000 in
set_option maxRecDepth 100000 in
theorem t_X0_weightFrom_B4_L35 (hC : zC p l s m args meth c cX0_weightFrom 4 RX0 D cA B0) (hr : meth.sig.returnType = (Option.some FieldType.int)) {Γ : zSh} {x0 : Nat} {x1 : Nat} {x2 : Int32} {x3 : Int32}  {σ : zSt} {out : ((Int32 × Int32 × zSt) ⊕ (Int32 × zSt))} (hf : f_X0_weightFrom_B4_L35 Γ x0 x1 x2 x3 σ = some out) {H : Heap} {locs : List Loc} {ls : Array Slot} (hw : zO D cA B0 Γ σ Z s.heap H locs) (hl : lv_has ls 4 [(0, .ref x0), (1, .ref x1), (2, .int x2), (3, .int x3)])
    (kI : ∀ (z2 : Int32) (z3 : Int32) (σ2 : zSt), out = .inl (z2, z3, σ2) → ∀ (H : Heap) (locs : List Loc) (ls : Array Slot), zO D cA B0 Γ σ2 Z s.heap H locs → lv_has ls 4 [(0, .ref x0), (1, .ref x1), (2, .int z2), (3, .int z3)] → W p l e rm_X0_weightFrom s m args below meth c H locs 0 0 Q (F0 m 4 ls []))
    (kE : ∀ (z2 : Int32) (σ2 : zSt), out = .inr (z2, σ2) → ∀ (H : Heap) (locs : List Loc) (ls : Array Slot), zO D cA B0 Γ σ2 Z s.heap H locs → lv_has ls 4 [(2, .int z2)] → W p l e rm_X0_weightFrom s m args below meth c H locs 0 0 Q (F0 m 41 ls [])) :
    W p l e rm_X0_weightFrom s m args below meth c H locs 0 0 Q (F0 m 35 ls []) := by
  have hx := hC.1
  have hb := hC.2.1
  unfold f_X0_weightFrom_B4_L35 at hf
  refine lv_iinc (v := (x3 + 1)) (lv' := [(3, .int (x3 + 1)), (0, .ref x0), (1, .ref x1), (2, .int x2)]) hx hb dX0_weightFrom_35 hl (k := 3) rfl rfl (Nat.le_of_ble_eq_true rfl) rfl (fun ls hl => ?_)
  refine lv_goto (tgt := 4) hx hb dX0_weightFrom_38 (by decide) ?_
  exact kI x2 (x3 + 1) σ (Option.some.inj hf).symm _ _ _ hw (lv_sub hl [1, 2, 3, 0] rfl)
set_option maxHeartbeats 4000000 in
set_option maxRecDepth 100000 in
theorem t_X0_weightFrom_B4 (hC : zC p l s m args meth c cX0_weightFrom 4 RX0 D cA B0) (hr : meth.sig.returnType = (Option.some FieldType.int)) {Γ : zSh} {x0 : Nat} {x1 : Nat} {x2 : Int32} {x3 : Int32} {σ : zSt} {out : ((Int32 × Int32 × zSt) ⊕ (Int32 × zSt))} (hf : f_X0_weightFrom_B4 Γ x0 x1 x2 x3 σ = some out) {H : Heap} {locs : List Loc} {ls : Array Slot} (hw : zO D cA B0 Γ σ Z s.heap H locs) (hl : lv_has ls 4 [(0, .ref x0), (1, .ref x1), (2, .int x2), (3, .int x3)])
    (kI : ∀ (z2 : Int32) (z3 : Int32) (σ2 : zSt), out = .inl (z2, z3, σ2) → ∀ (H : Heap) (locs : List Loc) (ls : Array Slot), zO D cA B0 Γ σ2 Z s.heap H locs → lv_has ls 4 [(0, .ref x0), (1, .ref x1), (2, .int z2), (3, .int z3)] → W p l e rm_X0_weightFrom s m args below meth c H locs 0 0 Q (F0 m 4 ls []))
    (kE : ∀ (z2 : Int32) (σ2 : zSt), out = .inr (z2, σ2) → ∀ (H : Heap) (locs : List Loc) (ls : Array Slot), zO D cA B0 Γ σ2 Z s.heap H locs → lv_has ls 4 [(2, .int z2)] → W p l e rm_X0_weightFrom s m args below meth c H locs 0 0 Q (F0 m 41 ls [])) :
    W p l e rm_X0_weightFrom s m args below meth c H locs 0 0 Q (F0 m 4 ls []) := by
  have hx := hC.1
  have hb := hC.2.1
  unfold f_X0_weightFrom_B4 at hf
  refine lv_iload_n hx hb dX0_weightFrom_4 rfl (lv_at hl 3 rfl) ?_
  refine lv_aload_n hx hb dX0_weightFrom_5 rfl (lv_at hl 0 rfl) ?_
  obtain ⟨v1, hg, hf⟩ := gfI_inv hf
  refine r_gfI hC hw hg clX0 (Nat.le_of_ble_eq_true rfl) lkF_X0_9 rfl dX0_weightFrom_6 ?_
  refine lv_icmp_ge (tgt := 41) hx hb dX0_weightFrom_9 (by decide) (fun hc => ?_) (fun hc => ?_)
  · rw [if_pos hc] at hf
    exact kE x2 σ (Option.some.inj hf).symm _ _ _ hw (lv_sub hl [2] rfl)
  · rw [if_neg hc] at hf
    refine lv_aload_n hx hb dX0_weightFrom_12 rfl (lv_at hl 1 rfl) ?_
    refine lv_iload_n hx hb dX0_weightFrom_13 rfl (lv_at hl 3 rfl) ?_
    obtain ⟨v2, hg, hf⟩ := ldI_inv hf
    refine r_ldI hC hw hg dX0_weightFrom_14 ?_
    refine lv_if_eq (tgt := 35) hx hb dX0_weightFrom_15 (by decide) (fun hc => ?_) (fun hc => ?_)
    · rw [if_pos hc] at hf
      exact t_X0_weightFrom_B4_L35 hC hr hf hw (lv_sub hl [0, 1, 2, 3] rfl) kI kE
    · rw [if_neg hc] at hf
      refine lv_iload_n hx hb dX0_weightFrom_18 rfl (lv_at hl 2 rfl) ?_
      refine lv_aload_n hx hb dX0_weightFrom_19 rfl (lv_at hl 1 rfl) ?_
      refine lv_iload_n hx hb dX0_weightFrom_20 rfl (lv_at hl 3 rfl) ?_
      obtain ⟨v3, hg, hf⟩ := ldI_inv hf
      refine r_ldI hC hw hg dX0_weightFrom_21 ?_
      refine lv_aload_n hx hb dX0_weightFrom_22 rfl (lv_at hl 0 rfl) ?_
      obtain ⟨v4, hg, hf⟩ := gfR_inv hf
      refine r_gfR hC hw hg clX0 (Nat.le_of_ble_eq_true rfl) lkF_X0_19 rfl dX0_weightFrom_23 ?_
      refine lv_iload_n hx hb dX0_weightFrom_26 rfl (lv_at hl 3 rfl) ?_
      obtain ⟨v5, hg, hf⟩ := ldI_inv hf
      refine r_ldI hC hw hg dX0_weightFrom_27 ?_
      refine lv_imul hx hb dX0_weightFrom_28 ?_
      refine lv_iadd hx hb dX0_weightFrom_29 ?_
      refine lv_sipush (v := 10007) hx hb dX0_weightFrom_30 (by decide) ?_
      obtain ⟨v6, hg, hf⟩ := rmI_inv hf
      refine r_rmI hC hg dX0_weightFrom_33 ?_
      refine lv_istore_n (lv' := [(2, .int v6), (0, .ref x0), (1, .ref x1), (3, .int x3)]) hx hb dX0_weightFrom_34 rfl hl (Nat.le_of_ble_eq_true rfl) rfl (fun ls hl => ?_)
      exact t_X0_weightFrom_B4_L35 hC hr hf hw (lv_sub hl [1, 2, 0, 3] rfl) kI kE
set_option maxHeartbeats 4000000 in
theorem l_X0_weightFrom_B4 (hC : zC p l s m args meth c cX0_weightFrom 4 RX0 D cA B0) (hr : meth.sig.returnType = (Option.some FieldType.int)) {Γ : zSh} {x0 : Nat} {x1 : Nat} {w2 : Int32} {σ2 : zSt} (kE : ∀ (H : Heap) (locs : List Loc) (ls : Array Slot), zO D cA B0 Γ σ2 Z s.heap H locs → lv_has ls 4 [(2, .int w2)] → W p l e rm_X0_weightFrom s m args below meth c H locs 0 0 Q (F0 m 41 ls [])) :
    ∀ (n : Nat) (x2 : Int32) (x3 : Int32) (σ : zSt), loopM (fun q => f_X0_weightFrom_B4 Γ x0 x1 q.1 q.2.1 q.2.2) n (x2, x3, σ) = some (w2, σ2) → ∀ (H : Heap) (locs : List Loc) (ls : Array Slot), zO D cA B0 Γ σ Z s.heap H locs → lv_has ls 4 [(0, .ref x0), (1, .ref x1), (2, .int x2), (3, .int x3)] → W p l e rm_X0_weightFrom s m args below meth c H locs 0 0 Q (F0 m 4 ls []) := by
  intro n
  induction n with
  | zero => intro x2 x3 σ h; exact absurd h (by simp [loopM])
  | succ n ih =>
    intro x2 x3 σ h H locs ls hw hl
    obtain ⟨r, h1, h2, h3⟩ := loopM_inv h
    exact t_X0_weightFrom_B4 hC hr h1 hw hl (fun z2 z3 s2 e H locs ls hw hl => ih z2 z3 s2 (h2 _ e) H locs ls hw hl) (fun z2 s2 e H locs ls hw hl => by cases h3 _ e; exact kE H locs ls hw hl)
set_option maxHeartbeats 4000000 in
set_option maxRecDepth 100000 in
theorem m_X0_weightFrom (h9 : l.stackTraces = false) {Γ : zSh} {a0 : Nat} {a1 : Nat} {σ : zSt} {r : Int32} {σ2 : zSt} (hf : f_X0_weightFrom Γ a0 a1 σ = some (r, σ2)) : Met l yX0_weightFrom (wq yX0_weightFrom cX0_weightFrom 4 (Option.some FieldType.int)) rm_X0_weightFrom (zQ0 D cA B0 [.ref a0, .ref a1] Γ σ Z) (zQ1 D cA B0 (some (.int r)) Γ σ2 Z) 0 0 (FR B0) := by
  refine z_ofW h9 (by decide) (Nat.le_of_ble_eq_true rfl) ?_
  intro p e s m args below meth c ls hC hr _ hw hl
  have hx := hC.1
  have hb := hC.2.1
  have hl : lv_has ls 4 [(0, .ref a0), (1, .ref a1)] := hl
  unfold f_X0_weightFrom at hf
  refine lv_iconst (v := 0) hx hb dX0_weightFrom_0 (by decide) ?_
  refine lv_istore_n (lv' := [(2, .int 0), (0, .ref a0), (1, .ref a1)]) hx hb dX0_weightFrom_1 rfl hl (Nat.le_of_ble_eq_true rfl) rfl (fun ls hl => ?_)
  refine lv_iconst (v := 0) hx hb dX0_weightFrom_2 (by decide) ?_
  refine lv_istore_n (lv' := [(3, .int 0), (2, .int 0), (0, .ref a0), (1, .ref a1)]) hx hb dX0_weightFrom_3 rfl hl (Nat.le_of_ble_eq_true rfl) rfl (fun ls hl => ?_)
  obtain ⟨w8, σ7, hk, hf⟩ := lb1_inv hf
  refine l_X0_weightFrom_B4 hC hr (fun H locs ls hw hl => ?_) FUEL 0 0 σ hk _ _ _ hw (lv_sub hl [2, 3, 1, 0] rfl)
  refine lv_iload_n hx hb dX0_weightFrom_41 rfl (lv_at hl 0 rfl) ?_
  first | (obtain ⟨rfl, rfl⟩ := sp_inv hf) | (obtain rfl := Option.some.inj hf)
  exact W.iret hx hb hr (z_ret hw rfl) hw.2.2.2.2.2 dX0_weightFrom_42 hC.2.2.2.2.2.1
set_option maxHeartbeats 4000000 in
set_option maxRecDepth 100000 in
theorem m_X0_emptyWeight (h9 : l.stackTraces = false) {Γ : zSh} {a0 : Nat} {σ : zSt} {r : Int32} {σ2 : zSt} (hf : f_X0_emptyWeight Γ a0 σ = some (r, σ2)) : Met l yX0_emptyWeight (wq yX0_emptyWeight cX0_emptyWeight 1 (Option.some FieldType.int)) rm_X0_emptyWeight (zQ0 D cA B0 [.ref a0] Γ σ Z) (zQ1 D cA B0 (some (.int r)) Γ σ2 Z) 0 0 (FR B0) := by
  refine z_ofW h9 (by decide) (Nat.le_of_ble_eq_true rfl) ?_
  intro p e s m args below meth c ls hC hr _ hw hl
  have hx := hC.1
  have hb := hC.2.1
  have hl : lv_has ls 1 [(0, .ref a0)] := hl
  unfold f_X0_emptyWeight at hf
  refine lv_aload_n hx hb dX0_emptyWeight_0 rfl (lv_at hl 0 rfl) ?_
  refine lv_aload_n hx hb dX0_emptyWeight_1 rfl (lv_at hl 0 rfl) ?_
  obtain ⟨v1, hg, hf⟩ := gfR_inv hf
  refine r_gfR hC hw hg clX0 (Nat.le_of_ble_eq_true rfl) lkF_X0_15 rfl dX0_emptyWeight_2 ?_
  obtain ⟨ho, hf⟩ := chk_inv hf
  obtain ⟨r3, σ2, hk, hf⟩ := bnd_inv hf
  refine z_callV (As := [.ref v1]) (rest := []) (m_X0_weightFrom hC.2.2.2.2.2.2.2.2 hk) hC hw wd_X0_weightFrom lkM_X0_96 (isO_sh ho) rfl rfl ⟨rfl, rfl⟩ ⟨(Nat.le_of_ble_eq_true rfl), (Nat.le_of_ble_eq_true rfl)⟩ hl.1 rfl (Nat.le_of_ble_eq_true rfl) dX0_emptyWeight_5 ⟨(Nat.le_of_ble_eq_true rfl), (Nat.le_of_ble_eq_true rfl)⟩ (fun H locs hw => ?_)
  first | (obtain ⟨rfl, rfl⟩ := sp_inv hf) | (obtain rfl := Option.some.inj hf)
  exact W.iret hx hb hr (z_ret hw rfl) hw.2.2.2.2.2 dX0_emptyWeight_8 hC.2.2.2.2.2.1
set_option maxHeartbeats 4000000 in
set_option maxRecDepth 100000 in
theorem t_X6_multiply_B2 (hC : zC p l s m args meth c cX6_multiply 4 RX6 D cA B0) (hr : meth.sig.returnType = (Option.none : Option Jvm.ClassFile.FieldType)) {Γ : zSh} {x0 : Nat} {x1 : Int32} {x2 : Int32} {x3 : Int32} {σ : zSt} {out : ((Int32 × zSt) ⊕ (zSt))} (hf : f_X6_multiply_B2 Γ x0 x1 x2 x3 σ = some out) {H : Heap} {locs : List Loc} {ls : Array Slot} (hw : zO D cA B0 Γ σ Z s.heap H locs) (hl : lv_has ls 4 [(0, .ref x0), (1, .int x1), (2, .int x2), (3, .int x3)])
    (kI : ∀ (z3 : Int32) (σ2 : zSt), out = .inl (z3, σ2) → ∀ (H : Heap) (locs : List Loc) (ls : Array Slot), zO D cA B0 Γ σ2 Z s.heap H locs → lv_has ls 4 [(0, .ref x0), (1, .int x1), (2, .int x2), (3, .int z3)] → W p l e rm_X6_multiply s m args below meth c H locs 0 0 Q (F0 m 2 ls []))
    (kE : ∀ (σ2 : zSt), out = .inr σ2 → ∀ (H : Heap) (locs : List Loc) (ls : Array Slot), zO D cA B0 Γ σ2 Z s.heap H locs → lv_has ls 4 [] → W p l e rm_X6_multiply s m args below meth c H locs 0 0 Q (F0 m 25 ls [])) :
    W p l e rm_X6_multiply s m args below meth c H locs 0 0 Q (F0 m 2 ls []) := by
  have hx := hC.1
  have hb := hC.2.1
  unfold f_X6_multiply_B2 at hf
  refine lv_iload_n hx hb dX6_multiply_2 rfl (lv_at hl 3 rfl) ?_
  refine lv_iload_n hx hb dX6_multiply_3 rfl (lv_at hl 2 rfl) ?_
  refine lv_icmp_ge (tgt := 25) hx hb dX6_multiply_4 (by decide) (fun hc => ?_) (fun hc => ?_)
  · rw [if_pos hc] at hf
    exact kE  σ (Option.some.inj hf).symm _ _ _ hw (lv_sub hl [] rfl)
  · rw [if_neg hc] at hf
    refine lv_aload_n hx hb dX6_multiply_7 rfl (lv_at hl 0 rfl) ?_
    refine lv_iload_n hx hb dX6_multiply_8 rfl (lv_at hl 3 rfl) ?_
    refine lv_aload_n hx hb dX6_multiply_9 rfl (lv_at hl 0 rfl) ?_
    refine lv_iload_n hx hb dX6_multiply_10 rfl (lv_at hl 3 rfl) ?_
    obtain ⟨v1, hg, hf⟩ := ldI_inv hf
    refine r_ldI hC hw hg dX6_multiply_11 ?_
    refine lv_iload_n hx hb dX6_multiply_12 rfl (lv_at hl 1 rfl) ?_
    refine lv_imul hx hb dX6_multiply_13 ?_
    refine lv_sipush (v := 10007) hx hb dX6_multiply_14 (by decide) ?_
    obtain ⟨v2, hg, hf⟩ := rmI_inv hf
    refine r_rmI hC hg dX6_multiply_17 ?_
    obtain ⟨σ3, hg, hf⟩ := stI_inv hf
    refine r_stI hC hw hg dX6_multiply_18 (fun H locs hw => ?_)
    refine lv_iinc (v := (x3 + 1)) (lv' := [(3, .int (x3 + 1)), (0, .ref x0), (1, .int x1), (2, .int x2)]) hx hb dX6_multiply_19 hl (k := 3) rfl rfl (Nat.le_of_ble_eq_true rfl) rfl (fun ls hl => ?_)
    refine lv_goto (tgt := 2) hx hb dX6_multiply_22 (by decide) ?_
    exact kI (x3 + 1) σ3 (Option.some.inj hf).symm _ _ _ hw (lv_sub hl [1, 2, 3, 0] rfl)
set_option maxHeartbeats 4000000 in
theorem l_X6_multiply_B2 (hC : zC p l s m args meth c cX6_multiply 4 RX6 D cA B0) (hr : meth.sig.returnType = (Option.none : Option Jvm.ClassFile.FieldType)) {Γ : zSh} {x0 : Nat} {x1 : Int32} {x2 : Int32} {σ2 : zSt} (kE : ∀ (H : Heap) (locs : List Loc) (ls : Array Slot), zO D cA B0 Γ σ2 Z s.heap H locs → lv_has ls 4 [] → W p l e rm_X6_multiply s m args below meth c H locs 0 0 Q (F0 m 25 ls [])) :
    ∀ (n : Nat) (x3 : Int32) (σ : zSt), loopM (fun q => f_X6_multiply_B2 Γ x0 x1 x2 q.1 q.2) n (x3, σ) = some σ2 → ∀ (H : Heap) (locs : List Loc) (ls : Array Slot), zO D cA B0 Γ σ Z s.heap H locs → lv_has ls 4 [(0, .ref x0), (1, .int x1), (2, .int x2), (3, .int x3)] → W p l e rm_X6_multiply s m args below meth c H locs 0 0 Q (F0 m 2 ls []) := by
  intro n
  induction n with
  | zero => intro x3 σ h; exact absurd h (by simp [loopM])
  | succ n ih =>
    intro x3 σ h H locs ls hw hl
    obtain ⟨r, h1, h2, h3⟩ := loopM_inv h
    exact t_X6_multiply_B2 hC hr h1 hw hl (fun z3 s2 e H locs ls hw hl => ih z3 s2 (h2 _ e) H locs ls hw hl) (fun s2 e H locs ls hw hl => by cases h3 _ e; exact kE H locs ls hw hl)
set_option maxHeartbeats 4000000 in
set_option maxRecDepth 100000 in
theorem m_X6_multiply (h9 : l.stackTraces = false) {Γ : zSh} {a0 : Nat} {a1 : Int32} {a2 : Int32} {σ : zSt} {r : Unit} {σ2 : zSt} (hf : f_X6_multiply Γ a0 a1 a2 σ = some (r, σ2)) : Met l yX6_multiply (wq yX6_multiply cX6_multiply 4 (Option.none : Option Jvm.ClassFile.FieldType)) rm_X6_multiply (zQ0 D cA B0 [.ref a0, .int a1, .int a2] Γ σ Z) (zQ1 D cA B0 (none) Γ σ2 Z) 0 0 (FR B0) := by
  refine z_ofW h9 (by decide) (Nat.le_of_ble_eq_true rfl) ?_
  intro p e s m args below meth c ls hC hr _ hw hl
  have hx := hC.1
  have hb := hC.2.1
  have hl : lv_has ls 4 [(0, .ref a0), (1, .int a1), (2, .int a2)] := hl
  unfold f_X6_multiply at hf
  refine lv_iconst (v := 0) hx hb dX6_multiply_0 (by decide) ?_
  refine lv_istore_n (lv' := [(3, .int 0), (0, .ref a0), (1, .int a1), (2, .int a2)]) hx hb dX6_multiply_1 rfl hl (Nat.le_of_ble_eq_true rfl) rfl (fun ls hl => ?_)
  obtain ⟨σ4, hk, hf⟩ := lb0_inv hf
  refine l_X6_multiply_B2 hC hr (fun H locs ls hw hl => ?_) FUEL 0 σ hk _ _ _ hw (lv_sub hl [1, 2, 3, 0] rfl)
  first | (obtain ⟨rfl, rfl⟩ := sp_inv hf) | (obtain rfl := Option.some.inj hf)
  exact W.vret hx hb hr (z_ret hw rfl) hw.2.2.2.2.2 dX6_multiply_25 hC.2.2.2.2.2.1
set_option maxHeartbeats 4000000 in
set_option maxRecDepth 100000 in
theorem t_X0_stepThenLast_B5 (hC : zC p l s m args meth c cX0_stepThenLast 5 RX0 D cA B0) (hr : meth.sig.returnType = (Option.some FieldType.int)) {Γ : zSh} {x0 : Nat} {x1 : Int32} {x2 : Int32} {x3 : Int32} {x4 : Int32} {σ : zSt} {out : ((Int32 × Int32 × zSt) ⊕ (Int32 × zSt))} (hf : f_X0_stepThenLast_B5 Γ x0 x1 x2 x3 x4 σ = some out) {H : Heap} {locs : List Loc} {ls : Array Slot} (hw : zO D cA B0 Γ σ Z s.heap H locs) (hl : lv_has ls 5 [(0, .ref x0), (1, .int x1), (2, .int x2), (3, .int x3), (4, .int x4)])
    (kI : ∀ (z3 : Int32) (z4 : Int32) (σ2 : zSt), out = .inl (z3, z4, σ2) → ∀ (H : Heap) (locs : List Loc) (ls : Array Slot), zO D cA B0 Γ σ2 Z s.heap H locs → lv_has ls 5 [(0, .ref x0), (1, .int x1), (2, .int x2), (3, .int z3), (4, .int z4)] → W p l e rm_X0_stepThenLast s m args below meth c H locs 0 0 Q (F0 m 5 ls []))
    (kE : ∀ (z3 : Int32) (σ2 : zSt), out = .inr (z3, σ2) → ∀ (H : Heap) (locs : List Loc) (ls : Array Slot), zO D cA B0 Γ σ2 Z s.heap H locs → lv_has ls 5 [(3, .int z3)] → W p l e rm_X0_stepThenLast s m args below meth c H locs 0 0 Q (F0 m 51 ls [])) :
    W p l e rm_X0_stepThenLast s m args below meth c H locs 0 0 Q (F0 m 5 ls []) := by
  have hx := hC.1
  have hb := hC.2.1
  unfold f_X0_stepThenLast_B5 at hf
  refine lv_iload hx hb dX0_stepThenLast_5 (lv_at hl 4 rfl) ?_
  refine lv_aload_n hx hb dX0_stepThenLast_7 rfl (lv_at hl 0 rfl) ?_
  obtain ⟨v1, hg, hf⟩ := gfI_inv hf
  refine r_gfI hC hw hg clX0 (Nat.le_of_ble_eq_true rfl) lkF_X0_9 rfl dX0_stepThenLast_8 ?_
  refine lv_icmp_ge (tgt := 51) hx hb dX0_stepThenLast_11 (by decide) (fun hc => ?_) (fun hc => ?_)
  · rw [if_pos hc] at hf
    exact kE x3 σ (Option.some.inj hf).symm _ _ _ hw (lv_sub hl [3] rfl)
  · rw [if_neg hc] at hf
    refine lv_iload_n hx hb dX0_stepThenLast_14 rfl (lv_at hl 3 rfl) ?_
    refine lv_aload_n hx hb dX0_stepThenLast_15 rfl (lv_at hl 0 rfl) ?_
    obtain ⟨v2, hg, hf⟩ := gfR_inv hf
    refine r_gfR hC hw hg clX0 (Nat.le_of_ble_eq_true rfl) lkF_X0_24 rfl dX0_stepThenLast_16 ?_
    refine lv_iload_n hx hb dX0_stepThenLast_19 rfl (lv_at hl 1 rfl) ?_
    obtain ⟨v3, hg, hf⟩ := ldG_inv hf
    refine r_ldG hC hw hg dX0_stepThenLast_20 ?_
    refine lv_iload_n hx hb dX0_stepThenLast_21 rfl (lv_at hl 2 rfl) ?_
    refine lv_aload_n hx hb dX0_stepThenLast_22 rfl (lv_at hl 0 rfl) ?_
    obtain ⟨v4, hg, hf⟩ := gfI_inv hf
    refine r_gfI hC hw hg clX0 (Nat.le_of_ble_eq_true rfl) lkF_X0_9 rfl dX0_stepThenLast_23 ?_
    refine lv_imul hx hb dX0_stepThenLast_26 ?_
    refine lv_iload hx hb dX0_stepThenLast_27 (lv_at hl 4 rfl) ?_
    refine lv_iadd hx hb dX0_stepThenLast_29 ?_
    obtain ⟨v5, hg, hf⟩ := ldI_inv hf
    refine r_ldI hC hw hg dX0_stepThenLast_30 ?_
    refine lv_aload_n hx hb dX0_stepThenLast_31 rfl (lv_at hl 0 rfl) ?_
    obtain ⟨v6, hg, hf⟩ := gfR_inv hf
    refine r_gfR hC hw hg clX0 (Nat.le_of_ble_eq_true rfl) lkF_X0_19 rfl dX0_stepThenLast_32 ?_
    refine lv_iload hx hb dX0_stepThenLast_35 (lv_at hl 4 rfl) ?_
    obtain ⟨v7, hg, hf⟩ := ldI_inv hf
    refine r_ldI hC hw hg dX0_stepThenLast_37 ?_
    refine lv_imul hx hb dX0_stepThenLast_38 ?_
    refine lv_iadd hx hb dX0_stepThenLast_39 ?_
    refine lv_sipush (v := 10007) hx hb dX0_stepThenLast_40 (by decide) ?_
    obtain ⟨v8, hg, hf⟩ := rmI_inv hf
    refine r_rmI hC hg dX0_stepThenLast_43 ?_
    refine lv_istore_n (lv' := [(3, .int v8), (0, .ref x0), (1, .int x1), (2, .int x2), (4, .int x4)]) hx hb dX0_stepThenLast_44 rfl hl (Nat.le_of_ble_eq_true rfl) rfl (fun ls hl => ?_)
    refine lv_iinc (v := (x4 + 1)) (lv' := [(4, .int (x4 + 1)), (3, .int v8), (0, .ref x0), (1, .int x1), (2, .int x2)]) hx hb dX0_stepThenLast_45 hl (k := 4) rfl rfl (Nat.le_of_ble_eq_true rfl) rfl (fun ls hl => ?_)
    refine lv_goto (tgt := 5) hx hb dX0_stepThenLast_48 (by decide) ?_
    exact kI v8 (x4 + 1) σ (Option.some.inj hf).symm _ _ _ hw (lv_sub hl [2, 3, 4, 1, 0] rfl)
set_option maxHeartbeats 4000000 in
theorem l_X0_stepThenLast_B5 (hC : zC p l s m args meth c cX0_stepThenLast 5 RX0 D cA B0) (hr : meth.sig.returnType = (Option.some FieldType.int)) {Γ : zSh} {x0 : Nat} {x1 : Int32} {x2 : Int32} {w3 : Int32} {σ2 : zSt} (kE : ∀ (H : Heap) (locs : List Loc) (ls : Array Slot), zO D cA B0 Γ σ2 Z s.heap H locs → lv_has ls 5 [(3, .int w3)] → W p l e rm_X0_stepThenLast s m args below meth c H locs 0 0 Q (F0 m 51 ls [])) :
    ∀ (n : Nat) (x3 : Int32) (x4 : Int32) (σ : zSt), loopM (fun q => f_X0_stepThenLast_B5 Γ x0 x1 x2 q.1 q.2.1 q.2.2) n (x3, x4, σ) = some (w3, σ2) → ∀ (H : Heap) (locs : List Loc) (ls : Array Slot), zO D cA B0 Γ σ Z s.heap H locs → lv_has ls 5 [(0, .ref x0), (1, .int x1), (2, .int x2), (3, .int x3), (4, .int x4)] → W p l e rm_X0_stepThenLast s m args below meth c H locs 0 0 Q (F0 m 5 ls []) := by
  intro n
  induction n with
  | zero => intro x3 x4 σ h; exact absurd h (by simp [loopM])
  | succ n ih =>
    intro x3 x4 σ h H locs ls hw hl
    obtain ⟨r, h1, h2, h3⟩ := loopM_inv h
    exact t_X0_stepThenLast_B5 hC hr h1 hw hl (fun z3 z4 s2 e H locs ls hw hl => ih z3 z4 s2 (h2 _ e) H locs ls hw hl) (fun z3 s2 e H locs ls hw hl => by cases h3 _ e; exact kE H locs ls hw hl)
set_option maxHeartbeats 4000000 in
set_option maxRecDepth 100000 in
theorem m_X0_stepThenLast (h9 : l.stackTraces = false) {Γ : zSh} {a0 : Nat} {a1 : Int32} {a2 : Int32} {σ : zSt} {r : Int32} {σ2 : zSt} (hf : f_X0_stepThenLast Γ a0 a1 a2 σ = some (r, σ2)) : Met l yX0_stepThenLast (wq yX0_stepThenLast cX0_stepThenLast 5 (Option.some FieldType.int)) rm_X0_stepThenLast (zQ0 D cA B0 [.ref a0, .int a1, .int a2] Γ σ Z) (zQ1 D cA B0 (some (.int r)) Γ σ2 Z) 0 0 (FR B0) := by
  refine z_ofW h9 (by decide) (Nat.le_of_ble_eq_true rfl) ?_
  intro p e s m args below meth c ls hC hr _ hw hl
  have hx := hC.1
  have hb := hC.2.1
  have hl : lv_has ls 5 [(0, .ref a0), (1, .int a1), (2, .int a2)] := hl
  unfold f_X0_stepThenLast at hf
  refine lv_iconst (v := 0) hx hb dX0_stepThenLast_0 (by decide) ?_
  refine lv_istore_n (lv' := [(3, .int 0), (0, .ref a0), (1, .int a1), (2, .int a2)]) hx hb dX0_stepThenLast_1 rfl hl (Nat.le_of_ble_eq_true rfl) rfl (fun ls hl => ?_)
  refine lv_iconst (v := 0) hx hb dX0_stepThenLast_2 (by decide) ?_
  refine lv_istore (lv' := [(4, .int 0), (3, .int 0), (0, .ref a0), (1, .int a1), (2, .int a2)]) hx hb dX0_stepThenLast_3 hl (Nat.le_of_ble_eq_true rfl) rfl (fun ls hl => ?_)
  obtain ⟨w10, σ9, hk, hf⟩ := lb1_inv hf
  refine l_X0_stepThenLast_B5 hC hr (fun H locs ls hw hl => ?_) FUEL 0 0 σ hk _ _ _ hw (lv_sub hl [2, 3, 4, 1, 0] rfl)
  refine lv_iload_n hx hb dX0_stepThenLast_51 rfl (lv_at hl 0 rfl) ?_
  first | (obtain ⟨rfl, rfl⟩ := sp_inv hf) | (obtain rfl := Option.some.inj hf)
  exact W.iret hx hb hr (z_ret hw rfl) hw.2.2.2.2.2 dX0_stepThenLast_52 hC.2.2.2.2.2.1
set_option maxHeartbeats 4000000 in
set_option maxRecDepth 100000 in
theorem t_X0_becomeCauchy_B32 (hC : zC p l s m args meth c cX0_becomeCauchy 9 RX0 D cA B0) (hr : meth.sig.returnType = (Option.none : Option Jvm.ClassFile.FieldType)) {Γ : zSh} {x0 : Nat} {x1 : Nat} {x2 : Nat} {x3 : Int32} {x4 : Int32} {x5 : Int32} {σ : zSt} {out : ((Int32 × zSt) ⊕ (zSt))} (hf : f_X0_becomeCauchy_B32 Γ x0 x1 x2 x3 x4 x5 σ = some out) {H : Heap} {locs : List Loc} {ls : Array Slot} (hw : zO D cA B0 Γ σ Z s.heap H locs) (hl : lv_has ls 9 [(0, .ref x0), (1, .ref x1), (2, .ref x2), (3, .int x3), (4, .int x4), (5, .int x5)])
    (kI : ∀ (z5 : Int32) (σ2 : zSt), out = .inl (z5, σ2) → ∀ (H : Heap) (locs : List Loc) (ls : Array Slot), zO D cA B0 Γ σ2 Z s.heap H locs → lv_has ls 9 [(0, .ref x0), (1, .ref x1), (2, .ref x2), (3, .int x3), (4, .int x4), (5, .int z5)] → W p l e rm_X0_becomeCauchy s m args below meth c H locs 0 0 Q (F0 m 32 ls []))
    (kE : ∀ (σ2 : zSt), out = .inr σ2 → ∀ (H : Heap) (locs : List Loc) (ls : Array Slot), zO D cA B0 Γ σ2 Z s.heap H locs → lv_has ls 9 [(0, .ref x0), (1, .ref x1), (2, .ref x2), (3, .int x3)] → W p l e rm_X0_becomeCauchy s m args below meth c H locs 0 0 Q (F0 m 68 ls [])) :
    W p l e rm_X0_becomeCauchy s m args below meth c H locs 0 0 Q (F0 m 32 ls []) := by
  have hx := hC.1
  have hb := hC.2.1
  unfold f_X0_becomeCauchy_B32 at hf
  refine lv_iload hx hb dX0_becomeCauchy_32 (lv_at hl 5 rfl) ?_
  refine lv_aload_n hx hb dX0_becomeCauchy_34 rfl (lv_at hl 0 rfl) ?_
  obtain ⟨v9, hg, hf⟩ := gfI_inv hf
  refine r_gfI hC hw hg clX0 (Nat.le_of_ble_eq_true rfl) lkF_X0_9 rfl dX0_becomeCauchy_35 ?_
  refine lv_icmp_ge (tgt := 68) hx hb dX0_becomeCauchy_38 (by decide) (fun hc => ?_) (fun hc => ?_)
  · rw [if_pos hc] at hf
    exact kE  σ (Option.some.inj hf).symm _ _ _ hw (lv_sub hl [0, 1, 2, 3] rfl)
  · rw [if_neg hc] at hf
    refine lv_aload_n hx hb dX0_becomeCauchy_41 rfl (lv_at hl 0 rfl) ?_
    obtain ⟨v10, hg, hf⟩ := gfR_inv hf
    refine r_gfR hC hw hg clX0 (Nat.le_of_ble_eq_true rfl) lkF_X0_15 rfl dX0_becomeCauchy_42 ?_
    refine lv_iload hx hb dX0_becomeCauchy_45 (lv_at hl 5 rfl) ?_
    refine lv_aload_n hx hb dX0_becomeCauchy_47 rfl (lv_at hl 0 rfl) ?_
    obtain ⟨v11, hg, hf⟩ := gfR_inv hf
    refine r_gfR hC hw hg clX0 (Nat.le_of_ble_eq_true rfl) lkF_X0_15 rfl dX0_becomeCauchy_48 ?_
    refine lv_iload hx hb dX0_becomeCauchy_51 (lv_at hl 5 rfl) ?_
    obtain ⟨v12, hg, hf⟩ := ldI_inv hf
    refine r_ldI hC hw hg dX0_becomeCauchy_53 ?_
    refine lv_iload hx hb dX0_becomeCauchy_54 (lv_at hl 4 rfl) ?_
    refine lv_imul hx hb dX0_becomeCauchy_56 ?_
    refine lv_sipush (v := 10007) hx hb dX0_becomeCauchy_57 (by decide) ?_
    obtain ⟨v13, hg, hf⟩ := rmI_inv hf
    refine r_rmI hC hg dX0_becomeCauchy_60 ?_
    obtain ⟨σ14, hg, hf⟩ := stI_inv hf
    refine r_stI hC hw hg dX0_becomeCauchy_61 (fun H locs hw => ?_)
    refine lv_iinc (v := (x5 + 1)) (lv' := [(5, .int (x5 + 1)), (0, .ref x0), (1, .ref x1), (2, .ref x2), (3, .int x3), (4, .int x4)]) hx hb dX0_becomeCauchy_62 hl (k := 5) rfl rfl (Nat.le_of_ble_eq_true rfl) rfl (fun ls hl => ?_)
    refine lv_goto (tgt := 32) hx hb dX0_becomeCauchy_65 (by decide) ?_
    exact kI (x5 + 1) σ14 (Option.some.inj hf).symm _ _ _ hw (lv_sub hl [1, 2, 3, 4, 5, 0] rfl)
set_option maxHeartbeats 4000000 in
theorem l_X0_becomeCauchy_B32 (hC : zC p l s m args meth c cX0_becomeCauchy 9 RX0 D cA B0) (hr : meth.sig.returnType = (Option.none : Option Jvm.ClassFile.FieldType)) {Γ : zSh} {x0 : Nat} {x1 : Nat} {x2 : Nat} {x3 : Int32} {x4 : Int32} {σ2 : zSt} (kE : ∀ (H : Heap) (locs : List Loc) (ls : Array Slot), zO D cA B0 Γ σ2 Z s.heap H locs → lv_has ls 9 [(0, .ref x0), (1, .ref x1), (2, .ref x2), (3, .int x3)] → W p l e rm_X0_becomeCauchy s m args below meth c H locs 0 0 Q (F0 m 68 ls [])) :
    ∀ (n : Nat) (x5 : Int32) (σ : zSt), loopM (fun q => f_X0_becomeCauchy_B32 Γ x0 x1 x2 x3 x4 q.1 q.2) n (x5, σ) = some σ2 → ∀ (H : Heap) (locs : List Loc) (ls : Array Slot), zO D cA B0 Γ σ Z s.heap H locs → lv_has ls 9 [(0, .ref x0), (1, .ref x1), (2, .ref x2), (3, .int x3), (4, .int x4), (5, .int x5)] → W p l e rm_X0_becomeCauchy s m args below meth c H locs 0 0 Q (F0 m 32 ls []) := by
  intro n
  induction n with
  | zero => intro x5 σ h; exact absurd h (by simp [loopM])
  | succ n ih =>
    intro x5 σ h H locs ls hw hl
    obtain ⟨r, h1, h2, h3⟩ := loopM_inv h
    exact t_X0_becomeCauchy_B32 hC hr h1 hw hl (fun z5 s2 e H locs ls hw hl => ih z5 s2 (h2 _ e) H locs ls hw hl) (fun s2 e H locs ls hw hl => by cases h3 _ e; exact kE H locs ls hw hl)
set_option maxHeartbeats 4000000 in
set_option maxRecDepth 100000 in
theorem t_X0_becomeCauchy_B99 (hC : zC p l s m args meth c cX0_becomeCauchy 9 RX0 D cA B0) (hr : meth.sig.returnType = (Option.none : Option Jvm.ClassFile.FieldType)) {Γ : zSh} {x0 : Nat} {x1 : Nat} {x2 : Nat} {x3 : Int32} {x5 : Int32} {x6 : Int32} {x7 : Int32} {x8 : Int32} {σ : zSt} {out : ((Int32 × zSt) ⊕ (zSt))} (hf : f_X0_becomeCauchy_B99 Γ x0 x1 x2 x3 x5 x6 x7 x8 σ = some out) {H : Heap} {locs : List Loc} {ls : Array Slot} (hw : zO D cA B0 Γ σ Z s.heap H locs) (hl : lv_has ls 9 [(0, .ref x0), (1, .ref x1), (2, .ref x2), (3, .int x3), (5, .int x5), (6, .int x6), (7, .int x7), (8, .int x8)])
    (kI : ∀ (z8 : Int32) (σ2 : zSt), out = .inl (z8, σ2) → ∀ (H : Heap) (locs : List Loc) (ls : Array Slot), zO D cA B0 Γ σ2 Z s.heap H locs → lv_has ls 9 [(0, .ref x0), (1, .ref x1), (2, .ref x2), (3, .int x3), (5, .int x5), (6, .int x6), (7, .int x7), (8, .int z8)] → W p l e rm_X0_becomeCauchy s m args below meth c H locs 0 0 Q (F0 m 99 ls []))
    (kE : ∀ (σ2 : zSt), out = .inr σ2 → ∀ (H : Heap) (locs : List Loc) (ls : Array Slot), zO D cA B0 Γ σ2 Z s.heap H locs → lv_has ls 9 [(0, .ref x0), (1, .ref x1), (2, .ref x2), (3, .int x3), (5, .int x5), (6, .int x6)] → W p l e rm_X0_becomeCauchy s m args below meth c H locs 0 0 Q (F0 m 148 ls [])) :
    W p l e rm_X0_becomeCauchy s m args below meth c H locs 0 0 Q (F0 m 99 ls []) := by
  have hx := hC.1
  have hb := hC.2.1
  unfold f_X0_becomeCauchy_B99 at hf
  refine lv_iload hx hb dX0_becomeCauchy_99 (lv_at hl 7 rfl) ?_
  refine lv_aload_n hx hb dX0_becomeCauchy_101 rfl (lv_at hl 2 rfl) ?_
  obtain ⟨v18, hg, hf⟩ := gfI_inv hf
  refine r_gfI hC hw hg clX0 (Nat.le_of_ble_eq_true rfl) lkF_X0_9 rfl dX0_becomeCauchy_102 ?_
  refine lv_icmp_ge (tgt := 148) hx hb dX0_becomeCauchy_105 (by decide) (fun hc => ?_) (fun hc => ?_)
  · rw [if_pos hc] at hf
    exact kE  σ (Option.some.inj hf).symm _ _ _ hw (lv_sub hl [0, 1, 2, 3, 4, 5] rfl)
  · rw [if_neg hc] at hf
    refine lv_aload_n hx hb dX0_becomeCauchy_108 rfl (lv_at hl 0 rfl) ?_
    obtain ⟨v19, hg, hf⟩ := gfR_inv hf
    refine r_gfR hC hw hg clX0 (Nat.le_of_ble_eq_true rfl) lkF_X0_24 rfl dX0_becomeCauchy_109 ?_
    refine lv_iload hx hb dX0_becomeCauchy_112 (lv_at hl 4 rfl) ?_
    obtain ⟨v20, hg, hf⟩ := ldG_inv hf
    refine r_ldG hC hw hg dX0_becomeCauchy_114 ?_
    refine lv_iload hx hb dX0_becomeCauchy_115 (lv_at hl 5 rfl) ?_
    refine lv_aload_n hx hb dX0_becomeCauchy_117 rfl (lv_at hl 0 rfl) ?_
    obtain ⟨v21, hg, hf⟩ := gfI_inv hf
    refine r_gfI hC hw hg clX0 (Nat.le_of_ble_eq_true rfl) lkF_X0_9 rfl dX0_becomeCauchy_118 ?_
    refine lv_imul hx hb dX0_becomeCauchy_121 ?_
    refine lv_iload_n hx hb dX0_becomeCauchy_122 rfl (lv_at hl 3 rfl) ?_
    refine lv_iadd hx hb dX0_becomeCauchy_123 ?_
    refine lv_iload hx hb dX0_becomeCauchy_124 (lv_at hl 7 rfl) ?_
    refine lv_iadd hx hb dX0_becomeCauchy_126 ?_
    refine lv_iload hx hb dX0_becomeCauchy_127 (lv_at hl 6 rfl) ?_
    refine lv_aload_n hx hb dX0_becomeCauchy_129 rfl (lv_at hl 2 rfl) ?_
    obtain ⟨v22, hg, hf⟩ := gfR_inv hf
    refine r_gfR hC hw hg clX0 (Nat.le_of_ble_eq_true rfl) lkF_X0_15 rfl dX0_becomeCauchy_130 ?_
    refine lv_iload hx hb dX0_becomeCauchy_133 (lv_at hl 7 rfl) ?_
    obtain ⟨v23, hg, hf⟩ := ldI_inv hf
    refine r_ldI hC hw hg dX0_becomeCauchy_135 ?_
    refine lv_imul hx hb dX0_becomeCauchy_136 ?_
    refine lv_sipush (v := 10007) hx hb dX0_becomeCauchy_137 (by decide) ?_
    obtain ⟨v24, hg, hf⟩ := rmI_inv hf
    refine r_rmI hC hg dX0_becomeCauchy_140 ?_
    obtain ⟨σ25, hg, hf⟩ := stI_inv hf
    refine r_stI hC hw hg dX0_becomeCauchy_141 (fun H locs hw => ?_)
    refine lv_iinc (v := (x8 + 1)) (lv' := [(8, .int (x8 + 1)), (0, .ref x0), (1, .ref x1), (2, .ref x2), (3, .int x3), (5, .int x5), (6, .int x6), (7, .int x7)]) hx hb dX0_becomeCauchy_142 hl (k := 7) rfl rfl (Nat.le_of_ble_eq_true rfl) rfl (fun ls hl => ?_)
    refine lv_goto (tgt := 99) hx hb dX0_becomeCauchy_145 (by decide) ?_
    exact kI (x8 + 1) σ25 (Option.some.inj hf).symm _ _ _ hw (lv_sub hl [1, 2, 3, 4, 5, 6, 7, 0] rfl)
set_option maxHeartbeats 4000000 in
theorem l_X0_becomeCauchy_B99 (hC : zC p l s m args meth c cX0_becomeCauchy 9 RX0 D cA B0) (hr : meth.sig.returnType = (Option.none : Option Jvm.ClassFile.FieldType)) {Γ : zSh} {x0 : Nat} {x1 : Nat} {x2 : Nat} {x3 : Int32} {x5 : Int32} {x6 : Int32} {x7 : Int32} {σ2 : zSt} (kE : ∀ (H : Heap) (locs : List Loc) (ls : Array Slot), zO D cA B0 Γ σ2 Z s.heap H locs → lv_has ls 9 [(0, .ref x0), (1, .ref x1), (2, .ref x2), (3, .int x3), (5, .int x5), (6, .int x6)] → W p l e rm_X0_becomeCauchy s m args below meth c H locs 0 0 Q (F0 m 148 ls [])) :
    ∀ (n : Nat) (x8 : Int32) (σ : zSt), loopM (fun q => f_X0_becomeCauchy_B99 Γ x0 x1 x2 x3 x5 x6 x7 q.1 q.2) n (x8, σ) = some σ2 → ∀ (H : Heap) (locs : List Loc) (ls : Array Slot), zO D cA B0 Γ σ Z s.heap H locs → lv_has ls 9 [(0, .ref x0), (1, .ref x1), (2, .ref x2), (3, .int x3), (5, .int x5), (6, .int x6), (7, .int x7), (8, .int x8)] → W p l e rm_X0_becomeCauchy s m args below meth c H locs 0 0 Q (F0 m 99 ls []) := by
  intro n
  induction n with
  | zero => intro x8 σ h; exact absurd h (by simp [loopM])
  | succ n ih =>
    intro x8 σ h H locs ls hw hl
    obtain ⟨r, h1, h2, h3⟩ := loopM_inv h
    exact t_X0_becomeCauchy_B99 hC hr h1 hw hl (fun z8 s2 e H locs ls hw hl => ih z8 s2 (h2 _ e) H locs ls hw hl) (fun s2 e H locs ls hw hl => by cases h3 _ e; exact kE H locs ls hw hl)
set_option maxHeartbeats 4000000 in
set_option maxRecDepth 100000 in
theorem t_X0_becomeCauchy_B80 (hC : zC p l s m args meth c cX0_becomeCauchy 9 RX0 D cA B0) (hr : meth.sig.returnType = (Option.none : Option Jvm.ClassFile.FieldType)) {Γ : zSh} {x0 : Nat} {x1 : Nat} {x2 : Nat} {x3 : Int32} {x5 : Int32} {x6 : Int32} {σ : zSt} {out : ((Int32 × zSt) ⊕ (zSt))} (hf : f_X0_becomeCauchy_B80 Γ x0 x1 x2 x3 x5 x6 σ = some out) {H : Heap} {locs : List Loc} {ls : Array Slot} (hw : zO D cA B0 Γ σ Z s.heap H locs) (hl : lv_has ls 9 [(0, .ref x0), (1, .ref x1), (2, .ref x2), (3, .int x3), (5, .int x5), (6, .int x6)])
    (kI : ∀ (z6 : Int32) (σ2 : zSt), out = .inl (z6, σ2) → ∀ (H : Heap) (locs : List Loc) (ls : Array Slot), zO D cA B0 Γ σ2 Z s.heap H locs → lv_has ls 9 [(0, .ref x0), (1, .ref x1), (2, .ref x2), (3, .int x3), (5, .int x5), (6, .int z6)] → W p l e rm_X0_becomeCauchy s m args below meth c H locs 0 0 Q (F0 m 80 ls []))
    (kE : ∀ (σ2 : zSt), out = .inr σ2 → ∀ (H : Heap) (locs : List Loc) (ls : Array Slot), zO D cA B0 Γ σ2 Z s.heap H locs → lv_has ls 9 [(0, .ref x0), (1, .ref x1), (2, .ref x2), (3, .int x3), (5, .int x5)] → W p l e rm_X0_becomeCauchy s m args below meth c H locs 0 0 Q (F0 m 154 ls [])) :
    W p l e rm_X0_becomeCauchy s m args below meth c H locs 0 0 Q (F0 m 80 ls []) := by
  have hx := hC.1
  have hb := hC.2.1
  unfold f_X0_becomeCauchy_B80 at hf
  refine lv_iload hx hb dX0_becomeCauchy_80 (lv_at hl 5 rfl) ?_
  refine lv_iload_n hx hb dX0_becomeCauchy_82 rfl (lv_at hl 3 rfl) ?_
  refine lv_icmp_ge (tgt := 154) hx hb dX0_becomeCauchy_83 (by decide) (fun hc => ?_) (fun hc => ?_)
  · rw [if_pos hc] at hf
    exact kE  σ (Option.some.inj hf).symm _ _ _ hw (lv_sub hl [0, 1, 2, 3, 4] rfl)
  · rw [if_neg hc] at hf
    refine lv_aload_n hx hb dX0_becomeCauchy_86 rfl (lv_at hl 1 rfl) ?_
    refine lv_iload hx hb dX0_becomeCauchy_87 (lv_at hl 4 rfl) ?_
    refine lv_iload hx hb dX0_becomeCauchy_89 (lv_at hl 5 rfl) ?_
    obtain ⟨ho, hf⟩ := chk_inv hf
    obtain ⟨r17, σ16, hk, hf⟩ := bnd_inv hf
    refine z_callV (As := [.int x5, .int x6]) (rest := []) (m_X0_stepThenLast hC.2.2.2.2.2.2.2.2 hk) hC hw wd_X0_stepThenLast lkM_X0_81 (isO_sh ho) rfl rfl ⟨rfl, rfl⟩ ⟨(Nat.le_of_ble_eq_true rfl), (Nat.le_of_ble_eq_true rfl)⟩ hl.1 rfl (Nat.le_of_ble_eq_true rfl) dX0_becomeCauchy_91 ⟨(Nat.le_of_ble_eq_true rfl), (Nat.le_of_ble_eq_true rfl)⟩ (fun H locs hw => ?_)
    refine lv_istore (lv' := [(7, .int r17), (0, .ref x0), (1, .ref x1), (2, .ref x2), (3, .int x3), (5, .int x5), (6, .int x6)]) hx hb dX0_becomeCauchy_94 hl (Nat.le_of_ble_eq_true rfl) rfl (fun ls hl => ?_)
    refine lv_iconst (v := 0) hx hb dX0_becomeCauchy_96 (by decide) ?_
    refine lv_istore (lv' := [(8, .int 0), (7, .int r17), (0, .ref x0), (1, .ref x1), (2, .ref x2), (3, .int x3), (5, .int x5), (6, .int x6)]) hx hb dX0_becomeCauchy_97 hl (Nat.le_of_ble_eq_true rfl) rfl (fun ls hl => ?_)
    obtain ⟨σ26, hk, hf⟩ := lb0_inv hf
    refine l_X0_becomeCauchy_B99 hC hr (fun H locs ls hw hl => ?_) FUEL 0 σ16 hk _ _ _ hw (lv_sub hl [2, 3, 4, 5, 6, 7, 1, 0] rfl)
    refine lv_iinc (v := (x6 + 1)) (lv' := [(6, .int (x6 + 1)), (0, .ref x0), (1, .ref x1), (2, .ref x2), (3, .int x3), (5, .int x5)]) hx hb dX0_becomeCauchy_148 hl (k := 5) rfl rfl (Nat.le_of_ble_eq_true rfl) rfl (fun ls hl => ?_)
    refine lv_goto (tgt := 80) hx hb dX0_becomeCauchy_151 (by decide) ?_
    exact kI (x6 + 1) σ26 (Option.some.inj hf).symm _ _ _ hw (lv_sub hl [1, 2, 3, 4, 5, 0] rfl)
set_option maxHeartbeats 4000000 in
theorem l_X0_becomeCauchy_B80 (hC : zC p l s m args meth c cX0_becomeCauchy 9 RX0 D cA B0) (hr : meth.sig.returnType = (Option.none : Option Jvm.ClassFile.FieldType)) {Γ : zSh} {x0 : Nat} {x1 : Nat} {x2 : Nat} {x3 : Int32} {x5 : Int32} {σ2 : zSt} (kE : ∀ (H : Heap) (locs : List Loc) (ls : Array Slot), zO D cA B0 Γ σ2 Z s.heap H locs → lv_has ls 9 [(0, .ref x0), (1, .ref x1), (2, .ref x2), (3, .int x3), (5, .int x5)] → W p l e rm_X0_becomeCauchy s m args below meth c H locs 0 0 Q (F0 m 154 ls [])) :
    ∀ (n : Nat) (x6 : Int32) (σ : zSt), loopM (fun q => f_X0_becomeCauchy_B80 Γ x0 x1 x2 x3 x5 q.1 q.2) n (x6, σ) = some σ2 → ∀ (H : Heap) (locs : List Loc) (ls : Array Slot), zO D cA B0 Γ σ Z s.heap H locs → lv_has ls 9 [(0, .ref x0), (1, .ref x1), (2, .ref x2), (3, .int x3), (5, .int x5), (6, .int x6)] → W p l e rm_X0_becomeCauchy s m args below meth c H locs 0 0 Q (F0 m 80 ls []) := by
  intro n
  induction n with
  | zero => intro x6 σ h; exact absurd h (by simp [loopM])
  | succ n ih =>
    intro x6 σ h H locs ls hw hl
    obtain ⟨r, h1, h2, h3⟩ := loopM_inv h
    exact t_X0_becomeCauchy_B80 hC hr h1 hw hl (fun z6 s2 e H locs ls hw hl => ih z6 s2 (h2 _ e) H locs ls hw hl) (fun s2 e H locs ls hw hl => by cases h3 _ e; exact kE H locs ls hw hl)
set_option maxHeartbeats 4000000 in
set_option maxRecDepth 100000 in
theorem t_X0_becomeCauchy_B71 (hC : zC p l s m args meth c cX0_becomeCauchy 9 RX0 D cA B0) (hr : meth.sig.returnType = (Option.none : Option Jvm.ClassFile.FieldType)) {Γ : zSh} {x0 : Nat} {x1 : Nat} {x2 : Nat} {x3 : Int32} {x5 : Int32} {σ : zSt} {out : ((Int32 × zSt) ⊕ (zSt))} (hf : f_X0_becomeCauchy_B71 Γ x0 x1 x2 x3 x5 σ = some out) {H : Heap} {locs : List Loc} {ls : Array Slot} (hw : zO D cA B0 Γ σ Z s.heap H locs) (hl : lv_has ls 9 [(0, .ref x0), (1, .ref x1), (2, .ref x2), (3, .int x3), (5, .int x5)])
    (kI : ∀ (z5 : Int32) (σ2 : zSt), out = .inl (z5, σ2) → ∀ (H : Heap) (locs : List Loc) (ls : Array Slot), zO D cA B0 Γ σ2 Z s.heap H locs → lv_has ls 9 [(0, .ref x0), (1, .ref x1), (2, .ref x2), (3, .int x3), (5, .int z5)] → W p l e rm_X0_becomeCauchy s m args below meth c H locs 0 0 Q (F0 m 71 ls []))
    (kE : ∀ (σ2 : zSt), out = .inr σ2 → ∀ (H : Heap) (locs : List Loc) (ls : Array Slot), zO D cA B0 Γ σ2 Z s.heap H locs → lv_has ls 9 [] → W p l e rm_X0_becomeCauchy s m args below meth c H locs 0 0 Q (F0 m 160 ls [])) :
    W p l e rm_X0_becomeCauchy s m args below meth c H locs 0 0 Q (F0 m 71 ls []) := by
  have hx := hC.1
  have hb := hC.2.1
  unfold f_X0_becomeCauchy_B71 at hf
  refine lv_iload hx hb dX0_becomeCauchy_71 (lv_at hl 4 rfl) ?_
  refine lv_iconst (v := 2) hx hb dX0_becomeCauchy_73 (by decide) ?_
  refine lv_icmp_ge (tgt := 160) hx hb dX0_becomeCauchy_74 (by decide) (fun hc => ?_) (fun hc => ?_)
  · rw [if_pos hc] at hf
    exact kE  σ (Option.some.inj hf).symm _ _ _ hw (lv_sub hl [] rfl)
  · rw [if_neg hc] at hf
    refine lv_iconst (v := 0) hx hb dX0_becomeCauchy_77 (by decide) ?_
    refine lv_istore (lv' := [(6, .int 0), (0, .ref x0), (1, .ref x1), (2, .ref x2), (3, .int x3), (5, .int x5)]) hx hb dX0_becomeCauchy_78 hl (Nat.le_of_ble_eq_true rfl) rfl (fun ls hl => ?_)
    obtain ⟨σ27, hk, hf⟩ := lb0_inv hf
    refine l_X0_becomeCauchy_B80 hC hr (fun H locs ls hw hl => ?_) FUEL 0 σ hk _ _ _ hw (lv_sub hl [1, 2, 3, 4, 5, 0] rfl)
    refine lv_iinc (v := (x5 + 1)) (lv' := [(5, .int (x5 + 1)), (0, .ref x0), (1, .ref x1), (2, .ref x2), (3, .int x3)]) hx hb dX0_becomeCauchy_154 hl (k := 4) rfl rfl (Nat.le_of_ble_eq_true rfl) rfl (fun ls hl => ?_)
    refine lv_goto (tgt := 71) hx hb dX0_becomeCauchy_157 (by decide) ?_
    exact kI (x5 + 1) σ27 (Option.some.inj hf).symm _ _ _ hw (lv_sub hl [1, 2, 3, 4, 0] rfl)
set_option maxHeartbeats 4000000 in
theorem l_X0_becomeCauchy_B71 (hC : zC p l s m args meth c cX0_becomeCauchy 9 RX0 D cA B0) (hr : meth.sig.returnType = (Option.none : Option Jvm.ClassFile.FieldType)) {Γ : zSh} {x0 : Nat} {x1 : Nat} {x2 : Nat} {x3 : Int32} {σ2 : zSt} (kE : ∀ (H : Heap) (locs : List Loc) (ls : Array Slot), zO D cA B0 Γ σ2 Z s.heap H locs → lv_has ls 9 [] → W p l e rm_X0_becomeCauchy s m args below meth c H locs 0 0 Q (F0 m 160 ls [])) :
    ∀ (n : Nat) (x5 : Int32) (σ : zSt), loopM (fun q => f_X0_becomeCauchy_B71 Γ x0 x1 x2 x3 q.1 q.2) n (x5, σ) = some σ2 → ∀ (H : Heap) (locs : List Loc) (ls : Array Slot), zO D cA B0 Γ σ Z s.heap H locs → lv_has ls 9 [(0, .ref x0), (1, .ref x1), (2, .ref x2), (3, .int x3), (5, .int x5)] → W p l e rm_X0_becomeCauchy s m args below meth c H locs 0 0 Q (F0 m 71 ls []) := by
  intro n
  induction n with
  | zero => intro x5 σ h; exact absurd h (by simp [loopM])
  | succ n ih =>
    intro x5 σ h H locs ls hw hl
    obtain ⟨r, h1, h2, h3⟩ := loopM_inv h
    exact t_X0_becomeCauchy_B71 hC hr h1 hw hl (fun z5 s2 e H locs ls hw hl => ih z5 s2 (h2 _ e) H locs ls hw hl) (fun s2 e H locs ls hw hl => by cases h3 _ e; exact kE H locs ls hw hl)
set_option maxHeartbeats 4000000 in
set_option maxRecDepth 100000 in
theorem m_X0_becomeCauchy (h9 : l.stackTraces = false) {Γ : zSh} {a0 : Nat} {a1 : Nat} {a2 : Nat} {σ : zSt} {r : Unit} {σ2 : zSt} (hf : f_X0_becomeCauchy Γ a0 a1 a2 σ = some (r, σ2)) : Met l yX0_becomeCauchy (wq yX0_becomeCauchy cX0_becomeCauchy 9 (Option.none : Option Jvm.ClassFile.FieldType)) rm_X0_becomeCauchy (zQ0 D cA B0 [.ref a0, .ref a1, .ref a2] Γ σ Z) (zQ1 D cA B0 (none) Γ σ2 Z) 0 0 (FR B0) := by
  refine z_ofW h9 (by decide) (Nat.le_of_ble_eq_true rfl) ?_
  intro p e s m args below meth c ls hC hr _ hw hl
  have hx := hC.1
  have hb := hC.2.1
  have hl : lv_has ls 9 [(0, .ref a0), (1, .ref a1), (2, .ref a2)] := hl
  unfold f_X0_becomeCauchy at hf
  refine lv_aload_n hx hb dX0_becomeCauchy_0 rfl (lv_at hl 0 rfl) ?_
  refine lv_aload_n hx hb dX0_becomeCauchy_1 rfl (lv_at hl 1 rfl) ?_
  refine lv_aload_n hx hb dX0_becomeCauchy_2 rfl (lv_at hl 2 rfl) ?_
  obtain ⟨ho, hf⟩ := chk_inv hf
  obtain ⟨_, σ1, hk, hf⟩ := bnd_inv hf
  refine z_callV (As := [.ref a1, .ref a2]) (rest := []) (m_X0_becomeSum hC.2.2.2.2.2.2.2.2 hk) hC hw wd_X0_becomeSum lkM_X0_65 (isO_sh ho) rfl rfl ⟨rfl, rfl⟩ ⟨(Nat.le_of_ble_eq_true rfl), (Nat.le_of_ble_eq_true rfl)⟩ hl.1 rfl (Nat.le_of_ble_eq_true rfl) dX0_becomeCauchy_3 ⟨(Nat.le_of_ble_eq_true rfl), (Nat.le_of_ble_eq_true rfl)⟩ (fun H locs hw => ?_)
  refine lv_aload_n hx hb dX0_becomeCauchy_6 rfl (lv_at hl 1 rfl) ?_
  obtain ⟨v2, hg, hf⟩ := gfI_inv hf
  refine r_gfI hC hw hg clX0 (Nat.le_of_ble_eq_true rfl) lkF_X0_9 rfl dX0_becomeCauchy_7 ?_
  refine lv_istore_n (lv' := [(3, .int v2), (0, .ref a0), (1, .ref a1), (2, .ref a2)]) hx hb dX0_becomeCauchy_10 rfl hl (Nat.le_of_ble_eq_true rfl) rfl (fun ls hl => ?_)
  refine lv_aload_n hx hb dX0_becomeCauchy_11 rfl (lv_at hl 1 rfl) ?_
  obtain ⟨v3, hg, hf⟩ := gfR_inv hf
  refine r_gfR hC hw hg clX0 (Nat.le_of_ble_eq_true rfl) lkF_X0_19 rfl dX0_becomeCauchy_12 ?_
  refine lv_aload_n hx hb dX0_becomeCauchy_15 rfl (lv_at hl 3 rfl) ?_
  obtain ⟨ho, hf⟩ := chk_inv hf
  obtain ⟨r5, σ4, hk, hf⟩ := bnd_inv hf
  refine z_callV (As := []) (rest := [.ref v3]) (m_X0_emptyWeight hC.2.2.2.2.2.2.2.2 hk) hC hw wd_X0_emptyWeight lkM_X0_73 (isO_sh ho) rfl rfl ⟨rfl, rfl⟩ ⟨(Nat.le_of_ble_eq_true rfl), (Nat.le_of_ble_eq_true rfl)⟩ hl.1 rfl (Nat.le_of_ble_eq_true rfl) dX0_becomeCauchy_16 ⟨(Nat.le_of_ble_eq_true rfl), (Nat.le_of_ble_eq_true rfl)⟩ (fun H locs hw => ?_)
  refine lv_iload_n hx hb dX0_becomeCauchy_19 rfl (lv_at hl 0 rfl) ?_
  obtain ⟨_, σ6, hk, hf⟩ := bnd_inv hf
  refine z_callSN (As := [.ref v3, .int r5, .int v2]) (rest := []) (m_X6_multiply hC.2.2.2.2.2.2.2.2 hk) hC hw wd_X6_multiply lkN_X0_77 rfl ⟨rfl, rfl⟩ ⟨(Nat.le_of_ble_eq_true rfl), (Nat.le_of_ble_eq_true rfl)⟩ hl.1 rfl (Nat.le_of_ble_eq_true rfl) dX0_becomeCauchy_20 ⟨(Nat.le_of_ble_eq_true rfl), (Nat.le_of_ble_eq_true rfl)⟩ (fun H locs hw => ?_)
  refine lv_aload_n hx hb dX0_becomeCauchy_23 rfl (lv_at hl 2 rfl) ?_
  obtain ⟨ho, hf⟩ := chk_inv hf
  obtain ⟨r8, σ7, hk, hf⟩ := bnd_inv hf
  refine z_callV (As := []) (rest := []) (m_X0_emptyWeight hC.2.2.2.2.2.2.2.2 hk) hC hw wd_X0_emptyWeight lkM_X0_73 (isO_sh ho) rfl rfl ⟨rfl, rfl⟩ ⟨(Nat.le_of_ble_eq_true rfl), (Nat.le_of_ble_eq_true rfl)⟩ hl.1 rfl (Nat.le_of_ble_eq_true rfl) dX0_becomeCauchy_24 ⟨(Nat.le_of_ble_eq_true rfl), (Nat.le_of_ble_eq_true rfl)⟩ (fun H locs hw => ?_)
  refine lv_istore (lv' := [(4, .int r8), (3, .int v2), (0, .ref a0), (1, .ref a1), (2, .ref a2)]) hx hb dX0_becomeCauchy_27 hl (Nat.le_of_ble_eq_true rfl) rfl (fun ls hl => ?_)
  refine lv_iload_n hx hb dX0_becomeCauchy_29 rfl (lv_at hl 1 rfl) ?_
  refine lv_istore (lv' := [(5, .int v2), (4, .int r8), (3, .int v2), (0, .ref a0), (1, .ref a1), (2, .ref a2)]) hx hb dX0_becomeCauchy_30 hl (Nat.le_of_ble_eq_true rfl) rfl (fun ls hl => ?_)
  obtain ⟨σ15, hk, hf⟩ := lb0_inv hf
  refine l_X0_becomeCauchy_B32 hC hr (fun H locs ls hw hl => ?_) FUEL v2 σ7 hk _ _ _ hw (lv_sub hl [3, 4, 5, 2, 1, 0] rfl)
  refine lv_iconst (v := 0) hx hb dX0_becomeCauchy_68 (by decide) ?_
  refine lv_istore (lv' := [(5, .int 0), (0, .ref a0), (1, .ref a1), (2, .ref a2), (3, .int v2)]) hx hb dX0_becomeCauchy_69 hl (Nat.le_of_ble_eq_true rfl) rfl (fun ls hl => ?_)
  obtain ⟨σ28, hk, hf⟩ := lb0_inv hf
  refine l_X0_becomeCauchy_B71 hC hr (fun H locs ls hw hl => ?_) FUEL 0 σ15 hk _ _ _ hw (lv_sub hl [1, 2, 3, 4, 0] rfl)
  first | (obtain ⟨rfl, rfl⟩ := sp_inv hf) | (obtain rfl := Option.some.inj hf)
  exact W.vret hx hb hr (z_ret hw rfl) hw.2.2.2.2.2 dX0_becomeCauchy_160 hC.2.2.2.2.2.1
set_option maxHeartbeats 4000000 in
set_option maxRecDepth 100000 in
theorem t_X0_hasStar_L21 (hC : zC p l s m args meth c cX0_hasStar 1 RX0 D cA B0) (hr : meth.sig.returnType = (Option.some FieldType.boolean)) {Γ : zSh} {s0 : Int32} {σ : zSt} {out : (Int32 × zSt)} (hf : f_X0_hasStar_L21 Γ s0 σ = some out) {H : Heap} {locs : List Loc} {ls : Array Slot} (hw : zO D cA B0 Γ σ Z s.heap H locs) (hl : lv_has ls 1 []) :
    W p l e rm_X0_hasStar s m args below meth c H locs 0 0 (MQ below (zQ1 D cA B0 (some (.int out.1)) Γ out.2 Z) args s 0 0 (FR B0)) (F0 m 21 ls [.int s0]) := by
  have hx := hC.1
  have hb := hC.2.1
  unfold f_X0_hasStar_L21 at hf
  obtain ⟨hz, hf⟩ := chk_inv hf
  first | (obtain ⟨rfl, rfl⟩ := sp_inv hf) | (obtain rfl := Option.some.inj hf)
  exact W.zret hx hb hr (isB_n hz).1 (z_ret hw rfl) hw.2.2.2.2.2 dX0_hasStar_21 hC.2.2.2.2.2.1
set_option maxHeartbeats 4000000 in
set_option maxRecDepth 100000 in
theorem t_X0_hasStar_L20 (hC : zC p l s m args meth c cX0_hasStar 1 RX0 D cA B0) (hr : meth.sig.returnType = (Option.some FieldType.boolean)) {Γ : zSh}  {σ : zSt} {out : (Int32 × zSt)} (hf : f_X0_hasStar_L20 Γ  σ = some out) {H : Heap} {locs : List Loc} {ls : Array Slot} (hw : zO D cA B0 Γ σ Z s.heap H locs) (hl : lv_has ls 1 []) :
    W p l e rm_X0_hasStar s m args below meth c H locs 0 0 (MQ below (zQ1 D cA B0 (some (.int out.1)) Γ out.2 Z) args s 0 0 (FR B0)) (F0 m 20 ls []) := by
  have hx := hC.1
  have hb := hC.2.1
  unfold f_X0_hasStar_L20 at hf
  refine lv_iconst (v := 0) hx hb dX0_hasStar_20 (by decide) ?_
  exact t_X0_hasStar_L21 hC hr hf hw (lv_sub hl [] rfl)
set_option maxHeartbeats 4000000 in
set_option maxRecDepth 100000 in
theorem m_X0_hasStar (h9 : l.stackTraces = false) {Γ : zSh} {a0 : Nat} {σ : zSt} {r : Int32} {σ2 : zSt} (hf : f_X0_hasStar Γ a0 σ = some (r, σ2)) : Met l yX0_hasStar (wq yX0_hasStar cX0_hasStar 1 (Option.some FieldType.boolean)) rm_X0_hasStar (zQ0 D cA B0 [.ref a0] Γ σ Z) (zQ1 D cA B0 (some (.int r)) Γ σ2 Z) 0 0 (FR B0) := by
  refine z_ofW h9 (by decide) (Nat.le_of_ble_eq_true rfl) ?_
  intro p e s m args below meth c ls hC hr _ hw hl
  have hx := hC.1
  have hb := hC.2.1
  have hl : lv_has ls 1 [(0, .ref a0)] := hl
  unfold f_X0_hasStar at hf
  refine lv_aload_n hx hb dX0_hasStar_0 rfl (lv_at hl 0 rfl) ?_
  obtain ⟨v1, hg, hf⟩ := gfI_inv hf
  refine r_gfI hC hw hg clX0 (Nat.le_of_ble_eq_true rfl) lkF_X0_9 rfl dX0_hasStar_1 ?_
  refine lv_bipush (v := 12) hx hb dX0_hasStar_4 (by decide) ?_
  refine lv_icmp_ge (tgt := 20) hx hb dX0_hasStar_6 (by decide) (fun hc => ?_) (fun hc => ?_)
  · rw [if_pos hc] at hf
    exact t_X0_hasStar_L20 hC hr hf hw (lv_sub hl [] rfl)
  · rw [if_neg hc] at hf
    refine lv_aload_n hx hb dX0_hasStar_9 rfl (lv_at hl 0 rfl) ?_
    obtain ⟨ho, hf⟩ := chk_inv hf
    obtain ⟨r3, σ2, hk, hf⟩ := bnd_inv hf
    refine z_callV (As := []) (rest := []) (m_X0_emptyWeight hC.2.2.2.2.2.2.2.2 hk) hC hw wd_X0_emptyWeight lkM_X0_73 (isO_sh ho) rfl rfl ⟨rfl, rfl⟩ ⟨(Nat.le_of_ble_eq_true rfl), (Nat.le_of_ble_eq_true rfl)⟩ hl.1 rfl (Nat.le_of_ble_eq_true rfl) dX0_hasStar_10 ⟨(Nat.le_of_ble_eq_true rfl), (Nat.le_of_ble_eq_true rfl)⟩ (fun H locs hw => ?_)
    refine lv_if_ne (tgt := 20) hx hb dX0_hasStar_13 (by decide) (fun hc => ?_) (fun hc => ?_)
    · rw [if_neg hc] at hf
      exact t_X0_hasStar_L20 hC hr hf hw (lv_sub hl [] rfl)
    · rw [if_pos hc] at hf
      refine lv_iconst (v := 1) hx hb dX0_hasStar_16 (by decide) ?_
      refine lv_goto (tgt := 21) hx hb dX0_hasStar_17 (by decide) ?_
      exact t_X0_hasStar_L21 hC hr hf hw (lv_sub hl [] rfl)
set_option maxHeartbeats 4000000 in
set_option maxRecDepth 100000 in
theorem t_X0_initialThenStep_B5 (hC : zC p l s m args meth c cX0_initialThenStep 5 RX0 D cA B0) (hr : meth.sig.returnType = (Option.some FieldType.int)) {Γ : zSh} {x0 : Nat} {x1 : Int32} {x2 : Int32} {x3 : Int32} {x4 : Int32} {σ : zSt} {out : ((Int32 × Int32 × zSt) ⊕ (Int32 × zSt))} (hf : f_X0_initialThenStep_B5 Γ x0 x1 x2 x3 x4 σ = some out) {H : Heap} {locs : List Loc} {ls : Array Slot} (hw : zO D cA B0 Γ σ Z s.heap H locs) (hl : lv_has ls 5 [(0, .ref x0), (1, .int x1), (2, .int x2), (3, .int x3), (4, .int x4)])
    (kI : ∀ (z3 : Int32) (z4 : Int32) (σ2 : zSt), out = .inl (z3, z4, σ2) → ∀ (H : Heap) (locs : List Loc) (ls : Array Slot), zO D cA B0 Γ σ2 Z s.heap H locs → lv_has ls 5 [(0, .ref x0), (1, .int x1), (2, .int x2), (3, .int z3), (4, .int z4)] → W p l e rm_X0_initialThenStep s m args below meth c H locs 0 0 Q (F0 m 5 ls []))
    (kE : ∀ (z3 : Int32) (σ2 : zSt), out = .inr (z3, σ2) → ∀ (H : Heap) (locs : List Loc) (ls : Array Slot), zO D cA B0 Γ σ2 Z s.heap H locs → lv_has ls 5 [(3, .int z3)] → W p l e rm_X0_initialThenStep s m args below meth c H locs 0 0 Q (F0 m 51 ls [])) :
    W p l e rm_X0_initialThenStep s m args below meth c H locs 0 0 Q (F0 m 5 ls []) := by
  have hx := hC.1
  have hb := hC.2.1
  unfold f_X0_initialThenStep_B5 at hf
  refine lv_iload hx hb dX0_initialThenStep_5 (lv_at hl 4 rfl) ?_
  refine lv_aload_n hx hb dX0_initialThenStep_7 rfl (lv_at hl 0 rfl) ?_
  obtain ⟨v1, hg, hf⟩ := gfI_inv hf
  refine r_gfI hC hw hg clX0 (Nat.le_of_ble_eq_true rfl) lkF_X0_9 rfl dX0_initialThenStep_8 ?_
  refine lv_icmp_ge (tgt := 51) hx hb dX0_initialThenStep_11 (by decide) (fun hc => ?_) (fun hc => ?_)
  · rw [if_pos hc] at hf
    exact kE x3 σ (Option.some.inj hf).symm _ _ _ hw (lv_sub hl [3] rfl)
  · rw [if_neg hc] at hf
    refine lv_iload_n hx hb dX0_initialThenStep_14 rfl (lv_at hl 3 rfl) ?_
    refine lv_aload_n hx hb dX0_initialThenStep_15 rfl (lv_at hl 0 rfl) ?_
    obtain ⟨v2, hg, hf⟩ := gfR_inv hf
    refine r_gfR hC hw hg clX0 (Nat.le_of_ble_eq_true rfl) lkF_X0_15 rfl dX0_initialThenStep_16 ?_
    refine lv_iload hx hb dX0_initialThenStep_19 (lv_at hl 4 rfl) ?_
    obtain ⟨v3, hg, hf⟩ := ldI_inv hf
    refine r_ldI hC hw hg dX0_initialThenStep_21 ?_
    refine lv_aload_n hx hb dX0_initialThenStep_22 rfl (lv_at hl 0 rfl) ?_
    obtain ⟨v4, hg, hf⟩ := gfR_inv hf
    refine r_gfR hC hw hg clX0 (Nat.le_of_ble_eq_true rfl) lkF_X0_24 rfl dX0_initialThenStep_23 ?_
    refine lv_iload_n hx hb dX0_initialThenStep_26 rfl (lv_at hl 1 rfl) ?_
    obtain ⟨v5, hg, hf⟩ := ldG_inv hf
    refine r_ldG hC hw hg dX0_initialThenStep_27 ?_
    refine lv_iload hx hb dX0_initialThenStep_28 (lv_at hl 4 rfl) ?_
    refine lv_aload_n hx hb dX0_initialThenStep_30 rfl (lv_at hl 0 rfl) ?_
    obtain ⟨v6, hg, hf⟩ := gfI_inv hf
    refine r_gfI hC hw hg clX0 (Nat.le_of_ble_eq_true rfl) lkF_X0_9 rfl dX0_initialThenStep_31 ?_
    refine lv_imul hx hb dX0_initialThenStep_34 ?_
    refine lv_iload_n hx hb dX0_initialThenStep_35 rfl (lv_at hl 2 rfl) ?_
    refine lv_iadd hx hb dX0_initialThenStep_36 ?_
    obtain ⟨v7, hg, hf⟩ := ldI_inv hf
    refine r_ldI hC hw hg dX0_initialThenStep_37 ?_
    refine lv_imul hx hb dX0_initialThenStep_38 ?_
    refine lv_iadd hx hb dX0_initialThenStep_39 ?_
    refine lv_sipush (v := 10007) hx hb dX0_initialThenStep_40 (by decide) ?_
    obtain ⟨v8, hg, hf⟩ := rmI_inv hf
    refine r_rmI hC hg dX0_initialThenStep_43 ?_
    refine lv_istore_n (lv' := [(3, .int v8), (0, .ref x0), (1, .int x1), (2, .int x2), (4, .int x4)]) hx hb dX0_initialThenStep_44 rfl hl (Nat.le_of_ble_eq_true rfl) rfl (fun ls hl => ?_)
    refine lv_iinc (v := (x4 + 1)) (lv' := [(4, .int (x4 + 1)), (3, .int v8), (0, .ref x0), (1, .int x1), (2, .int x2)]) hx hb dX0_initialThenStep_45 hl (k := 4) rfl rfl (Nat.le_of_ble_eq_true rfl) rfl (fun ls hl => ?_)
    refine lv_goto (tgt := 5) hx hb dX0_initialThenStep_48 (by decide) ?_
    exact kI v8 (x4 + 1) σ (Option.some.inj hf).symm _ _ _ hw (lv_sub hl [2, 3, 4, 1, 0] rfl)
set_option maxHeartbeats 4000000 in
theorem l_X0_initialThenStep_B5 (hC : zC p l s m args meth c cX0_initialThenStep 5 RX0 D cA B0) (hr : meth.sig.returnType = (Option.some FieldType.int)) {Γ : zSh} {x0 : Nat} {x1 : Int32} {x2 : Int32} {w3 : Int32} {σ2 : zSt} (kE : ∀ (H : Heap) (locs : List Loc) (ls : Array Slot), zO D cA B0 Γ σ2 Z s.heap H locs → lv_has ls 5 [(3, .int w3)] → W p l e rm_X0_initialThenStep s m args below meth c H locs 0 0 Q (F0 m 51 ls [])) :
    ∀ (n : Nat) (x3 : Int32) (x4 : Int32) (σ : zSt), loopM (fun q => f_X0_initialThenStep_B5 Γ x0 x1 x2 q.1 q.2.1 q.2.2) n (x3, x4, σ) = some (w3, σ2) → ∀ (H : Heap) (locs : List Loc) (ls : Array Slot), zO D cA B0 Γ σ Z s.heap H locs → lv_has ls 5 [(0, .ref x0), (1, .int x1), (2, .int x2), (3, .int x3), (4, .int x4)] → W p l e rm_X0_initialThenStep s m args below meth c H locs 0 0 Q (F0 m 5 ls []) := by
  intro n
  induction n with
  | zero => intro x3 x4 σ h; exact absurd h (by simp [loopM])
  | succ n ih =>
    intro x3 x4 σ h H locs ls hw hl
    obtain ⟨r, h1, h2, h3⟩ := loopM_inv h
    exact t_X0_initialThenStep_B5 hC hr h1 hw hl (fun z3 z4 s2 e H locs ls hw hl => ih z3 z4 s2 (h2 _ e) H locs ls hw hl) (fun z3 s2 e H locs ls hw hl => by cases h3 _ e; exact kE H locs ls hw hl)
set_option maxHeartbeats 4000000 in
set_option maxRecDepth 100000 in
theorem m_X0_initialThenStep (h9 : l.stackTraces = false) {Γ : zSh} {a0 : Nat} {a1 : Int32} {a2 : Int32} {σ : zSt} {r : Int32} {σ2 : zSt} (hf : f_X0_initialThenStep Γ a0 a1 a2 σ = some (r, σ2)) : Met l yX0_initialThenStep (wq yX0_initialThenStep cX0_initialThenStep 5 (Option.some FieldType.int)) rm_X0_initialThenStep (zQ0 D cA B0 [.ref a0, .int a1, .int a2] Γ σ Z) (zQ1 D cA B0 (some (.int r)) Γ σ2 Z) 0 0 (FR B0) := by
  refine z_ofW h9 (by decide) (Nat.le_of_ble_eq_true rfl) ?_
  intro p e s m args below meth c ls hC hr _ hw hl
  have hx := hC.1
  have hb := hC.2.1
  have hl : lv_has ls 5 [(0, .ref a0), (1, .int a1), (2, .int a2)] := hl
  unfold f_X0_initialThenStep at hf
  refine lv_iconst (v := 0) hx hb dX0_initialThenStep_0 (by decide) ?_
  refine lv_istore_n (lv' := [(3, .int 0), (0, .ref a0), (1, .int a1), (2, .int a2)]) hx hb dX0_initialThenStep_1 rfl hl (Nat.le_of_ble_eq_true rfl) rfl (fun ls hl => ?_)
  refine lv_iconst (v := 0) hx hb dX0_initialThenStep_2 (by decide) ?_
  refine lv_istore (lv' := [(4, .int 0), (3, .int 0), (0, .ref a0), (1, .int a1), (2, .int a2)]) hx hb dX0_initialThenStep_3 hl (Nat.le_of_ble_eq_true rfl) rfl (fun ls hl => ?_)
  obtain ⟨w10, σ9, hk, hf⟩ := lb1_inv hf
  refine l_X0_initialThenStep_B5 hC hr (fun H locs ls hw hl => ?_) FUEL 0 0 σ hk _ _ _ hw (lv_sub hl [2, 3, 4, 1, 0] rfl)
  refine lv_iload_n hx hb dX0_initialThenStep_51 rfl (lv_at hl 0 rfl) ?_
  first | (obtain ⟨rfl, rfl⟩ := sp_inv hf) | (obtain rfl := Option.some.inj hf)
  exact W.iret hx hb hr (z_ret hw rfl) hw.2.2.2.2.2 dX0_initialThenStep_52 hC.2.2.2.2.2.1
set_option maxHeartbeats 4000000 in
set_option maxRecDepth 100000 in
theorem t_X0_becomeStar_B68 (hC : zC p l s m args meth c cX0_becomeStar 6 RX0 D cA B0) (hr : meth.sig.returnType = (Option.none : Option Jvm.ClassFile.FieldType)) {Γ : zSh} {x0 : Nat} {x1 : Nat} {x2 : Int32} {x3 : Int32} {x4 : Int32} {σ : zSt} {out : ((Int32 × Int32 × zSt) ⊕ (Int32 × zSt))} (hf : f_X0_becomeStar_B68 Γ x0 x1 x2 x3 x4 σ = some out) {H : Heap} {locs : List Loc} {ls : Array Slot} (hw : zO D cA B0 Γ σ Z s.heap H locs) (hl : lv_has ls 6 [(0, .ref x0), (1, .ref x1), (2, .int x2), (3, .int x3), (4, .int x4)])
    (kI : ∀ (z3 : Int32) (z4 : Int32) (σ2 : zSt), out = .inl (z3, z4, σ2) → ∀ (H : Heap) (locs : List Loc) (ls : Array Slot), zO D cA B0 Γ σ2 Z s.heap H locs → lv_has ls 6 [(0, .ref x0), (1, .ref x1), (2, .int x2), (3, .int z3), (4, .int z4)] → W p l e rm_X0_becomeStar s m args below meth c H locs 0 0 Q (F0 m 68 ls []))
    (kE : ∀ (z3 : Int32) (σ2 : zSt), out = .inr (z3, σ2) → ∀ (H : Heap) (locs : List Loc) (ls : Array Slot), zO D cA B0 Γ σ2 Z s.heap H locs → lv_has ls 6 [(0, .ref x0), (1, .ref x1), (2, .int x2), (3, .int z3)] → W p l e rm_X0_becomeStar s m args below meth c H locs 0 0 Q (F0 m 145 ls [])) :
    W p l e rm_X0_becomeStar s m args below meth c H locs 0 0 Q (F0 m 68 ls []) := by
  have hx := hC.1
  have hb := hC.2.1
  unfold f_X0_becomeStar_B68 at hf
  refine lv_iload hx hb dX0_becomeStar_68 (lv_at hl 4 rfl) ?_
  refine lv_aload_n hx hb dX0_becomeStar_70 rfl (lv_at hl 1 rfl) ?_
  obtain ⟨v14, hg, hf⟩ := gfI_inv hf
  refine r_gfI hC hw hg clX0 (Nat.le_of_ble_eq_true rfl) lkF_X0_9 rfl dX0_becomeStar_71 ?_
  refine lv_icmp_ge (tgt := 145) hx hb dX0_becomeStar_74 (by decide) (fun hc => ?_) (fun hc => ?_)
  · rw [if_pos hc] at hf
    exact kE x3 σ (Option.some.inj hf).symm _ _ _ hw (lv_sub hl [0, 1, 2, 3] rfl)
  · rw [if_neg hc] at hf
    refine lv_aload_n hx hb dX0_becomeStar_77 rfl (lv_at hl 1 rfl) ?_
    refine lv_iload_n hx hb dX0_becomeStar_78 rfl (lv_at hl 2 rfl) ?_
    refine lv_iload hx hb dX0_becomeStar_79 (lv_at hl 4 rfl) ?_
    obtain ⟨ho, hf⟩ := chk_inv hf
    obtain ⟨r16, σ15, hk, hf⟩ := bnd_inv hf
    refine z_callV (As := [.int x2, .int x4]) (rest := []) (m_X0_stepThenLast hC.2.2.2.2.2.2.2.2 hk) hC hw wd_X0_stepThenLast lkM_X0_81 (isO_sh ho) rfl rfl ⟨rfl, rfl⟩ ⟨(Nat.le_of_ble_eq_true rfl), (Nat.le_of_ble_eq_true rfl)⟩ hl.1 rfl (Nat.le_of_ble_eq_true rfl) dX0_becomeStar_81 ⟨(Nat.le_of_ble_eq_true rfl), (Nat.le_of_ble_eq_true rfl)⟩ (fun H locs hw => ?_)
    refine lv_istore (lv' := [(5, .int r16), (0, .ref x0), (1, .ref x1), (2, .int x2), (3, .int x3), (4, .int x4)]) hx hb dX0_becomeStar_84 hl (Nat.le_of_ble_eq_true rfl) rfl (fun ls hl => ?_)
    refine lv_iload_n hx hb dX0_becomeStar_86 rfl (lv_at hl 4 rfl) ?_
    refine lv_aload_n hx hb dX0_becomeStar_87 rfl (lv_at hl 2 rfl) ?_
    obtain ⟨v17, hg, hf⟩ := gfR_inv hf
    refine r_gfR hC hw hg clX0 (Nat.le_of_ble_eq_true rfl) lkF_X0_15 rfl dX0_becomeStar_88 ?_
    refine lv_iload hx hb dX0_becomeStar_91 (lv_at hl 5 rfl) ?_
    obtain ⟨v18, hg, hf⟩ := ldI_inv hf
    refine r_ldI hC hw hg dX0_becomeStar_93 ?_
    refine lv_iload hx hb dX0_becomeStar_94 (lv_at hl 0 rfl) ?_
    refine lv_imul hx hb dX0_becomeStar_96 ?_
    refine lv_iadd hx hb dX0_becomeStar_97 ?_
    refine lv_sipush (v := 10007) hx hb dX0_becomeStar_98 (by decide) ?_
    obtain ⟨v19, hg, hf⟩ := rmI_inv hf
    refine r_rmI hC hg dX0_becomeStar_101 ?_
    refine lv_istore_n (lv' := [(3, .int v19), (5, .int r16), (0, .ref x0), (1, .ref x1), (2, .int x2), (4, .int x4)]) hx hb dX0_becomeStar_102 rfl hl (Nat.le_of_ble_eq_true rfl) rfl (fun ls hl => ?_)
    refine lv_aload_n hx hb dX0_becomeStar_103 rfl (lv_at hl 2 rfl) ?_
    obtain ⟨v20, hg, hf⟩ := gfR_inv hf
    refine r_gfR hC hw hg clX0 (Nat.le_of_ble_eq_true rfl) lkF_X0_24 rfl dX0_becomeStar_104 ?_
    refine lv_iload_n hx hb dX0_becomeStar_107 rfl (lv_at hl 4 rfl) ?_
    obtain ⟨v21, hg, hf⟩ := ldG_inv hf
    refine r_ldG hC hw hg dX0_becomeStar_108 ?_
    refine lv_iconst (v := 1) hx hb dX0_becomeStar_109 (by decide) ?_
    refine lv_iload hx hb dX0_becomeStar_110 (lv_at hl 5 rfl) ?_
    refine lv_iadd hx hb dX0_becomeStar_112 ?_
    refine lv_aload_n hx hb dX0_becomeStar_113 rfl (lv_at hl 2 rfl) ?_
    obtain ⟨v22, hg, hf⟩ := gfI_inv hf
    refine r_gfI hC hw hg clX0 (Nat.le_of_ble_eq_true rfl) lkF_X0_9 rfl dX0_becomeStar_114 ?_
    refine lv_imul hx hb dX0_becomeStar_117 ?_
    refine lv_iload hx hb dX0_becomeStar_118 (lv_at hl 1 rfl) ?_
    obtain ⟨σ23, hg, hf⟩ := stI_inv hf
    refine r_stI hC hw hg dX0_becomeStar_120 (fun H locs hw => ?_)
    refine lv_aload_n hx hb dX0_becomeStar_121 rfl (lv_at hl 2 rfl) ?_
    obtain ⟨v24, hg, hf⟩ := gfR_inv hf
    refine r_gfR hC hw hg clX0 (Nat.le_of_ble_eq_true rfl) lkF_X0_24 rfl dX0_becomeStar_122 ?_
    refine lv_iload_n hx hb dX0_becomeStar_125 rfl (lv_at hl 4 rfl) ?_
    obtain ⟨v25, hg, hf⟩ := ldG_inv hf
    refine r_ldG hC hw hg dX0_becomeStar_126 ?_
    refine lv_iconst (v := 1) hx hb dX0_becomeStar_127 (by decide) ?_
    refine lv_iload hx hb dX0_becomeStar_128 (lv_at hl 5 rfl) ?_
    refine lv_iadd hx hb dX0_becomeStar_130 ?_
    refine lv_aload_n hx hb dX0_becomeStar_131 rfl (lv_at hl 3 rfl) ?_
    refine lv_iload_n hx hb dX0_becomeStar_132 rfl (lv_at hl 4 rfl) ?_
    refine lv_iload hx hb dX0_becomeStar_133 (lv_at hl 5 rfl) ?_
    obtain ⟨ho, hf⟩ := chk_inv hf
    obtain ⟨r27, σ26, hk, hf⟩ := bnd_inv hf
    refine z_callV (As := [.int x2, .int x4]) (rest := [.int (1 + x4), .ref v25]) (m_X0_initialThenStep hC.2.2.2.2.2.2.2.2 hk) hC hw wd_X0_initialThenStep lkM_X0_85 (isO_sh ho) rfl rfl ⟨rfl, rfl⟩ ⟨(Nat.le_of_ble_eq_true rfl), (Nat.le_of_ble_eq_true rfl)⟩ hl.1 rfl (Nat.le_of_ble_eq_true rfl) dX0_becomeStar_135 ⟨(Nat.le_of_ble_eq_true rfl), (Nat.le_of_ble_eq_true rfl)⟩ (fun H locs hw => ?_)
    obtain ⟨σ28, hg, hf⟩ := stI_inv hf
    refine r_stI hC hw hg dX0_becomeStar_138 (fun H locs hw => ?_)
    refine lv_iinc (v := (x4 + 1)) (lv' := [(4, .int (x4 + 1)), (3, .int v19), (5, .int r16), (0, .ref x0), (1, .ref x1), (2, .int x2)]) hx hb dX0_becomeStar_139 hl (k := 5) rfl rfl (Nat.le_of_ble_eq_true rfl) rfl (fun ls hl => ?_)
    refine lv_goto (tgt := 68) hx hb dX0_becomeStar_142 (by decide) ?_
    exact kI v19 (x4 + 1) σ28 (Option.some.inj hf).symm _ _ _ hw (lv_sub hl [3, 4, 5, 1, 0] rfl)
set_option maxHeartbeats 4000000 in
theorem l_X0_becomeStar_B68 (hC : zC p l s m args meth c cX0_becomeStar 6 RX0 D cA B0) (hr : meth.sig.returnType = (Option.none : Option Jvm.ClassFile.FieldType)) {Γ : zSh} {x0 : Nat} {x1 : Nat} {x2 : Int32} {w3 : Int32} {σ2 : zSt} (kE : ∀ (H : Heap) (locs : List Loc) (ls : Array Slot), zO D cA B0 Γ σ2 Z s.heap H locs → lv_has ls 6 [(0, .ref x0), (1, .ref x1), (2, .int x2), (3, .int w3)] → W p l e rm_X0_becomeStar s m args below meth c H locs 0 0 Q (F0 m 145 ls [])) :
    ∀ (n : Nat) (x3 : Int32) (x4 : Int32) (σ : zSt), loopM (fun q => f_X0_becomeStar_B68 Γ x0 x1 x2 q.1 q.2.1 q.2.2) n (x3, x4, σ) = some (w3, σ2) → ∀ (H : Heap) (locs : List Loc) (ls : Array Slot), zO D cA B0 Γ σ Z s.heap H locs → lv_has ls 6 [(0, .ref x0), (1, .ref x1), (2, .int x2), (3, .int x3), (4, .int x4)] → W p l e rm_X0_becomeStar s m args below meth c H locs 0 0 Q (F0 m 68 ls []) := by
  intro n
  induction n with
  | zero => intro x3 x4 σ h; exact absurd h (by simp [loopM])
  | succ n ih =>
    intro x3 x4 σ h H locs ls hw hl
    obtain ⟨r, h1, h2, h3⟩ := loopM_inv h
    exact t_X0_becomeStar_B68 hC hr h1 hw hl (fun z3 z4 s2 e H locs ls hw hl => ih z3 z4 s2 (h2 _ e) H locs ls hw hl) (fun z3 s2 e H locs ls hw hl => by cases h3 _ e; exact kE H locs ls hw hl)
set_option maxHeartbeats 4000000 in
set_option maxRecDepth 100000 in
theorem t_X0_becomeStar_B58 (hC : zC p l s m args meth c cX0_becomeStar 6 RX0 D cA B0) (hr : meth.sig.returnType = (Option.none : Option Jvm.ClassFile.FieldType)) {Γ : zSh} {x0 : Nat} {x1 : Nat} {x2 : Int32} {σ : zSt} {out : ((Int32 × zSt) ⊕ (zSt))} (hf : f_X0_becomeStar_B58 Γ x0 x1 x2 σ = some out) {H : Heap} {locs : List Loc} {ls : Array Slot} (hw : zO D cA B0 Γ σ Z s.heap H locs) (hl : lv_has ls 6 [(0, .ref x0), (1, .ref x1), (2, .int x2)])
    (kI : ∀ (z2 : Int32) (σ2 : zSt), out = .inl (z2, σ2) → ∀ (H : Heap) (locs : List Loc) (ls : Array Slot), zO D cA B0 Γ σ2 Z s.heap H locs → lv_has ls 6 [(0, .ref x0), (1, .ref x1), (2, .int z2)] → W p l e rm_X0_becomeStar s m args below meth c H locs 0 0 Q (F0 m 58 ls []))
    (kE : ∀ (σ2 : zSt), out = .inr σ2 → ∀ (H : Heap) (locs : List Loc) (ls : Array Slot), zO D cA B0 Γ σ2 Z s.heap H locs → lv_has ls 6 [] → W p l e rm_X0_becomeStar s m args below meth c H locs 0 0 Q (F0 m 160 ls [])) :
    W p l e rm_X0_becomeStar s m args below meth c H locs 0 0 Q (F0 m 58 ls []) := by
  have hx := hC.1
  have hb := hC.2.1
  unfold f_X0_becomeStar_B58 at hf
  refine lv_iload_n hx hb dX0_becomeStar_58 rfl (lv_at hl 2 rfl) ?_
  refine lv_iconst (v := 2) hx hb dX0_becomeStar_59 (by decide) ?_
  refine lv_icmp_ge (tgt := 160) hx hb dX0_becomeStar_60 (by decide) (fun hc => ?_) (fun hc => ?_)
  · rw [if_pos hc] at hf
    exact kE  σ (Option.some.inj hf).symm _ _ _ hw (lv_sub hl [] rfl)
  · rw [if_neg hc] at hf
    refine lv_iconst (v := 0) hx hb dX0_becomeStar_63 (by decide) ?_
    refine lv_istore_n (lv' := [(3, .int 0), (0, .ref x0), (1, .ref x1), (2, .int x2)]) hx hb dX0_becomeStar_64 rfl hl (Nat.le_of_ble_eq_true rfl) rfl (fun ls hl => ?_)
    refine lv_iconst (v := 0) hx hb dX0_becomeStar_65 (by decide) ?_
    refine lv_istore (lv' := [(4, .int 0), (3, .int 0), (0, .ref x0), (1, .ref x1), (2, .int x2)]) hx hb dX0_becomeStar_66 hl (Nat.le_of_ble_eq_true rfl) rfl (fun ls hl => ?_)
    obtain ⟨w30, σ29, hk, hf⟩ := lb1_inv hf
    refine l_X0_becomeStar_B68 hC hr (fun H locs ls hw hl => ?_) FUEL 0 0 σ hk _ _ _ hw (lv_sub hl [2, 3, 4, 1, 0] rfl)
    refine lv_aload_n hx hb dX0_becomeStar_145 rfl (lv_at hl 0 rfl) ?_
    obtain ⟨v31, hg, hf⟩ := gfR_inv hf
    refine r_gfR hC hw hg clX0 (Nat.le_of_ble_eq_true rfl) lkF_X0_24 rfl dX0_becomeStar_146 ?_
    refine lv_iload_n hx hb dX0_becomeStar_149 rfl (lv_at hl 2 rfl) ?_
    obtain ⟨v32, hg, hf⟩ := ldG_inv hf
    refine r_ldG hC hw hg dX0_becomeStar_150 ?_
    refine lv_iconst (v := 0) hx hb dX0_becomeStar_151 (by decide) ?_
    refine lv_iload_n hx hb dX0_becomeStar_152 rfl (lv_at hl 3 rfl) ?_
    obtain ⟨σ33, hg, hf⟩ := stI_inv hf
    refine r_stI hC hw hg dX0_becomeStar_153 (fun H locs hw => ?_)
    refine lv_iinc (v := (x2 + 1)) (lv' := [(2, .int (x2 + 1)), (0, .ref x0), (1, .ref x1), (3, .int w30)]) hx hb dX0_becomeStar_154 hl (k := 2) rfl rfl (Nat.le_of_ble_eq_true rfl) rfl (fun ls hl => ?_)
    refine lv_goto (tgt := 58) hx hb dX0_becomeStar_157 (by decide) ?_
    exact kI (x2 + 1) σ33 (Option.some.inj hf).symm _ _ _ hw (lv_sub hl [1, 2, 0] rfl)
set_option maxHeartbeats 4000000 in
theorem l_X0_becomeStar_B58 (hC : zC p l s m args meth c cX0_becomeStar 6 RX0 D cA B0) (hr : meth.sig.returnType = (Option.none : Option Jvm.ClassFile.FieldType)) {Γ : zSh} {x0 : Nat} {x1 : Nat} {σ2 : zSt} (kE : ∀ (H : Heap) (locs : List Loc) (ls : Array Slot), zO D cA B0 Γ σ2 Z s.heap H locs → lv_has ls 6 [] → W p l e rm_X0_becomeStar s m args below meth c H locs 0 0 Q (F0 m 160 ls [])) :
    ∀ (n : Nat) (x2 : Int32) (σ : zSt), loopM (fun q => f_X0_becomeStar_B58 Γ x0 x1 q.1 q.2) n (x2, σ) = some σ2 → ∀ (H : Heap) (locs : List Loc) (ls : Array Slot), zO D cA B0 Γ σ Z s.heap H locs → lv_has ls 6 [(0, .ref x0), (1, .ref x1), (2, .int x2)] → W p l e rm_X0_becomeStar s m args below meth c H locs 0 0 Q (F0 m 58 ls []) := by
  intro n
  induction n with
  | zero => intro x2 σ h; exact absurd h (by simp [loopM])
  | succ n ih =>
    intro x2 σ h H locs ls hw hl
    obtain ⟨r, h1, h2, h3⟩ := loopM_inv h
    exact t_X0_becomeStar_B58 hC hr h1 hw hl (fun z2 s2 e H locs ls hw hl => ih z2 s2 (h2 _ e) H locs ls hw hl) (fun s2 e H locs ls hw hl => by cases h3 _ e; exact kE H locs ls hw hl)
set_option maxHeartbeats 4000000 in
set_option maxRecDepth 100000 in
theorem m_X0_becomeStar (h9 : l.stackTraces = false) {Γ : zSh} {a0 : Nat} {a1 : Nat} {σ : zSt} {r : Unit} {σ2 : zSt} (hf : f_X0_becomeStar Γ a0 a1 σ = some (r, σ2)) : Met l yX0_becomeStar (wq yX0_becomeStar cX0_becomeStar 6 (Option.none : Option Jvm.ClassFile.FieldType)) rm_X0_becomeStar (zQ0 D cA B0 [.ref a0, .ref a1] Γ σ Z) (zQ1 D cA B0 (none) Γ σ2 Z) 0 0 (FR B0) := by
  refine z_ofW h9 (by decide) (Nat.le_of_ble_eq_true rfl) ?_
  intro p e s m args below meth c ls hC hr _ hw hl
  have hx := hC.1
  have hb := hC.2.1
  have hl : lv_has ls 6 [(0, .ref a0), (1, .ref a1)] := hl
  unfold f_X0_becomeStar at hf
  refine lv_aload_n hx hb dX0_becomeStar_0 rfl (lv_at hl 0 rfl) ?_
  refine lv_aload_n hx hb dX0_becomeStar_1 rfl (lv_at hl 1 rfl) ?_
  obtain ⟨v1, hg, hf⟩ := gfI_inv hf
  refine r_gfI hC hw hg clX0 (Nat.le_of_ble_eq_true rfl) lkF_X0_9 rfl dX0_becomeStar_2 ?_
  refine lv_iconst (v := 1) hx hb dX0_becomeStar_5 (by decide) ?_
  refine lv_iadd hx hb dX0_becomeStar_6 ?_
  obtain ⟨ho, hf⟩ := chk_inv hf
  obtain ⟨_, σ2, hk, hf⟩ := bnd_inv hf
  refine z_callV (As := [.int (v1 + 1)]) (rest := []) (m_X0_clear hC.2.2.2.2.2.2.2.2 hk) hC hw wd_X0_clear lkM_X0_57 (isO_sh ho) rfl rfl ⟨rfl, rfl⟩ ⟨(Nat.le_of_ble_eq_true rfl), (Nat.le_of_ble_eq_true rfl)⟩ hl.1 rfl (Nat.le_of_ble_eq_true rfl) dX0_becomeStar_7 ⟨(Nat.le_of_ble_eq_true rfl), (Nat.le_of_ble_eq_true rfl)⟩ (fun H locs hw => ?_)
  refine lv_aload_n hx hb dX0_becomeStar_10 rfl (lv_at hl 0 rfl) ?_
  refine lv_aload_n hx hb dX0_becomeStar_11 rfl (lv_at hl 1 rfl) ?_
  refine lv_iconst (v := 1) hx hb dX0_becomeStar_12 (by decide) ?_
  obtain ⟨ho, hf⟩ := chk_inv hf
  obtain ⟨_, σ3, hk, hf⟩ := bnd_inv hf
  refine z_callV (As := [.ref a1, .int 1]) (rest := []) (m_X0_placeBlock hC.2.2.2.2.2.2.2.2 hk) hC hw wd_X0_placeBlock lkM_X0_61 (isO_sh ho) rfl rfl ⟨rfl, rfl⟩ ⟨(Nat.le_of_ble_eq_true rfl), (Nat.le_of_ble_eq_true rfl)⟩ hl.1 rfl (Nat.le_of_ble_eq_true rfl) dX0_becomeStar_13 ⟨(Nat.le_of_ble_eq_true rfl), (Nat.le_of_ble_eq_true rfl)⟩ (fun H locs hw => ?_)
  refine lv_aload_n hx hb dX0_becomeStar_16 rfl (lv_at hl 0 rfl) ?_
  obtain ⟨v4, hg, hf⟩ := gfR_inv hf
  refine r_gfR hC hw hg clX0 (Nat.le_of_ble_eq_true rfl) lkF_X0_15 rfl dX0_becomeStar_17 ?_
  refine lv_iconst (v := 0) hx hb dX0_becomeStar_20 (by decide) ?_
  refine lv_aload_n hx hb dX0_becomeStar_21 rfl (lv_at hl 0 rfl) ?_
  obtain ⟨v5, hg, hf⟩ := gfI_inv hf
  refine r_gfI hC hw hg clX0 (Nat.le_of_ble_eq_true rfl) lkF_X0_9 rfl dX0_becomeStar_22 ?_
  refine lv_iconst (v := 0) hx hb dX0_becomeStar_25 (by decide) ?_
  obtain ⟨_, σ6, hk, hf⟩ := bnd_inv hf
  refine z_callS (As := [.ref v4, .int 0, .int v5, .int 0]) (rest := []) (m_J7_fill_fda19 hC.2.2.2.2.2.2.2.2 hk) hC hw wd_J7_fill_fda19 lkM_X0_27 rfl ⟨rfl, rfl⟩ ⟨(Nat.le_of_ble_eq_true rfl), (Nat.le_of_ble_eq_true rfl)⟩ hl.1 rfl (Nat.le_of_ble_eq_true rfl) dX0_becomeStar_26 ⟨(Nat.le_of_ble_eq_true rfl), (Nat.le_of_ble_eq_true rfl)⟩ (fun H locs hw => ?_)
  refine lv_aload_n hx hb dX0_becomeStar_29 rfl (lv_at hl 0 rfl) ?_
  obtain ⟨v7, hg, hf⟩ := gfR_inv hf
  refine r_gfR hC hw hg clX0 (Nat.le_of_ble_eq_true rfl) lkF_X0_19 rfl dX0_becomeStar_30 ?_
  refine lv_iconst (v := 0) hx hb dX0_becomeStar_33 (by decide) ?_
  refine lv_aload_n hx hb dX0_becomeStar_34 rfl (lv_at hl 0 rfl) ?_
  obtain ⟨v8, hg, hf⟩ := gfI_inv hf
  refine r_gfI hC hw hg clX0 (Nat.le_of_ble_eq_true rfl) lkF_X0_9 rfl dX0_becomeStar_35 ?_
  refine lv_iconst (v := 0) hx hb dX0_becomeStar_38 (by decide) ?_
  obtain ⟨_, σ9, hk, hf⟩ := bnd_inv hf
  refine z_callS (As := [.ref v7, .int 0, .int v8, .int 0]) (rest := []) (m_J7_fill_fda19 hC.2.2.2.2.2.2.2.2 hk) hC hw wd_J7_fill_fda19 lkM_X0_27 rfl ⟨rfl, rfl⟩ ⟨(Nat.le_of_ble_eq_true rfl), (Nat.le_of_ble_eq_true rfl)⟩ hl.1 rfl (Nat.le_of_ble_eq_true rfl) dX0_becomeStar_39 ⟨(Nat.le_of_ble_eq_true rfl), (Nat.le_of_ble_eq_true rfl)⟩ (fun H locs hw => ?_)
  refine lv_aload_n hx hb dX0_becomeStar_42 rfl (lv_at hl 0 rfl) ?_
  obtain ⟨v10, hg, hf⟩ := gfR_inv hf
  refine r_gfR hC hw hg clX0 (Nat.le_of_ble_eq_true rfl) lkF_X0_15 rfl dX0_becomeStar_43 ?_
  refine lv_iconst (v := 0) hx hb dX0_becomeStar_46 (by decide) ?_
  refine lv_iconst (v := 1) hx hb dX0_becomeStar_47 (by decide) ?_
  obtain ⟨σ11, hg, hf⟩ := stI_inv hf
  refine r_stI hC hw hg dX0_becomeStar_48 (fun H locs hw => ?_)
  refine lv_aload_n hx hb dX0_becomeStar_49 rfl (lv_at hl 0 rfl) ?_
  obtain ⟨v12, hg, hf⟩ := gfR_inv hf
  refine r_gfR hC hw hg clX0 (Nat.le_of_ble_eq_true rfl) lkF_X0_19 rfl dX0_becomeStar_50 ?_
  refine lv_iconst (v := 0) hx hb dX0_becomeStar_53 (by decide) ?_
  refine lv_iconst (v := 1) hx hb dX0_becomeStar_54 (by decide) ?_
  obtain ⟨σ13, hg, hf⟩ := stI_inv hf
  refine r_stI hC hw hg dX0_becomeStar_55 (fun H locs hw => ?_)
  refine lv_iconst (v := 0) hx hb dX0_becomeStar_56 (by decide) ?_
  refine lv_istore_n (lv' := [(2, .int 0), (0, .ref a0), (1, .ref a1)]) hx hb dX0_becomeStar_57 rfl hl (Nat.le_of_ble_eq_true rfl) rfl (fun ls hl => ?_)
  obtain ⟨σ34, hk, hf⟩ := lb0_inv hf
  refine l_X0_becomeStar_B58 hC hr (fun H locs ls hw hl => ?_) FUEL 0 σ13 hk _ _ _ hw (lv_sub hl [1, 2, 0] rfl)
  first | (obtain ⟨rfl, rfl⟩ := sp_inv hf) | (obtain rfl := Option.some.inj hf)
  exact W.vret hx hb hr (z_ret hw rfl) hw.2.2.2.2.2 dX0_becomeStar_160 hC.2.2.2.2.2.1
set_option maxHeartbeats 4000000 in
set_option maxRecDepth 100000 in
theorem t_X0_startAfter_B2 (hC : zC p l s m args meth c cX0_startAfter 4 RX0 D cA B0) (hr : meth.sig.returnType = (Option.none : Option Jvm.ClassFile.FieldType)) {Γ : zSh} {x0 : Nat} {x1 : Nat} {x2 : Int32} {x3 : Int32} {σ : zSt} {out : ((Int32 × zSt) ⊕ (zSt))} (hf : f_X0_startAfter_B2 Γ x0 x1 x2 x3 σ = some out) {H : Heap} {locs : List Loc} {ls : Array Slot} (hw : zO D cA B0 Γ σ Z s.heap H locs) (hl : lv_has ls 4 [(0, .ref x0), (1, .ref x1), (2, .int x2), (3, .int x3)])
    (kI : ∀ (z3 : Int32) (σ2 : zSt), out = .inl (z3, σ2) → ∀ (H : Heap) (locs : List Loc) (ls : Array Slot), zO D cA B0 Γ σ2 Z s.heap H locs → lv_has ls 4 [(0, .ref x0), (1, .ref x1), (2, .int x2), (3, .int z3)] → W p l e rm_X0_startAfter s m args below meth c H locs 0 0 Q (F0 m 2 ls []))
    (kE : ∀ (σ2 : zSt), out = .inr σ2 → ∀ (H : Heap) (locs : List Loc) (ls : Array Slot), zO D cA B0 Γ σ2 Z s.heap H locs → lv_has ls 4 [] → W p l e rm_X0_startAfter s m args below meth c H locs 0 0 Q (F0 m 28 ls [])) :
    W p l e rm_X0_startAfter s m args below meth c H locs 0 0 Q (F0 m 2 ls []) := by
  have hx := hC.1
  have hb := hC.2.1
  unfold f_X0_startAfter_B2 at hf
  refine lv_iload_n hx hb dX0_startAfter_2 rfl (lv_at hl 3 rfl) ?_
  refine lv_aload_n hx hb dX0_startAfter_3 rfl (lv_at hl 0 rfl) ?_
  obtain ⟨v1, hg, hf⟩ := gfI_inv hf
  refine r_gfI hC hw hg clX0 (Nat.le_of_ble_eq_true rfl) lkF_X0_9 rfl dX0_startAfter_4 ?_
  refine lv_icmp_ge (tgt := 28) hx hb dX0_startAfter_7 (by decide) (fun hc => ?_) (fun hc => ?_)
  · rw [if_pos hc] at hf
    exact kE  σ (Option.some.inj hf).symm _ _ _ hw (lv_sub hl [] rfl)
  · rw [if_neg hc] at hf
    refine lv_aload_n hx hb dX0_startAfter_10 rfl (lv_at hl 0 rfl) ?_
    obtain ⟨v2, hg, hf⟩ := gfR_inv hf
    refine r_gfR hC hw hg clX0 (Nat.le_of_ble_eq_true rfl) lkF_X0_15 rfl dX0_startAfter_11 ?_
    refine lv_iload_n hx hb dX0_startAfter_14 rfl (lv_at hl 3 rfl) ?_
    refine lv_aload_n hx hb dX0_startAfter_15 rfl (lv_at hl 1 rfl) ?_
    refine lv_iload_n hx hb dX0_startAfter_16 rfl (lv_at hl 2 rfl) ?_
    refine lv_iload_n hx hb dX0_startAfter_17 rfl (lv_at hl 3 rfl) ?_
    obtain ⟨ho, hf⟩ := chk_inv hf
    obtain ⟨r4, σ3, hk, hf⟩ := bnd_inv hf
    refine z_callV (As := [.int x2, .int x3]) (rest := [.int x3, .ref v2]) (m_X0_initialThenStep hC.2.2.2.2.2.2.2.2 hk) hC hw wd_X0_initialThenStep lkM_X0_85 (isO_sh ho) rfl rfl ⟨rfl, rfl⟩ ⟨(Nat.le_of_ble_eq_true rfl), (Nat.le_of_ble_eq_true rfl)⟩ hl.1 rfl (Nat.le_of_ble_eq_true rfl) dX0_startAfter_18 ⟨(Nat.le_of_ble_eq_true rfl), (Nat.le_of_ble_eq_true rfl)⟩ (fun H locs hw => ?_)
    obtain ⟨σ5, hg, hf⟩ := stI_inv hf
    refine r_stI hC hw hg dX0_startAfter_21 (fun H locs hw => ?_)
    refine lv_iinc (v := (x3 + 1)) (lv' := [(3, .int (x3 + 1)), (0, .ref x0), (1, .ref x1), (2, .int x2)]) hx hb dX0_startAfter_22 hl (k := 3) rfl rfl (Nat.le_of_ble_eq_true rfl) rfl (fun ls hl => ?_)
    refine lv_goto (tgt := 2) hx hb dX0_startAfter_25 (by decide) ?_
    exact kI (x3 + 1) σ5 (Option.some.inj hf).symm _ _ _ hw (lv_sub hl [1, 2, 3, 0] rfl)
set_option maxHeartbeats 4000000 in
theorem l_X0_startAfter_B2 (hC : zC p l s m args meth c cX0_startAfter 4 RX0 D cA B0) (hr : meth.sig.returnType = (Option.none : Option Jvm.ClassFile.FieldType)) {Γ : zSh} {x0 : Nat} {x1 : Nat} {x2 : Int32} {σ2 : zSt} (kE : ∀ (H : Heap) (locs : List Loc) (ls : Array Slot), zO D cA B0 Γ σ2 Z s.heap H locs → lv_has ls 4 [] → W p l e rm_X0_startAfter s m args below meth c H locs 0 0 Q (F0 m 28 ls [])) :
    ∀ (n : Nat) (x3 : Int32) (σ : zSt), loopM (fun q => f_X0_startAfter_B2 Γ x0 x1 x2 q.1 q.2) n (x3, σ) = some σ2 → ∀ (H : Heap) (locs : List Loc) (ls : Array Slot), zO D cA B0 Γ σ Z s.heap H locs → lv_has ls 4 [(0, .ref x0), (1, .ref x1), (2, .int x2), (3, .int x3)] → W p l e rm_X0_startAfter s m args below meth c H locs 0 0 Q (F0 m 2 ls []) := by
  intro n
  induction n with
  | zero => intro x3 σ h; exact absurd h (by simp [loopM])
  | succ n ih =>
    intro x3 σ h H locs ls hw hl
    obtain ⟨r, h1, h2, h3⟩ := loopM_inv h
    exact t_X0_startAfter_B2 hC hr h1 hw hl (fun z3 s2 e H locs ls hw hl => ih z3 s2 (h2 _ e) H locs ls hw hl) (fun s2 e H locs ls hw hl => by cases h3 _ e; exact kE H locs ls hw hl)
set_option maxHeartbeats 4000000 in
set_option maxRecDepth 100000 in
theorem m_X0_startAfter (h9 : l.stackTraces = false) {Γ : zSh} {a0 : Nat} {a1 : Nat} {a2 : Int32} {σ : zSt} {r : Unit} {σ2 : zSt} (hf : f_X0_startAfter Γ a0 a1 a2 σ = some (r, σ2)) : Met l yX0_startAfter (wq yX0_startAfter cX0_startAfter 4 (Option.none : Option Jvm.ClassFile.FieldType)) rm_X0_startAfter (zQ0 D cA B0 [.ref a0, .ref a1, .int a2] Γ σ Z) (zQ1 D cA B0 (none) Γ σ2 Z) 0 0 (FR B0) := by
  refine z_ofW h9 (by decide) (Nat.le_of_ble_eq_true rfl) ?_
  intro p e s m args below meth c ls hC hr _ hw hl
  have hx := hC.1
  have hb := hC.2.1
  have hl : lv_has ls 4 [(0, .ref a0), (1, .ref a1), (2, .int a2)] := hl
  unfold f_X0_startAfter at hf
  refine lv_iconst (v := 0) hx hb dX0_startAfter_0 (by decide) ?_
  refine lv_istore_n (lv' := [(3, .int 0), (0, .ref a0), (1, .ref a1), (2, .int a2)]) hx hb dX0_startAfter_1 rfl hl (Nat.le_of_ble_eq_true rfl) rfl (fun ls hl => ?_)
  obtain ⟨σ6, hk, hf⟩ := lb0_inv hf
  refine l_X0_startAfter_B2 hC hr (fun H locs ls hw hl => ?_) FUEL 0 σ hk _ _ _ hw (lv_sub hl [1, 2, 3, 0] rfl)
  first | (obtain ⟨rfl, rfl⟩ := sp_inv hf) | (obtain rfl := Option.some.inj hf)
  exact W.vret hx hb hr (z_ret hw rfl) hw.2.2.2.2.2 dX0_startAfter_28 hC.2.2.2.2.2.1
set_option maxHeartbeats 4000000 in
set_option maxRecDepth 100000 in
theorem t_X0_transpose_B12 (hC : zC p l s m args meth c cX0_transpose 5 RX0 D cA B0) (hr : meth.sig.returnType = (Option.none : Option Jvm.ClassFile.FieldType)) {Γ : zSh} {x0 : Nat} {x1 : Nat} {x2 : Int32} {x3 : Int32} {σ : zSt} {out : ((Int32 × zSt) ⊕ (zSt))} (hf : f_X0_transpose_B12 Γ x0 x1 x2 x3 σ = some out) {H : Heap} {locs : List Loc} {ls : Array Slot} (hw : zO D cA B0 Γ σ Z s.heap H locs) (hl : lv_has ls 5 [(0, .ref x0), (1, .ref x1), (2, .int x2), (3, .int x3)])
    (kI : ∀ (z3 : Int32) (σ2 : zSt), out = .inl (z3, σ2) → ∀ (H : Heap) (locs : List Loc) (ls : Array Slot), zO D cA B0 Γ σ2 Z s.heap H locs → lv_has ls 5 [(0, .ref x0), (1, .ref x1), (2, .int x2), (3, .int z3)] → W p l e rm_X0_transpose s m args below meth c H locs 0 0 Q (F0 m 12 ls []))
    (kE : ∀ (σ2 : zSt), out = .inr σ2 → ∀ (H : Heap) (locs : List Loc) (ls : Array Slot), zO D cA B0 Γ σ2 Z s.heap H locs → lv_has ls 5 [(0, .ref x0), (1, .ref x1), (2, .int x2)] → W p l e rm_X0_transpose s m args below meth c H locs 0 0 Q (F0 m 67 ls [])) :
    W p l e rm_X0_transpose s m args below meth c H locs 0 0 Q (F0 m 12 ls []) := by
  have hx := hC.1
  have hb := hC.2.1
  unfold f_X0_transpose_B12 at hf
  refine lv_iload_n hx hb dX0_transpose_12 rfl (lv_at hl 3 rfl) ?_
  refine lv_iload_n hx hb dX0_transpose_13 rfl (lv_at hl 2 rfl) ?_
  refine lv_icmp_ge (tgt := 67) hx hb dX0_transpose_14 (by decide) (fun hc => ?_) (fun hc => ?_)
  · rw [if_pos hc] at hf
    exact kE  σ (Option.some.inj hf).symm _ _ _ hw (lv_sub hl [0, 1, 2] rfl)
  · rw [if_neg hc] at hf
    refine lv_aload_n hx hb dX0_transpose_17 rfl (lv_at hl 1 rfl) ?_
    refine lv_iload_n hx hb dX0_transpose_18 rfl (lv_at hl 2 rfl) ?_
    refine lv_aload_n hx hb dX0_transpose_19 rfl (lv_at hl 0 rfl) ?_
    obtain ⟨v2, hg, hf⟩ := gfI_inv hf
    refine r_gfI hC hw hg clX0 (Nat.le_of_ble_eq_true rfl) lkF_X0_9 rfl dX0_transpose_20 ?_
    refine lv_imul hx hb dX0_transpose_23 ?_
    refine lv_iload_n hx hb dX0_transpose_24 rfl (lv_at hl 3 rfl) ?_
    refine lv_iadd hx hb dX0_transpose_25 ?_
    obtain ⟨v3, hg, hf⟩ := ldI_inv hf
    refine r_ldI hC hw hg dX0_transpose_26 ?_
    refine lv_istore (lv' := [(4, .int v3), (0, .ref x0), (1, .ref x1), (2, .int x2), (3, .int x3)]) hx hb dX0_transpose_27 hl (Nat.le_of_ble_eq_true rfl) rfl (fun ls hl => ?_)
    refine lv_aload_n hx hb dX0_transpose_29 rfl (lv_at hl 2 rfl) ?_
    refine lv_iload_n hx hb dX0_transpose_30 rfl (lv_at hl 3 rfl) ?_
    refine lv_aload_n hx hb dX0_transpose_31 rfl (lv_at hl 1 rfl) ?_
    obtain ⟨v4, hg, hf⟩ := gfI_inv hf
    refine r_gfI hC hw hg clX0 (Nat.le_of_ble_eq_true rfl) lkF_X0_9 rfl dX0_transpose_32 ?_
    refine lv_imul hx hb dX0_transpose_35 ?_
    refine lv_iload_n hx hb dX0_transpose_36 rfl (lv_at hl 4 rfl) ?_
    refine lv_iadd hx hb dX0_transpose_37 ?_
    refine lv_aload_n hx hb dX0_transpose_38 rfl (lv_at hl 2 rfl) ?_
    refine lv_iload_n hx hb dX0_transpose_39 rfl (lv_at hl 4 rfl) ?_
    refine lv_aload_n hx hb dX0_transpose_40 rfl (lv_at hl 1 rfl) ?_
    obtain ⟨v5, hg, hf⟩ := gfI_inv hf
    refine r_gfI hC hw hg clX0 (Nat.le_of_ble_eq_true rfl) lkF_X0_9 rfl dX0_transpose_41 ?_
    refine lv_imul hx hb dX0_transpose_44 ?_
    refine lv_iload_n hx hb dX0_transpose_45 rfl (lv_at hl 3 rfl) ?_
    refine lv_iadd hx hb dX0_transpose_46 ?_
    obtain ⟨v6, hg, hf⟩ := ldI_inv hf
    refine r_ldI hC hw hg dX0_transpose_47 ?_
    obtain ⟨σ7, hg, hf⟩ := stI_inv hf
    refine r_stI hC hw hg dX0_transpose_48 (fun H locs hw => ?_)
    refine lv_aload_n hx hb dX0_transpose_49 rfl (lv_at hl 2 rfl) ?_
    refine lv_iload_n hx hb dX0_transpose_50 rfl (lv_at hl 4 rfl) ?_
    refine lv_aload_n hx hb dX0_transpose_51 rfl (lv_at hl 1 rfl) ?_
    obtain ⟨v8, hg, hf⟩ := gfI_inv hf
    refine r_gfI hC hw hg clX0 (Nat.le_of_ble_eq_true rfl) lkF_X0_9 rfl dX0_transpose_52 ?_
    refine lv_imul hx hb dX0_transpose_55 ?_
    refine lv_iload_n hx hb dX0_transpose_56 rfl (lv_at hl 3 rfl) ?_
    refine lv_iadd hx hb dX0_transpose_57 ?_
    refine lv_iload hx hb dX0_transpose_58 (lv_at hl 0 rfl) ?_
    obtain ⟨σ9, hg, hf⟩ := stI_inv hf
    refine r_stI hC hw hg dX0_transpose_60 (fun H locs hw => ?_)
    refine lv_iinc (v := (x3 + 1)) (lv' := [(3, .int (x3 + 1)), (4, .int v3), (0, .ref x0), (1, .ref x1), (2, .int x2)]) hx hb dX0_transpose_61 hl (k := 4) rfl rfl (Nat.le_of_ble_eq_true rfl) rfl (fun ls hl => ?_)
    refine lv_goto (tgt := 12) hx hb dX0_transpose_64 (by decide) ?_
    exact kI (x3 + 1) σ9 (Option.some.inj hf).symm _ _ _ hw (lv_sub hl [2, 3, 4, 0] rfl)
set_option maxHeartbeats 4000000 in
theorem l_X0_transpose_B12 (hC : zC p l s m args meth c cX0_transpose 5 RX0 D cA B0) (hr : meth.sig.returnType = (Option.none : Option Jvm.ClassFile.FieldType)) {Γ : zSh} {x0 : Nat} {x1 : Nat} {x2 : Int32} {σ2 : zSt} (kE : ∀ (H : Heap) (locs : List Loc) (ls : Array Slot), zO D cA B0 Γ σ2 Z s.heap H locs → lv_has ls 5 [(0, .ref x0), (1, .ref x1), (2, .int x2)] → W p l e rm_X0_transpose s m args below meth c H locs 0 0 Q (F0 m 67 ls [])) :
    ∀ (n : Nat) (x3 : Int32) (σ : zSt), loopM (fun q => f_X0_transpose_B12 Γ x0 x1 x2 q.1 q.2) n (x3, σ) = some σ2 → ∀ (H : Heap) (locs : List Loc) (ls : Array Slot), zO D cA B0 Γ σ Z s.heap H locs → lv_has ls 5 [(0, .ref x0), (1, .ref x1), (2, .int x2), (3, .int x3)] → W p l e rm_X0_transpose s m args below meth c H locs 0 0 Q (F0 m 12 ls []) := by
  intro n
  induction n with
  | zero => intro x3 σ h; exact absurd h (by simp [loopM])
  | succ n ih =>
    intro x3 σ h H locs ls hw hl
    obtain ⟨r, h1, h2, h3⟩ := loopM_inv h
    exact t_X0_transpose_B12 hC hr h1 hw hl (fun z3 s2 e H locs ls hw hl => ih z3 s2 (h2 _ e) H locs ls hw hl) (fun s2 e H locs ls hw hl => by cases h3 _ e; exact kE H locs ls hw hl)
set_option maxHeartbeats 4000000 in
set_option maxRecDepth 100000 in
theorem t_X0_transpose_B2 (hC : zC p l s m args meth c cX0_transpose 5 RX0 D cA B0) (hr : meth.sig.returnType = (Option.none : Option Jvm.ClassFile.FieldType)) {Γ : zSh} {x0 : Nat} {x1 : Nat} {x2 : Int32} {σ : zSt} {out : ((Int32 × zSt) ⊕ (zSt))} (hf : f_X0_transpose_B2 Γ x0 x1 x2 σ = some out) {H : Heap} {locs : List Loc} {ls : Array Slot} (hw : zO D cA B0 Γ σ Z s.heap H locs) (hl : lv_has ls 5 [(0, .ref x0), (1, .ref x1), (2, .int x2)])
    (kI : ∀ (z2 : Int32) (σ2 : zSt), out = .inl (z2, σ2) → ∀ (H : Heap) (locs : List Loc) (ls : Array Slot), zO D cA B0 Γ σ2 Z s.heap H locs → lv_has ls 5 [(0, .ref x0), (1, .ref x1), (2, .int z2)] → W p l e rm_X0_transpose s m args below meth c H locs 0 0 Q (F0 m 2 ls []))
    (kE : ∀ (σ2 : zSt), out = .inr σ2 → ∀ (H : Heap) (locs : List Loc) (ls : Array Slot), zO D cA B0 Γ σ2 Z s.heap H locs → lv_has ls 5 [] → W p l e rm_X0_transpose s m args below meth c H locs 0 0 Q (F0 m 73 ls [])) :
    W p l e rm_X0_transpose s m args below meth c H locs 0 0 Q (F0 m 2 ls []) := by
  have hx := hC.1
  have hb := hC.2.1
  unfold f_X0_transpose_B2 at hf
  refine lv_iload_n hx hb dX0_transpose_2 rfl (lv_at hl 2 rfl) ?_
  refine lv_aload_n hx hb dX0_transpose_3 rfl (lv_at hl 0 rfl) ?_
  obtain ⟨v1, hg, hf⟩ := gfI_inv hf
  refine r_gfI hC hw hg clX0 (Nat.le_of_ble_eq_true rfl) lkF_X0_9 rfl dX0_transpose_4 ?_
  refine lv_icmp_ge (tgt := 73) hx hb dX0_transpose_7 (by decide) (fun hc => ?_) (fun hc => ?_)
  · rw [if_pos hc] at hf
    exact kE  σ (Option.some.inj hf).symm _ _ _ hw (lv_sub hl [] rfl)
  · rw [if_neg hc] at hf
    refine lv_iconst (v := 0) hx hb dX0_transpose_10 (by decide) ?_
    refine lv_istore_n (lv' := [(3, .int 0), (0, .ref x0), (1, .ref x1), (2, .int x2)]) hx hb dX0_transpose_11 rfl hl (Nat.le_of_ble_eq_true rfl) rfl (fun ls hl => ?_)
    obtain ⟨σ10, hk, hf⟩ := lb0_inv hf
    refine l_X0_transpose_B12 hC hr (fun H locs ls hw hl => ?_) FUEL 0 σ hk _ _ _ hw (lv_sub hl [1, 2, 3, 0] rfl)
    refine lv_iinc (v := (x2 + 1)) (lv' := [(2, .int (x2 + 1)), (0, .ref x0), (1, .ref x1)]) hx hb dX0_transpose_67 hl (k := 2) rfl rfl (Nat.le_of_ble_eq_true rfl) rfl (fun ls hl => ?_)
    refine lv_goto (tgt := 2) hx hb dX0_transpose_70 (by decide) ?_
    exact kI (x2 + 1) σ10 (Option.some.inj hf).symm _ _ _ hw (lv_sub hl [1, 2, 0] rfl)
set_option maxHeartbeats 4000000 in
theorem l_X0_transpose_B2 (hC : zC p l s m args meth c cX0_transpose 5 RX0 D cA B0) (hr : meth.sig.returnType = (Option.none : Option Jvm.ClassFile.FieldType)) {Γ : zSh} {x0 : Nat} {x1 : Nat} {σ2 : zSt} (kE : ∀ (H : Heap) (locs : List Loc) (ls : Array Slot), zO D cA B0 Γ σ2 Z s.heap H locs → lv_has ls 5 [] → W p l e rm_X0_transpose s m args below meth c H locs 0 0 Q (F0 m 73 ls [])) :
    ∀ (n : Nat) (x2 : Int32) (σ : zSt), loopM (fun q => f_X0_transpose_B2 Γ x0 x1 q.1 q.2) n (x2, σ) = some σ2 → ∀ (H : Heap) (locs : List Loc) (ls : Array Slot), zO D cA B0 Γ σ Z s.heap H locs → lv_has ls 5 [(0, .ref x0), (1, .ref x1), (2, .int x2)] → W p l e rm_X0_transpose s m args below meth c H locs 0 0 Q (F0 m 2 ls []) := by
  intro n
  induction n with
  | zero => intro x2 σ h; exact absurd h (by simp [loopM])
  | succ n ih =>
    intro x2 σ h H locs ls hw hl
    obtain ⟨r, h1, h2, h3⟩ := loopM_inv h
    exact t_X0_transpose_B2 hC hr h1 hw hl (fun z2 s2 e H locs ls hw hl => ih z2 s2 (h2 _ e) H locs ls hw hl) (fun s2 e H locs ls hw hl => by cases h3 _ e; exact kE H locs ls hw hl)
set_option maxHeartbeats 4000000 in
set_option maxRecDepth 100000 in
theorem m_X0_transpose (h9 : l.stackTraces = false) {Γ : zSh} {a0 : Nat} {a1 : Nat} {σ : zSt} {r : Unit} {σ2 : zSt} (hf : f_X0_transpose Γ a0 a1 σ = some (r, σ2)) : Met l yX0_transpose (wq yX0_transpose cX0_transpose 5 (Option.none : Option Jvm.ClassFile.FieldType)) rm_X0_transpose (zQ0 D cA B0 [.ref a0, .ref a1] Γ σ Z) (zQ1 D cA B0 (none) Γ σ2 Z) 0 0 (FR B0) := by
  refine z_ofW h9 (by decide) (Nat.le_of_ble_eq_true rfl) ?_
  intro p e s m args below meth c ls hC hr _ hw hl
  have hx := hC.1
  have hb := hC.2.1
  have hl : lv_has ls 5 [(0, .ref a0), (1, .ref a1)] := hl
  unfold f_X0_transpose at hf
  refine lv_iconst (v := 0) hx hb dX0_transpose_0 (by decide) ?_
  refine lv_istore_n (lv' := [(2, .int 0), (0, .ref a0), (1, .ref a1)]) hx hb dX0_transpose_1 rfl hl (Nat.le_of_ble_eq_true rfl) rfl (fun ls hl => ?_)
  obtain ⟨σ11, hk, hf⟩ := lb0_inv hf
  refine l_X0_transpose_B2 hC hr (fun H locs ls hw hl => ?_) FUEL 0 σ hk _ _ _ hw (lv_sub hl [1, 2, 0] rfl)
  first | (obtain ⟨rfl, rfl⟩ := sp_inv hf) | (obtain rfl := Option.some.inj hf)
  exact W.vret hx hb hr (z_ret hw rfl) hw.2.2.2.2.2 dX0_transpose_73 hC.2.2.2.2.2.1
set_option maxHeartbeats 4000000 in
set_option maxRecDepth 100000 in
theorem t_X0_reverse_B2 (hC : zC p l s m args meth c cX0_reverse 3 RX0 D cA B0) (hr : meth.sig.returnType = (Option.none : Option Jvm.ClassFile.FieldType)) {Γ : zSh} {x0 : Nat} {x1 : Int32} {σ : zSt} {out : ((Int32 × zSt) ⊕ (zSt))} (hf : f_X0_reverse_B2 Γ x0 x1 σ = some out) {H : Heap} {locs : List Loc} {ls : Array Slot} (hw : zO D cA B0 Γ σ Z s.heap H locs) (hl : lv_has ls 3 [(0, .ref x0), (1, .int x1)])
    (kI : ∀ (z1 : Int32) (σ2 : zSt), out = .inl (z1, σ2) → ∀ (H : Heap) (locs : List Loc) (ls : Array Slot), zO D cA B0 Γ σ2 Z s.heap H locs → lv_has ls 3 [(0, .ref x0), (1, .int z1)] → W p l e rm_X0_reverse s m args below meth c H locs 0 0 Q (F0 m 2 ls []))
    (kE : ∀ (σ2 : zSt), out = .inr σ2 → ∀ (H : Heap) (locs : List Loc) (ls : Array Slot), zO D cA B0 Γ σ2 Z s.heap H locs → lv_has ls 3 [(0, .ref x0)] → W p l e rm_X0_reverse s m args below meth c H locs 0 0 Q (F0 m 42 ls [])) :
    W p l e rm_X0_reverse s m args below meth c H locs 0 0 Q (F0 m 2 ls []) := by
  have hx := hC.1
  have hb := hC.2.1
  unfold f_X0_reverse_B2 at hf
  refine lv_iload_n hx hb dX0_reverse_2 rfl (lv_at hl 1 rfl) ?_
  refine lv_aload_n hx hb dX0_reverse_3 rfl (lv_at hl 0 rfl) ?_
  obtain ⟨v1, hg, hf⟩ := gfI_inv hf
  refine r_gfI hC hw hg clX0 (Nat.le_of_ble_eq_true rfl) lkF_X0_9 rfl dX0_reverse_4 ?_
  refine lv_icmp_ge (tgt := 42) hx hb dX0_reverse_7 (by decide) (fun hc => ?_) (fun hc => ?_)
  · rw [if_pos hc] at hf
    exact kE  σ (Option.some.inj hf).symm _ _ _ hw (lv_sub hl [0] rfl)
  · rw [if_neg hc] at hf
    refine lv_aload_n hx hb dX0_reverse_10 rfl (lv_at hl 0 rfl) ?_
    obtain ⟨v2, hg, hf⟩ := gfR_inv hf
    refine r_gfR hC hw hg clX0 (Nat.le_of_ble_eq_true rfl) lkF_X0_15 rfl dX0_reverse_11 ?_
    refine lv_iload_n hx hb dX0_reverse_14 rfl (lv_at hl 1 rfl) ?_
    obtain ⟨v3, hg, hf⟩ := ldI_inv hf
    refine r_ldI hC hw hg dX0_reverse_15 ?_
    refine lv_istore_n (lv' := [(2, .int v3), (0, .ref x0), (1, .int x1)]) hx hb dX0_reverse_16 rfl hl (Nat.le_of_ble_eq_true rfl) rfl (fun ls hl => ?_)
    refine lv_aload_n hx hb dX0_reverse_17 rfl (lv_at hl 1 rfl) ?_
    obtain ⟨v4, hg, hf⟩ := gfR_inv hf
    refine r_gfR hC hw hg clX0 (Nat.le_of_ble_eq_true rfl) lkF_X0_15 rfl dX0_reverse_18 ?_
    refine lv_iload_n hx hb dX0_reverse_21 rfl (lv_at hl 2 rfl) ?_
    refine lv_aload_n hx hb dX0_reverse_22 rfl (lv_at hl 1 rfl) ?_
    obtain ⟨v5, hg, hf⟩ := gfR_inv hf
    refine r_gfR hC hw hg clX0 (Nat.le_of_ble_eq_true rfl) lkF_X0_19 rfl dX0_reverse_23 ?_
    refine lv_iload_n hx hb dX0_reverse_26 rfl (lv_at hl 2 rfl) ?_
    obtain ⟨v6, hg, hf⟩ := ldI_inv hf
    refine r_ldI hC hw hg dX0_reverse_27 ?_
    obtain ⟨σ7, hg, hf⟩ := stI_inv hf
    refine r_stI hC hw hg dX0_reverse_28 (fun H locs hw => ?_)
    refine lv_aload_n hx hb dX0_reverse_29 rfl (lv_at hl 1 rfl) ?_
    obtain ⟨v8, hg, hf⟩ := gfR_inv hf
    refine r_gfR hC hw hg clX0 (Nat.le_of_ble_eq_true rfl) lkF_X0_19 rfl dX0_reverse_30 ?_
    refine lv_iload_n hx hb dX0_reverse_33 rfl (lv_at hl 2 rfl) ?_
    refine lv_iload_n hx hb dX0_reverse_34 rfl (lv_at hl 0 rfl) ?_
    obtain ⟨σ9, hg, hf⟩ := stI_inv hf
    refine r_stI hC hw hg dX0_reverse_35 (fun H locs hw => ?_)
    refine lv_iinc (v := (x1 + 1)) (lv' := [(1, .int (x1 + 1)), (2, .int v3), (0, .ref x0)]) hx hb dX0_reverse_36 hl (k := 2) rfl rfl (Nat.le_of_ble_eq_true rfl) rfl (fun ls hl => ?_)
    refine lv_goto (tgt := 2) hx hb dX0_reverse_39 (by decide) ?_
    exact kI (x1 + 1) σ9 (Option.some.inj hf).symm _ _ _ hw (lv_sub hl [2, 0] rfl)
set_option maxHeartbeats 4000000 in
theorem l_X0_reverse_B2 (hC : zC p l s m args meth c cX0_reverse 3 RX0 D cA B0) (hr : meth.sig.returnType = (Option.none : Option Jvm.ClassFile.FieldType)) {Γ : zSh} {x0 : Nat} {σ2 : zSt} (kE : ∀ (H : Heap) (locs : List Loc) (ls : Array Slot), zO D cA B0 Γ σ2 Z s.heap H locs → lv_has ls 3 [(0, .ref x0)] → W p l e rm_X0_reverse s m args below meth c H locs 0 0 Q (F0 m 42 ls [])) :
    ∀ (n : Nat) (x1 : Int32) (σ : zSt), loopM (fun q => f_X0_reverse_B2 Γ x0 q.1 q.2) n (x1, σ) = some σ2 → ∀ (H : Heap) (locs : List Loc) (ls : Array Slot), zO D cA B0 Γ σ Z s.heap H locs → lv_has ls 3 [(0, .ref x0), (1, .int x1)] → W p l e rm_X0_reverse s m args below meth c H locs 0 0 Q (F0 m 2 ls []) := by
  intro n
  induction n with
  | zero => intro x1 σ h; exact absurd h (by simp [loopM])
  | succ n ih =>
    intro x1 σ h H locs ls hw hl
    obtain ⟨r, h1, h2, h3⟩ := loopM_inv h
    exact t_X0_reverse_B2 hC hr h1 hw hl (fun z1 s2 e H locs ls hw hl => ih z1 s2 (h2 _ e) H locs ls hw hl) (fun s2 e H locs ls hw hl => by cases h3 _ e; exact kE H locs ls hw hl)
set_option maxHeartbeats 4000000 in
set_option maxRecDepth 100000 in
theorem t_X0_reverse_B44 (hC : zC p l s m args meth c cX0_reverse 3 RX0 D cA B0) (hr : meth.sig.returnType = (Option.none : Option Jvm.ClassFile.FieldType)) {Γ : zSh} {x0 : Nat} {x1 : Int32} {σ : zSt} {out : ((Int32 × zSt) ⊕ (zSt))} (hf : f_X0_reverse_B44 Γ x0 x1 σ = some out) {H : Heap} {locs : List Loc} {ls : Array Slot} (hw : zO D cA B0 Γ σ Z s.heap H locs) (hl : lv_has ls 3 [(0, .ref x0), (1, .int x1)])
    (kI : ∀ (z1 : Int32) (σ2 : zSt), out = .inl (z1, σ2) → ∀ (H : Heap) (locs : List Loc) (ls : Array Slot), zO D cA B0 Γ σ2 Z s.heap H locs → lv_has ls 3 [(0, .ref x0), (1, .int z1)] → W p l e rm_X0_reverse s m args below meth c H locs 0 0 Q (F0 m 44 ls []))
    (kE : ∀ (σ2 : zSt), out = .inr σ2 → ∀ (H : Heap) (locs : List Loc) (ls : Array Slot), zO D cA B0 Γ σ2 Z s.heap H locs → lv_has ls 3 [] → W p l e rm_X0_reverse s m args below meth c H locs 0 0 Q (F0 m 65 ls [])) :
    W p l e rm_X0_reverse s m args below meth c H locs 0 0 Q (F0 m 44 ls []) := by
  have hx := hC.1
  have hb := hC.2.1
  unfold f_X0_reverse_B44 at hf
  refine lv_iload_n hx hb dX0_reverse_44 rfl (lv_at hl 1 rfl) ?_
  refine lv_iconst (v := 2) hx hb dX0_reverse_45 (by decide) ?_
  refine lv_icmp_ge (tgt := 65) hx hb dX0_reverse_46 (by decide) (fun hc => ?_) (fun hc => ?_)
  · rw [if_pos hc] at hf
    exact kE  σ (Option.some.inj hf).symm _ _ _ hw (lv_sub hl [] rfl)
  · rw [if_neg hc] at hf
    refine lv_aload_n hx hb dX0_reverse_49 rfl (lv_at hl 0 rfl) ?_
    refine lv_aload_n hx hb dX0_reverse_50 rfl (lv_at hl 0 rfl) ?_
    obtain ⟨v11, hg, hf⟩ := gfR_inv hf
    refine r_gfR hC hw hg clX0 (Nat.le_of_ble_eq_true rfl) lkF_X0_24 rfl dX0_reverse_51 ?_
    refine lv_iload_n hx hb dX0_reverse_54 rfl (lv_at hl 1 rfl) ?_
    obtain ⟨v12, hg, hf⟩ := ldG_inv hf
    refine r_ldG hC hw hg dX0_reverse_55 ?_
    obtain ⟨ho, hf⟩ := chk_inv hf
    obtain ⟨_, σ13, hk, hf⟩ := bnd_inv hf
    refine z_callV (As := [.ref v12]) (rest := []) (m_X0_transpose hC.2.2.2.2.2.2.2.2 hk) hC hw wd_X0_transpose lkM_X0_88 (isO_sh ho) rfl rfl ⟨rfl, rfl⟩ ⟨(Nat.le_of_ble_eq_true rfl), (Nat.le_of_ble_eq_true rfl)⟩ hl.1 rfl (Nat.le_of_ble_eq_true rfl) dX0_reverse_56 ⟨(Nat.le_of_ble_eq_true rfl), (Nat.le_of_ble_eq_true rfl)⟩ (fun H locs hw => ?_)
    refine lv_iinc (v := (x1 + 1)) (lv' := [(1, .int (x1 + 1)), (0, .ref x0)]) hx hb dX0_reverse_59 hl (k := 1) rfl rfl (Nat.le_of_ble_eq_true rfl) rfl (fun ls hl => ?_)
    refine lv_goto (tgt := 44) hx hb dX0_reverse_62 (by decide) ?_
    exact kI (x1 + 1) σ13 (Option.some.inj hf).symm _ _ _ hw (lv_sub hl [1, 0] rfl)
set_option maxHeartbeats 4000000 in
theorem l_X0_reverse_B44 (hC : zC p l s m args meth c cX0_reverse 3 RX0 D cA B0) (hr : meth.sig.returnType = (Option.none : Option Jvm.ClassFile.FieldType)) {Γ : zSh} {x0 : Nat} {σ2 : zSt} (kE : ∀ (H : Heap) (locs : List Loc) (ls : Array Slot), zO D cA B0 Γ σ2 Z s.heap H locs → lv_has ls 3 [] → W p l e rm_X0_reverse s m args below meth c H locs 0 0 Q (F0 m 65 ls [])) :
    ∀ (n : Nat) (x1 : Int32) (σ : zSt), loopM (fun q => f_X0_reverse_B44 Γ x0 q.1 q.2) n (x1, σ) = some σ2 → ∀ (H : Heap) (locs : List Loc) (ls : Array Slot), zO D cA B0 Γ σ Z s.heap H locs → lv_has ls 3 [(0, .ref x0), (1, .int x1)] → W p l e rm_X0_reverse s m args below meth c H locs 0 0 Q (F0 m 44 ls []) := by
  intro n
  induction n with
  | zero => intro x1 σ h; exact absurd h (by simp [loopM])
  | succ n ih =>
    intro x1 σ h H locs ls hw hl
    obtain ⟨r, h1, h2, h3⟩ := loopM_inv h
    exact t_X0_reverse_B44 hC hr h1 hw hl (fun z1 s2 e H locs ls hw hl => ih z1 s2 (h2 _ e) H locs ls hw hl) (fun s2 e H locs ls hw hl => by cases h3 _ e; exact kE H locs ls hw hl)
set_option maxHeartbeats 4000000 in
set_option maxRecDepth 100000 in
theorem m_X0_reverse (h9 : l.stackTraces = false) {Γ : zSh} {a0 : Nat} {σ : zSt} {r : Unit} {σ2 : zSt} (hf : f_X0_reverse Γ a0 σ = some (r, σ2)) : Met l yX0_reverse (wq yX0_reverse cX0_reverse 3 (Option.none : Option Jvm.ClassFile.FieldType)) rm_X0_reverse (zQ0 D cA B0 [.ref a0] Γ σ Z) (zQ1 D cA B0 (none) Γ σ2 Z) 0 0 (FR B0) := by
  refine z_ofW h9 (by decide) (Nat.le_of_ble_eq_true rfl) ?_
  intro p e s m args below meth c ls hC hr _ hw hl
  have hx := hC.1
  have hb := hC.2.1
  have hl : lv_has ls 3 [(0, .ref a0)] := hl
  unfold f_X0_reverse at hf
  refine lv_iconst (v := 0) hx hb dX0_reverse_0 (by decide) ?_
  refine lv_istore_n (lv' := [(1, .int 0), (0, .ref a0)]) hx hb dX0_reverse_1 rfl hl (Nat.le_of_ble_eq_true rfl) rfl (fun ls hl => ?_)
  obtain ⟨σ10, hk, hf⟩ := lb0_inv hf
  refine l_X0_reverse_B2 hC hr (fun H locs ls hw hl => ?_) FUEL 0 σ hk _ _ _ hw (lv_sub hl [1, 0] rfl)
  refine lv_iconst (v := 0) hx hb dX0_reverse_42 (by decide) ?_
  refine lv_istore_n (lv' := [(1, .int 0), (0, .ref a0)]) hx hb dX0_reverse_43 rfl hl (Nat.le_of_ble_eq_true rfl) rfl (fun ls hl => ?_)
  obtain ⟨σ14, hk, hf⟩ := lb0_inv hf
  refine l_X0_reverse_B44 hC hr (fun H locs ls hw hl => ?_) FUEL 0 σ10 hk _ _ _ hw (lv_sub hl [1, 0] rfl)
  first | (obtain ⟨rfl, rfl⟩ := sp_inv hf) | (obtain rfl := Option.some.inj hf)
  exact W.vret hx hb hr (z_ret hw rfl) hw.2.2.2.2.2 dX0_reverse_65 hC.2.2.2.2.2.1
set_option maxHeartbeats 4000000 in
set_option maxRecDepth 100000 in
theorem t_X0_addStep_B11_L82 (hC : zC p l s m args meth c cX0_addStep 9 RX0 D cA B0) (hr : meth.sig.returnType = (Option.none : Option Jvm.ClassFile.FieldType)) {Γ : zSh} {x0 : Nat} {x1 : Nat} {x3 : Nat} {x4 : Nat} {x5 : Int32}  {σ : zSt} {out : ((Int32 × zSt) ⊕ (zSt))} (hf : f_X0_addStep_B11_L82 Γ x0 x1 x3 x4 x5 σ = some out) {H : Heap} {locs : List Loc} {ls : Array Slot} (hw : zO D cA B0 Γ σ Z s.heap H locs) (hl : lv_has ls 9 [(0, .ref x0), (1, .ref x1), (3, .ref x3), (4, .ref x4), (5, .int x5)])
    (kI : ∀ (z5 : Int32) (σ2 : zSt), out = .inl (z5, σ2) → ∀ (H : Heap) (locs : List Loc) (ls : Array Slot), zO D cA B0 Γ σ2 Z s.heap H locs → lv_has ls 9 [(0, .ref x0), (1, .ref x1), (3, .ref x3), (4, .ref x4), (5, .int z5)] → W p l e rm_X0_addStep s m args below meth c H locs 0 0 Q (F0 m 11 ls []))
    (kE : ∀ (σ2 : zSt), out = .inr σ2 → ∀ (H : Heap) (locs : List Loc) (ls : Array Slot), zO D cA B0 Γ σ2 Z s.heap H locs → lv_has ls 9 [] → W p l e rm_X0_addStep s m args below meth c H locs 0 0 Q (F0 m 88 ls [])) :
    W p l e rm_X0_addStep s m args below meth c H locs 0 0 Q (F0 m 82 ls []) := by
  have hx := hC.1
  have hb := hC.2.1
  unfold f_X0_addStep_B11_L82 at hf
  refine lv_iinc (v := (x5 + 1)) (lv' := [(5, .int (x5 + 1)), (0, .ref x0), (1, .ref x1), (3, .ref x3), (4, .ref x4)]) hx hb dX0_addStep_82 hl (k := 4) rfl rfl (Nat.le_of_ble_eq_true rfl) rfl (fun ls hl => ?_)
  refine lv_goto (tgt := 11) hx hb dX0_addStep_85 (by decide) ?_
  exact kI (x5 + 1) σ (Option.some.inj hf).symm _ _ _ hw (lv_sub hl [1, 2, 3, 4, 0] rfl)
set_option maxHeartbeats 4000000 in
set_option maxRecDepth 100000 in
theorem t_X0_addStep_B43 (hC : zC p l s m args meth c cX0_addStep 9 RX0 D cA B0) (hr : meth.sig.returnType = (Option.none : Option Jvm.ClassFile.FieldType)) {Γ : zSh} {x0 : Nat} {x1 : Nat} {x3 : Nat} {x4 : Nat} {x5 : Int32} {x6 : Int32} {x7 : Int32} {x8 : Int32} {σ : zSt} {out : ((Int32 × zSt) ⊕ (zSt))} (hf : f_X0_addStep_B43 Γ x0 x1 x3 x4 x5 x6 x7 x8 σ = some out) {H : Heap} {locs : List Loc} {ls : Array Slot} (hw : zO D cA B0 Γ σ Z s.heap H locs) (hl : lv_has ls 9 [(0, .ref x0), (1, .ref x1), (3, .ref x3), (4, .ref x4), (5, .int x5), (6, .int x6), (7, .int x7), (8, .int x8)])
    (kI : ∀ (z8 : Int32) (σ2 : zSt), out = .inl (z8, σ2) → ∀ (H : Heap) (locs : List Loc) (ls : Array Slot), zO D cA B0 Γ σ2 Z s.heap H locs → lv_has ls 9 [(0, .ref x0), (1, .ref x1), (3, .ref x3), (4, .ref x4), (5, .int x5), (6, .int x6), (7, .int x7), (8, .int z8)] → W p l e rm_X0_addStep s m args below meth c H locs 0 0 Q (F0 m 43 ls []))
    (kE : ∀ (σ2 : zSt), out = .inr σ2 → ∀ (H : Heap) (locs : List Loc) (ls : Array Slot), zO D cA B0 Γ σ2 Z s.heap H locs → lv_has ls 9 [(0, .ref x0), (1, .ref x1), (3, .ref x3), (4, .ref x4), (5, .int x5)] → W p l e rm_X0_addStep s m args below meth c H locs 0 0 Q (F0 m 82 ls [])) :
    W p l e rm_X0_addStep s m args below meth c H locs 0 0 Q (F0 m 43 ls []) := by
  have hx := hC.1
  have hb := hC.2.1
  unfold f_X0_addStep_B43 at hf
  refine lv_iload hx hb dX0_addStep_43 (lv_at hl 7 rfl) ?_
  refine lv_aload_n hx hb dX0_addStep_45 rfl (lv_at hl 0 rfl) ?_
  obtain ⟨v6, hg, hf⟩ := gfI_inv hf
  refine r_gfI hC hw hg clX0 (Nat.le_of_ble_eq_true rfl) lkF_X0_9 rfl dX0_addStep_46 ?_
  refine lv_icmp_ge (tgt := 82) hx hb dX0_addStep_49 (by decide) (fun hc => ?_) (fun hc => ?_)
  · rw [if_pos hc] at hf
    exact kE  σ (Option.some.inj hf).symm _ _ _ hw (lv_sub hl [0, 1, 2, 3, 4] rfl)
  · rw [if_neg hc] at hf
    refine lv_aload_n hx hb dX0_addStep_52 rfl (lv_at hl 2 rfl) ?_
    refine lv_iload hx hb dX0_addStep_53 (lv_at hl 7 rfl) ?_
    refine lv_aload_n hx hb dX0_addStep_55 rfl (lv_at hl 2 rfl) ?_
    refine lv_iload hx hb dX0_addStep_56 (lv_at hl 7 rfl) ?_
    obtain ⟨v7, hg, hf⟩ := ldI_inv hf
    refine r_ldI hC hw hg dX0_addStep_58 ?_
    refine lv_iload hx hb dX0_addStep_59 (lv_at hl 5 rfl) ?_
    refine lv_aload hx hb dX0_addStep_61 (lv_at hl 3 rfl) ?_
    refine lv_iload hx hb dX0_addStep_63 (lv_at hl 6 rfl) ?_
    refine lv_iload hx hb dX0_addStep_65 (lv_at hl 7 rfl) ?_
    refine lv_iadd hx hb dX0_addStep_67 ?_
    obtain ⟨v8, hg, hf⟩ := ldI_inv hf
    refine r_ldI hC hw hg dX0_addStep_68 ?_
    refine lv_imul hx hb dX0_addStep_69 ?_
    refine lv_iadd hx hb dX0_addStep_70 ?_
    refine lv_sipush (v := 10007) hx hb dX0_addStep_71 (by decide) ?_
    obtain ⟨v9, hg, hf⟩ := rmI_inv hf
    refine r_rmI hC hg dX0_addStep_74 ?_
    obtain ⟨σ10, hg, hf⟩ := stI_inv hf
    refine r_stI hC hw hg dX0_addStep_75 (fun H locs hw => ?_)
    refine lv_iinc (v := (x8 + 1)) (lv' := [(8, .int (x8 + 1)), (0, .ref x0), (1, .ref x1), (3, .ref x3), (4, .ref x4), (5, .int x5), (6, .int x6), (7, .int x7)]) hx hb dX0_addStep_76 hl (k := 7) rfl rfl (Nat.le_of_ble_eq_true rfl) rfl (fun ls hl => ?_)
    refine lv_goto (tgt := 43) hx hb dX0_addStep_79 (by decide) ?_
    exact kI (x8 + 1) σ10 (Option.some.inj hf).symm _ _ _ hw (lv_sub hl [1, 2, 3, 4, 5, 6, 7, 0] rfl)
set_option maxHeartbeats 4000000 in
theorem l_X0_addStep_B43 (hC : zC p l s m args meth c cX0_addStep 9 RX0 D cA B0) (hr : meth.sig.returnType = (Option.none : Option Jvm.ClassFile.FieldType)) {Γ : zSh} {x0 : Nat} {x1 : Nat} {x3 : Nat} {x4 : Nat} {x5 : Int32} {x6 : Int32} {x7 : Int32} {σ2 : zSt} (kE : ∀ (H : Heap) (locs : List Loc) (ls : Array Slot), zO D cA B0 Γ σ2 Z s.heap H locs → lv_has ls 9 [(0, .ref x0), (1, .ref x1), (3, .ref x3), (4, .ref x4), (5, .int x5)] → W p l e rm_X0_addStep s m args below meth c H locs 0 0 Q (F0 m 82 ls [])) :
    ∀ (n : Nat) (x8 : Int32) (σ : zSt), loopM (fun q => f_X0_addStep_B43 Γ x0 x1 x3 x4 x5 x6 x7 q.1 q.2) n (x8, σ) = some σ2 → ∀ (H : Heap) (locs : List Loc) (ls : Array Slot), zO D cA B0 Γ σ Z s.heap H locs → lv_has ls 9 [(0, .ref x0), (1, .ref x1), (3, .ref x3), (4, .ref x4), (5, .int x5), (6, .int x6), (7, .int x7), (8, .int x8)] → W p l e rm_X0_addStep s m args below meth c H locs 0 0 Q (F0 m 43 ls []) := by
  intro n
  induction n with
  | zero => intro x8 σ h; exact absurd h (by simp [loopM])
  | succ n ih =>
    intro x8 σ h H locs ls hw hl
    obtain ⟨r, h1, h2, h3⟩ := loopM_inv h
    exact t_X0_addStep_B43 hC hr h1 hw hl (fun z8 s2 e H locs ls hw hl => ih z8 s2 (h2 _ e) H locs ls hw hl) (fun s2 e H locs ls hw hl => by cases h3 _ e; exact kE H locs ls hw hl)
set_option maxHeartbeats 4000000 in
set_option maxRecDepth 100000 in
theorem t_X0_addStep_B11 (hC : zC p l s m args meth c cX0_addStep 9 RX0 D cA B0) (hr : meth.sig.returnType = (Option.none : Option Jvm.ClassFile.FieldType)) {Γ : zSh} {x0 : Nat} {x1 : Nat} {x3 : Nat} {x4 : Nat} {x5 : Int32} {σ : zSt} {out : ((Int32 × zSt) ⊕ (zSt))} (hf : f_X0_addStep_B11 Γ x0 x1 x3 x4 x5 σ = some out) {H : Heap} {locs : List Loc} {ls : Array Slot} (hw : zO D cA B0 Γ σ Z s.heap H locs) (hl : lv_has ls 9 [(0, .ref x0), (1, .ref x1), (3, .ref x3), (4, .ref x4), (5, .int x5)])
    (kI : ∀ (z5 : Int32) (σ2 : zSt), out = .inl (z5, σ2) → ∀ (H : Heap) (locs : List Loc) (ls : Array Slot), zO D cA B0 Γ σ2 Z s.heap H locs → lv_has ls 9 [(0, .ref x0), (1, .ref x1), (3, .ref x3), (4, .ref x4), (5, .int z5)] → W p l e rm_X0_addStep s m args below meth c H locs 0 0 Q (F0 m 11 ls []))
    (kE : ∀ (σ2 : zSt), out = .inr σ2 → ∀ (H : Heap) (locs : List Loc) (ls : Array Slot), zO D cA B0 Γ σ2 Z s.heap H locs → lv_has ls 9 [] → W p l e rm_X0_addStep s m args below meth c H locs 0 0 Q (F0 m 88 ls [])) :
    W p l e rm_X0_addStep s m args below meth c H locs 0 0 Q (F0 m 11 ls []) := by
  have hx := hC.1
  have hb := hC.2.1
  unfold f_X0_addStep_B11 at hf
  refine lv_iload hx hb dX0_addStep_11 (lv_at hl 4 rfl) ?_
  refine lv_aload_n hx hb dX0_addStep_13 rfl (lv_at hl 0 rfl) ?_
  obtain ⟨v3, hg, hf⟩ := gfI_inv hf
  refine r_gfI hC hw hg clX0 (Nat.le_of_ble_eq_true rfl) lkF_X0_9 rfl dX0_addStep_14 ?_
  refine lv_icmp_ge (tgt := 88) hx hb dX0_addStep_17 (by decide) (fun hc => ?_) (fun hc => ?_)
  · rw [if_pos hc] at hf
    exact kE  σ (Option.some.inj hf).symm _ _ _ hw (lv_sub hl [] rfl)
  · rw [if_neg hc] at hf
    refine lv_aload_n hx hb dX0_addStep_20 rfl (lv_at hl 1 rfl) ?_
    refine lv_iload hx hb dX0_addStep_21 (lv_at hl 4 rfl) ?_
    obtain ⟨v4, hg, hf⟩ := ldI_inv hf
    refine r_ldI hC hw hg dX0_addStep_23 ?_
    refine lv_istore (lv' := [(6, .int v4), (0, .ref x0), (1, .ref x1), (3, .ref x3), (4, .ref x4), (5, .int x5)]) hx hb dX0_addStep_24 hl (Nat.le_of_ble_eq_true rfl) rfl (fun ls hl => ?_)
    refine lv_iload hx hb dX0_addStep_26 (lv_at hl 0 rfl) ?_
    refine lv_if_eq (tgt := 82) hx hb dX0_addStep_28 (by decide) (fun hc => ?_) (fun hc => ?_)
    · rw [if_pos hc] at hf
      exact t_X0_addStep_B11_L82 hC hr hf hw (lv_sub hl [1, 2, 3, 4, 5] rfl) kI kE
    · rw [if_neg hc] at hf
      refine lv_iload hx hb dX0_addStep_31 (lv_at hl 5 rfl) ?_
      refine lv_aload_n hx hb dX0_addStep_33 rfl (lv_at hl 1 rfl) ?_
      obtain ⟨v5, hg, hf⟩ := gfI_inv hf
      refine r_gfI hC hw hg clX0 (Nat.le_of_ble_eq_true rfl) lkF_X0_9 rfl dX0_addStep_34 ?_
      refine lv_imul hx hb dX0_addStep_37 ?_
      refine lv_istore (lv' := [(7, .int (x5 * v5)), (6, .int v4), (0, .ref x0), (1, .ref x1), (3, .ref x3), (4, .ref x4), (5, .int x5)]) hx hb dX0_addStep_38 hl (Nat.le_of_ble_eq_true rfl) rfl (fun ls hl => ?_)
      refine lv_iconst (v := 0) hx hb dX0_addStep_40 (by decide) ?_
      refine lv_istore (lv' := [(8, .int 0), (7, .int (x5 * v5)), (6, .int v4), (0, .ref x0), (1, .ref x1), (3, .ref x3), (4, .ref x4), (5, .int x5)]) hx hb dX0_addStep_41 hl (Nat.le_of_ble_eq_true rfl) rfl (fun ls hl => ?_)
      obtain ⟨σ11, hk, hf⟩ := lb0_inv hf
      refine l_X0_addStep_B43 hC hr (fun H locs ls hw hl => ?_) FUEL 0 σ hk _ _ _ hw (lv_sub hl [3, 4, 5, 6, 7, 2, 1, 0] rfl)
      exact t_X0_addStep_B11_L82 hC hr hf hw (lv_sub hl [0, 1, 2, 3, 4] rfl) kI kE
set_option maxHeartbeats 4000000 in
theorem l_X0_addStep_B11 (hC : zC p l s m args meth c cX0_addStep 9 RX0 D cA B0) (hr : meth.sig.returnType = (Option.none : Option Jvm.ClassFile.FieldType)) {Γ : zSh} {x0 : Nat} {x1 : Nat} {x3 : Nat} {x4 : Nat} {σ2 : zSt} (kE : ∀ (H : Heap) (locs : List Loc) (ls : Array Slot), zO D cA B0 Γ σ2 Z s.heap H locs → lv_has ls 9 [] → W p l e rm_X0_addStep s m args below meth c H locs 0 0 Q (F0 m 88 ls [])) :
    ∀ (n : Nat) (x5 : Int32) (σ : zSt), loopM (fun q => f_X0_addStep_B11 Γ x0 x1 x3 x4 q.1 q.2) n (x5, σ) = some σ2 → ∀ (H : Heap) (locs : List Loc) (ls : Array Slot), zO D cA B0 Γ σ Z s.heap H locs → lv_has ls 9 [(0, .ref x0), (1, .ref x1), (3, .ref x3), (4, .ref x4), (5, .int x5)] → W p l e rm_X0_addStep s m args below meth c H locs 0 0 Q (F0 m 11 ls []) := by
  intro n
  induction n with
  | zero => intro x5 σ h; exact absurd h (by simp [loopM])
  | succ n ih =>
    intro x5 σ h H locs ls hw hl
    obtain ⟨r, h1, h2, h3⟩ := loopM_inv h
    exact t_X0_addStep_B11 hC hr h1 hw hl (fun z5 s2 e H locs ls hw hl => ih z5 s2 (h2 _ e) H locs ls hw hl) (fun s2 e H locs ls hw hl => by cases h3 _ e; exact kE H locs ls hw hl)
set_option maxHeartbeats 4000000 in
set_option maxRecDepth 100000 in
theorem m_X0_addStep (h9 : l.stackTraces = false) {Γ : zSh} {a0 : Nat} {a1 : Nat} {a2 : Int32} {a3 : Nat} {σ : zSt} {r : Unit} {σ2 : zSt} (hf : f_X0_addStep Γ a0 a1 a2 a3 σ = some (r, σ2)) : Met l yX0_addStep (wq yX0_addStep cX0_addStep 9 (Option.none : Option Jvm.ClassFile.FieldType)) rm_X0_addStep (zQ0 D cA B0 [.ref a0, .ref a1, .int a2, .ref a3] Γ σ Z) (zQ1 D cA B0 (none) Γ σ2 Z) 0 0 (FR B0) := by
  refine z_ofW h9 (by decide) (Nat.le_of_ble_eq_true rfl) ?_
  intro p e s m args below meth c ls hC hr _ hw hl
  have hx := hC.1
  have hb := hC.2.1
  have hl : lv_has ls 9 [(0, .ref a0), (1, .ref a1), (2, .int a2), (3, .ref a3)] := hl
  unfold f_X0_addStep at hf
  refine lv_aload_n hx hb dX0_addStep_0 rfl (lv_at hl 0 rfl) ?_
  obtain ⟨v1, hg, hf⟩ := gfR_inv hf
  refine r_gfR hC hw hg clX0 (Nat.le_of_ble_eq_true rfl) lkF_X0_24 rfl dX0_addStep_1 ?_
  refine lv_iload_n hx hb dX0_addStep_4 rfl (lv_at hl 2 rfl) ?_
  obtain ⟨v2, hg, hf⟩ := ldG_inv hf
  refine r_ldG hC hw hg dX0_addStep_5 ?_
  refine lv_astore (lv' := [(4, .ref v2), (0, .ref a0), (1, .ref a1), (2, .int a2), (3, .ref a3)]) hx hb dX0_addStep_6 hl (Nat.le_of_ble_eq_true rfl) rfl (fun ls hl => ?_)
  refine lv_iconst (v := 0) hx hb dX0_addStep_8 (by decide) ?_
  refine lv_istore (lv' := [(5, .int 0), (4, .ref v2), (0, .ref a0), (1, .ref a1), (2, .int a2), (3, .ref a3)]) hx hb dX0_addStep_9 hl (Nat.le_of_ble_eq_true rfl) rfl (fun ls hl => ?_)
  obtain ⟨σ12, hk, hf⟩ := lb0_inv hf
  refine l_X0_addStep_B11 hC hr (fun H locs ls hw hl => ?_) FUEL 0 σ hk _ _ _ hw (lv_sub hl [2, 3, 5, 1, 0] rfl)
  first | (obtain ⟨rfl, rfl⟩ := sp_inv hf) | (obtain rfl := Option.some.inj hf)
  exact W.vret hx hb hr (z_ret hw rfl) hw.2.2.2.2.2 dX0_addStep_88 hC.2.2.2.2.2.1
set_option maxHeartbeats 4000000 in
set_option maxRecDepth 100000 in
theorem m_X0_takeStep (h9 : l.stackTraces = false) {Γ : zSh} {a0 : Nat} {a1 : Nat} {a2 : Int32} {a3 : Nat} {σ : zSt} {r : Unit} {σ2 : zSt} (hf : f_X0_takeStep Γ a0 a1 a2 a3 σ = some (r, σ2)) : Met l yX0_takeStep (wq yX0_takeStep cX0_takeStep 4 (Option.none : Option Jvm.ClassFile.FieldType)) rm_X0_takeStep (zQ0 D cA B0 [.ref a0, .ref a1, .int a2, .ref a3] Γ σ Z) (zQ1 D cA B0 (none) Γ σ2 Z) 0 0 (FR B0) := by
  refine z_ofW h9 (by decide) (Nat.le_of_ble_eq_true rfl) ?_
  intro p e s m args below meth c ls hC hr _ hw hl
  have hx := hC.1
  have hb := hC.2.1
  have hl : lv_has ls 4 [(0, .ref a0), (1, .ref a1), (2, .int a2), (3, .ref a3)] := hl
  unfold f_X0_takeStep at hf
  refine lv_aload_n hx hb dX0_takeStep_0 rfl (lv_at hl 3 rfl) ?_
  refine lv_iconst (v := 0) hx hb dX0_takeStep_1 (by decide) ?_
  refine lv_aload_n hx hb dX0_takeStep_2 rfl (lv_at hl 0 rfl) ?_
  obtain ⟨v1, hg, hf⟩ := gfI_inv hf
  refine r_gfI hC hw hg clX0 (Nat.le_of_ble_eq_true rfl) lkF_X0_9 rfl dX0_takeStep_3 ?_
  refine lv_iconst (v := 0) hx hb dX0_takeStep_6 (by decide) ?_
  obtain ⟨_, σ2, hk, hf⟩ := bnd_inv hf
  refine z_callS (As := [.ref a3, .int 0, .int v1, .int 0]) (rest := []) (m_J7_fill_fda19 hC.2.2.2.2.2.2.2.2 hk) hC hw wd_J7_fill_fda19 lkM_X0_27 rfl ⟨rfl, rfl⟩ ⟨(Nat.le_of_ble_eq_true rfl), (Nat.le_of_ble_eq_true rfl)⟩ hl.1 rfl (Nat.le_of_ble_eq_true rfl) dX0_takeStep_7 ⟨(Nat.le_of_ble_eq_true rfl), (Nat.le_of_ble_eq_true rfl)⟩ (fun H locs hw => ?_)
  refine lv_aload_n hx hb dX0_takeStep_10 rfl (lv_at hl 0 rfl) ?_
  refine lv_aload_n hx hb dX0_takeStep_11 rfl (lv_at hl 1 rfl) ?_
  refine lv_iload_n hx hb dX0_takeStep_12 rfl (lv_at hl 2 rfl) ?_
  refine lv_aload_n hx hb dX0_takeStep_13 rfl (lv_at hl 3 rfl) ?_
  obtain ⟨ho, hf⟩ := chk_inv hf
  obtain ⟨_, σ3, hk, hf⟩ := bnd_inv hf
  refine z_callV (As := [.ref a1, .int a2, .ref a3]) (rest := []) (m_X0_addStep hC.2.2.2.2.2.2.2.2 hk) hC hw wd_X0_addStep lkM_X0_92 (isO_sh ho) rfl rfl ⟨rfl, rfl⟩ ⟨(Nat.le_of_ble_eq_true rfl), (Nat.le_of_ble_eq_true rfl)⟩ hl.1 rfl (Nat.le_of_ble_eq_true rfl) dX0_takeStep_14 ⟨(Nat.le_of_ble_eq_true rfl), (Nat.le_of_ble_eq_true rfl)⟩ (fun H locs hw => ?_)
  first | (obtain ⟨rfl, rfl⟩ := sp_inv hf) | (obtain rfl := Option.some.inj hf)
  exact W.vret hx hb hr (z_ret hw rfl) hw.2.2.2.2.2 dX0_takeStep_17 hC.2.2.2.2.2.1
set_option maxHeartbeats 4000000 in
set_option maxRecDepth 100000 in
theorem t_X0_hash_B15 (hC : zC p l s m args meth c cX0_hash 7 RX0 D cA B0) (hr : meth.sig.returnType = (Option.some FieldType.long)) {Γ : zSh} {x0 : Nat} {x3 : Int64} {x5 : Int32} {σ : zSt} {out : ((Int64 × Int32 × zSt) ⊕ (Int64 × zSt))} (hf : f_X0_hash_B15 Γ x0 x3 x5 σ = some out) {H : Heap} {locs : List Loc} {ls : Array Slot} (hw : zO D cA B0 Γ σ Z s.heap H locs) (hl : lv_has ls 7 [(0, .ref x0), (3, .long x3), (5, .int x5)])
    (kI : ∀ (z3 : Int64) (z5 : Int32) (σ2 : zSt), out = .inl (z3, z5, σ2) → ∀ (H : Heap) (locs : List Loc) (ls : Array Slot), zO D cA B0 Γ σ2 Z s.heap H locs → lv_has ls 7 [(0, .ref x0), (3, .long z3), (5, .int z5)] → W p l e rm_X0_hash s m args below meth c H locs 0 0 Q (F0 m 15 ls []))
    (kE : ∀ (z3 : Int64) (σ2 : zSt), out = .inr (z3, σ2) → ∀ (H : Heap) (locs : List Loc) (ls : Array Slot), zO D cA B0 Γ σ2 Z s.heap H locs → lv_has ls 7 [(0, .ref x0), (3, .long z3)] → W p l e rm_X0_hash s m args below meth c H locs 0 0 Q (F0 m 60 ls [])) :
    W p l e rm_X0_hash s m args below meth c H locs 0 0 Q (F0 m 15 ls []) := by
  have hx := hC.1
  have hb := hC.2.1
  unfold f_X0_hash_B15 at hf
  refine lv_iload hx hb dX0_hash_15 (lv_at hl 2 rfl) ?_
  refine lv_aload_n hx hb dX0_hash_17 rfl (lv_at hl 0 rfl) ?_
  obtain ⟨v2, hg, hf⟩ := gfI_inv hf
  refine r_gfI hC hw hg clX0 (Nat.le_of_ble_eq_true rfl) lkF_X0_9 rfl dX0_hash_18 ?_
  refine lv_icmp_ge (tgt := 60) hx hb dX0_hash_21 (by decide) (fun hc => ?_) (fun hc => ?_)
  · rw [if_pos hc] at hf
    exact kE x3 σ (Option.some.inj hf).symm _ _ _ hw (lv_sub hl [0, 1] rfl)
  · rw [if_neg hc] at hf
    refine lv_ldc2 (v := 31) hx hb hC.2.2.2.1 (hC.2.2.2.2.1 _ lkJ_X0_100) dX0_hash_24 ?_
    refine lv_lload_n hx hb dX0_hash_27 rfl (lv_at hl 1 rfl) ?_
    refine lv_lmul hx hb dX0_hash_28 ?_
    refine lv_aload_n hx hb dX0_hash_29 rfl (lv_at hl 0 rfl) ?_
    obtain ⟨v3, hg, hf⟩ := gfR_inv hf
    refine r_gfR hC hw hg clX0 (Nat.le_of_ble_eq_true rfl) lkF_X0_15 rfl dX0_hash_30 ?_
    refine lv_iload hx hb dX0_hash_33 (lv_at hl 2 rfl) ?_
    obtain ⟨v4, hg, hf⟩ := ldI_inv hf
    refine r_ldI hC hw hg dX0_hash_35 ?_
    refine lv_i2l hx hb dX0_hash_36 rfl ?_
    refine lv_ladd hx hb dX0_hash_37 ?_
    refine lv_lstore_n (lv' := [(3, .long ((31 * x3) + (v4.toInt64))), (0, .ref x0), (5, .int x5)]) hx hb dX0_hash_38 rfl hl (Nat.le_of_ble_eq_true rfl) rfl (fun ls hl => ?_)
    refine lv_ldc2 (v := 31) hx hb hC.2.2.2.1 (hC.2.2.2.2.1 _ lkJ_X0_100) dX0_hash_39 ?_
    refine lv_lload_n hx hb dX0_hash_42 rfl (lv_at hl 0 rfl) ?_
    refine lv_lmul hx hb dX0_hash_43 ?_
    refine lv_aload_n hx hb dX0_hash_44 rfl (lv_at hl 1 rfl) ?_
    obtain ⟨v5, hg, hf⟩ := gfR_inv hf
    refine r_gfR hC hw hg clX0 (Nat.le_of_ble_eq_true rfl) lkF_X0_19 rfl dX0_hash_45 ?_
    refine lv_iload hx hb dX0_hash_48 (lv_at hl 2 rfl) ?_
    obtain ⟨v6, hg, hf⟩ := ldI_inv hf
    refine r_ldI hC hw hg dX0_hash_50 ?_
    refine lv_i2l hx hb dX0_hash_51 rfl ?_
    refine lv_ladd hx hb dX0_hash_52 ?_
    refine lv_lstore_n (lv' := [(3, .long ((31 * ((31 * x3) + (v4.toInt64))) + (v6.toInt64))), (0, .ref x0), (5, .int x5)]) hx hb dX0_hash_53 rfl hl (Nat.le_of_ble_eq_true rfl) rfl (fun ls hl => ?_)
    refine lv_iinc (v := (x5 + 1)) (lv' := [(5, .int (x5 + 1)), (3, .long ((31 * ((31 * x3) + (v4.toInt64))) + (v6.toInt64))), (0, .ref x0)]) hx hb dX0_hash_54 hl (k := 2) rfl rfl (Nat.le_of_ble_eq_true rfl) rfl (fun ls hl => ?_)
    refine lv_goto (tgt := 15) hx hb dX0_hash_57 (by decide) ?_
    exact kI ((31 * ((31 * x3) + (v4.toInt64))) + (v6.toInt64)) (x5 + 1) σ (Option.some.inj hf).symm _ _ _ hw (lv_sub hl [2, 1, 0] rfl)
set_option maxHeartbeats 4000000 in
theorem l_X0_hash_B15 (hC : zC p l s m args meth c cX0_hash 7 RX0 D cA B0) (hr : meth.sig.returnType = (Option.some FieldType.long)) {Γ : zSh} {x0 : Nat} {w3 : Int64} {σ2 : zSt} (kE : ∀ (H : Heap) (locs : List Loc) (ls : Array Slot), zO D cA B0 Γ σ2 Z s.heap H locs → lv_has ls 7 [(0, .ref x0), (3, .long w3)] → W p l e rm_X0_hash s m args below meth c H locs 0 0 Q (F0 m 60 ls [])) :
    ∀ (n : Nat) (x3 : Int64) (x5 : Int32) (σ : zSt), loopM (fun q => f_X0_hash_B15 Γ x0 q.1 q.2.1 q.2.2) n (x3, x5, σ) = some (w3, σ2) → ∀ (H : Heap) (locs : List Loc) (ls : Array Slot), zO D cA B0 Γ σ Z s.heap H locs → lv_has ls 7 [(0, .ref x0), (3, .long x3), (5, .int x5)] → W p l e rm_X0_hash s m args below meth c H locs 0 0 Q (F0 m 15 ls []) := by
  intro n
  induction n with
  | zero => intro x3 x5 σ h; exact absurd h (by simp [loopM])
  | succ n ih =>
    intro x3 x5 σ h H locs ls hw hl
    obtain ⟨r, h1, h2, h3⟩ := loopM_inv h
    exact t_X0_hash_B15 hC hr h1 hw hl (fun z3 z5 s2 e H locs ls hw hl => ih z3 z5 s2 (h2 _ e) H locs ls hw hl) (fun z3 s2 e H locs ls hw hl => by cases h3 _ e; exact kE H locs ls hw hl)
set_option maxHeartbeats 4000000 in
set_option maxRecDepth 100000 in
theorem t_X0_hash_B72 (hC : zC p l s m args meth c cX0_hash 7 RX0 D cA B0) (hr : meth.sig.returnType = (Option.some FieldType.long)) {Γ : zSh} {x0 : Nat} {x5 : Int32} {x3 : Int64} {x6 : Int32} {σ : zSt} {out : ((Int64 × Int32 × zSt) ⊕ (Int64 × zSt))} (hf : f_X0_hash_B72 Γ x0 x5 x3 x6 σ = some out) {H : Heap} {locs : List Loc} {ls : Array Slot} (hw : zO D cA B0 Γ σ Z s.heap H locs) (hl : lv_has ls 7 [(0, .ref x0), (3, .long x3), (5, .int x5), (6, .int x6)])
    (kI : ∀ (z3 : Int64) (z6 : Int32) (σ2 : zSt), out = .inl (z3, z6, σ2) → ∀ (H : Heap) (locs : List Loc) (ls : Array Slot), zO D cA B0 Γ σ2 Z s.heap H locs → lv_has ls 7 [(0, .ref x0), (3, .long z3), (5, .int x5), (6, .int z6)] → W p l e rm_X0_hash s m args below meth c H locs 0 0 Q (F0 m 72 ls []))
    (kE : ∀ (z3 : Int64) (σ2 : zSt), out = .inr (z3, σ2) → ∀ (H : Heap) (locs : List Loc) (ls : Array Slot), zO D cA B0 Γ σ2 Z s.heap H locs → lv_has ls 7 [(0, .ref x0), (3, .long z3), (5, .int x5)] → W p l e rm_X0_hash s m args below meth c H locs 0 0 Q (F0 m 110 ls [])) :
    W p l e rm_X0_hash s m args below meth c H locs 0 0 Q (F0 m 72 ls []) := by
  have hx := hC.1
  have hb := hC.2.1
  unfold f_X0_hash_B72 at hf
  refine lv_iload hx hb dX0_hash_72 (lv_at hl 3 rfl) ?_
  refine lv_aload_n hx hb dX0_hash_74 rfl (lv_at hl 0 rfl) ?_
  obtain ⟨v9, hg, hf⟩ := gfI_inv hf
  refine r_gfI hC hw hg clX0 (Nat.le_of_ble_eq_true rfl) lkF_X0_9 rfl dX0_hash_75 ?_
  refine lv_aload_n hx hb dX0_hash_78 rfl (lv_at hl 0 rfl) ?_
  obtain ⟨v10, hg, hf⟩ := gfI_inv hf
  refine r_gfI hC hw hg clX0 (Nat.le_of_ble_eq_true rfl) lkF_X0_9 rfl dX0_hash_79 ?_
  refine lv_imul hx hb dX0_hash_82 ?_
  refine lv_icmp_ge (tgt := 110) hx hb dX0_hash_83 (by decide) (fun hc => ?_) (fun hc => ?_)
  · rw [if_pos hc] at hf
    exact kE x3 σ (Option.some.inj hf).symm _ _ _ hw (lv_sub hl [0, 1, 2] rfl)
  · rw [if_neg hc] at hf
    refine lv_ldc2 (v := 31) hx hb hC.2.2.2.1 (hC.2.2.2.2.1 _ lkJ_X0_100) dX0_hash_86 ?_
    refine lv_lload_n hx hb dX0_hash_89 rfl (lv_at hl 1 rfl) ?_
    refine lv_lmul hx hb dX0_hash_90 ?_
    refine lv_aload_n hx hb dX0_hash_91 rfl (lv_at hl 0 rfl) ?_
    obtain ⟨v11, hg, hf⟩ := gfR_inv hf
    refine r_gfR hC hw hg clX0 (Nat.le_of_ble_eq_true rfl) lkF_X0_24 rfl dX0_hash_92 ?_
    refine lv_iload hx hb dX0_hash_95 (lv_at hl 2 rfl) ?_
    obtain ⟨v12, hg, hf⟩ := ldG_inv hf
    refine r_ldG hC hw hg dX0_hash_97 ?_
    refine lv_iload hx hb dX0_hash_98 (lv_at hl 3 rfl) ?_
    obtain ⟨v13, hg, hf⟩ := ldI_inv hf
    refine r_ldI hC hw hg dX0_hash_100 ?_
    refine lv_i2l hx hb dX0_hash_101 rfl ?_
    refine lv_ladd hx hb dX0_hash_102 ?_
    refine lv_lstore_n (lv' := [(3, .long ((31 * x3) + (v13.toInt64))), (0, .ref x0), (5, .int x5), (6, .int x6)]) hx hb dX0_hash_103 rfl hl (Nat.le_of_ble_eq_true rfl) rfl (fun ls hl => ?_)
    refine lv_iinc (v := (x6 + 1)) (lv' := [(6, .int (x6 + 1)), (3, .long ((31 * x3) + (v13.toInt64))), (0, .ref x0), (5, .int x5)]) hx hb dX0_hash_104 hl (k := 3) rfl rfl (Nat.le_of_ble_eq_true rfl) rfl (fun ls hl => ?_)
    refine lv_goto (tgt := 72) hx hb dX0_hash_107 (by decide) ?_
    exact kI ((31 * x3) + (v13.toInt64)) (x6 + 1) σ (Option.some.inj hf).symm _ _ _ hw (lv_sub hl [2, 1, 3, 0] rfl)
set_option maxHeartbeats 4000000 in
theorem l_X0_hash_B72 (hC : zC p l s m args meth c cX0_hash 7 RX0 D cA B0) (hr : meth.sig.returnType = (Option.some FieldType.long)) {Γ : zSh} {x0 : Nat} {x5 : Int32} {w3 : Int64} {σ2 : zSt} (kE : ∀ (H : Heap) (locs : List Loc) (ls : Array Slot), zO D cA B0 Γ σ2 Z s.heap H locs → lv_has ls 7 [(0, .ref x0), (3, .long w3), (5, .int x5)] → W p l e rm_X0_hash s m args below meth c H locs 0 0 Q (F0 m 110 ls [])) :
    ∀ (n : Nat) (x3 : Int64) (x6 : Int32) (σ : zSt), loopM (fun q => f_X0_hash_B72 Γ x0 x5 q.1 q.2.1 q.2.2) n (x3, x6, σ) = some (w3, σ2) → ∀ (H : Heap) (locs : List Loc) (ls : Array Slot), zO D cA B0 Γ σ Z s.heap H locs → lv_has ls 7 [(0, .ref x0), (3, .long x3), (5, .int x5), (6, .int x6)] → W p l e rm_X0_hash s m args below meth c H locs 0 0 Q (F0 m 72 ls []) := by
  intro n
  induction n with
  | zero => intro x3 x6 σ h; exact absurd h (by simp [loopM])
  | succ n ih =>
    intro x3 x6 σ h H locs ls hw hl
    obtain ⟨r, h1, h2, h3⟩ := loopM_inv h
    exact t_X0_hash_B72 hC hr h1 hw hl (fun z3 z6 s2 e H locs ls hw hl => ih z3 z6 s2 (h2 _ e) H locs ls hw hl) (fun z3 s2 e H locs ls hw hl => by cases h3 _ e; exact kE H locs ls hw hl)
set_option maxHeartbeats 4000000 in
set_option maxRecDepth 100000 in
theorem t_X0_hash_B63 (hC : zC p l s m args meth c cX0_hash 7 RX0 D cA B0) (hr : meth.sig.returnType = (Option.some FieldType.long)) {Γ : zSh} {x0 : Nat} {x3 : Int64} {x5 : Int32} {σ : zSt} {out : ((Int64 × Int32 × zSt) ⊕ (Int64 × zSt))} (hf : f_X0_hash_B63 Γ x0 x3 x5 σ = some out) {H : Heap} {locs : List Loc} {ls : Array Slot} (hw : zO D cA B0 Γ σ Z s.heap H locs) (hl : lv_has ls 7 [(0, .ref x0), (3, .long x3), (5, .int x5)])
    (kI : ∀ (z3 : Int64) (z5 : Int32) (σ2 : zSt), out = .inl (z3, z5, σ2) → ∀ (H : Heap) (locs : List Loc) (ls : Array Slot), zO D cA B0 Γ σ2 Z s.heap H locs → lv_has ls 7 [(0, .ref x0), (3, .long z3), (5, .int z5)] → W p l e rm_X0_hash s m args below meth c H locs 0 0 Q (F0 m 63 ls []))
    (kE : ∀ (z3 : Int64) (σ2 : zSt), out = .inr (z3, σ2) → ∀ (H : Heap) (locs : List Loc) (ls : Array Slot), zO D cA B0 Γ σ2 Z s.heap H locs → lv_has ls 7 [(3, .long z3)] → W p l e rm_X0_hash s m args below meth c H locs 0 0 Q (F0 m 116 ls [])) :
    W p l e rm_X0_hash s m args below meth c H locs 0 0 Q (F0 m 63 ls []) := by
  have hx := hC.1
  have hb := hC.2.1
  unfold f_X0_hash_B63 at hf
  refine lv_iload hx hb dX0_hash_63 (lv_at hl 2 rfl) ?_
  refine lv_iconst (v := 2) hx hb dX0_hash_65 (by decide) ?_
  refine lv_icmp_ge (tgt := 116) hx hb dX0_hash_66 (by decide) (fun hc => ?_) (fun hc => ?_)
  · rw [if_pos hc] at hf
    exact kE x3 σ (Option.some.inj hf).symm _ _ _ hw (lv_sub hl [1] rfl)
  · rw [if_neg hc] at hf
    refine lv_iconst (v := 0) hx hb dX0_hash_69 (by decide) ?_
    refine lv_istore (lv' := [(6, .int 0), (0, .ref x0), (3, .long x3), (5, .int x5)]) hx hb dX0_hash_70 hl (Nat.le_of_ble_eq_true rfl) rfl (fun ls hl => ?_)
    obtain ⟨w15, σ14, hk, hf⟩ := lb1_inv hf
    refine l_X0_hash_B72 hC hr (fun H locs ls hw hl => ?_) FUEL x3 0 σ hk _ _ _ hw (lv_sub hl [1, 2, 3, 0] rfl)
    refine lv_iinc (v := (x5 + 1)) (lv' := [(5, .int (x5 + 1)), (0, .ref x0), (3, .long w15)]) hx hb dX0_hash_110 hl (k := 2) rfl rfl (Nat.le_of_ble_eq_true rfl) rfl (fun ls hl => ?_)
    refine lv_goto (tgt := 63) hx hb dX0_hash_113 (by decide) ?_
    exact kI w15 (x5 + 1) σ14 (Option.some.inj hf).symm _ _ _ hw (lv_sub hl [1, 2, 0] rfl)
set_option maxHeartbeats 4000000 in
theorem l_X0_hash_B63 (hC : zC p l s m args meth c cX0_hash 7 RX0 D cA B0) (hr : meth.sig.returnType = (Option.some FieldType.long)) {Γ : zSh} {x0 : Nat} {w3 : Int64} {σ2 : zSt} (kE : ∀ (H : Heap) (locs : List Loc) (ls : Array Slot), zO D cA B0 Γ σ2 Z s.heap H locs → lv_has ls 7 [(3, .long w3)] → W p l e rm_X0_hash s m args below meth c H locs 0 0 Q (F0 m 116 ls [])) :
    ∀ (n : Nat) (x3 : Int64) (x5 : Int32) (σ : zSt), loopM (fun q => f_X0_hash_B63 Γ x0 q.1 q.2.1 q.2.2) n (x3, x5, σ) = some (w3, σ2) → ∀ (H : Heap) (locs : List Loc) (ls : Array Slot), zO D cA B0 Γ σ Z s.heap H locs → lv_has ls 7 [(0, .ref x0), (3, .long x3), (5, .int x5)] → W p l e rm_X0_hash s m args below meth c H locs 0 0 Q (F0 m 63 ls []) := by
  intro n
  induction n with
  | zero => intro x3 x5 σ h; exact absurd h (by simp [loopM])
  | succ n ih =>
    intro x3 x5 σ h H locs ls hw hl
    obtain ⟨r, h1, h2, h3⟩ := loopM_inv h
    exact t_X0_hash_B63 hC hr h1 hw hl (fun z3 z5 s2 e H locs ls hw hl => ih z3 z5 s2 (h2 _ e) H locs ls hw hl) (fun z3 s2 e H locs ls hw hl => by cases h3 _ e; exact kE H locs ls hw hl)
set_option maxHeartbeats 4000000 in
set_option maxRecDepth 100000 in
theorem m_X0_hash (h9 : l.stackTraces = false) {Γ : zSh} {a0 : Nat} {a1 : Int64} {σ : zSt} {r : Int64} {σ2 : zSt} (hf : f_X0_hash Γ a0 a1 σ = some (r, σ2)) : Met l yX0_hash (wq yX0_hash cX0_hash 7 (Option.some FieldType.long)) rm_X0_hash (zQ0 D cA B0 [.ref a0, .long a1] Γ σ Z) (zQ1 D cA B0 (some (.long r)) Γ σ2 Z) 0 0 (FR B0) := by
  refine z_ofW h9 (by decide) (Nat.le_of_ble_eq_true rfl) ?_
  intro p e s m args below meth c ls hC hr _ hw hl
  have hx := hC.1
  have hb := hC.2.1
  have hl : lv_has ls 7 [(0, .ref a0), (1, .long a1)] := hl
  unfold f_X0_hash at hf
  refine lv_ldc2 (v := 31) hx hb hC.2.2.2.1 (hC.2.2.2.2.1 _ lkJ_X0_100) dX0_hash_0 ?_
  refine lv_lload_n hx hb dX0_hash_3 rfl (lv_at hl 1 rfl) ?_
  refine lv_lmul hx hb dX0_hash_4 ?_
  refine lv_aload_n hx hb dX0_hash_5 rfl (lv_at hl 0 rfl) ?_
  obtain ⟨v1, hg, hf⟩ := gfI_inv hf
  refine r_gfI hC hw hg clX0 (Nat.le_of_ble_eq_true rfl) lkF_X0_9 rfl dX0_hash_6 ?_
  refine lv_i2l hx hb dX0_hash_9 rfl ?_
  refine lv_ladd hx hb dX0_hash_10 ?_
  refine lv_lstore_n (lv' := [(3, .long ((31 * a1) + (v1.toInt64))), (0, .ref a0), (1, .long a1)]) hx hb dX0_hash_11 rfl hl (Nat.le_of_ble_eq_true rfl) rfl (fun ls hl => ?_)
  refine lv_iconst (v := 0) hx hb dX0_hash_12 (by decide) ?_
  refine lv_istore (lv' := [(5, .int 0), (3, .long ((31 * a1) + (v1.toInt64))), (0, .ref a0), (1, .long a1)]) hx hb dX0_hash_13 hl (Nat.le_of_ble_eq_true rfl) rfl (fun ls hl => ?_)
  obtain ⟨w8, σ7, hk, hf⟩ := lb1_inv hf
  refine l_X0_hash_B15 hC hr (fun H locs ls hw hl => ?_) FUEL ((31 * a1) + (v1.toInt64)) 0 σ hk _ _ _ hw (lv_sub hl [2, 1, 0] rfl)
  refine lv_iconst (v := 0) hx hb dX0_hash_60 (by decide) ?_
  refine lv_istore (lv' := [(5, .int 0), (0, .ref a0), (3, .long w8)]) hx hb dX0_hash_61 hl (Nat.le_of_ble_eq_true rfl) rfl (fun ls hl => ?_)
  obtain ⟨w17, σ16, hk, hf⟩ := lb1_inv hf
  refine l_X0_hash_B63 hC hr (fun H locs ls hw hl => ?_) FUEL w8 0 σ7 hk _ _ _ hw (lv_sub hl [1, 2, 0] rfl)
  refine lv_lload_n hx hb dX0_hash_116 rfl (lv_at hl 0 rfl) ?_
  first | (obtain ⟨rfl, rfl⟩ := sp_inv hf) | (obtain rfl := Option.some.inj hf)
  exact W.lret hx hb hr (z_ret hw rfl) hw.2.2.2.2.2 dX0_hash_117 hC.2.2.2.2.2.1
set_option maxHeartbeats 4000000 in
set_option maxRecDepth 100000 in
theorem t_X6_addMultiple_B3 (hC : zC p l s m args meth c cX6_addMultiple 5 RX6 D cA B0) (hr : meth.sig.returnType = (Option.none : Option Jvm.ClassFile.FieldType)) {Γ : zSh} {x0 : Nat} {x1 : Int32} {x2 : Nat} {x3 : Int32} {x4 : Int32} {σ : zSt} {out : ((Int32 × zSt) ⊕ (zSt))} (hf : f_X6_addMultiple_B3 Γ x0 x1 x2 x3 x4 σ = some out) {H : Heap} {locs : List Loc} {ls : Array Slot} (hw : zO D cA B0 Γ σ Z s.heap H locs) (hl : lv_has ls 5 [(0, .ref x0), (1, .int x1), (2, .ref x2), (3, .int x3), (4, .int x4)])
    (kI : ∀ (z4 : Int32) (σ2 : zSt), out = .inl (z4, σ2) → ∀ (H : Heap) (locs : List Loc) (ls : Array Slot), zO D cA B0 Γ σ2 Z s.heap H locs → lv_has ls 5 [(0, .ref x0), (1, .int x1), (2, .ref x2), (3, .int x3), (4, .int z4)] → W p l e rm_X6_addMultiple s m args below meth c H locs 0 0 Q (F0 m 3 ls []))
    (kE : ∀ (σ2 : zSt), out = .inr σ2 → ∀ (H : Heap) (locs : List Loc) (ls : Array Slot), zO D cA B0 Γ σ2 Z s.heap H locs → lv_has ls 5 [] → W p l e rm_X6_addMultiple s m args below meth c H locs 0 0 Q (F0 m 34 ls [])) :
    W p l e rm_X6_addMultiple s m args below meth c H locs 0 0 Q (F0 m 3 ls []) := by
  have hx := hC.1
  have hb := hC.2.1
  unfold f_X6_addMultiple_B3 at hf
  refine lv_iload hx hb dX6_addMultiple_3 (lv_at hl 4 rfl) ?_
  refine lv_iload_n hx hb dX6_addMultiple_5 rfl (lv_at hl 3 rfl) ?_
  refine lv_icmp_ge (tgt := 34) hx hb dX6_addMultiple_6 (by decide) (fun hc => ?_) (fun hc => ?_)
  · rw [if_pos hc] at hf
    exact kE  σ (Option.some.inj hf).symm _ _ _ hw (lv_sub hl [] rfl)
  · rw [if_neg hc] at hf
    refine lv_aload_n hx hb dX6_addMultiple_9 rfl (lv_at hl 0 rfl) ?_
    refine lv_iload hx hb dX6_addMultiple_10 (lv_at hl 4 rfl) ?_
    refine lv_aload_n hx hb dX6_addMultiple_12 rfl (lv_at hl 0 rfl) ?_
    refine lv_iload hx hb dX6_addMultiple_13 (lv_at hl 4 rfl) ?_
    obtain ⟨v1, hg, hf⟩ := ldI_inv hf
    refine r_ldI hC hw hg dX6_addMultiple_15 ?_
    refine lv_iload_n hx hb dX6_addMultiple_16 rfl (lv_at hl 1 rfl) ?_
    refine lv_aload_n hx hb dX6_addMultiple_17 rfl (lv_at hl 2 rfl) ?_
    refine lv_iload hx hb dX6_addMultiple_18 (lv_at hl 4 rfl) ?_
    obtain ⟨v2, hg, hf⟩ := ldI_inv hf
    refine r_ldI hC hw hg dX6_addMultiple_20 ?_
    refine lv_imul hx hb dX6_addMultiple_21 ?_
    refine lv_iadd hx hb dX6_addMultiple_22 ?_
    refine lv_sipush (v := 10007) hx hb dX6_addMultiple_23 (by decide) ?_
    obtain ⟨v3, hg, hf⟩ := rmI_inv hf
    refine r_rmI hC hg dX6_addMultiple_26 ?_
    obtain ⟨σ4, hg, hf⟩ := stI_inv hf
    refine r_stI hC hw hg dX6_addMultiple_27 (fun H locs hw => ?_)
    refine lv_iinc (v := (x4 + 1)) (lv' := [(4, .int (x4 + 1)), (0, .ref x0), (1, .int x1), (2, .ref x2), (3, .int x3)]) hx hb dX6_addMultiple_28 hl (k := 4) rfl rfl (Nat.le_of_ble_eq_true rfl) rfl (fun ls hl => ?_)
    refine lv_goto (tgt := 3) hx hb dX6_addMultiple_31 (by decide) ?_
    exact kI (x4 + 1) σ4 (Option.some.inj hf).symm _ _ _ hw (lv_sub hl [1, 2, 3, 4, 0] rfl)
set_option maxHeartbeats 4000000 in
theorem l_X6_addMultiple_B3 (hC : zC p l s m args meth c cX6_addMultiple 5 RX6 D cA B0) (hr : meth.sig.returnType = (Option.none : Option Jvm.ClassFile.FieldType)) {Γ : zSh} {x0 : Nat} {x1 : Int32} {x2 : Nat} {x3 : Int32} {σ2 : zSt} (kE : ∀ (H : Heap) (locs : List Loc) (ls : Array Slot), zO D cA B0 Γ σ2 Z s.heap H locs → lv_has ls 5 [] → W p l e rm_X6_addMultiple s m args below meth c H locs 0 0 Q (F0 m 34 ls [])) :
    ∀ (n : Nat) (x4 : Int32) (σ : zSt), loopM (fun q => f_X6_addMultiple_B3 Γ x0 x1 x2 x3 q.1 q.2) n (x4, σ) = some σ2 → ∀ (H : Heap) (locs : List Loc) (ls : Array Slot), zO D cA B0 Γ σ Z s.heap H locs → lv_has ls 5 [(0, .ref x0), (1, .int x1), (2, .ref x2), (3, .int x3), (4, .int x4)] → W p l e rm_X6_addMultiple s m args below meth c H locs 0 0 Q (F0 m 3 ls []) := by
  intro n
  induction n with
  | zero => intro x4 σ h; exact absurd h (by simp [loopM])
  | succ n ih =>
    intro x4 σ h H locs ls hw hl
    obtain ⟨r, h1, h2, h3⟩ := loopM_inv h
    exact t_X6_addMultiple_B3 hC hr h1 hw hl (fun z4 s2 e H locs ls hw hl => ih z4 s2 (h2 _ e) H locs ls hw hl) (fun s2 e H locs ls hw hl => by cases h3 _ e; exact kE H locs ls hw hl)
set_option maxHeartbeats 4000000 in
set_option maxRecDepth 100000 in
theorem m_X6_addMultiple (h9 : l.stackTraces = false) {Γ : zSh} {a0 : Nat} {a1 : Int32} {a2 : Nat} {a3 : Int32} {σ : zSt} {r : Unit} {σ2 : zSt} (hf : f_X6_addMultiple Γ a0 a1 a2 a3 σ = some (r, σ2)) : Met l yX6_addMultiple (wq yX6_addMultiple cX6_addMultiple 5 (Option.none : Option Jvm.ClassFile.FieldType)) rm_X6_addMultiple (zQ0 D cA B0 [.ref a0, .int a1, .ref a2, .int a3] Γ σ Z) (zQ1 D cA B0 (none) Γ σ2 Z) 0 0 (FR B0) := by
  refine z_ofW h9 (by decide) (Nat.le_of_ble_eq_true rfl) ?_
  intro p e s m args below meth c ls hC hr _ hw hl
  have hx := hC.1
  have hb := hC.2.1
  have hl : lv_has ls 5 [(0, .ref a0), (1, .int a1), (2, .ref a2), (3, .int a3)] := hl
  unfold f_X6_addMultiple at hf
  refine lv_iconst (v := 0) hx hb dX6_addMultiple_0 (by decide) ?_
  refine lv_istore (lv' := [(4, .int 0), (0, .ref a0), (1, .int a1), (2, .ref a2), (3, .int a3)]) hx hb dX6_addMultiple_1 hl (Nat.le_of_ble_eq_true rfl) rfl (fun ls hl => ?_)
  obtain ⟨σ5, hk, hf⟩ := lb0_inv hf
  refine l_X6_addMultiple_B3 hC hr (fun H locs ls hw hl => ?_) FUEL 0 σ hk _ _ _ hw (lv_sub hl [1, 2, 3, 4, 0] rfl)
  first | (obtain ⟨rfl, rfl⟩ := sp_inv hf) | (obtain rfl := Option.some.inj hf)
  exact W.vret hx hb hr (z_ret hw rfl) hw.2.2.2.2.2 dX6_addMultiple_34 hC.2.2.2.2.2.1
set_option maxHeartbeats 4000000 in
set_option maxRecDepth 100000 in
theorem t_X6_firstNonZero_B2 (hC : zC p l s m args meth c cX6_firstNonZero 3 RX6 D cA B0) (hr : meth.sig.returnType = (Option.some FieldType.int)) {Γ : zSh} {x0 : Nat} {x1 : Int32} {x2 : Int32} {σ : zSt} {out : ((Int32 × zSt) ⊕ ((zSt) ⊕ (Int32 × zSt)))} (hf : f_X6_firstNonZero_B2 Γ x0 x1 x2 σ = some out) {H : Heap} {locs : List Loc} {ls : Array Slot} (hw : zO D cA B0 Γ σ Z s.heap H locs) (hl : lv_has ls 3 [(0, .ref x0), (1, .int x1), (2, .int x2)])
    (kI : ∀ (z2 : Int32) (σ2 : zSt), out = .inl (z2, σ2) → ∀ (H : Heap) (locs : List Loc) (ls : Array Slot), zO D cA B0 Γ σ2 Z s.heap H locs → lv_has ls 3 [(0, .ref x0), (1, .int x1), (2, .int z2)] → W p l e rm_X6_firstNonZero s m args below meth c H locs 0 0 Q (F0 m 2 ls []))
    (kE : ∀ (σ2 : zSt), out = .inr (.inl σ2) → ∀ (H : Heap) (locs : List Loc) (ls : Array Slot), zO D cA B0 Γ σ2 Z s.heap H locs → lv_has ls 3 [] → W p l e rm_X6_firstNonZero s m args below meth c H locs 0 0 Q (F0 m 21 ls []))
    (kR : ∀ (v : Int32) (σ2 : zSt), out = .inr (.inr (v, σ2)) → ∀ (H : Heap) (locs : List Loc) (ls : Array Slot) (pr : Nat), zO D cA B0 Γ σ2 Z s.heap H locs → decode cX6_firstNonZero pr = .ok (.ireturn, 1) → W p l e rm_X6_firstNonZero s m args below meth c H locs 0 0 Q (F0 m pr ls [.int v])) :
    W p l e rm_X6_firstNonZero s m args below meth c H locs 0 0 Q (F0 m 2 ls []) := by
  have hx := hC.1
  have hb := hC.2.1
  unfold f_X6_firstNonZero_B2 at hf
  refine lv_iload_n hx hb dX6_firstNonZero_2 rfl (lv_at hl 2 rfl) ?_
  refine lv_iload_n hx hb dX6_firstNonZero_3 rfl (lv_at hl 1 rfl) ?_
  refine lv_icmp_ge (tgt := 21) hx hb dX6_firstNonZero_4 (by decide) (fun hc => ?_) (fun hc => ?_)
  · rw [if_pos hc] at hf
    exact kE  σ (Option.some.inj hf).symm _ _ _ hw (lv_sub hl [] rfl)
  · rw [if_neg hc] at hf
    refine lv_aload_n hx hb dX6_firstNonZero_7 rfl (lv_at hl 0 rfl) ?_
    refine lv_iload_n hx hb dX6_firstNonZero_8 rfl (lv_at hl 2 rfl) ?_
    obtain ⟨v1, hg, hf⟩ := ldI_inv hf
    refine r_ldI hC hw hg dX6_firstNonZero_9 ?_
    refine lv_if_eq (tgt := 15) hx hb dX6_firstNonZero_10 (by decide) (fun hc => ?_) (fun hc => ?_)
    · rw [if_pos hc] at hf
      refine lv_iinc (v := (x2 + 1)) (lv' := [(2, .int (x2 + 1)), (0, .ref x0), (1, .int x1)]) hx hb dX6_firstNonZero_15 hl (k := 2) rfl rfl (Nat.le_of_ble_eq_true rfl) rfl (fun ls hl => ?_)
      refine lv_goto (tgt := 2) hx hb dX6_firstNonZero_18 (by decide) ?_
      exact kI (x2 + 1) σ (Option.some.inj hf).symm _ _ _ hw (lv_sub hl [1, 2, 0] rfl)
    · rw [if_neg hc] at hf
      refine lv_iload_n hx hb dX6_firstNonZero_13 rfl (lv_at hl 2 rfl) ?_
      exact kR x2 σ (Option.some.inj hf).symm _ _ _ 14 hw dX6_firstNonZero_14
set_option maxHeartbeats 4000000 in
theorem l_X6_firstNonZero_B2 (hC : zC p l s m args meth c cX6_firstNonZero 3 RX6 D cA B0) (hr : meth.sig.returnType = (Option.some FieldType.int)) {Γ : zSh} {x0 : Nat} {x1 : Int32} {out : (zSt) ⊕ (Int32 × zSt)} (kE : ∀ (σ2 : zSt), out = .inl σ2 → ∀ (H : Heap) (locs : List Loc) (ls : Array Slot), zO D cA B0 Γ σ2 Z s.heap H locs → lv_has ls 3 [] → W p l e rm_X6_firstNonZero s m args below meth c H locs 0 0 Q (F0 m 21 ls []))(kR : ∀ (v : Int32) (σ2 : zSt), out = .inr (v, σ2) → ∀ (H : Heap) (locs : List Loc) (ls : Array Slot) (pr : Nat), zO D cA B0 Γ σ2 Z s.heap H locs → decode cX6_firstNonZero pr = .ok (.ireturn, 1) → W p l e rm_X6_firstNonZero s m args below meth c H locs 0 0 Q (F0 m pr ls [.int v])) :
    ∀ (n : Nat) (x2 : Int32) (σ : zSt), loopM (fun q => f_X6_firstNonZero_B2 Γ x0 x1 q.1 q.2) n (x2, σ) = some out → ∀ (H : Heap) (locs : List Loc) (ls : Array Slot), zO D cA B0 Γ σ Z s.heap H locs → lv_has ls 3 [(0, .ref x0), (1, .int x1), (2, .int x2)] → W p l e rm_X6_firstNonZero s m args below meth c H locs 0 0 Q (F0 m 2 ls []) := by
  intro n
  induction n with
  | zero => intro x2 σ h; exact absurd h (by simp [loopM])
  | succ n ih =>
    intro x2 σ h H locs ls hw hl
    obtain ⟨r, h1, h2, h3⟩ := loopM_inv h
    exact t_X6_firstNonZero_B2 hC hr h1 hw hl (fun z2 s2 e H locs ls hw hl => ih z2 s2 (h2 _ e) H locs ls hw hl) (fun s2 e => kE s2 (h3 _ e).symm) (fun v s2 e => kR v s2 (h3 _ e).symm)
set_option maxHeartbeats 4000000 in
set_option maxRecDepth 100000 in
theorem m_X6_firstNonZero (h9 : l.stackTraces = false) {Γ : zSh} {a0 : Nat} {a1 : Int32} {σ : zSt} {r : Int32} {σ2 : zSt} (hf : f_X6_firstNonZero Γ a0 a1 σ = some (r, σ2)) : Met l yX6_firstNonZero (wq yX6_firstNonZero cX6_firstNonZero 3 (Option.some FieldType.int)) rm_X6_firstNonZero (zQ0 D cA B0 [.ref a0, .int a1] Γ σ Z) (zQ1 D cA B0 (some (.int r)) Γ σ2 Z) 0 0 (FR B0) := by
  refine z_ofW h9 (by decide) (Nat.le_of_ble_eq_true rfl) ?_
  intro p e s m args below meth c ls hC hr _ hw hl
  have hx := hC.1
  have hb := hC.2.1
  have hl : lv_has ls 3 [(0, .ref a0), (1, .int a1)] := hl
  unfold f_X6_firstNonZero at hf
  refine lv_iconst (v := 0) hx hb dX6_firstNonZero_0 (by decide) ?_
  refine lv_istore_n (lv' := [(2, .int 0), (0, .ref a0), (1, .int a1)]) hx hb dX6_firstNonZero_1 rfl hl (Nat.le_of_ble_eq_true rfl) rfl (fun ls hl => ?_)
  obtain ⟨q, hk, hE, hR⟩ := lbr_inv hf
  refine l_X6_firstNonZero_B2 hC hr (fun σ2 e H locs ls hw hl => ?_) (fun v s9 e H locs ls pr hw hd => ?_) FUEL 0 σ hk _ _ _ hw (lv_sub hl [1, 2, 0] rfl)
  · obtain ⟨s8, e2, hf⟩ := lb0_inv (hE _ e)
    cases e2
    refine lv_iconst (v := (-1)) hx hb dX6_firstNonZero_21 (by decide) ?_
    first | (obtain ⟨rfl, rfl⟩ := sp_inv hf) | (obtain rfl := Option.some.inj hf)
    exact W.iret hx hb hr (z_ret hw rfl) hw.2.2.2.2.2 dX6_firstNonZero_22 hC.2.2.2.2.2.1
  · have hf := hR _ _ e
    first | (obtain ⟨rfl, rfl⟩ := sp_inv hf) | (obtain rfl := Option.some.inj hf)
    exact W.iret hx hb hr (z_ret hw rfl) hw.2.2.2.2.2 hd hC.2.2.2.2.2.1
set_option maxHeartbeats 4000000 in
set_option maxRecDepth 100000 in
theorem t_X6_reciprocal_B8_L27 (hC : zC p l s m args meth c cX6_reciprocal 4 RX6 D cA B0) (hr : meth.sig.returnType = (Option.some FieldType.int)) {Γ : zSh} {x1 : Int32} {x2 : Int32} {x3 : Int32}  {σ : zSt} {out : ((Int32 × Int32 × Int32 × zSt) ⊕ (Int32 × zSt))} (hf : f_X6_reciprocal_B8_L27 Γ x1 x2 x3 σ = some out) {H : Heap} {locs : List Loc} {ls : Array Slot} (hw : zO D cA B0 Γ σ Z s.heap H locs) (hl : lv_has ls 4 [(1, .int x1), (2, .int x2), (3, .int x3)])
    (kI : ∀ (z1 : Int32) (z2 : Int32) (z3 : Int32) (σ2 : zSt), out = .inl (z1, z2, z3, σ2) → ∀ (H : Heap) (locs : List Loc) (ls : Array Slot), zO D cA B0 Γ σ2 Z s.heap H locs → lv_has ls 4 [(1, .int z1), (2, .int z2), (3, .int z3)] → W p l e rm_X6_reciprocal s m args below meth c H locs 0 0 Q (F0 m 8 ls []))
    (kE : ∀ (z1 : Int32) (σ2 : zSt), out = .inr (z1, σ2) → ∀ (H : Heap) (locs : List Loc) (ls : Array Slot), zO D cA B0 Γ σ2 Z s.heap H locs → lv_has ls 4 [(1, .int z1)] → W p l e rm_X6_reciprocal s m args below meth c H locs 0 0 Q (F0 m 42 ls [])) :
    W p l e rm_X6_reciprocal s m args below meth c H locs 0 0 Q (F0 m 27 ls []) := by
  have hx := hC.1
  have hb := hC.2.1
  unfold f_X6_reciprocal_B8_L27 at hf
  refine lv_iload_n hx hb dX6_reciprocal_27 rfl (lv_at hl 1 rfl) ?_
  refine lv_iload_n hx hb dX6_reciprocal_28 rfl (lv_at hl 1 rfl) ?_
  refine lv_imul hx hb dX6_reciprocal_29 ?_
  refine lv_sipush (v := 10007) hx hb dX6_reciprocal_30 (by decide) ?_
  obtain ⟨v1, hg, hf⟩ := rmI_inv hf
  refine r_rmI hC hg dX6_reciprocal_33 ?_
  refine lv_istore_n (lv' := [(2, .int v1), (1, .int x1), (3, .int x3)]) hx hb dX6_reciprocal_34 rfl hl (Nat.le_of_ble_eq_true rfl) rfl (fun ls hl => ?_)
  refine lv_iload_n hx hb dX6_reciprocal_35 rfl (lv_at hl 2 rfl) ?_
  refine lv_iconst (v := 1) hx hb dX6_reciprocal_36 (by decide) ?_
  refine lv_ishr hx hb dX6_reciprocal_37 ?_
  refine lv_istore_n (lv' := [(3, .int (x3 >>> (1 &&& 31))), (2, .int v1), (1, .int x1)]) hx hb dX6_reciprocal_38 rfl hl (Nat.le_of_ble_eq_true rfl) rfl (fun ls hl => ?_)
  refine lv_goto (tgt := 8) hx hb dX6_reciprocal_39 (by decide) ?_
  exact kI x1 v1 (x3 >>> (1 &&& 31)) σ (Option.some.inj hf).symm _ _ _ hw (lv_sub hl [2, 1, 0] rfl)
set_option maxHeartbeats 4000000 in
set_option maxRecDepth 100000 in
theorem t_X6_reciprocal_B8 (hC : zC p l s m args meth c cX6_reciprocal 4 RX6 D cA B0) (hr : meth.sig.returnType = (Option.some FieldType.int)) {Γ : zSh} {x1 : Int32} {x2 : Int32} {x3 : Int32} {σ : zSt} {out : ((Int32 × Int32 × Int32 × zSt) ⊕ (Int32 × zSt))} (hf : f_X6_reciprocal_B8 Γ x1 x2 x3 σ = some out) {H : Heap} {locs : List Loc} {ls : Array Slot} (hw : zO D cA B0 Γ σ Z s.heap H locs) (hl : lv_has ls 4 [(1, .int x1), (2, .int x2), (3, .int x3)])
    (kI : ∀ (z1 : Int32) (z2 : Int32) (z3 : Int32) (σ2 : zSt), out = .inl (z1, z2, z3, σ2) → ∀ (H : Heap) (locs : List Loc) (ls : Array Slot), zO D cA B0 Γ σ2 Z s.heap H locs → lv_has ls 4 [(1, .int z1), (2, .int z2), (3, .int z3)] → W p l e rm_X6_reciprocal s m args below meth c H locs 0 0 Q (F0 m 8 ls []))
    (kE : ∀ (z1 : Int32) (σ2 : zSt), out = .inr (z1, σ2) → ∀ (H : Heap) (locs : List Loc) (ls : Array Slot), zO D cA B0 Γ σ2 Z s.heap H locs → lv_has ls 4 [(1, .int z1)] → W p l e rm_X6_reciprocal s m args below meth c H locs 0 0 Q (F0 m 42 ls [])) :
    W p l e rm_X6_reciprocal s m args below meth c H locs 0 0 Q (F0 m 8 ls []) := by
  have hx := hC.1
  have hb := hC.2.1
  unfold f_X6_reciprocal_B8 at hf
  refine lv_iload_n hx hb dX6_reciprocal_8 rfl (lv_at hl 2 rfl) ?_
  refine lv_if_le (tgt := 42) hx hb dX6_reciprocal_9 (by decide) (fun hc => ?_) (fun hc => ?_)
  · rw [if_pos hc] at hf
    exact kE x1 σ (Option.some.inj hf).symm _ _ _ hw (lv_sub hl [0] rfl)
  · rw [if_neg hc] at hf
    refine lv_iload_n hx hb dX6_reciprocal_12 rfl (lv_at hl 2 rfl) ?_
    refine lv_iconst (v := 1) hx hb dX6_reciprocal_13 (by decide) ?_
    refine lv_iand hx hb dX6_reciprocal_14 ?_
    refine lv_iconst (v := 1) hx hb dX6_reciprocal_15 (by decide) ?_
    refine lv_icmp_ne (tgt := 27) hx hb dX6_reciprocal_16 (by decide) (fun hc => ?_) (fun hc => ?_)
    · rw [if_neg hc] at hf
      exact t_X6_reciprocal_B8_L27 hC hr hf hw (lv_sub hl [0, 1, 2] rfl) kI kE
    · rw [if_pos hc] at hf
      refine lv_iload_n hx hb dX6_reciprocal_19 rfl (lv_at hl 0 rfl) ?_
      refine lv_iload_n hx hb dX6_reciprocal_20 rfl (lv_at hl 1 rfl) ?_
      refine lv_imul hx hb dX6_reciprocal_21 ?_
      refine lv_sipush (v := 10007) hx hb dX6_reciprocal_22 (by decide) ?_
      obtain ⟨v2, hg, hf⟩ := rmI_inv hf
      refine r_rmI hC hg dX6_reciprocal_25 ?_
      refine lv_istore_n (lv' := [(1, .int v2), (2, .int x2), (3, .int x3)]) hx hb dX6_reciprocal_26 rfl hl (Nat.le_of_ble_eq_true rfl) rfl (fun ls hl => ?_)
      exact t_X6_reciprocal_B8_L27 hC hr hf hw (lv_sub hl [0, 1, 2] rfl) kI kE
set_option maxHeartbeats 4000000 in
theorem l_X6_reciprocal_B8 (hC : zC p l s m args meth c cX6_reciprocal 4 RX6 D cA B0) (hr : meth.sig.returnType = (Option.some FieldType.int)) {Γ : zSh} {w1 : Int32} {σ2 : zSt} (kE : ∀ (H : Heap) (locs : List Loc) (ls : Array Slot), zO D cA B0 Γ σ2 Z s.heap H locs → lv_has ls 4 [(1, .int w1)] → W p l e rm_X6_reciprocal s m args below meth c H locs 0 0 Q (F0 m 42 ls [])) :
    ∀ (n : Nat) (x1 : Int32) (x2 : Int32) (x3 : Int32) (σ : zSt), loopM (fun q => f_X6_reciprocal_B8 Γ q.1 q.2.1 q.2.2.1 q.2.2.2) n (x1, x2, x3, σ) = some (w1, σ2) → ∀ (H : Heap) (locs : List Loc) (ls : Array Slot), zO D cA B0 Γ σ Z s.heap H locs → lv_has ls 4 [(1, .int x1), (2, .int x2), (3, .int x3)] → W p l e rm_X6_reciprocal s m args below meth c H locs 0 0 Q (F0 m 8 ls []) := by
  intro n
  induction n with
  | zero => intro x1 x2 x3 σ h; exact absurd h (by simp [loopM])
  | succ n ih =>
    intro x1 x2 x3 σ h H locs ls hw hl
    obtain ⟨r, h1, h2, h3⟩ := loopM_inv h
    exact t_X6_reciprocal_B8 hC hr h1 hw hl (fun z1 z2 z3 s2 e H locs ls hw hl => ih z1 z2 z3 s2 (h2 _ e) H locs ls hw hl) (fun z1 s2 e H locs ls hw hl => by cases h3 _ e; exact kE H locs ls hw hl)
set_option maxHeartbeats 4000000 in
set_option maxRecDepth 100000 in
theorem m_X6_reciprocal (h9 : l.stackTraces = false) {Γ : zSh} {a0 : Int32} {σ : zSt} {r : Int32} {σ2 : zSt} (hf : f_X6_reciprocal Γ a0 σ = some (r, σ2)) : Met l yX6_reciprocal (wq yX6_reciprocal cX6_reciprocal 4 (Option.some FieldType.int)) rm_X6_reciprocal (zQ0 D cA B0 [.int a0] Γ σ Z) (zQ1 D cA B0 (some (.int r)) Γ σ2 Z) 0 0 (FR B0) := by
  refine z_ofW h9 (by decide) (Nat.le_of_ble_eq_true rfl) ?_
  intro p e s m args below meth c ls hC hr _ hw hl
  have hx := hC.1
  have hb := hC.2.1
  have hl : lv_has ls 4 [(0, .int a0)] := hl
  unfold f_X6_reciprocal at hf
  refine lv_iconst (v := 1) hx hb dX6_reciprocal_0 (by decide) ?_
  refine lv_istore_n (lv' := [(1, .int 1), (0, .int a0)]) hx hb dX6_reciprocal_1 rfl hl (Nat.le_of_ble_eq_true rfl) rfl (fun ls hl => ?_)
  refine lv_iload_n hx hb dX6_reciprocal_2 rfl (lv_at hl 1 rfl) ?_
  refine lv_istore_n (lv' := [(2, .int a0), (1, .int 1), (0, .int a0)]) hx hb dX6_reciprocal_3 rfl hl (Nat.le_of_ble_eq_true rfl) rfl (fun ls hl => ?_)
  refine lv_sipush (v := 10005) hx hb dX6_reciprocal_4 (by decide) ?_
  refine lv_istore_n (lv' := [(3, .int 10005), (2, .int a0), (1, .int 1), (0, .int a0)]) hx hb dX6_reciprocal_7 rfl hl (Nat.le_of_ble_eq_true rfl) rfl (fun ls hl => ?_)
  obtain ⟨w4, σ3, hk, hf⟩ := lb1_inv hf
  refine l_X6_reciprocal_B8 hC hr (fun H locs ls hw hl => ?_) FUEL 1 a0 10005 σ hk _ _ _ hw (lv_sub hl [2, 1, 0] rfl)
  refine lv_iload_n hx hb dX6_reciprocal_42 rfl (lv_at hl 0 rfl) ?_
  first | (obtain ⟨rfl, rfl⟩ := sp_inv hf) | (obtain rfl := Option.some.inj hf)
  exact W.iret hx hb hr (z_ret hw rfl) hw.2.2.2.2.2 dX6_reciprocal_43 hC.2.2.2.2.2.1
set_option maxHeartbeats 4000000 in
set_option maxRecDepth 100000 in
theorem t_X1_extend_B8 (hC : zC p l s m args meth c cX1_extend 5 RX1 D cA B0) (hr : meth.sig.returnType = (Option.none : Option Jvm.ClassFile.FieldType)) {Γ : zSh} {x0 : Nat} {x1 : Int32} {x2 : Int32} {x3 : Int32} {x4 : Int32} {σ : zSt} {out : ((Int32 × zSt) ⊕ (zSt))} (hf : f_X1_extend_B8 Γ x0 x1 x2 x3 x4 σ = some out) {H : Heap} {locs : List Loc} {ls : Array Slot} (hw : zO D cA B0 Γ σ Z s.heap H locs) (hl : lv_has ls 5 [(0, .ref x0), (1, .int x1), (2, .int x2), (3, .int x3), (4, .int x4)])
    (kI : ∀ (z4 : Int32) (σ2 : zSt), out = .inl (z4, σ2) → ∀ (H : Heap) (locs : List Loc) (ls : Array Slot), zO D cA B0 Γ σ2 Z s.heap H locs → lv_has ls 5 [(0, .ref x0), (1, .int x1), (2, .int x2), (3, .int x3), (4, .int z4)] → W p l e rm_X1_extend s m args below meth c H locs 0 0 Q (F0 m 8 ls []))
    (kE : ∀ (σ2 : zSt), out = .inr σ2 → ∀ (H : Heap) (locs : List Loc) (ls : Array Slot), zO D cA B0 Γ σ2 Z s.heap H locs → lv_has ls 5 [(0, .ref x0), (1, .int x1), (3, .int x3)] → W p l e rm_X1_extend s m args below meth c H locs 0 0 Q (F0 m 92 ls [])) :
    W p l e rm_X1_extend s m args below meth c H locs 0 0 Q (F0 m 8 ls []) := by
  have hx := hC.1
  have hb := hC.2.1
  unfold f_X1_extend_B8 at hf
  refine lv_iload hx hb dX1_extend_8 (lv_at hl 4 rfl) ?_
  refine lv_iload_n hx hb dX1_extend_10 rfl (lv_at hl 2 rfl) ?_
  refine lv_icmp_ge (tgt := 92) hx hb dX1_extend_11 (by decide) (fun hc => ?_) (fun hc => ?_)
  · rw [if_pos hc] at hf
    exact kE  σ (Option.some.inj hf).symm _ _ _ hw (lv_sub hl [0, 1, 3] rfl)
  · rw [if_neg hc] at hf
    refine lv_aload_n hx hb dX1_extend_14 rfl (lv_at hl 0 rfl) ?_
    obtain ⟨v2, hg, hf⟩ := gfR_inv hf
    refine r_gfR hC hw hg clX1 (Nat.le_of_ble_eq_true rfl) lkF_X1_20 rfl dX1_extend_15 ?_
    refine lv_iload_n hx hb dX1_extend_18 rfl (lv_at hl 3 rfl) ?_
    obtain ⟨v3, hg, hf⟩ := ldG_inv hf
    refine r_ldG hC hw hg dX1_extend_19 ?_
    refine lv_iload hx hb dX1_extend_20 (lv_at hl 4 rfl) ?_
    refine lv_aload_n hx hb dX1_extend_22 rfl (lv_at hl 0 rfl) ?_
    obtain ⟨v4, hg, hf⟩ := gfR_inv hf
    refine r_gfR hC hw hg clX1 (Nat.le_of_ble_eq_true rfl) lkF_X1_35 rfl dX1_extend_23 ?_
    refine lv_iload hx hb dX1_extend_26 (lv_at hl 4 rfl) ?_
    obtain ⟨v5, hg, hf⟩ := ldI_inv hf
    refine r_ldI hC hw hg dX1_extend_28 ?_
    obtain ⟨σ6, hg, hf⟩ := stI_inv hf
    refine r_stI hC hw hg dX1_extend_29 (fun H locs hw => ?_)
    refine lv_aload_n hx hb dX1_extend_30 rfl (lv_at hl 0 rfl) ?_
    obtain ⟨v7, hg, hf⟩ := gfR_inv hf
    refine r_gfR hC hw hg clX1 (Nat.le_of_ble_eq_true rfl) lkF_X1_23 rfl dX1_extend_31 ?_
    refine lv_iload_n hx hb dX1_extend_34 rfl (lv_at hl 3 rfl) ?_
    obtain ⟨v8, hg, hf⟩ := ldG_inv hf
    refine r_ldG hC hw hg dX1_extend_35 ?_
    refine lv_iload hx hb dX1_extend_36 (lv_at hl 4 rfl) ?_
    refine lv_aload_n hx hb dX1_extend_38 rfl (lv_at hl 0 rfl) ?_
    obtain ⟨v9, hg, hf⟩ := gfR_inv hf
    refine r_gfR hC hw hg clX1 (Nat.le_of_ble_eq_true rfl) lkF_X1_38 rfl dX1_extend_39 ?_
    refine lv_iload hx hb dX1_extend_42 (lv_at hl 4 rfl) ?_
    obtain ⟨v10, hg, hf⟩ := ldI_inv hf
    refine r_ldI hC hw hg dX1_extend_44 ?_
    refine lv_iload_n hx hb dX1_extend_45 rfl (lv_at hl 1 rfl) ?_
    refine lv_imul hx hb dX1_extend_46 ?_
    refine lv_sipush (v := 10007) hx hb dX1_extend_47 (by decide) ?_
    obtain ⟨v11, hg, hf⟩ := rmI_inv hf
    refine r_rmI hC hg dX1_extend_50 ?_
    obtain ⟨σ12, hg, hf⟩ := stI_inv hf
    refine r_stI hC hw hg dX1_extend_51 (fun H locs hw => ?_)
    refine lv_aload_n hx hb dX1_extend_52 rfl (lv_at hl 0 rfl) ?_
    obtain ⟨v13, hg, hf⟩ := gfR_inv hf
    refine r_gfR hC hw hg clX1 (Nat.le_of_ble_eq_true rfl) lkF_X1_26 rfl dX1_extend_53 ?_
    refine lv_iload_n hx hb dX1_extend_56 rfl (lv_at hl 3 rfl) ?_
    obtain ⟨v14, hg, hf⟩ := ldG_inv hf
    refine r_ldG hC hw hg dX1_extend_57 ?_
    refine lv_iload hx hb dX1_extend_58 (lv_at hl 4 rfl) ?_
    refine lv_aload_n hx hb dX1_extend_60 rfl (lv_at hl 0 rfl) ?_
    obtain ⟨v15, hg, hf⟩ := gfR_inv hf
    refine r_gfR hC hw hg clX1 (Nat.le_of_ble_eq_true rfl) lkF_X1_41 rfl dX1_extend_61 ?_
    refine lv_iload hx hb dX1_extend_64 (lv_at hl 4 rfl) ?_
    obtain ⟨v16, hg, hf⟩ := ldI_inv hf
    refine r_ldI hC hw hg dX1_extend_66 ?_
    refine lv_sipush (v := 10007) hx hb dX1_extend_67 (by decide) ?_
    refine lv_iload_n hx hb dX1_extend_70 rfl (lv_at hl 1 rfl) ?_
    refine lv_isub hx hb dX1_extend_71 ?_
    refine lv_imul hx hb dX1_extend_72 ?_
    refine lv_sipush (v := 10007) hx hb dX1_extend_73 (by decide) ?_
    obtain ⟨v17, hg, hf⟩ := rmI_inv hf
    refine r_rmI hC hg dX1_extend_76 ?_
    obtain ⟨σ18, hg, hf⟩ := stI_inv hf
    refine r_stI hC hw hg dX1_extend_77 (fun H locs hw => ?_)
    refine lv_aload_n hx hb dX1_extend_78 rfl (lv_at hl 0 rfl) ?_
    obtain ⟨v19, hg, hf⟩ := gfR_inv hf
    refine r_gfR hC hw hg clX1 (Nat.le_of_ble_eq_true rfl) lkF_X1_41 rfl dX1_extend_79 ?_
    refine lv_iload hx hb dX1_extend_82 (lv_at hl 4 rfl) ?_
    refine lv_iconst (v := 0) hx hb dX1_extend_84 (by decide) ?_
    obtain ⟨σ20, hg, hf⟩ := stI_inv hf
    refine r_stI hC hw hg dX1_extend_85 (fun H locs hw => ?_)
    refine lv_iinc (v := (x4 + 1)) (lv' := [(4, .int (x4 + 1)), (0, .ref x0), (1, .int x1), (2, .int x2), (3, .int x3)]) hx hb dX1_extend_86 hl (k := 4) rfl rfl (Nat.le_of_ble_eq_true rfl) rfl (fun ls hl => ?_)
    refine lv_goto (tgt := 8) hx hb dX1_extend_89 (by decide) ?_
    exact kI (x4 + 1) σ20 (Option.some.inj hf).symm _ _ _ hw (lv_sub hl [1, 2, 3, 4, 0] rfl)
set_option maxHeartbeats 4000000 in
theorem l_X1_extend_B8 (hC : zC p l s m args meth c cX1_extend 5 RX1 D cA B0) (hr : meth.sig.returnType = (Option.none : Option Jvm.ClassFile.FieldType)) {Γ : zSh} {x0 : Nat} {x1 : Int32} {x2 : Int32} {x3 : Int32} {σ2 : zSt} (kE : ∀ (H : Heap) (locs : List Loc) (ls : Array Slot), zO D cA B0 Γ σ2 Z s.heap H locs → lv_has ls 5 [(0, .ref x0), (1, .int x1), (3, .int x3)] → W p l e rm_X1_extend s m args below meth c H locs 0 0 Q (F0 m 92 ls [])) :
    ∀ (n : Nat) (x4 : Int32) (σ : zSt), loopM (fun q => f_X1_extend_B8 Γ x0 x1 x2 x3 q.1 q.2) n (x4, σ) = some σ2 → ∀ (H : Heap) (locs : List Loc) (ls : Array Slot), zO D cA B0 Γ σ Z s.heap H locs → lv_has ls 5 [(0, .ref x0), (1, .int x1), (2, .int x2), (3, .int x3), (4, .int x4)] → W p l e rm_X1_extend s m args below meth c H locs 0 0 Q (F0 m 8 ls []) := by
  intro n
  induction n with
  | zero => intro x4 σ h; exact absurd h (by simp [loopM])
  | succ n ih =>
    intro x4 σ h H locs ls hw hl
    obtain ⟨r, h1, h2, h3⟩ := loopM_inv h
    exact t_X1_extend_B8 hC hr h1 hw hl (fun z4 s2 e H locs ls hw hl => ih z4 s2 (h2 _ e) H locs ls hw hl) (fun s2 e H locs ls hw hl => by cases h3 _ e; exact kE H locs ls hw hl)
set_option maxHeartbeats 4000000 in
set_option maxRecDepth 100000 in
theorem m_X1_extend (h9 : l.stackTraces = false) {Γ : zSh} {a0 : Nat} {a1 : Int32} {a2 : Int32} {σ : zSt} {r : Unit} {σ2 : zSt} (hf : f_X1_extend Γ a0 a1 a2 σ = some (r, σ2)) : Met l yX1_extend (wq yX1_extend cX1_extend 5 (Option.none : Option Jvm.ClassFile.FieldType)) rm_X1_extend (zQ0 D cA B0 [.ref a0, .int a1, .int a2] Γ σ Z) (zQ1 D cA B0 (none) Γ σ2 Z) 0 0 (FR B0) := by
  refine z_ofW h9 (by decide) (Nat.le_of_ble_eq_true rfl) ?_
  intro p e s m args below meth c ls hC hr _ hw hl
  have hx := hC.1
  have hb := hC.2.1
  have hl : lv_has ls 5 [(0, .ref a0), (1, .int a1), (2, .int a2)] := hl
  unfold f_X1_extend at hf
  refine lv_aload_n hx hb dX1_extend_0 rfl (lv_at hl 0 rfl) ?_
  obtain ⟨v1, hg, hf⟩ := gfI_inv hf
  refine r_gfI hC hw hg clX1 (Nat.le_of_ble_eq_true rfl) lkF_X1_50 rfl dX1_extend_1 ?_
  refine lv_istore_n (lv' := [(3, .int v1), (0, .ref a0), (1, .int a1), (2, .int a2)]) hx hb dX1_extend_4 rfl hl (Nat.le_of_ble_eq_true rfl) rfl (fun ls hl => ?_)
  refine lv_iconst (v := 0) hx hb dX1_extend_5 (by decide) ?_
  refine lv_istore (lv' := [(4, .int 0), (3, .int v1), (0, .ref a0), (1, .int a1), (2, .int a2)]) hx hb dX1_extend_6 hl (Nat.le_of_ble_eq_true rfl) rfl (fun ls hl => ?_)
  obtain ⟨σ21, hk, hf⟩ := lb0_inv hf
  refine l_X1_extend_B8 hC hr (fun H locs ls hw hl => ?_) FUEL 0 σ hk _ _ _ hw (lv_sub hl [2, 3, 4, 1, 0] rfl)
  refine lv_aload_n hx hb dX1_extend_92 rfl (lv_at hl 0 rfl) ?_
  obtain ⟨v22, hg, hf⟩ := gfR_inv hf
  refine r_gfR hC hw hg clX1 (Nat.le_of_ble_eq_true rfl) lkF_X1_26 rfl dX1_extend_93 ?_
  refine lv_iload_n hx hb dX1_extend_96 rfl (lv_at hl 2 rfl) ?_
  obtain ⟨v23, hg, hf⟩ := ldG_inv hf
  refine r_ldG hC hw hg dX1_extend_97 ?_
  refine lv_iload_n hx hb dX1_extend_98 rfl (lv_at hl 2 rfl) ?_
  refine lv_iload_n hx hb dX1_extend_99 rfl (lv_at hl 1 rfl) ?_
  obtain ⟨σ24, hg, hf⟩ := stI_inv hf
  refine r_stI hC hw hg dX1_extend_100 (fun H locs hw => ?_)
  refine lv_aload_n hx hb dX1_extend_101 rfl (lv_at hl 0 rfl) ?_
  obtain ⟨v25, hg, hf⟩ := gfR_inv hf
  refine r_gfR hC hw hg clX1 (Nat.le_of_ble_eq_true rfl) lkF_X1_41 rfl dX1_extend_102 ?_
  refine lv_iload_n hx hb dX1_extend_105 rfl (lv_at hl 2 rfl) ?_
  refine lv_iconst (v := 1) hx hb dX1_extend_106 (by decide) ?_
  obtain ⟨σ26, hg, hf⟩ := stI_inv hf
  refine r_stI hC hw hg dX1_extend_107 (fun H locs hw => ?_)
  refine lv_aload_n hx hb dX1_extend_108 rfl (lv_at hl 0 rfl) ?_
  refine lv_dup hx hb dX1_extend_109 rfl ?_
  obtain ⟨v27, hg, hf⟩ := gfI_inv hf
  refine r_gfI hC hw hg clX1 (Nat.le_of_ble_eq_true rfl) lkF_X1_50 rfl dX1_extend_110 ?_
  refine lv_iconst (v := 1) hx hb dX1_extend_113 (by decide) ?_
  refine lv_iadd hx hb dX1_extend_114 ?_
  obtain ⟨σ28, hg, hf⟩ := pfI_inv hf
  refine r_pfI hC hw hg clX1 (Nat.le_of_ble_eq_true rfl) lkF_X1_50 rfl rfl rfl dX1_extend_115 (fun H locs hw => ?_)
  first | (obtain ⟨rfl, rfl⟩ := sp_inv hf) | (obtain rfl := Option.some.inj hf)
  exact W.vret hx hb hr (z_ret hw rfl) hw.2.2.2.2.2 dX1_extend_118 hC.2.2.2.2.2.1
end
