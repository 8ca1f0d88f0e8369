section
variable {p : Program} {l : Launch} {e : Env} {s : State} {m : MethodId} {args : Array Value} {below : List Frame} {meth : Method} {c : Code} {Q : State → Prop} {D : va_G} {cA : Nat → ClassId} {B0 : Nat} {Z : Nat → Prop}
set_option maxHeartbeats 4000000 in
set_option maxRecDepth 100000 in
theorem t_X7_firstWord_B8 (hC : zC p l s m args meth c cX7_firstWord 4 RX7 D cA B0) (hr : meth.sig.returnType = (Option.some FieldType.int)) {Γ : zSh} {x0 : Nat} {x1 : Int32} {x2 : Int32} {x3 : Int32} {σ : zSt} {out : ((Int32 × zSt) ⊕ ((zSt) ⊕ (Int32 × zSt)))} (hf : f_X7_firstWord_B8 Γ x0 x1 x2 x3 σ = some out) {H : Heap} {locs : List Loc} {ls : Array Slot} (hw : zO D cA B0 Γ σ Z s.heap H locs) (hl : lv_has ls 4 [(0, .ref x0), (1, .int x1), (2, .int x2), (3, .int x3)])
    (kI : ∀ (z3 : Int32) (σ2 : zSt), out = .inl (z3, σ2) → ∀ (H : Heap) (locs : List Loc) (ls : Array Slot), zO D cA B0 Γ σ2 Z s.heap H locs → lv_has ls 4 [(0, .ref x0), (1, .int x1), (2, .int x2), (3, .int z3)] → W p l e rm_X7_firstWord s m args below meth c H locs 0 0 Q (F0 m 8 ls []))
    (kE : ∀ (σ2 : zSt), out = .inr (.inl σ2) → ∀ (H : Heap) (locs : List Loc) (ls : Array Slot), zO D cA B0 Γ σ2 Z s.heap H locs → lv_has ls 4 [] → W p l e rm_X7_firstWord s m args below meth c H locs 0 0 Q (F0 m 39 ls []))
    (kR : ∀ (v : Int32) (σ2 : zSt), out = .inr (.inr (v, σ2)) → ∀ (H : Heap) (locs : List Loc) (ls : Array Slot) (pr : Nat), zO D cA B0 Γ σ2 Z s.heap H locs → decode cX7_firstWord pr = .ok (.ireturn, 1) → W p l e rm_X7_firstWord s m args below meth c H locs 0 0 Q (F0 m pr ls [.int v])) :
    W p l e rm_X7_firstWord s m args below meth c H locs 0 0 Q (F0 m 8 ls []) := by
  have hx := hC.1
  have hb := hC.2.1
  unfold f_X7_firstWord_B8 at hf
  refine lv_iload_n hx hb dX7_firstWord_8 rfl (lv_at hl 3 rfl) ?_
  refine lv_aload_n hx hb dX7_firstWord_9 rfl (lv_at hl 0 rfl) ?_
  obtain ⟨v2, hg, hf⟩ := gfI_inv hf
  refine r_gfI hC hw hg clX7 (Nat.le_of_ble_eq_true rfl) lkF_X7_167 rfl dX7_firstWord_10 ?_
  refine lv_icmp_ge (tgt := 39) hx hb dX7_firstWord_13 (by decide) (fun hc => ?_) (fun hc => ?_)
  · rw [if_pos hc] at hf
    exact kE  σ (Option.some.inj hf).symm _ _ _ hw (lv_sub hl [] rfl)
  · rw [if_neg hc] at hf
    refine lv_aload_n hx hb dX7_firstWord_16 rfl (lv_at hl 0 rfl) ?_
    refine lv_iload_n hx hb dX7_firstWord_17 rfl (lv_at hl 3 rfl) ?_
    refine lv_iload_n hx hb dX7_firstWord_18 rfl (lv_at hl 1 rfl) ?_
    refine lv_iload_n hx hb dX7_firstWord_19 rfl (lv_at hl 2 rfl) ?_
    obtain ⟨ho, hf⟩ := chk_inv hf
    obtain ⟨r4, σ3, hk, hf⟩ := bnd_inv hf
    refine z_callV (As := [.int x3, .int x1, .int x2]) (rest := []) (m_X7_endsBasis hC.2.2.2.2.2.2.2.2 hk) hC hw wd_X7_endsBasis lkM_X7_185 (isO_sh ho) rfl rfl ⟨rfl, rfl⟩ ⟨(Nat.le_of_ble_eq_true rfl), (Nat.le_of_ble_eq_true rfl)⟩ hl.1 rfl (Nat.le_of_ble_eq_true rfl) dX7_firstWord_20 ⟨(Nat.le_of_ble_eq_true rfl), (Nat.le_of_ble_eq_true rfl)⟩ (fun H locs hw => ?_)
    refine lv_if_eq (tgt := 33) hx hb dX7_firstWord_23 (by decide) (fun hc => ?_) (fun hc => ?_)
    · rw [if_pos hc] at hf
      refine lv_iinc (v := (x3 + 1)) (lv' := [(3, .int (x3 + 1)), (0, .ref x0), (1, .int x1), (2, .int x2)]) hx hb dX7_firstWord_33 hl (k := 3) rfl rfl (Nat.le_of_ble_eq_true rfl) rfl (fun ls hl => ?_)
      refine lv_goto (tgt := 8) hx hb dX7_firstWord_36 (by decide) ?_
      exact kI (x3 + 1) σ3 (Option.some.inj hf).symm _ _ _ hw (lv_sub hl [1, 2, 3, 0] rfl)
    · rw [if_neg hc] at hf
      refine lv_aload_n hx hb dX7_firstWord_26 rfl (lv_at hl 0 rfl) ?_
      obtain ⟨v5, hg, hf⟩ := gfR_inv hf
      refine r_gfR hC hw hg clX7 (Nat.le_of_ble_eq_true rfl) lkF_X7_34 rfl dX7_firstWord_27 ?_
      refine lv_iload_n hx hb dX7_firstWord_30 rfl (lv_at hl 3 rfl) ?_
      obtain ⟨v6, hg, hf⟩ := ldI_inv hf
      refine r_ldI hC hw hg dX7_firstWord_31 ?_
      exact kR v6 σ3 (Option.some.inj hf).symm _ _ _ 32 hw dX7_firstWord_32
set_option maxHeartbeats 4000000 in
theorem l_X7_firstWord_B8 (hC : zC p l s m args meth c cX7_firstWord 4 RX7 D cA B0) (hr : meth.sig.returnType = (Option.some FieldType.int)) {Γ : zSh} {x0 : Nat} {x1 : Int32} {x2 : Int32} {out : (zSt) ⊕ (Int32 × zSt)} (kE : ∀ (σ2 : zSt), out = .inl σ2 → ∀ (H : Heap) (locs : List Loc) (ls : Array Slot), zO D cA B0 Γ σ2 Z s.heap H locs → lv_has ls 4 [] → W p l e rm_X7_firstWord s m args below meth c H locs 0 0 Q (F0 m 39 ls []))(kR : ∀ (v : Int32) (σ2 : zSt), out = .inr (v, σ2) → ∀ (H : Heap) (locs : List Loc) (ls : Array Slot) (pr : Nat), zO D cA B0 Γ σ2 Z s.heap H locs → decode cX7_firstWord pr = .ok (.ireturn, 1) → W p l e rm_X7_firstWord s m args below meth c H locs 0 0 Q (F0 m pr ls [.int v])) :
    ∀ (n : Nat) (x3 : Int32) (σ : zSt), loopM (fun q => f_X7_firstWord_B8 Γ x0 x1 x2 q.1 q.2) n (x3, σ) = some out → ∀ (H : Heap) (locs : List Loc) (ls : Array Slot), zO D cA B0 Γ σ Z s.heap H locs → lv_has ls 4 [(0, .ref x0), (1, .int x1), (2, .int x2), (3, .int x3)] → W p l e rm_X7_firstWord s m args below meth c H locs 0 0 Q (F0 m 8 ls []) := by
  intro n
  induction n with
  | zero => intro x3 σ h; exact absurd h (by simp [loopM])
  | succ n ih =>
    intro x3 σ h H locs ls hw hl
    obtain ⟨r, h1, h2, h3⟩ := loopM_inv h
    exact t_X7_firstWord_B8 hC hr h1 hw hl (fun z3 s2 e H locs ls hw hl => ih z3 s2 (h2 _ e) H locs ls hw hl) (fun s2 e => kE s2 (h3 _ e).symm) (fun v s2 e => kR v s2 (h3 _ e).symm)
set_option maxHeartbeats 4000000 in
set_option maxRecDepth 100000 in
theorem m_X7_firstWord (h9 : l.stackTraces = false) {Γ : zSh} {a0 : Nat} {a1 : Int32} {a2 : Int32} {σ : zSt} {r : Int32} {σ2 : zSt} (hf : f_X7_firstWord Γ a0 a1 a2 σ = some (r, σ2)) : Met l yX7_firstWord (wq yX7_firstWord cX7_firstWord 4 (Option.some FieldType.int)) rm_X7_firstWord (zQ0 D cA B0 [.ref a0, .int a1, .int a2] Γ σ Z) (zQ1 D cA B0 (some (.int r)) Γ σ2 Z) 0 0 (FR B0) := by
  refine z_ofW h9 (by decide) (Nat.le_of_ble_eq_true rfl) ?_
  intro p e s m args below meth c ls hC hr _ hw hl
  have hx := hC.1
  have hb := hC.2.1
  have hl : lv_has ls 4 [(0, .ref a0), (1, .int a1), (2, .int a2)] := hl
  unfold f_X7_firstWord at hf
  refine lv_aload_n hx hb dX7_firstWord_0 rfl (lv_at hl 0 rfl) ?_
  refine lv_iload_n hx hb dX7_firstWord_1 rfl (lv_at hl 1 rfl) ?_
  refine lv_iload_n hx hb dX7_firstWord_2 rfl (lv_at hl 2 rfl) ?_
  obtain ⟨ho, hf⟩ := chk_inv hf
  obtain ⟨_, σ1, hk, hf⟩ := bnd_inv hf
  refine z_callV (As := [.int a1, .int a2]) (rest := []) (m_X7_spans hC.2.2.2.2.2.2.2.2 hk) hC hw wd_X7_spans lkM_X7_182 (isO_sh ho) rfl rfl ⟨rfl, rfl⟩ ⟨(Nat.le_of_ble_eq_true rfl), (Nat.le_of_ble_eq_true rfl)⟩ hl.1 rfl (Nat.le_of_ble_eq_true rfl) dX7_firstWord_3 ⟨(Nat.le_of_ble_eq_true rfl), (Nat.le_of_ble_eq_true rfl)⟩ (fun H locs hw => ?_)
  refine lv_iconst (v := 0) hx hb dX7_firstWord_6 (by decide) ?_
  refine lv_istore_n (lv' := [(3, .int 0), (0, .ref a0), (1, .int a1), (2, .int a2)]) hx hb dX7_firstWord_7 rfl hl (Nat.le_of_ble_eq_true rfl) rfl (fun ls hl => ?_)
  obtain ⟨q, hk, hE, hR⟩ := lbr_inv hf
  refine l_X7_firstWord_B8 hC hr (fun σ7 e H locs ls hw hl => ?_) (fun v s9 e H locs ls pr hw hd => ?_) FUEL 0 σ1 hk _ _ _ hw (lv_sub hl [1, 2, 3, 0] rfl)
  · obtain ⟨s8, e2, hf⟩ := lb0_inv (hE _ e)
    cases e2
    refine lv_iconst (v := (-1)) hx hb dX7_firstWord_39 (by decide) ?_
    first | (obtain ⟨rfl, rfl⟩ := sp_inv hf) | (obtain rfl := Option.some.inj hf)
    exact W.iret hx hb hr (z_ret hw rfl) hw.2.2.2.2.2 dX7_firstWord_40 hC.2.2.2.2.2.1
  · have hf := hR _ _ e
    first | (obtain ⟨rfl, rfl⟩ := sp_inv hf) | (obtain rfl := Option.some.inj hf)
    exact W.iret hx hb hr (z_ret hw rfl) hw.2.2.2.2.2 hd hC.2.2.2.2.2.1
set_option maxHeartbeats 4000000 in
set_option maxRecDepth 100000 in
theorem t_X7_first_L23 (hC : zC p l s m args meth c cX7_first 2 RX7 D cA B0) (hr : meth.sig.returnType = (Option.some FieldType.int)) {Γ : zSh} {s0 : Int32} {σ : zSt} {out : (Int32 × zSt)} (hf : f_X7_first_L23 Γ s0 σ = some out) {H : Heap} {locs : List Loc} {ls : Array Slot} (hw : zO D cA B0 Γ σ Z s.heap H locs) (hl : lv_has ls 2 []) :
    W p l e rm_X7_first s m args below meth c H locs 0 0 (MQ below (zQ1 D cA B0 (some (.int out.1)) Γ out.2 Z) args s 0 0 (FR B0)) (F0 m 23 ls [.int s0]) := by
  have hx := hC.1
  have hb := hC.2.1
  unfold f_X7_first_L23 at hf
  first | (obtain ⟨rfl, rfl⟩ := sp_inv hf) | (obtain rfl := Option.some.inj hf)
  exact W.iret hx hb hr (z_ret hw rfl) hw.2.2.2.2.2 dX7_first_23 hC.2.2.2.2.2.1
set_option maxHeartbeats 4000000 in
set_option maxRecDepth 100000 in
theorem m_X7_first (h9 : l.stackTraces = false) {Γ : zSh} {a0 : Nat} {a1 : Int32} {σ : zSt} {r : Int32} {σ2 : zSt} (hf : f_X7_first Γ a0 a1 σ = some (r, σ2)) : Met l yX7_first (wq yX7_first cX7_first 2 (Option.some FieldType.int)) rm_X7_first (zQ0 D cA B0 [.ref a0, .int a1] Γ σ Z) (zQ1 D cA B0 (some (.int r)) Γ σ2 Z) 0 0 (FR B0) := by
  refine z_ofW h9 (by decide) (Nat.le_of_ble_eq_true rfl) ?_
  intro p e s m args below meth c ls hC hr _ hw hl
  have hx := hC.1
  have hb := hC.2.1
  have hl : lv_has ls 2 [(0, .ref a0), (1, .int a1)] := hl
  unfold f_X7_first at hf
  refine lv_aload_n hx hb dX7_first_0 rfl (lv_at hl 0 rfl) ?_
  refine lv_iload_n hx hb dX7_first_1 rfl (lv_at hl 1 rfl) ?_
  obtain ⟨r2, σ1, hk, hf⟩ := bnd_inv hf
  refine z_callS (As := [.int a1]) (rest := [.ref a0]) (m_X7_isSlot hC.2.2.2.2.2.2.2.2 hk) hC hw wd_X7_isSlot lkM_X7_88 rfl ⟨rfl, rfl⟩ ⟨(Nat.le_of_ble_eq_true rfl), (Nat.le_of_ble_eq_true rfl)⟩ hl.1 rfl (Nat.le_of_ble_eq_true rfl) dX7_first_2 ⟨(Nat.le_of_ble_eq_true rfl), (Nat.le_of_ble_eq_true rfl)⟩ (fun H locs hw => ?_)
  refine lv_iconst (v := 1) hx hb dX7_first_5 (by decide) ?_
  refine lv_iconst (v := 1) hx hb dX7_first_6 (by decide) ?_
  obtain ⟨ho, hf⟩ := chk_inv hf
  obtain ⟨r4, σ3, hk, hf⟩ := bnd_inv hf
  refine z_callV (As := [.int r2, .int 1, .int 1]) (rest := []) (m_X7_goes hC.2.2.2.2.2.2.2.2 hk) hC hw wd_X7_goes lkM_X7_94 (isO_sh ho) rfl rfl ⟨rfl, rfl⟩ ⟨(Nat.le_of_ble_eq_true rfl), (Nat.le_of_ble_eq_true rfl)⟩ hl.1 rfl (Nat.le_of_ble_eq_true rfl) dX7_first_7 ⟨(Nat.le_of_ble_eq_true rfl), (Nat.le_of_ble_eq_true rfl)⟩ (fun H locs hw => ?_)
  refine lv_if_eq (tgt := 22) hx hb dX7_first_10 (by decide) (fun hc => ?_) (fun hc => ?_)
  · rw [if_pos hc] at hf
    refine lv_iconst (v := 0) hx hb dX7_first_22 (by decide) ?_
    exact t_X7_first_L23 hC hr hf hw (lv_sub hl [] rfl)
  · rw [if_neg hc] at hf
    refine lv_aload_n hx hb dX7_first_13 rfl (lv_at hl 0 rfl) ?_
    refine lv_iload_n hx hb dX7_first_14 rfl (lv_at hl 1 rfl) ?_
    refine lv_iconst (v := (-1)) hx hb dX7_first_15 (by decide) ?_
    obtain ⟨ho, hf⟩ := chk_inv hf
    obtain ⟨r6, σ5, hk, hf⟩ := bnd_inv hf
    refine z_callV (As := [.int a1, .int (-1)]) (rest := []) (m_X7_firstWord hC.2.2.2.2.2.2.2.2 hk) hC hw wd_X7_firstWord lkM_X7_189 (isO_sh ho) rfl rfl ⟨rfl, rfl⟩ ⟨(Nat.le_of_ble_eq_true rfl), (Nat.le_of_ble_eq_true rfl)⟩ hl.1 rfl (Nat.le_of_ble_eq_true rfl) dX7_first_16 ⟨(Nat.le_of_ble_eq_true rfl), (Nat.le_of_ble_eq_true rfl)⟩ (fun H locs hw => ?_)
    refine lv_goto (tgt := 23) hx hb dX7_first_19 (by decide) ?_
    exact t_X7_first_L23 hC hr hf hw (lv_sub hl [] rfl)
set_option maxHeartbeats 4000000 in
set_option maxRecDepth 100000 in
theorem t_X7_differing_L38 (hC : zC p l s m args meth c cX7_differing 3 RX7 D cA B0) (hr : meth.sig.returnType = (Option.some FieldType.int)) {Γ : zSh} {s0 : Int32} {σ : zSt} {out : (Int32 × zSt)} (hf : f_X7_differing_L38 Γ s0 σ = some out) {H : Heap} {locs : List Loc} {ls : Array Slot} (hw : zO D cA B0 Γ σ Z s.heap H locs) (hl : lv_has ls 3 []) :
    W p l e rm_X7_differing s m args below meth c H locs 0 0 (MQ below (zQ1 D cA B0 (some (.int out.1)) Γ out.2 Z) args s 0 0 (FR B0)) (F0 m 38 ls [.int s0]) := by
  have hx := hC.1
  have hb := hC.2.1
  unfold f_X7_differing_L38 at hf
  first | (obtain ⟨rfl, rfl⟩ := sp_inv hf) | (obtain rfl := Option.some.inj hf)
  exact W.iret hx hb hr (z_ret hw rfl) hw.2.2.2.2.2 dX7_differing_38 hC.2.2.2.2.2.1
set_option maxHeartbeats 4000000 in
set_option maxRecDepth 100000 in
theorem t_X7_differing_L20 (hC : zC p l s m args meth c cX7_differing 3 RX7 D cA B0) (hr : meth.sig.returnType = (Option.some FieldType.int)) {Γ : zSh} {x0 : Nat} {x1 : Int32} {x2 : Int32} {s0 : Int32} {s1 : Nat} {σ : zSt} {out : (Int32 × zSt)} (hf : f_X7_differing_L20 Γ x0 x1 x2 s0 s1 σ = some out) {H : Heap} {locs : List Loc} {ls : Array Slot} (hw : zO D cA B0 Γ σ Z s.heap H locs) (hl : lv_has ls 3 [(0, .ref x0), (1, .int x1), (2, .int x2)]) :
    W p l e rm_X7_differing s m args below meth c H locs 0 0 (MQ below (zQ1 D cA B0 (some (.int out.1)) Γ out.2 Z) args s 0 0 (FR B0)) (F0 m 20 ls [.int s0, .ref s1]) := by
  have hx := hC.1
  have hb := hC.2.1
  unfold f_X7_differing_L20 at hf
  refine lv_iconst (v := 1) hx hb dX7_differing_20 (by decide) ?_
  refine lv_iconst (v := 1) hx hb dX7_differing_21 (by decide) ?_
  obtain ⟨ho, hf⟩ := chk_inv hf
  obtain ⟨r4, σ3, hk, hf⟩ := bnd_inv hf
  refine z_callV (As := [.int s0, .int 1, .int 1]) (rest := []) (m_X7_goes hC.2.2.2.2.2.2.2.2 hk) hC hw wd_X7_goes lkM_X7_94 (isO_sh ho) rfl rfl ⟨rfl, rfl⟩ ⟨(Nat.le_of_ble_eq_true rfl), (Nat.le_of_ble_eq_true rfl)⟩ hl.1 rfl (Nat.le_of_ble_eq_true rfl) dX7_differing_22 ⟨(Nat.le_of_ble_eq_true rfl), (Nat.le_of_ble_eq_true rfl)⟩ (fun H locs hw => ?_)
  refine lv_if_eq (tgt := 37) hx hb dX7_differing_25 (by decide) (fun hc => ?_) (fun hc => ?_)
  · rw [if_pos hc] at hf
    refine lv_iconst (v := 0) hx hb dX7_differing_37 (by decide) ?_
    exact t_X7_differing_L38 hC hr hf hw (lv_sub hl [] rfl)
  · rw [if_neg hc] at hf
    refine lv_aload_n hx hb dX7_differing_28 rfl (lv_at hl 0 rfl) ?_
    refine lv_iload_n hx hb dX7_differing_29 rfl (lv_at hl 1 rfl) ?_
    refine lv_iload_n hx hb dX7_differing_30 rfl (lv_at hl 2 rfl) ?_
    obtain ⟨ho, hf⟩ := chk_inv hf
    obtain ⟨r6, σ5, hk, hf⟩ := bnd_inv hf
    refine z_callV (As := [.int x1, .int x2]) (rest := []) (m_X7_firstWord hC.2.2.2.2.2.2.2.2 hk) hC hw wd_X7_firstWord lkM_X7_189 (isO_sh ho) rfl rfl ⟨rfl, rfl⟩ ⟨(Nat.le_of_ble_eq_true rfl), (Nat.le_of_ble_eq_true rfl)⟩ hl.1 rfl (Nat.le_of_ble_eq_true rfl) dX7_differing_31 ⟨(Nat.le_of_ble_eq_true rfl), (Nat.le_of_ble_eq_true rfl)⟩ (fun H locs hw => ?_)
    refine lv_goto (tgt := 38) hx hb dX7_differing_34 (by decide) ?_
    exact t_X7_differing_L38 hC hr hf hw (lv_sub hl [] rfl)
set_option maxHeartbeats 4000000 in
set_option maxRecDepth 100000 in
theorem t_X7_differing_L19 (hC : zC p l s m args meth c cX7_differing 3 RX7 D cA B0) (hr : meth.sig.returnType = (Option.some FieldType.int)) {Γ : zSh} {x0 : Nat} {x1 : Int32} {x2 : Int32} {s0 : Nat} {σ : zSt} {out : (Int32 × zSt)} (hf : f_X7_differing_L19 Γ x0 x1 x2 s0 σ = some out) {H : Heap} {locs : List Loc} {ls : Array Slot} (hw : zO D cA B0 Γ σ Z s.heap H locs) (hl : lv_has ls 3 [(0, .ref x0), (1, .int x1), (2, .int x2)]) :
    W p l e rm_X7_differing s m args below meth c H locs 0 0 (MQ below (zQ1 D cA B0 (some (.int out.1)) Γ out.2 Z) args s 0 0 (FR B0)) (F0 m 19 ls [.ref s0]) := by
  have hx := hC.1
  have hb := hC.2.1
  unfold f_X7_differing_L19 at hf
  refine lv_iconst (v := 0) hx hb dX7_differing_19 (by decide) ?_
  exact t_X7_differing_L20 hC hr hf hw (lv_sub hl [0, 1, 2] rfl)
set_option maxHeartbeats 4000000 in
set_option maxRecDepth 100000 in
theorem m_X7_differing (h9 : l.stackTraces = false) {Γ : zSh} {a0 : Nat} {a1 : Int32} {a2 : Int32} {σ : zSt} {r : Int32} {σ2 : zSt} (hf : f_X7_differing Γ a0 a1 a2 σ = some (r, σ2)) : Met l yX7_differing (wq yX7_differing cX7_differing 3 (Option.some FieldType.int)) rm_X7_differing (zQ0 D cA B0 [.ref a0, .int a1, .int a2] Γ σ Z) (zQ1 D cA B0 (some (.int r)) Γ σ2 Z) 0 0 (FR B0) := by
  refine z_ofW h9 (by decide) (Nat.le_of_ble_eq_true rfl) ?_
  intro p e s m args below meth c ls hC hr _ hw hl
  have hx := hC.1
  have hb := hC.2.1
  have hl : lv_has ls 3 [(0, .ref a0), (1, .int a1), (2, .int a2)] := hl
  unfold f_X7_differing at hf
  refine lv_aload_n hx hb dX7_differing_0 rfl (lv_at hl 0 rfl) ?_
  refine lv_iload_n hx hb dX7_differing_1 rfl (lv_at hl 1 rfl) ?_
  obtain ⟨r2, σ1, hk, hf⟩ := bnd_inv hf
  refine z_callS (As := [.int a1]) (rest := [.ref a0]) (m_X7_isSlot hC.2.2.2.2.2.2.2.2 hk) hC hw wd_X7_isSlot lkM_X7_88 rfl ⟨rfl, rfl⟩ ⟨(Nat.le_of_ble_eq_true rfl), (Nat.le_of_ble_eq_true rfl)⟩ hl.1 rfl (Nat.le_of_ble_eq_true rfl) dX7_differing_2 ⟨(Nat.le_of_ble_eq_true rfl), (Nat.le_of_ble_eq_true rfl)⟩ (fun H locs hw => ?_)
  refine lv_if_eq (tgt := 19) hx hb dX7_differing_5 (by decide) (fun hc => ?_) (fun hc => ?_)
  · rw [if_pos hc] at hf
    exact t_X7_differing_L19 hC hr hf hw (lv_sub hl [0, 1, 2] rfl)
  · rw [if_neg hc] at hf
    refine lv_iload_n hx hb dX7_differing_8 rfl (lv_at hl 2 rfl) ?_
    obtain ⟨r8, σ7, hk, hf⟩ := bnd_inv hf
    refine z_callS (As := [.int a2]) (rest := [.ref a0]) (m_X7_isSlot hC.2.2.2.2.2.2.2.2 hk) hC hw wd_X7_isSlot lkM_X7_88 rfl ⟨rfl, rfl⟩ ⟨(Nat.le_of_ble_eq_true rfl), (Nat.le_of_ble_eq_true rfl)⟩ hl.1 rfl (Nat.le_of_ble_eq_true rfl) dX7_differing_9 ⟨(Nat.le_of_ble_eq_true rfl), (Nat.le_of_ble_eq_true rfl)⟩ (fun H locs hw => ?_)
    refine lv_if_eq (tgt := 19) hx hb dX7_differing_12 (by decide) (fun hc => ?_) (fun hc => ?_)
    · rw [if_pos hc] at hf
      exact t_X7_differing_L19 hC hr hf hw (lv_sub hl [0, 1, 2] rfl)
    · rw [if_neg hc] at hf
      refine lv_iconst (v := 1) hx hb dX7_differing_15 (by decide) ?_
      refine lv_goto (tgt := 20) hx hb dX7_differing_16 (by decide) ?_
      exact t_X7_differing_L20 hC hr hf hw (lv_sub hl [0, 1, 2] rfl)
set_option maxHeartbeats 4000000 in
set_option maxRecDepth 100000 in
theorem t_X7_forwards_B102 (hC : zC p l s m args meth c cX7_forwards 7 RX7 D cA B0) (hr : meth.sig.returnType = (Option.none : Option Jvm.ClassFile.FieldType)) {Γ : zSh} {x0 : Nat} {x1 : Int32} {x2 : Int32} {x3 : Int32} {x4 : Int32} {x6 : Int32} {σ : zSt} {out : ((Int32 × zSt) ⊕ (zSt))} (hf : f_X7_forwards_B102 Γ x0 x1 x2 x3 x4 x6 σ = some out) {H : Heap} {locs : List Loc} {ls : Array Slot} (hw : zO D cA B0 Γ σ Z s.heap H locs) (hl : lv_has ls 7 [(0, .ref x0), (1, .int x1), (2, .int x2), (3, .int x3), (4, .int x4), (6, .int x6)])
    (kI : ∀ (z6 : Int32) (σ2 : zSt), out = .inl (z6, σ2) → ∀ (H : Heap) (locs : List Loc) (ls : Array Slot), zO D cA B0 Γ σ2 Z s.heap H locs → lv_has ls 7 [(0, .ref x0), (1, .int x1), (2, .int x2), (3, .int x3), (4, .int x4), (6, .int z6)] → W p l e rm_X7_forwards s m args below meth c H locs 0 0 Q (F0 m 102 ls []))
    (kE : ∀ (σ2 : zSt), out = .inr σ2 → ∀ (H : Heap) (locs : List Loc) (ls : Array Slot), zO D cA B0 Γ σ2 Z s.heap H locs → lv_has ls 7 [(0, .ref x0), (1, .int x1), (2, .int x2), (3, .int x3), (4, .int x4)] → W p l e rm_X7_forwards s m args below meth c H locs 0 0 Q (F0 m 138 ls [])) :
    W p l e rm_X7_forwards s m args below meth c H locs 0 0 Q (F0 m 102 ls []) := by
  have hx := hC.1
  have hb := hC.2.1
  unfold f_X7_forwards_B102 at hf
  refine lv_iload hx hb dX7_forwards_102 (lv_at hl 5 rfl) ?_
  refine lv_aload_n hx hb dX7_forwards_104 rfl (lv_at hl 0 rfl) ?_
  obtain ⟨v23, hg, hf⟩ := gfI_inv hf
  refine r_gfI hC hw hg clX7 (Nat.le_of_ble_eq_true rfl) lkF_X7_167 rfl dX7_forwards_105 ?_
  refine lv_icmp_ge (tgt := 138) hx hb dX7_forwards_108 (by decide) (fun hc => ?_) (fun hc => ?_)
  · rw [if_pos hc] at hf
    exact kE  σ (Option.some.inj hf).symm _ _ _ hw (lv_sub hl [0, 1, 2, 3, 4] rfl)
  · rw [if_neg hc] at hf
    refine lv_aload_n hx hb dX7_forwards_111 rfl (lv_at hl 0 rfl) ?_
    obtain ⟨v24, hg, hf⟩ := gfR_inv hf
    refine r_gfR hC hw hg clX7 (Nat.le_of_ble_eq_true rfl) lkF_X7_7 rfl dX7_forwards_112 ?_
    refine lv_iload_n hx hb dX7_forwards_115 rfl (lv_at hl 2 rfl) ?_
    refine lv_iload hx hb dX7_forwards_116 (lv_at hl 4 rfl) ?_
    refine lv_iload_n hx hb dX7_forwards_118 rfl (lv_at hl 3 rfl) ?_
    refine lv_iload hx hb dX7_forwards_119 (lv_at hl 5 rfl) ?_
    obtain ⟨r26, σ25, hk, hf⟩ := bnd_inv hf
    refine z_callS (As := [.int x2, .int x4, .int x3, .int x6]) (rest := [.ref v24]) (m_X7_at hC.2.2.2.2.2.2.2.2 hk) hC hw wd_X7_at lkM_X7_116 rfl ⟨rfl, rfl⟩ ⟨(Nat.le_of_ble_eq_true rfl), (Nat.le_of_ble_eq_true rfl)⟩ hl.1 rfl (Nat.le_of_ble_eq_true rfl) dX7_forwards_121 ⟨(Nat.le_of_ble_eq_true rfl), (Nat.le_of_ble_eq_true rfl)⟩ (fun H locs hw => ?_)
    refine lv_aload_n hx hb dX7_forwards_124 rfl (lv_at hl 0 rfl) ?_
    obtain ⟨v27, hg, hf⟩ := gfR_inv hf
    refine r_gfR hC hw hg clX7 (Nat.le_of_ble_eq_true rfl) lkF_X7_40 rfl dX7_forwards_125 ?_
    refine lv_iload hx hb dX7_forwards_128 (lv_at hl 5 rfl) ?_
    obtain ⟨v28, hg, hf⟩ := ldI_inv hf
    refine r_ldI hC hw hg dX7_forwards_130 ?_
    obtain ⟨σ29, hg, hf⟩ := stI_inv hf
    refine r_stI hC hw hg dX7_forwards_131 (fun H locs hw => ?_)
    refine lv_iinc (v := (x6 + 1)) (lv' := [(6, .int (x6 + 1)), (0, .ref x0), (1, .int x1), (2, .int x2), (3, .int x3), (4, .int x4)]) hx hb dX7_forwards_132 hl (k := 5) rfl rfl (Nat.le_of_ble_eq_true rfl) rfl (fun ls hl => ?_)
    refine lv_goto (tgt := 102) hx hb dX7_forwards_135 (by decide) ?_
    exact kI (x6 + 1) σ29 (Option.some.inj hf).symm _ _ _ hw (lv_sub hl [1, 2, 3, 4, 5, 0] rfl)
set_option maxHeartbeats 4000000 in
theorem l_X7_forwards_B102 (hC : zC p l s m args meth c cX7_forwards 7 RX7 D cA B0) (hr : meth.sig.returnType = (Option.none : Option Jvm.ClassFile.FieldType)) {Γ : zSh} {x0 : Nat} {x1 : Int32} {x2 : Int32} {x3 : Int32} {x4 : Int32} {σ2 : zSt} (kE : ∀ (H : Heap) (locs : List Loc) (ls : Array Slot), zO D cA B0 Γ σ2 Z s.heap H locs → lv_has ls 7 [(0, .ref x0), (1, .int x1), (2, .int x2), (3, .int x3), (4, .int x4)] → W p l e rm_X7_forwards s m args below meth c H locs 0 0 Q (F0 m 138 ls [])) :
    ∀ (n : Nat) (x6 : Int32) (σ : zSt), loopM (fun q => f_X7_forwards_B102 Γ x0 x1 x2 x3 x4 q.1 q.2) n (x6, σ) = some σ2 → ∀ (H : Heap) (locs : List Loc) (ls : Array Slot), zO D cA B0 Γ σ Z s.heap H locs → lv_has ls 7 [(0, .ref x0), (1, .int x1), (2, .int x2), (3, .int x3), (4, .int x4), (6, .int x6)] → W p l e rm_X7_forwards s m args below meth c H locs 0 0 Q (F0 m 102 ls []) := by
  intro n
  induction n with
  | zero => intro x6 σ h; exact absurd h (by simp [loopM])
  | succ n ih =>
    intro x6 σ h H locs ls hw hl
    obtain ⟨r, h1, h2, h3⟩ := loopM_inv h
    exact t_X7_forwards_B102 hC hr h1 hw hl (fun z6 s2 e H locs ls hw hl => ih z6 s2 (h2 _ e) H locs ls hw hl) (fun s2 e H locs ls hw hl => by cases h3 _ e; exact kE H locs ls hw hl)
set_option maxHeartbeats 4000000 in
set_option maxRecDepth 100000 in
theorem t_X7_forwards_B64 (hC : zC p l s m args meth c cX7_forwards 7 RX7 D cA B0) (hr : meth.sig.returnType = (Option.none : Option Jvm.ClassFile.FieldType)) {Γ : zSh} {x0 : Nat} {x1 : Int32} {x2 : Int32} {x3 : Int32} {x4 : Int32} {σ : zSt} {out : ((Int32 × zSt) ⊕ (zSt))} (hf : f_X7_forwards_B64 Γ x0 x1 x2 x3 x4 σ = some out) {H : Heap} {locs : List Loc} {ls : Array Slot} (hw : zO D cA B0 Γ σ Z s.heap H locs) (hl : lv_has ls 7 [(0, .ref x0), (1, .int x1), (2, .int x2), (3, .int x3), (4, .int x4)])
    (kI : ∀ (z4 : Int32) (σ2 : zSt), out = .inl (z4, σ2) → ∀ (H : Heap) (locs : List Loc) (ls : Array Slot), zO D cA B0 Γ σ2 Z s.heap H locs → lv_has ls 7 [(0, .ref x0), (1, .int x1), (2, .int x2), (3, .int x3), (4, .int z4)] → W p l e rm_X7_forwards s m args below meth c H locs 0 0 Q (F0 m 64 ls []))
    (kE : ∀ (σ2 : zSt), out = .inr σ2 → ∀ (H : Heap) (locs : List Loc) (ls : Array Slot), zO D cA B0 Γ σ2 Z s.heap H locs → lv_has ls 7 [(0, .ref x0), (1, .int x1), (2, .int x2), (3, .int x3)] → W p l e rm_X7_forwards s m args below meth c H locs 0 0 Q (F0 m 144 ls [])) :
    W p l e rm_X7_forwards s m args below meth c H locs 0 0 Q (F0 m 64 ls []) := by
  have hx := hC.1
  have hb := hC.2.1
  unfold f_X7_forwards_B64 at hf
  refine lv_iload hx hb dX7_forwards_64 (lv_at hl 4 rfl) ?_
  refine lv_iconst (v := 2) hx hb dX7_forwards_66 (by decide) ?_
  refine lv_icmp_ge (tgt := 144) hx hb dX7_forwards_67 (by decide) (fun hc => ?_) (fun hc => ?_)
  · rw [if_pos hc] at hf
    exact kE  σ (Option.some.inj hf).symm _ _ _ hw (lv_sub hl [0, 1, 2, 3] rfl)
  · rw [if_neg hc] at hf
    refine lv_aload_n hx hb dX7_forwards_70 rfl (lv_at hl 0 rfl) ?_
    refine lv_iload_n hx hb dX7_forwards_71 rfl (lv_at hl 3 rfl) ?_
    refine lv_aload_n hx hb dX7_forwards_72 rfl (lv_at hl 0 rfl) ?_
    refine lv_iload_n hx hb dX7_forwards_73 rfl (lv_at hl 1 rfl) ?_
    obtain ⟨ho, hf⟩ := chk_inv hf
    obtain ⟨r16, σ15, hk, hf⟩ := bnd_inv hf
    refine z_callV (As := [.int x1]) (rest := [.int x3, .ref x0]) (m_X7_many hC.2.2.2.2.2.2.2.2 hk) hC hw wd_X7_many lkM_X7_78 (isO_sh ho) rfl rfl ⟨rfl, rfl⟩ ⟨(Nat.le_of_ble_eq_true rfl), (Nat.le_of_ble_eq_true rfl)⟩ hl.1 rfl (Nat.le_of_ble_eq_true rfl) dX7_forwards_74 ⟨(Nat.le_of_ble_eq_true rfl), (Nat.le_of_ble_eq_true rfl)⟩ (fun H locs hw => ?_)
    obtain ⟨ho, hf⟩ := chk_inv hf
    obtain ⟨_, σ17, hk, hf⟩ := bnd_inv hf
    refine z_callV (As := [.int x3, .int r16]) (rest := []) (m_X7_laysBasis hC.2.2.2.2.2.2.2.2 hk) hC hw wd_X7_laysBasis lkM_X7_179 (isO_sh ho) rfl rfl ⟨rfl, rfl⟩ ⟨(Nat.le_of_ble_eq_true rfl), (Nat.le_of_ble_eq_true rfl)⟩ hl.1 rfl (Nat.le_of_ble_eq_true rfl) dX7_forwards_77 ⟨(Nat.le_of_ble_eq_true rfl), (Nat.le_of_ble_eq_true rfl)⟩ (fun H locs hw => ?_)
    refine lv_aload_n hx hb dX7_forwards_80 rfl (lv_at hl 0 rfl) ?_
    refine lv_iload_n hx hb dX7_forwards_81 rfl (lv_at hl 1 rfl) ?_
    refine lv_iconst (v := 0) hx hb dX7_forwards_82 (by decide) ?_
    refine lv_iload hx hb dX7_forwards_83 (lv_at hl 4 rfl) ?_
    obtain ⟨ho, hf⟩ := chk_inv hf
    obtain ⟨_, σ18, hk, hf⟩ := bnd_inv hf
    refine z_callV (As := [.int x1, .int 0, .int x4]) (rest := []) (m_X7_passes hC.2.2.2.2.2.2.2.2 hk) hC hw wd_X7_passes lkM_X7_143 (isO_sh ho) rfl rfl ⟨rfl, rfl⟩ ⟨(Nat.le_of_ble_eq_true rfl), (Nat.le_of_ble_eq_true rfl)⟩ hl.1 rfl (Nat.le_of_ble_eq_true rfl) dX7_forwards_85 ⟨(Nat.le_of_ble_eq_true rfl), (Nat.le_of_ble_eq_true rfl)⟩ (fun H locs hw => ?_)
    refine lv_aload_n hx hb dX7_forwards_88 rfl (lv_at hl 0 rfl) ?_
    refine lv_aload_n hx hb dX7_forwards_89 rfl (lv_at hl 0 rfl) ?_
    refine lv_iload_n hx hb dX7_forwards_90 rfl (lv_at hl 1 rfl) ?_
    obtain ⟨ho, hf⟩ := chk_inv hf
    obtain ⟨r20, σ19, hk, hf⟩ := bnd_inv hf
    refine z_callV (As := [.int x1]) (rest := [.ref x0]) (m_X7_many hC.2.2.2.2.2.2.2.2 hk) hC hw wd_X7_many lkM_X7_78 (isO_sh ho) rfl rfl ⟨rfl, rfl⟩ ⟨(Nat.le_of_ble_eq_true rfl), (Nat.le_of_ble_eq_true rfl)⟩ hl.1 rfl (Nat.le_of_ble_eq_true rfl) dX7_forwards_91 ⟨(Nat.le_of_ble_eq_true rfl), (Nat.le_of_ble_eq_true rfl)⟩ (fun H locs hw => ?_)
    obtain ⟨ho, hf⟩ := chk_inv hf
    obtain ⟨r22, σ21, hk, hf⟩ := bnd_inv hf
    refine z_callV (As := [.int r20]) (rest := []) (m_X7_reduces hC.2.2.2.2.2.2.2.2 hk) hC hw wd_X7_reduces lkM_X7_170 (isO_sh ho) rfl rfl ⟨rfl, rfl⟩ ⟨(Nat.le_of_ble_eq_true rfl), (Nat.le_of_ble_eq_true rfl)⟩ hl.1 rfl (Nat.le_of_ble_eq_true rfl) dX7_forwards_94 ⟨(Nat.le_of_ble_eq_true rfl), (Nat.le_of_ble_eq_true rfl)⟩ (fun H locs hw => ?_)
    refine lv_istore (lv' := [(5, .int r22), (0, .ref x0), (1, .int x1), (2, .int x2), (3, .int x3), (4, .int x4)]) hx hb dX7_forwards_97 hl (Nat.le_of_ble_eq_true rfl) rfl (fun ls hl => ?_)
    refine lv_iconst (v := 0) hx hb dX7_forwards_99 (by decide) ?_
    refine lv_istore (lv' := [(6, .int 0), (5, .int r22), (0, .ref x0), (1, .int x1), (2, .int x2), (3, .int x3), (4, .int x4)]) hx hb dX7_forwards_100 hl (Nat.le_of_ble_eq_true rfl) rfl (fun ls hl => ?_)
    obtain ⟨σ30, hk, hf⟩ := lb0_inv hf
    refine l_X7_forwards_B102 hC hr (fun H locs ls hw hl => ?_) FUEL 0 σ21 hk _ _ _ hw (lv_sub hl [2, 3, 4, 5, 6, 0] rfl)
    refine lv_iinc (v := (x4 + 1)) (lv' := [(4, .int (x4 + 1)), (0, .ref x0), (1, .int x1), (2, .int x2), (3, .int x3)]) hx hb dX7_forwards_138 hl (k := 4) rfl rfl (Nat.le_of_ble_eq_true rfl) rfl (fun ls hl => ?_)
    refine lv_goto (tgt := 64) hx hb dX7_forwards_141 (by decide) ?_
    exact kI (x4 + 1) σ30 (Option.some.inj hf).symm _ _ _ hw (lv_sub hl [1, 2, 3, 4, 0] rfl)
set_option maxHeartbeats 4000000 in
theorem l_X7_forwards_B64 (hC : zC p l s m args meth c cX7_forwards 7 RX7 D cA B0) (hr : meth.sig.returnType = (Option.none : Option Jvm.ClassFile.FieldType)) {Γ : zSh} {x0 : Nat} {x1 : Int32} {x2 : Int32} {x3 : Int32} {σ2 : zSt} (kE : ∀ (H : Heap) (locs : List Loc) (ls : Array Slot), zO D cA B0 Γ σ2 Z s.heap H locs → lv_has ls 7 [(0, .ref x0), (1, .int x1), (2, .int x2), (3, .int x3)] → W p l e rm_X7_forwards s m args below meth c H locs 0 0 Q (F0 m 144 ls [])) :
    ∀ (n : Nat) (x4 : Int32) (σ : zSt), loopM (fun q => f_X7_forwards_B64 Γ x0 x1 x2 x3 q.1 q.2) n (x4, σ) = some σ2 → ∀ (H : Heap) (locs : List Loc) (ls : Array Slot), zO D cA B0 Γ σ Z s.heap H locs → lv_has ls 7 [(0, .ref x0), (1, .int x1), (2, .int x2), (3, .int x3), (4, .int x4)] → W p l e rm_X7_forwards s m args below meth c H locs 0 0 Q (F0 m 64 ls []) := by
  intro n
  induction n with
  | zero => intro x4 σ h; exact absurd h (by simp [loopM])
  | succ n ih =>
    intro x4 σ h H locs ls hw hl
    obtain ⟨r, h1, h2, h3⟩ := loopM_inv h
    exact t_X7_forwards_B64 hC hr h1 hw hl (fun z4 s2 e H locs ls hw hl => ih z4 s2 (h2 _ e) H locs ls hw hl) (fun s2 e H locs ls hw hl => by cases h3 _ e; exact kE H locs ls hw hl)
set_option maxHeartbeats 4000000 in
set_option maxRecDepth 100000 in
theorem t_X7_forwards_B17_L43 (hC : zC p l s m args meth c cX7_forwards 7 RX7 D cA B0) (hr : meth.sig.returnType = (Option.none : Option Jvm.ClassFile.FieldType)) {Γ : zSh} {x0 : Nat} {x1 : Int32} {x2 : Int32} {x3 : Int32} {s0 : Int32} {s1 : Int32} {s2 : Nat}  {σ : zSt} {out : ((Int32 × zSt) ⊕ (zSt))} (hf : f_X7_forwards_B17_L43 Γ x0 x1 x2 x3 s0 s1 s2 σ = some out) {H : Heap} {locs : List Loc} {ls : Array Slot} (hw : zO D cA B0 Γ σ Z s.heap H locs) (hl : lv_has ls 7 [(0, .ref x0), (1, .int x1), (2, .int x2), (3, .int x3)])
    (kI : ∀ (z3 : Int32) (σ2 : zSt), out = .inl (z3, σ2) → ∀ (H : Heap) (locs : List Loc) (ls : Array Slot), zO D cA B0 Γ σ2 Z s.heap H locs → lv_has ls 7 [(0, .ref x0), (1, .int x1), (2, .int x2), (3, .int z3)] → W p l e rm_X7_forwards s m args below meth c H locs 0 0 Q (F0 m 17 ls []))
    (kE : ∀ (σ2 : zSt), out = .inr σ2 → ∀ (H : Heap) (locs : List Loc) (ls : Array Slot), zO D cA B0 Γ σ2 Z s.heap H locs → lv_has ls 7 [] → W p l e rm_X7_forwards s m args below meth c H locs 0 0 Q (F0 m 150 ls [])) :
    W p l e rm_X7_forwards s m args below meth c H locs 0 0 Q (F0 m 43 ls [.int s0, .int s1, .ref s2]) := by
  have hx := hC.1
  have hb := hC.2.1
  unfold f_X7_forwards_B17_L43 at hf
  obtain ⟨σ8, hg, hf⟩ := stI_inv hf
  refine r_stI hC hw hg dX7_forwards_43 (fun H locs hw => ?_)
  refine lv_aload_n hx hb dX7_forwards_44 rfl (lv_at hl 0 rfl) ?_
  obtain ⟨v9, hg, hf⟩ := gfR_inv hf
  refine r_gfR hC hw hg clX7 (Nat.le_of_ble_eq_true rfl) lkF_X7_7 rfl dX7_forwards_45 ?_
  refine lv_iload_n hx hb dX7_forwards_48 rfl (lv_at hl 2 rfl) ?_
  refine lv_iload_n hx hb dX7_forwards_49 rfl (lv_at hl 3 rfl) ?_
  obtain ⟨r11, σ10, hk, hf⟩ := bnd_inv hf
  refine z_callS (As := [.int x2, .int x3]) (rest := [.ref v9]) (m_X7_finalAt hC.2.2.2.2.2.2.2.2 hk) hC hw wd_X7_finalAt lkM_X7_85 rfl ⟨rfl, rfl⟩ ⟨(Nat.le_of_ble_eq_true rfl), (Nat.le_of_ble_eq_true rfl)⟩ hl.1 rfl (Nat.le_of_ble_eq_true rfl) dX7_forwards_50 ⟨(Nat.le_of_ble_eq_true rfl), (Nat.le_of_ble_eq_true rfl)⟩ (fun H locs hw => ?_)
  refine lv_aload_n hx hb dX7_forwards_53 rfl (lv_at hl 0 rfl) ?_
  refine lv_iload_n hx hb dX7_forwards_54 rfl (lv_at hl 3 rfl) ?_
  refine lv_iload_n hx hb dX7_forwards_55 rfl (lv_at hl 1 rfl) ?_
  refine lv_iconst (v := (-1)) hx hb dX7_forwards_56 (by decide) ?_
  obtain ⟨ho, hf⟩ := chk_inv hf
  obtain ⟨r13, σ12, hk, hf⟩ := bnd_inv hf
  refine z_callV (As := [.int x3, .int x1, .int (-1)]) (rest := [.int r11, .ref v9]) (m_X7_endsBasis hC.2.2.2.2.2.2.2.2 hk) hC hw wd_X7_endsBasis lkM_X7_185 (isO_sh ho) rfl rfl ⟨rfl, rfl⟩ ⟨(Nat.le_of_ble_eq_true rfl), (Nat.le_of_ble_eq_true rfl)⟩ hl.1 rfl (Nat.le_of_ble_eq_true rfl) dX7_forwards_57 ⟨(Nat.le_of_ble_eq_true rfl), (Nat.le_of_ble_eq_true rfl)⟩ (fun H locs hw => ?_)
  obtain ⟨σ14, hg, hf⟩ := stI_inv hf
  refine r_stI hC hw hg dX7_forwards_60 (fun H locs hw => ?_)
  refine lv_iconst (v := 0) hx hb dX7_forwards_61 (by decide) ?_
  refine lv_istore (lv' := [(4, .int 0), (0, .ref x0), (1, .int x1), (2, .int x2), (3, .int x3)]) hx hb dX7_forwards_62 hl (Nat.le_of_ble_eq_true rfl) rfl (fun ls hl => ?_)
  obtain ⟨σ31, hk, hf⟩ := lb0_inv hf
  refine l_X7_forwards_B64 hC hr (fun H locs ls hw hl => ?_) FUEL 0 σ14 hk _ _ _ hw (lv_sub hl [1, 2, 3, 4, 0] rfl)
  refine lv_iinc (v := (x3 + 1)) (lv' := [(3, .int (x3 + 1)), (0, .ref x0), (1, .int x1), (2, .int x2)]) hx hb dX7_forwards_144 hl (k := 3) rfl rfl (Nat.le_of_ble_eq_true rfl) rfl (fun ls hl => ?_)
  refine lv_goto (tgt := 17) hx hb dX7_forwards_147 (by decide) ?_
  exact kI (x3 + 1) σ31 (Option.some.inj hf).symm _ _ _ hw (lv_sub hl [1, 2, 3, 0] rfl)
set_option maxHeartbeats 4000000 in
set_option maxRecDepth 100000 in
theorem t_X7_forwards_B17 (hC : zC p l s m args meth c cX7_forwards 7 RX7 D cA B0) (hr : meth.sig.returnType = (Option.none : Option Jvm.ClassFile.FieldType)) {Γ : zSh} {x0 : Nat} {x1 : Int32} {x2 : Int32} {x3 : Int32} {σ : zSt} {out : ((Int32 × zSt) ⊕ (zSt))} (hf : f_X7_forwards_B17 Γ x0 x1 x2 x3 σ = some out) {H : Heap} {locs : List Loc} {ls : Array Slot} (hw : zO D cA B0 Γ σ Z s.heap H locs) (hl : lv_has ls 7 [(0, .ref x0), (1, .int x1), (2, .int x2), (3, .int x3)])
    (kI : ∀ (z3 : Int32) (σ2 : zSt), out = .inl (z3, σ2) → ∀ (H : Heap) (locs : List Loc) (ls : Array Slot), zO D cA B0 Γ σ2 Z s.heap H locs → lv_has ls 7 [(0, .ref x0), (1, .int x1), (2, .int x2), (3, .int z3)] → W p l e rm_X7_forwards s m args below meth c H locs 0 0 Q (F0 m 17 ls []))
    (kE : ∀ (σ2 : zSt), out = .inr σ2 → ∀ (H : Heap) (locs : List Loc) (ls : Array Slot), zO D cA B0 Γ σ2 Z s.heap H locs → lv_has ls 7 [] → W p l e rm_X7_forwards s m args below meth c H locs 0 0 Q (F0 m 150 ls [])) :
    W p l e rm_X7_forwards s m args below meth c H locs 0 0 Q (F0 m 17 ls []) := by
  have hx := hC.1
  have hb := hC.2.1
  unfold f_X7_forwards_B17 at hf
  refine lv_iload_n hx hb dX7_forwards_17 rfl (lv_at hl 3 rfl) ?_
  refine lv_aload_n hx hb dX7_forwards_18 rfl (lv_at hl 0 rfl) ?_
  obtain ⟨v4, hg, hf⟩ := gfI_inv hf
  refine r_gfI hC hw hg clX7 (Nat.le_of_ble_eq_true rfl) lkF_X7_167 rfl dX7_forwards_19 ?_
  refine lv_icmp_ge (tgt := 150) hx hb dX7_forwards_22 (by decide) (fun hc => ?_) (fun hc => ?_)
  · rw [if_pos hc] at hf
    exact kE  σ (Option.some.inj hf).symm _ _ _ hw (lv_sub hl [] rfl)
  · rw [if_neg hc] at hf
    refine lv_aload_n hx hb dX7_forwards_25 rfl (lv_at hl 0 rfl) ?_
    obtain ⟨v5, hg, hf⟩ := gfR_inv hf
    refine r_gfR hC hw hg clX7 (Nat.le_of_ble_eq_true rfl) lkF_X7_7 rfl dX7_forwards_26 ?_
    refine lv_iload_n hx hb dX7_forwards_29 rfl (lv_at hl 2 rfl) ?_
    refine lv_iload_n hx hb dX7_forwards_30 rfl (lv_at hl 3 rfl) ?_
    obtain ⟨r7, σ6, hk, hf⟩ := bnd_inv hf
    refine z_callS (As := [.int x2, .int x3]) (rest := [.ref v5]) (m_X7_initialAt hC.2.2.2.2.2.2.2.2 hk) hC hw wd_X7_initialAt lkM_X7_82 rfl ⟨rfl, rfl⟩ ⟨(Nat.le_of_ble_eq_true rfl), (Nat.le_of_ble_eq_true rfl)⟩ hl.1 rfl (Nat.le_of_ble_eq_true rfl) dX7_forwards_31 ⟨(Nat.le_of_ble_eq_true rfl), (Nat.le_of_ble_eq_true rfl)⟩ (fun H locs hw => ?_)
    refine lv_iload_n hx hb dX7_forwards_34 rfl (lv_at hl 3 rfl) ?_
    refine lv_if_ne (tgt := 42) hx hb dX7_forwards_35 (by decide) (fun hc => ?_) (fun hc => ?_)
    · rw [if_neg hc] at hf
      refine lv_iconst (v := 0) hx hb dX7_forwards_42 (by decide) ?_
      exact t_X7_forwards_B17_L43 hC hr hf hw (lv_sub hl [0, 1, 2, 3] rfl) kI kE
    · rw [if_pos hc] at hf
      refine lv_iconst (v := 1) hx hb dX7_forwards_38 (by decide) ?_
      refine lv_goto (tgt := 43) hx hb dX7_forwards_39 (by decide) ?_
      exact t_X7_forwards_B17_L43 hC hr hf hw (lv_sub hl [0, 1, 2, 3] rfl) kI kE
set_option maxHeartbeats 4000000 in
theorem l_X7_forwards_B17 (hC : zC p l s m args meth c cX7_forwards 7 RX7 D cA B0) (hr : meth.sig.returnType = (Option.none : Option Jvm.ClassFile.FieldType)) {Γ : zSh} {x0 : Nat} {x1 : Int32} {x2 : Int32} {σ2 : zSt} (kE : ∀ (H : Heap) (locs : List Loc) (ls : Array Slot), zO D cA B0 Γ σ2 Z s.heap H locs → lv_has ls 7 [] → W p l e rm_X7_forwards s m args below meth c H locs 0 0 Q (F0 m 150 ls [])) :
    ∀ (n : Nat) (x3 : Int32) (σ : zSt), loopM (fun q => f_X7_forwards_B17 Γ x0 x1 x2 q.1 q.2) n (x3, σ) = some σ2 → ∀ (H : Heap) (locs : List Loc) (ls : Array Slot), zO D cA B0 Γ σ Z s.heap H locs → lv_has ls 7 [(0, .ref x0), (1, .int x1), (2, .int x2), (3, .int x3)] → W p l e rm_X7_forwards s m args below meth c H locs 0 0 Q (F0 m 17 ls []) := by
  intro n
  induction n with
  | zero => intro x3 σ h; exact absurd h (by simp [loopM])
  | succ n ih =>
    intro x3 σ h H locs ls hw hl
    obtain ⟨r, h1, h2, h3⟩ := loopM_inv h
    exact t_X7_forwards_B17 hC hr h1 hw hl (fun z3 s2 e H locs ls hw hl => ih z3 s2 (h2 _ e) H locs ls hw hl) (fun s2 e H locs ls hw hl => by cases h3 _ e; exact kE H locs ls hw hl)
set_option maxHeartbeats 4000000 in
set_option maxRecDepth 100000 in
theorem m_X7_forwards (h9 : l.stackTraces = false) {Γ : zSh} {a0 : Nat} {a1 : Int32} {a2 : Int32} {σ : zSt} {r : Unit} {σ2 : zSt} (hf : f_X7_forwards Γ a0 a1 a2 σ = some (r, σ2)) : Met l yX7_forwards (wq yX7_forwards cX7_forwards 7 (Option.none : Option Jvm.ClassFile.FieldType)) rm_X7_forwards (zQ0 D cA B0 [.ref a0, .int a1, .int a2] Γ σ Z) (zQ1 D cA B0 (none) Γ σ2 Z) 0 0 (FR B0) := by
  refine z_ofW h9 (by decide) (Nat.le_of_ble_eq_true rfl) ?_
  intro p e s m args below meth c ls hC hr _ hw hl
  have hx := hC.1
  have hb := hC.2.1
  have hl : lv_has ls 7 [(0, .ref a0), (1, .int a1), (2, .int a2)] := hl
  unfold f_X7_forwards at hf
  refine lv_aload_n hx hb dX7_forwards_0 rfl (lv_at hl 0 rfl) ?_
  refine lv_iload_n hx hb dX7_forwards_1 rfl (lv_at hl 1 rfl) ?_
  refine lv_iconst (v := (-1)) hx hb dX7_forwards_2 (by decide) ?_
  obtain ⟨ho, hf⟩ := chk_inv hf
  obtain ⟨_, σ1, hk, hf⟩ := bnd_inv hf
  refine z_callV (As := [.int a1, .int (-1)]) (rest := []) (m_X7_spans hC.2.2.2.2.2.2.2.2 hk) hC hw wd_X7_spans lkM_X7_182 (isO_sh ho) rfl rfl ⟨rfl, rfl⟩ ⟨(Nat.le_of_ble_eq_true rfl), (Nat.le_of_ble_eq_true rfl)⟩ hl.1 rfl (Nat.le_of_ble_eq_true rfl) dX7_forwards_3 ⟨(Nat.le_of_ble_eq_true rfl), (Nat.le_of_ble_eq_true rfl)⟩ (fun H locs hw => ?_)
  refine lv_aload_n hx hb dX7_forwards_6 rfl (lv_at hl 0 rfl) ?_
  refine lv_iload_n hx hb dX7_forwards_7 rfl (lv_at hl 2 rfl) ?_
  refine lv_aload_n hx hb dX7_forwards_8 rfl (lv_at hl 0 rfl) ?_
  obtain ⟨v2, hg, hf⟩ := gfI_inv hf
  refine r_gfI hC hw hg clX7 (Nat.le_of_ble_eq_true rfl) lkF_X7_167 rfl dX7_forwards_9 ?_
  obtain ⟨ho, hf⟩ := chk_inv hf
  obtain ⟨_, σ3, hk, hf⟩ := bnd_inv hf
  refine z_callV (As := [.int a2, .int v2]) (rest := []) (m_X7_clears hC.2.2.2.2.2.2.2.2 hk) hC hw wd_X7_clears lkM_X7_101 (isO_sh ho) rfl rfl ⟨rfl, rfl⟩ ⟨(Nat.le_of_ble_eq_true rfl), (Nat.le_of_ble_eq_true rfl)⟩ hl.1 rfl (Nat.le_of_ble_eq_true rfl) dX7_forwards_12 ⟨(Nat.le_of_ble_eq_true rfl), (Nat.le_of_ble_eq_true rfl)⟩ (fun H locs hw => ?_)
  refine lv_iconst (v := 0) hx hb dX7_forwards_15 (by decide) ?_
  refine lv_istore_n (lv' := [(3, .int 0), (0, .ref a0), (1, .int a1), (2, .int a2)]) hx hb dX7_forwards_16 rfl hl (Nat.le_of_ble_eq_true rfl) rfl (fun ls hl => ?_)
  obtain ⟨σ32, hk, hf⟩ := lb0_inv hf
  refine l_X7_forwards_B17 hC hr (fun H locs ls hw hl => ?_) FUEL 0 σ3 hk _ _ _ hw (lv_sub hl [1, 2, 3, 0] rfl)
  first | (obtain ⟨rfl, rfl⟩ := sp_inv hf) | (obtain rfl := Option.some.inj hf)
  exact W.vret hx hb hr (z_ret hw rfl) hw.2.2.2.2.2 dX7_forwards_150 hC.2.2.2.2.2.1
set_option maxHeartbeats 4000000 in
set_option maxRecDepth 100000 in
theorem t_X7_turns_B64 (hC : zC p l s m args meth c cX7_turns 5 RX7 D cA B0) (hr : meth.sig.returnType = (Option.none : Option Jvm.ClassFile.FieldType)) {Γ : zSh} {x0 : Nat} {x1 : Int32} {x2 : Int32} {x3 : Int32} {x4 : Int32} {σ : zSt} {out : ((Int32 × zSt) ⊕ (zSt))} (hf : f_X7_turns_B64 Γ x0 x1 x2 x3 x4 σ = some out) {H : Heap} {locs : List Loc} {ls : Array Slot} (hw : zO D cA B0 Γ σ Z s.heap H locs) (hl : lv_has ls 5 [(0, .ref x0), (1, .int x1), (2, .int x2), (3, .int x3), (4, .int x4)])
    (kI : ∀ (z4 : Int32) (σ2 : zSt), out = .inl (z4, σ2) → ∀ (H : Heap) (locs : List Loc) (ls : Array Slot), zO D cA B0 Γ σ2 Z s.heap H locs → lv_has ls 5 [(0, .ref x0), (1, .int x1), (2, .int x2), (3, .int x3), (4, .int z4)] → W p l e rm_X7_turns s m args below meth c H locs 0 0 Q (F0 m 64 ls []))
    (kE : ∀ (σ2 : zSt), out = .inr σ2 → ∀ (H : Heap) (locs : List Loc) (ls : Array Slot), zO D cA B0 Γ σ2 Z s.heap H locs → lv_has ls 5 [(0, .ref x0), (1, .int x1), (2, .int x2), (3, .int x3)] → W p l e rm_X7_turns s m args below meth c H locs 0 0 Q (F0 m 132 ls [])) :
    W p l e rm_X7_turns s m args below meth c H locs 0 0 Q (F0 m 64 ls []) := by
  have hx := hC.1
  have hb := hC.2.1
  unfold f_X7_turns_B64 at hf
  refine lv_iload hx hb dX7_turns_64 (lv_at hl 4 rfl) ?_
  refine lv_aload_n hx hb dX7_turns_66 rfl (lv_at hl 0 rfl) ?_
  refine lv_iload_n hx hb dX7_turns_67 rfl (lv_at hl 1 rfl) ?_
  obtain ⟨ho, hf⟩ := chk_inv hf
  obtain ⟨r23, σ22, hk, hf⟩ := bnd_inv hf
  refine z_callV (As := [.int x1]) (rest := [.int x4]) (m_X7_many hC.2.2.2.2.2.2.2.2 hk) hC hw wd_X7_many lkM_X7_78 (isO_sh ho) rfl rfl ⟨rfl, rfl⟩ ⟨(Nat.le_of_ble_eq_true rfl), (Nat.le_of_ble_eq_true rfl)⟩ hl.1 rfl (Nat.le_of_ble_eq_true rfl) dX7_turns_68 ⟨(Nat.le_of_ble_eq_true rfl), (Nat.le_of_ble_eq_true rfl)⟩ (fun H locs hw => ?_)
  refine lv_icmp_ge (tgt := 132) hx hb dX7_turns_71 (by decide) (fun hc => ?_) (fun hc => ?_)
  · rw [if_pos hc] at hf
    exact kE  σ22 (Option.some.inj hf).symm _ _ _ hw (lv_sub hl [0, 1, 2, 3] rfl)
  · rw [if_neg hc] at hf
    refine lv_aload_n hx hb dX7_turns_74 rfl (lv_at hl 0 rfl) ?_
    obtain ⟨v24, hg, hf⟩ := gfR_inv hf
    refine r_gfR hC hw hg clX7 (Nat.le_of_ble_eq_true rfl) lkF_X7_7 rfl dX7_turns_75 ?_
    refine lv_iload_n hx hb dX7_turns_78 rfl (lv_at hl 2 rfl) ?_
    refine lv_iconst (v := 0) hx hb dX7_turns_79 (by decide) ?_
    refine lv_iload_n hx hb dX7_turns_80 rfl (lv_at hl 3 rfl) ?_
    refine lv_iload hx hb dX7_turns_81 (lv_at hl 4 rfl) ?_
    obtain ⟨r26, σ25, hk, hf⟩ := bnd_inv hf
    refine z_callS (As := [.int x2, .int 0, .int x3, .int x4]) (rest := [.ref v24]) (m_X7_at hC.2.2.2.2.2.2.2.2 hk) hC hw wd_X7_at lkM_X7_116 rfl ⟨rfl, rfl⟩ ⟨(Nat.le_of_ble_eq_true rfl), (Nat.le_of_ble_eq_true rfl)⟩ hl.1 rfl (Nat.le_of_ble_eq_true rfl) dX7_turns_83 ⟨(Nat.le_of_ble_eq_true rfl), (Nat.le_of_ble_eq_true rfl)⟩ (fun H locs hw => ?_)
    refine lv_aload_n hx hb dX7_turns_86 rfl (lv_at hl 0 rfl) ?_
    obtain ⟨v27, hg, hf⟩ := gfR_inv hf
    refine r_gfR hC hw hg clX7 (Nat.le_of_ble_eq_true rfl) lkF_X7_7 rfl dX7_turns_87 ?_
    refine lv_iload_n hx hb dX7_turns_90 rfl (lv_at hl 1 rfl) ?_
    refine lv_iconst (v := 0) hx hb dX7_turns_91 (by decide) ?_
    refine lv_iload hx hb dX7_turns_92 (lv_at hl 4 rfl) ?_
    refine lv_iload_n hx hb dX7_turns_94 rfl (lv_at hl 3 rfl) ?_
    obtain ⟨r29, σ28, hk, hf⟩ := bnd_inv hf
    refine z_callS (As := [.int x1, .int 0, .int x4, .int x3]) (rest := [.ref v27, .int r26, .ref v24]) (m_X7_at hC.2.2.2.2.2.2.2.2 hk) hC hw wd_X7_at lkM_X7_116 rfl ⟨rfl, rfl⟩ ⟨(Nat.le_of_ble_eq_true rfl), (Nat.le_of_ble_eq_true rfl)⟩ hl.1 rfl (Nat.le_of_ble_eq_true rfl) dX7_turns_95 ⟨(Nat.le_of_ble_eq_true rfl), (Nat.le_of_ble_eq_true rfl)⟩ (fun H locs hw => ?_)
    obtain ⟨v30, hg, hf⟩ := ldI_inv hf
    refine r_ldI hC hw hg dX7_turns_98 ?_
    obtain ⟨σ31, hg, hf⟩ := stI_inv hf
    refine r_stI hC hw hg dX7_turns_99 (fun H locs hw => ?_)
    refine lv_aload_n hx hb dX7_turns_100 rfl (lv_at hl 0 rfl) ?_
    obtain ⟨v32, hg, hf⟩ := gfR_inv hf
    refine r_gfR hC hw hg clX7 (Nat.le_of_ble_eq_true rfl) lkF_X7_7 rfl dX7_turns_101 ?_
    refine lv_iload_n hx hb dX7_turns_104 rfl (lv_at hl 2 rfl) ?_
    refine lv_iconst (v := 1) hx hb dX7_turns_105 (by decide) ?_
    refine lv_iload_n hx hb dX7_turns_106 rfl (lv_at hl 3 rfl) ?_
    refine lv_iload hx hb dX7_turns_107 (lv_at hl 4 rfl) ?_
    obtain ⟨r34, σ33, hk, hf⟩ := bnd_inv hf
    refine z_callS (As := [.int x2, .int 1, .int x3, .int x4]) (rest := [.ref v32]) (m_X7_at hC.2.2.2.2.2.2.2.2 hk) hC hw wd_X7_at lkM_X7_116 rfl ⟨rfl, rfl⟩ ⟨(Nat.le_of_ble_eq_true rfl), (Nat.le_of_ble_eq_true rfl)⟩ hl.1 rfl (Nat.le_of_ble_eq_true rfl) dX7_turns_109 ⟨(Nat.le_of_ble_eq_true rfl), (Nat.le_of_ble_eq_true rfl)⟩ (fun H locs hw => ?_)
    refine lv_aload_n hx hb dX7_turns_112 rfl (lv_at hl 0 rfl) ?_
    obtain ⟨v35, hg, hf⟩ := gfR_inv hf
    refine r_gfR hC hw hg clX7 (Nat.le_of_ble_eq_true rfl) lkF_X7_7 rfl dX7_turns_113 ?_
    refine lv_iload_n hx hb dX7_turns_116 rfl (lv_at hl 1 rfl) ?_
    refine lv_iconst (v := 1) hx hb dX7_turns_117 (by decide) ?_
    refine lv_iload hx hb dX7_turns_118 (lv_at hl 4 rfl) ?_
    refine lv_iload_n hx hb dX7_turns_120 rfl (lv_at hl 3 rfl) ?_
    obtain ⟨r37, σ36, hk, hf⟩ := bnd_inv hf
    refine z_callS (As := [.int x1, .int 1, .int x4, .int x3]) (rest := [.ref v35, .int r34, .ref v32]) (m_X7_at hC.2.2.2.2.2.2.2.2 hk) hC hw wd_X7_at lkM_X7_116 rfl ⟨rfl, rfl⟩ ⟨(Nat.le_of_ble_eq_true rfl), (Nat.le_of_ble_eq_true rfl)⟩ hl.1 rfl (Nat.le_of_ble_eq_true rfl) dX7_turns_121 ⟨(Nat.le_of_ble_eq_true rfl), (Nat.le_of_ble_eq_true rfl)⟩ (fun H locs hw => ?_)
    obtain ⟨v38, hg, hf⟩ := ldI_inv hf
    refine r_ldI hC hw hg dX7_turns_124 ?_
    obtain ⟨σ39, hg, hf⟩ := stI_inv hf
    refine r_stI hC hw hg dX7_turns_125 (fun H locs hw => ?_)
    refine lv_iinc (v := (x4 + 1)) (lv' := [(4, .int (x4 + 1)), (0, .ref x0), (1, .int x1), (2, .int x2), (3, .int x3)]) hx hb dX7_turns_126 hl (k := 4) rfl rfl (Nat.le_of_ble_eq_true rfl) rfl (fun ls hl => ?_)
    refine lv_goto (tgt := 64) hx hb dX7_turns_129 (by decide) ?_
    exact kI (x4 + 1) σ39 (Option.some.inj hf).symm _ _ _ hw (lv_sub hl [1, 2, 3, 4, 0] rfl)
set_option maxHeartbeats 4000000 in
theorem l_X7_turns_B64 (hC : zC p l s m args meth c cX7_turns 5 RX7 D cA B0) (hr : meth.sig.returnType = (Option.none : Option Jvm.ClassFile.FieldType)) {Γ : zSh} {x0 : Nat} {x1 : Int32} {x2 : Int32} {x3 : Int32} {σ2 : zSt} (kE : ∀ (H : Heap) (locs : List Loc) (ls : Array Slot), zO D cA B0 Γ σ2 Z s.heap H locs → lv_has ls 5 [(0, .ref x0), (1, .int x1), (2, .int x2), (3, .int x3)] → W p l e rm_X7_turns s m args below meth c H locs 0 0 Q (F0 m 132 ls [])) :
    ∀ (n : Nat) (x4 : Int32) (σ : zSt), loopM (fun q => f_X7_turns_B64 Γ x0 x1 x2 x3 q.1 q.2) n (x4, σ) = some σ2 → ∀ (H : Heap) (locs : List Loc) (ls : Array Slot), zO D cA B0 Γ σ Z s.heap H locs → lv_has ls 5 [(0, .ref x0), (1, .int x1), (2, .int x2), (3, .int x3), (4, .int x4)] → W p l e rm_X7_turns s m args below meth c H locs 0 0 Q (F0 m 64 ls []) := by
  intro n
  induction n with
  | zero => intro x4 σ h; exact absurd h (by simp [loopM])
  | succ n ih =>
    intro x4 σ h H locs ls hw hl
    obtain ⟨r, h1, h2, h3⟩ := loopM_inv h
    exact t_X7_turns_B64 hC hr h1 hw hl (fun z4 s2 e H locs ls hw hl => ih z4 s2 (h2 _ e) H locs ls hw hl) (fun s2 e H locs ls hw hl => by cases h3 _ e; exact kE H locs ls hw hl)
set_option maxHeartbeats 4000000 in
set_option maxRecDepth 100000 in
theorem t_X7_turns_B12 (hC : zC p l s m args meth c cX7_turns 5 RX7 D cA B0) (hr : meth.sig.returnType = (Option.none : Option Jvm.ClassFile.FieldType)) {Γ : zSh} {x0 : Nat} {x1 : Int32} {x2 : Int32} {x3 : Int32} {σ : zSt} {out : ((Int32 × zSt) ⊕ (zSt))} (hf : f_X7_turns_B12 Γ x0 x1 x2 x3 σ = some out) {H : Heap} {locs : List Loc} {ls : Array Slot} (hw : zO D cA B0 Γ σ Z s.heap H locs) (hl : lv_has ls 5 [(0, .ref x0), (1, .int x1), (2, .int x2), (3, .int x3)])
    (kI : ∀ (z3 : Int32) (σ2 : zSt), out = .inl (z3, σ2) → ∀ (H : Heap) (locs : List Loc) (ls : Array Slot), zO D cA B0 Γ σ2 Z s.heap H locs → lv_has ls 5 [(0, .ref x0), (1, .int x1), (2, .int x2), (3, .int z3)] → W p l e rm_X7_turns s m args below meth c H locs 0 0 Q (F0 m 12 ls []))
    (kE : ∀ (σ2 : zSt), out = .inr σ2 → ∀ (H : Heap) (locs : List Loc) (ls : Array Slot), zO D cA B0 Γ σ2 Z s.heap H locs → lv_has ls 5 [] → W p l e rm_X7_turns s m args below meth c H locs 0 0 Q (F0 m 138 ls [])) :
    W p l e rm_X7_turns s m args below meth c H locs 0 0 Q (F0 m 12 ls []) := by
  have hx := hC.1
  have hb := hC.2.1
  unfold f_X7_turns_B12 at hf
  refine lv_iload_n hx hb dX7_turns_12 rfl (lv_at hl 3 rfl) ?_
  refine lv_aload_n hx hb dX7_turns_13 rfl (lv_at hl 0 rfl) ?_
  refine lv_iload_n hx hb dX7_turns_14 rfl (lv_at hl 1 rfl) ?_
  obtain ⟨ho, hf⟩ := chk_inv hf
  obtain ⟨r5, σ4, hk, hf⟩ := bnd_inv hf
  refine z_callV (As := [.int x1]) (rest := [.int x3]) (m_X7_many hC.2.2.2.2.2.2.2.2 hk) hC hw wd_X7_many lkM_X7_78 (isO_sh ho) rfl rfl ⟨rfl, rfl⟩ ⟨(Nat.le_of_ble_eq_true rfl), (Nat.le_of_ble_eq_true rfl)⟩ hl.1 rfl (Nat.le_of_ble_eq_true rfl) dX7_turns_15 ⟨(Nat.le_of_ble_eq_true rfl), (Nat.le_of_ble_eq_true rfl)⟩ (fun H locs hw => ?_)
  refine lv_icmp_ge (tgt := 138) hx hb dX7_turns_18 (by decide) (fun hc => ?_) (fun hc => ?_)
  · rw [if_pos hc] at hf
    exact kE  σ4 (Option.some.inj hf).symm _ _ _ hw (lv_sub hl [] rfl)
  · rw [if_neg hc] at hf
    refine lv_aload_n hx hb dX7_turns_21 rfl (lv_at hl 0 rfl) ?_
    obtain ⟨v6, hg, hf⟩ := gfR_inv hf
    refine r_gfR hC hw hg clX7 (Nat.le_of_ble_eq_true rfl) lkF_X7_7 rfl dX7_turns_22 ?_
    refine lv_iload_n hx hb dX7_turns_25 rfl (lv_at hl 2 rfl) ?_
    refine lv_iload_n hx hb dX7_turns_26 rfl (lv_at hl 3 rfl) ?_
    obtain ⟨r8, σ7, hk, hf⟩ := bnd_inv hf
    refine z_callS (As := [.int x2, .int x3]) (rest := [.ref v6]) (m_X7_initialAt hC.2.2.2.2.2.2.2.2 hk) hC hw wd_X7_initialAt lkM_X7_82 rfl ⟨rfl, rfl⟩ ⟨(Nat.le_of_ble_eq_true rfl), (Nat.le_of_ble_eq_true rfl)⟩ hl.1 rfl (Nat.le_of_ble_eq_true rfl) dX7_turns_27 ⟨(Nat.le_of_ble_eq_true rfl), (Nat.le_of_ble_eq_true rfl)⟩ (fun H locs hw => ?_)
    refine lv_aload_n hx hb dX7_turns_30 rfl (lv_at hl 0 rfl) ?_
    obtain ⟨v9, hg, hf⟩ := gfR_inv hf
    refine r_gfR hC hw hg clX7 (Nat.le_of_ble_eq_true rfl) lkF_X7_7 rfl dX7_turns_31 ?_
    refine lv_iload_n hx hb dX7_turns_34 rfl (lv_at hl 1 rfl) ?_
    refine lv_iload_n hx hb dX7_turns_35 rfl (lv_at hl 3 rfl) ?_
    obtain ⟨r11, σ10, hk, hf⟩ := bnd_inv hf
    refine z_callS (As := [.int x1, .int x3]) (rest := [.ref v9, .int r8, .ref v6]) (m_X7_finalAt hC.2.2.2.2.2.2.2.2 hk) hC hw wd_X7_finalAt lkM_X7_85 rfl ⟨rfl, rfl⟩ ⟨(Nat.le_of_ble_eq_true rfl), (Nat.le_of_ble_eq_true rfl)⟩ hl.1 rfl (Nat.le_of_ble_eq_true rfl) dX7_turns_36 ⟨(Nat.le_of_ble_eq_true rfl), (Nat.le_of_ble_eq_true rfl)⟩ (fun H locs hw => ?_)
    obtain ⟨v12, hg, hf⟩ := ldI_inv hf
    refine r_ldI hC hw hg dX7_turns_39 ?_
    obtain ⟨σ13, hg, hf⟩ := stI_inv hf
    refine r_stI hC hw hg dX7_turns_40 (fun H locs hw => ?_)
    refine lv_aload_n hx hb dX7_turns_41 rfl (lv_at hl 0 rfl) ?_
    obtain ⟨v14, hg, hf⟩ := gfR_inv hf
    refine r_gfR hC hw hg clX7 (Nat.le_of_ble_eq_true rfl) lkF_X7_7 rfl dX7_turns_42 ?_
    refine lv_iload_n hx hb dX7_turns_45 rfl (lv_at hl 2 rfl) ?_
    refine lv_iload_n hx hb dX7_turns_46 rfl (lv_at hl 3 rfl) ?_
    obtain ⟨r16, σ15, hk, hf⟩ := bnd_inv hf
    refine z_callS (As := [.int x2, .int x3]) (rest := [.ref v14]) (m_X7_finalAt hC.2.2.2.2.2.2.2.2 hk) hC hw wd_X7_finalAt lkM_X7_85 rfl ⟨rfl, rfl⟩ ⟨(Nat.le_of_ble_eq_true rfl), (Nat.le_of_ble_eq_true rfl)⟩ hl.1 rfl (Nat.le_of_ble_eq_true rfl) dX7_turns_47 ⟨(Nat.le_of_ble_eq_true rfl), (Nat.le_of_ble_eq_true rfl)⟩ (fun H locs hw => ?_)
    refine lv_aload_n hx hb dX7_turns_50 rfl (lv_at hl 0 rfl) ?_
    obtain ⟨v17, hg, hf⟩ := gfR_inv hf
    refine r_gfR hC hw hg clX7 (Nat.le_of_ble_eq_true rfl) lkF_X7_7 rfl dX7_turns_51 ?_
    refine lv_iload_n hx hb dX7_turns_54 rfl (lv_at hl 1 rfl) ?_
    refine lv_iload_n hx hb dX7_turns_55 rfl (lv_at hl 3 rfl) ?_
    obtain ⟨r19, σ18, hk, hf⟩ := bnd_inv hf
    refine z_callS (As := [.int x1, .int x3]) (rest := [.ref v17, .int r16, .ref v14]) (m_X7_initialAt hC.2.2.2.2.2.2.2.2 hk) hC hw wd_X7_initialAt lkM_X7_82 rfl ⟨rfl, rfl⟩ ⟨(Nat.le_of_ble_eq_true rfl), (Nat.le_of_ble_eq_true rfl)⟩ hl.1 rfl (Nat.le_of_ble_eq_true rfl) dX7_turns_56 ⟨(Nat.le_of_ble_eq_true rfl), (Nat.le_of_ble_eq_true rfl)⟩ (fun H locs hw => ?_)
    obtain ⟨v20, hg, hf⟩ := ldI_inv hf
    refine r_ldI hC hw hg dX7_turns_59 ?_
    obtain ⟨σ21, hg, hf⟩ := stI_inv hf
    refine r_stI hC hw hg dX7_turns_60 (fun H locs hw => ?_)
    refine lv_iconst (v := 0) hx hb dX7_turns_61 (by decide) ?_
    refine lv_istore (lv' := [(4, .int 0), (0, .ref x0), (1, .int x1), (2, .int x2), (3, .int x3)]) hx hb dX7_turns_62 hl (Nat.le_of_ble_eq_true rfl) rfl (fun ls hl => ?_)
    obtain ⟨σ40, hk, hf⟩ := lb0_inv hf
    refine l_X7_turns_B64 hC hr (fun H locs ls hw hl => ?_) FUEL 0 σ21 hk _ _ _ hw (lv_sub hl [1, 2, 3, 4, 0] rfl)
    refine lv_iinc (v := (x3 + 1)) (lv' := [(3, .int (x3 + 1)), (0, .ref x0), (1, .int x1), (2, .int x2)]) hx hb dX7_turns_132 hl (k := 3) rfl rfl (Nat.le_of_ble_eq_true rfl) rfl (fun ls hl => ?_)
    refine lv_goto (tgt := 12) hx hb dX7_turns_135 (by decide) ?_
    exact kI (x3 + 1) σ40 (Option.some.inj hf).symm _ _ _ hw (lv_sub hl [1, 2, 3, 0] rfl)
set_option maxHeartbeats 4000000 in
theorem l_X7_turns_B12 (hC : zC p l s m args meth c cX7_turns 5 RX7 D cA B0) (hr : meth.sig.returnType = (Option.none : Option Jvm.ClassFile.FieldType)) {Γ : zSh} {x0 : Nat} {x1 : Int32} {x2 : Int32} {σ2 : zSt} (kE : ∀ (H : Heap) (locs : List Loc) (ls : Array Slot), zO D cA B0 Γ σ2 Z s.heap H locs → lv_has ls 5 [] → W p l e rm_X7_turns s m args below meth c H locs 0 0 Q (F0 m 138 ls [])) :
    ∀ (n : Nat) (x3 : Int32) (σ : zSt), loopM (fun q => f_X7_turns_B12 Γ x0 x1 x2 q.1 q.2) n (x3, σ) = some σ2 → ∀ (H : Heap) (locs : List Loc) (ls : Array Slot), zO D cA B0 Γ σ Z s.heap H locs → lv_has ls 5 [(0, .ref x0), (1, .int x1), (2, .int x2), (3, .int x3)] → W p l e rm_X7_turns s m args below meth c H locs 0 0 Q (F0 m 12 ls []) := by
  intro n
  induction n with
  | zero => intro x3 σ h; exact absurd h (by simp [loopM])
  | succ n ih =>
    intro x3 σ h H locs ls hw hl
    obtain ⟨r, h1, h2, h3⟩ := loopM_inv h
    exact t_X7_turns_B12 hC hr h1 hw hl (fun z3 s2 e H locs ls hw hl => ih z3 s2 (h2 _ e) H locs ls hw hl) (fun s2 e H locs ls hw hl => by cases h3 _ e; exact kE H locs ls hw hl)
set_option maxHeartbeats 4000000 in
set_option maxRecDepth 100000 in
theorem m_X7_turns (h9 : l.stackTraces = false) {Γ : zSh} {a0 : Nat} {a1 : Int32} {a2 : Int32} {σ : zSt} {r : Unit} {σ2 : zSt} (hf : f_X7_turns Γ a0 a1 a2 σ = some (r, σ2)) : Met l yX7_turns (wq yX7_turns cX7_turns 5 (Option.none : Option Jvm.ClassFile.FieldType)) rm_X7_turns (zQ0 D cA B0 [.ref a0, .int a1, .int a2] Γ σ Z) (zQ1 D cA B0 (none) Γ σ2 Z) 0 0 (FR B0) := by
  refine z_ofW h9 (by decide) (Nat.le_of_ble_eq_true rfl) ?_
  intro p e s m args below meth c ls hC hr _ hw hl
  have hx := hC.1
  have hb := hC.2.1
  have hl : lv_has ls 5 [(0, .ref a0), (1, .int a1), (2, .int a2)] := hl
  unfold f_X7_turns at hf
  refine lv_aload_n hx hb dX7_turns_0 rfl (lv_at hl 0 rfl) ?_
  refine lv_iload_n hx hb dX7_turns_1 rfl (lv_at hl 2 rfl) ?_
  refine lv_aload_n hx hb dX7_turns_2 rfl (lv_at hl 0 rfl) ?_
  refine lv_iload_n hx hb dX7_turns_3 rfl (lv_at hl 1 rfl) ?_
  obtain ⟨ho, hf⟩ := chk_inv hf
  obtain ⟨r2, σ1, hk, hf⟩ := bnd_inv hf
  refine z_callV (As := [.int a1]) (rest := [.int a2, .ref a0]) (m_X7_many hC.2.2.2.2.2.2.2.2 hk) hC hw wd_X7_many lkM_X7_78 (isO_sh ho) rfl rfl ⟨rfl, rfl⟩ ⟨(Nat.le_of_ble_eq_true rfl), (Nat.le_of_ble_eq_true rfl)⟩ hl.1 rfl (Nat.le_of_ble_eq_true rfl) dX7_turns_4 ⟨(Nat.le_of_ble_eq_true rfl), (Nat.le_of_ble_eq_true rfl)⟩ (fun H locs hw => ?_)
  obtain ⟨ho, hf⟩ := chk_inv hf
  obtain ⟨_, σ3, hk, hf⟩ := bnd_inv hf
  refine z_callV (As := [.int a2, .int r2]) (rest := []) (m_X7_clears hC.2.2.2.2.2.2.2.2 hk) hC hw wd_X7_clears lkM_X7_101 (isO_sh ho) rfl rfl ⟨rfl, rfl⟩ ⟨(Nat.le_of_ble_eq_true rfl), (Nat.le_of_ble_eq_true rfl)⟩ hl.1 rfl (Nat.le_of_ble_eq_true rfl) dX7_turns_7 ⟨(Nat.le_of_ble_eq_true rfl), (Nat.le_of_ble_eq_true rfl)⟩ (fun H locs hw => ?_)
  refine lv_iconst (v := 0) hx hb dX7_turns_10 (by decide) ?_
  refine lv_istore_n (lv' := [(3, .int 0), (0, .ref a0), (1, .int a1), (2, .int a2)]) hx hb dX7_turns_11 rfl hl (Nat.le_of_ble_eq_true rfl) rfl (fun ls hl => ?_)
  obtain ⟨σ41, hk, hf⟩ := lb0_inv hf
  refine l_X7_turns_B12 hC hr (fun H locs ls hw hl => ?_) FUEL 0 σ3 hk _ _ _ hw (lv_sub hl [1, 2, 3, 0] rfl)
  first | (obtain ⟨rfl, rfl⟩ := sp_inv hf) | (obtain rfl := Option.some.inj hf)
  exact W.vret hx hb hr (z_ret hw rfl) hw.2.2.2.2.2 dX7_turns_138 hC.2.2.2.2.2.1
set_option maxHeartbeats 4000000 in
set_option maxRecDepth 100000 in
theorem m_X7_minimizes (h9 : l.stackTraces = false) {Γ : zSh} {a0 : Nat} {a1 : Int32} {a2 : Int32} {σ : zSt} {r : Unit} {σ2 : zSt} (hf : f_X7_minimizes Γ a0 a1 a2 σ = some (r, σ2)) : Met l yX7_minimizes (wq yX7_minimizes cX7_minimizes 3 (Option.none : Option Jvm.ClassFile.FieldType)) rm_X7_minimizes (zQ0 D cA B0 [.ref a0, .int a1, .int a2] Γ σ Z) (zQ1 D cA B0 (none) Γ σ2 Z) 0 0 (FR B0) := by
  refine z_ofW h9 (by decide) (Nat.le_of_ble_eq_true rfl) ?_
  intro p e s m args below meth c ls hC hr _ hw hl
  have hx := hC.1
  have hb := hC.2.1
  have hl : lv_has ls 3 [(0, .ref a0), (1, .int a1), (2, .int a2)] := hl
  unfold f_X7_minimizes at hf
  refine lv_aload_n hx hb dX7_minimizes_0 rfl (lv_at hl 0 rfl) ?_
  refine lv_iload_n hx hb dX7_minimizes_1 rfl (lv_at hl 1 rfl) ?_
  refine lv_bipush (v := 7) hx hb dX7_minimizes_2 (by decide) ?_
  obtain ⟨ho, hf⟩ := chk_inv hf
  obtain ⟨_, σ1, hk, hf⟩ := bnd_inv hf
  refine z_callV (As := [.int a1, .int 7]) (rest := []) (m_X7_forwards hC.2.2.2.2.2.2.2.2 hk) hC hw wd_X7_forwards lkM_X7_192 (isO_sh ho) rfl rfl ⟨rfl, rfl⟩ ⟨(Nat.le_of_ble_eq_true rfl), (Nat.le_of_ble_eq_true rfl)⟩ hl.1 rfl (Nat.le_of_ble_eq_true rfl) dX7_minimizes_4 ⟨(Nat.le_of_ble_eq_true rfl), (Nat.le_of_ble_eq_true rfl)⟩ (fun H locs hw => ?_)
  refine lv_aload_n hx hb dX7_minimizes_7 rfl (lv_at hl 0 rfl) ?_
  refine lv_bipush (v := 7) hx hb dX7_minimizes_8 (by decide) ?_
  refine lv_bipush (v := 6) hx hb dX7_minimizes_10 (by decide) ?_
  obtain ⟨ho, hf⟩ := chk_inv hf
  obtain ⟨_, σ2, hk, hf⟩ := bnd_inv hf
  refine z_callV (As := [.int 7, .int 6]) (rest := []) (m_X7_turns hC.2.2.2.2.2.2.2.2 hk) hC hw wd_X7_turns lkM_X7_195 (isO_sh ho) rfl rfl ⟨rfl, rfl⟩ ⟨(Nat.le_of_ble_eq_true rfl), (Nat.le_of_ble_eq_true rfl)⟩ hl.1 rfl (Nat.le_of_ble_eq_true rfl) dX7_minimizes_12 ⟨(Nat.le_of_ble_eq_true rfl), (Nat.le_of_ble_eq_true rfl)⟩ (fun H locs hw => ?_)
  refine lv_aload_n hx hb dX7_minimizes_15 rfl (lv_at hl 0 rfl) ?_
  refine lv_bipush (v := 6) hx hb dX7_minimizes_16 (by decide) ?_
  refine lv_bipush (v := 7) hx hb dX7_minimizes_18 (by decide) ?_
  obtain ⟨ho, hf⟩ := chk_inv hf
  obtain ⟨_, σ3, hk, hf⟩ := bnd_inv hf
  refine z_callV (As := [.int 6, .int 7]) (rest := []) (m_X7_forwards hC.2.2.2.2.2.2.2.2 hk) hC hw wd_X7_forwards lkM_X7_192 (isO_sh ho) rfl rfl ⟨rfl, rfl⟩ ⟨(Nat.le_of_ble_eq_true rfl), (Nat.le_of_ble_eq_true rfl)⟩ hl.1 rfl (Nat.le_of_ble_eq_true rfl) dX7_minimizes_20 ⟨(Nat.le_of_ble_eq_true rfl), (Nat.le_of_ble_eq_true rfl)⟩ (fun H locs hw => ?_)
  refine lv_aload_n hx hb dX7_minimizes_23 rfl (lv_at hl 0 rfl) ?_
  refine lv_bipush (v := 7) hx hb dX7_minimizes_24 (by decide) ?_
  refine lv_iload_n hx hb dX7_minimizes_26 rfl (lv_at hl 2 rfl) ?_
  obtain ⟨ho, hf⟩ := chk_inv hf
  obtain ⟨_, σ4, hk, hf⟩ := bnd_inv hf
  refine z_callV (As := [.int 7, .int a2]) (rest := []) (m_X7_turns hC.2.2.2.2.2.2.2.2 hk) hC hw wd_X7_turns lkM_X7_195 (isO_sh ho) rfl rfl ⟨rfl, rfl⟩ ⟨(Nat.le_of_ble_eq_true rfl), (Nat.le_of_ble_eq_true rfl)⟩ hl.1 rfl (Nat.le_of_ble_eq_true rfl) dX7_minimizes_27 ⟨(Nat.le_of_ble_eq_true rfl), (Nat.le_of_ble_eq_true rfl)⟩ (fun H locs hw => ?_)
  first | (obtain ⟨rfl, rfl⟩ := sp_inv hf) | (obtain rfl := Option.some.inj hf)
  exact W.vret hx hb hr (z_ret hw rfl) hw.2.2.2.2.2 dX7_minimizes_30 hC.2.2.2.2.2.1
set_option maxHeartbeats 4000000 in
set_option maxRecDepth 100000 in
theorem m_X7_dimensionOf (h9 : l.stackTraces = false) {Γ : zSh} {a0 : Nat} {a1 : Int32} {a2 : Int32} {σ : zSt} {r : Int32} {σ2 : zSt} (hf : f_X7_dimensionOf Γ a0 a1 a2 σ = some (r, σ2)) : Met l yX7_dimensionOf (wq yX7_dimensionOf cX7_dimensionOf 3 (Option.some FieldType.int)) rm_X7_dimensionOf (zQ0 D cA B0 [.ref a0, .int a1, .int a2] Γ σ Z) (zQ1 D cA B0 (some (.int r)) Γ σ2 Z) 0 0 (FR B0) := by
  refine z_ofW h9 (by decide) (Nat.le_of_ble_eq_true rfl) ?_
  intro p e s m args below meth c ls hC hr _ hw hl
  have hx := hC.1
  have hb := hC.2.1
  have hl : lv_has ls 3 [(0, .ref a0), (1, .int a1), (2, .int a2)] := hl
  unfold f_X7_dimensionOf at hf
  refine lv_iload_n hx hb dX7_dimensionOf_0 rfl (lv_at hl 2 rfl) ?_
  refine lv_if_ne (tgt := 15) hx hb dX7_dimensionOf_1 (by decide) (fun hc => ?_) (fun hc => ?_)
  · rw [if_neg hc] at hf
    refine lv_iload_n hx hb dX7_dimensionOf_15 rfl (lv_at hl 2 rfl) ?_
    refine lv_iconst (v := 1) hx hb dX7_dimensionOf_16 (by decide) ?_
    refine lv_icmp_ne (tgt := 39) hx hb dX7_dimensionOf_17 (by decide) (fun hc => ?_) (fun hc => ?_)
    · rw [if_neg hc] at hf
      refine lv_aload_n hx hb dX7_dimensionOf_39 rfl (lv_at hl 0 rfl) ?_
      refine lv_iload_n hx hb dX7_dimensionOf_40 rfl (lv_at hl 1 rfl) ?_
      refine lv_iconst (v := 5) hx hb dX7_dimensionOf_41 (by decide) ?_
      obtain ⟨ho, hf⟩ := chk_inv hf
      obtain ⟨_, σ1, hk, hf⟩ := bnd_inv hf
      refine z_callV (As := [.int a1, .int 5]) (rest := []) (m_X7_minimizes hC.2.2.2.2.2.2.2.2 hk) hC hw wd_X7_minimizes lkM_X7_198 (isO_sh ho) rfl rfl ⟨rfl, rfl⟩ ⟨(Nat.le_of_ble_eq_true rfl), (Nat.le_of_ble_eq_true rfl)⟩ hl.1 rfl (Nat.le_of_ble_eq_true rfl) dX7_dimensionOf_42 ⟨(Nat.le_of_ble_eq_true rfl), (Nat.le_of_ble_eq_true rfl)⟩ (fun H locs hw => ?_)
      refine lv_aload_n hx hb dX7_dimensionOf_45 rfl (lv_at hl 0 rfl) ?_
      refine lv_iconst (v := 5) hx hb dX7_dimensionOf_46 (by decide) ?_
      obtain ⟨ho, hf⟩ := chk_inv hf
      obtain ⟨r3, σ2, hk, hf⟩ := bnd_inv hf
      refine z_callV (As := [.int 5]) (rest := []) (m_X7_many hC.2.2.2.2.2.2.2.2 hk) hC hw wd_X7_many lkM_X7_78 (isO_sh ho) rfl rfl ⟨rfl, rfl⟩ ⟨(Nat.le_of_ble_eq_true rfl), (Nat.le_of_ble_eq_true rfl)⟩ hl.1 rfl (Nat.le_of_ble_eq_true rfl) dX7_dimensionOf_47 ⟨(Nat.le_of_ble_eq_true rfl), (Nat.le_of_ble_eq_true rfl)⟩ (fun H locs hw => ?_)
      first | (obtain ⟨rfl, rfl⟩ := sp_inv hf) | (obtain rfl := Option.some.inj hf)
      exact W.iret hx hb hr (z_ret hw rfl) hw.2.2.2.2.2 dX7_dimensionOf_50 hC.2.2.2.2.2.1
    · rw [if_pos hc] at hf
      refine lv_aload_n hx hb dX7_dimensionOf_20 rfl (lv_at hl 0 rfl) ?_
      refine lv_iload_n hx hb dX7_dimensionOf_21 rfl (lv_at hl 1 rfl) ?_
      refine lv_bipush (v := 6) hx hb dX7_dimensionOf_22 (by decide) ?_
      obtain ⟨ho, hf⟩ := chk_inv hf
      obtain ⟨_, σ4, hk, hf⟩ := bnd_inv hf
      refine z_callV (As := [.int a1, .int 6]) (rest := []) (m_X7_turns hC.2.2.2.2.2.2.2.2 hk) hC hw wd_X7_turns lkM_X7_195 (isO_sh ho) rfl rfl ⟨rfl, rfl⟩ ⟨(Nat.le_of_ble_eq_true rfl), (Nat.le_of_ble_eq_true rfl)⟩ hl.1 rfl (Nat.le_of_ble_eq_true rfl) dX7_dimensionOf_24 ⟨(Nat.le_of_ble_eq_true rfl), (Nat.le_of_ble_eq_true rfl)⟩ (fun H locs hw => ?_)
      refine lv_aload_n hx hb dX7_dimensionOf_27 rfl (lv_at hl 0 rfl) ?_
      refine lv_bipush (v := 6) hx hb dX7_dimensionOf_28 (by decide) ?_
      refine lv_iconst (v := (-1)) hx hb dX7_dimensionOf_30 (by decide) ?_
      obtain ⟨ho, hf⟩ := chk_inv hf
      obtain ⟨_, σ5, hk, hf⟩ := bnd_inv hf
      refine z_callV (As := [.int 6, .int (-1)]) (rest := []) (m_X7_spans hC.2.2.2.2.2.2.2.2 hk) hC hw wd_X7_spans lkM_X7_182 (isO_sh ho) rfl rfl ⟨rfl, rfl⟩ ⟨(Nat.le_of_ble_eq_true rfl), (Nat.le_of_ble_eq_true rfl)⟩ hl.1 rfl (Nat.le_of_ble_eq_true rfl) dX7_dimensionOf_31 ⟨(Nat.le_of_ble_eq_true rfl), (Nat.le_of_ble_eq_true rfl)⟩ (fun H locs hw => ?_)
      refine lv_aload_n hx hb dX7_dimensionOf_34 rfl (lv_at hl 0 rfl) ?_
      obtain ⟨v6, hg, hf⟩ := gfI_inv hf
      refine r_gfI hC hw hg clX7 (Nat.le_of_ble_eq_true rfl) lkF_X7_167 rfl dX7_dimensionOf_35 ?_
      first | (obtain ⟨rfl, rfl⟩ := sp_inv hf) | (obtain rfl := Option.some.inj hf)
      exact W.iret hx hb hr (z_ret hw rfl) hw.2.2.2.2.2 dX7_dimensionOf_38 hC.2.2.2.2.2.1
  · rw [if_pos hc] at hf
    refine lv_aload_n hx hb dX7_dimensionOf_4 rfl (lv_at hl 0 rfl) ?_
    refine lv_iload_n hx hb dX7_dimensionOf_5 rfl (lv_at hl 1 rfl) ?_
    refine lv_iconst (v := (-1)) hx hb dX7_dimensionOf_6 (by decide) ?_
    obtain ⟨ho, hf⟩ := chk_inv hf
    obtain ⟨_, σ7, hk, hf⟩ := bnd_inv hf
    refine z_callV (As := [.int a1, .int (-1)]) (rest := []) (m_X7_spans hC.2.2.2.2.2.2.2.2 hk) hC hw wd_X7_spans lkM_X7_182 (isO_sh ho) rfl rfl ⟨rfl, rfl⟩ ⟨(Nat.le_of_ble_eq_true rfl), (Nat.le_of_ble_eq_true rfl)⟩ hl.1 rfl (Nat.le_of_ble_eq_true rfl) dX7_dimensionOf_7 ⟨(Nat.le_of_ble_eq_true rfl), (Nat.le_of_ble_eq_true rfl)⟩ (fun H locs hw => ?_)
    refine lv_aload_n hx hb dX7_dimensionOf_10 rfl (lv_at hl 0 rfl) ?_
    obtain ⟨v8, hg, hf⟩ := gfI_inv hf
    refine r_gfI hC hw hg clX7 (Nat.le_of_ble_eq_true rfl) lkF_X7_167 rfl dX7_dimensionOf_11 ?_
    first | (obtain ⟨rfl, rfl⟩ := sp_inv hf) | (obtain rfl := Option.some.inj hf)
    exact W.iret hx hb hr (z_ret hw rfl) hw.2.2.2.2.2 dX7_dimensionOf_14 hC.2.2.2.2.2.1
set_option maxHeartbeats 4000000 in
set_option maxRecDepth 100000 in
theorem t_X7_dimension_L31 (hC : zC p l s m args meth c cX7_dimension 3 RX7 D cA B0) (hr : meth.sig.returnType = (Option.some FieldType.int)) {Γ : zSh} {s0 : Int32} {σ : zSt} {out : (Int32 × zSt)} (hf : f_X7_dimension_L31 Γ s0 σ = some out) {H : Heap} {locs : List Loc} {ls : Array Slot} (hw : zO D cA B0 Γ σ Z s.heap H locs) (hl : lv_has ls 3 []) :
    W p l e rm_X7_dimension s m args below meth c H locs 0 0 (MQ below (zQ1 D cA B0 (some (.int out.1)) Γ out.2 Z) args s 0 0 (FR B0)) (F0 m 31 ls [.int s0]) := by
  have hx := hC.1
  have hb := hC.2.1
  unfold f_X7_dimension_L31 at hf
  first | (obtain ⟨rfl, rfl⟩ := sp_inv hf) | (obtain rfl := Option.some.inj hf)
  exact W.iret hx hb hr (z_ret hw rfl) hw.2.2.2.2.2 dX7_dimension_31 hC.2.2.2.2.2.1
set_option maxHeartbeats 4000000 in
set_option maxRecDepth 100000 in
theorem m_X7_dimension (h9 : l.stackTraces = false) {Γ : zSh} {a0 : Nat} {a1 : Int32} {a2 : Int32} {σ : zSt} {r : Int32} {σ2 : zSt} (hf : f_X7_dimension Γ a0 a1 a2 σ = some (r, σ2)) : Met l yX7_dimension (wq yX7_dimension cX7_dimension 3 (Option.some FieldType.int)) rm_X7_dimension (zQ0 D cA B0 [.ref a0, .int a1, .int a2] Γ σ Z) (zQ1 D cA B0 (some (.int r)) Γ σ2 Z) 0 0 (FR B0) := by
  refine z_ofW h9 (by decide) (Nat.le_of_ble_eq_true rfl) ?_
  intro p e s m args below meth c ls hC hr _ hw hl
  have hx := hC.1
  have hb := hC.2.1
  have hl : lv_has ls 3 [(0, .ref a0), (1, .int a1), (2, .int a2)] := hl
  unfold f_X7_dimension at hf
  refine lv_aload_n hx hb dX7_dimension_0 rfl (lv_at hl 0 rfl) ?_
  refine lv_iload_n hx hb dX7_dimension_1 rfl (lv_at hl 1 rfl) ?_
  obtain ⟨r2, σ1, hk, hf⟩ := bnd_inv hf
  refine z_callS (As := [.int a1]) (rest := [.ref a0]) (m_X7_isSlot hC.2.2.2.2.2.2.2.2 hk) hC hw wd_X7_isSlot lkM_X7_88 rfl ⟨rfl, rfl⟩ ⟨(Nat.le_of_ble_eq_true rfl), (Nat.le_of_ble_eq_true rfl)⟩ hl.1 rfl (Nat.le_of_ble_eq_true rfl) dX7_dimension_2 ⟨(Nat.le_of_ble_eq_true rfl), (Nat.le_of_ble_eq_true rfl)⟩ (fun H locs hw => ?_)
  refine lv_iload_n hx hb dX7_dimension_5 rfl (lv_at hl 2 rfl) ?_
  refine lv_i2l hx hb dX7_dimension_6 rfl ?_
  refine lv_lconst (v := 0) hx hb dX7_dimension_7 (by decide) ?_
  refine lv_ldc2 (v := 2) hx hb hC.2.2.2.1 (hC.2.2.2.2.1 _ lkJ_X7_201) dX7_dimension_8 ?_
  obtain ⟨r4, σ3, hk, hf⟩ := bnd_inv hf
  refine z_callS (As := [.long (a2.toInt64), .long 0, .long 2]) (rest := [.int r2, .ref a0]) (m_X7_in hC.2.2.2.2.2.2.2.2 hk) hC hw wd_X7_in lkM_X7_68 rfl ⟨rfl, rfl⟩ ⟨(Nat.le_of_ble_eq_true rfl), (Nat.le_of_ble_eq_true rfl)⟩ hl.1 rfl (Nat.le_of_ble_eq_true rfl) dX7_dimension_11 ⟨(Nat.le_of_ble_eq_true rfl), (Nat.le_of_ble_eq_true rfl)⟩ (fun H locs hw => ?_)
  refine lv_iconst (v := 1) hx hb dX7_dimension_14 (by decide) ?_
  obtain ⟨ho, hf⟩ := chk_inv hf
  obtain ⟨r6, σ5, hk, hf⟩ := bnd_inv hf
  refine z_callV (As := [.int r2, .int r4, .int 1]) (rest := []) (m_X7_goes hC.2.2.2.2.2.2.2.2 hk) hC hw wd_X7_goes lkM_X7_94 (isO_sh ho) rfl rfl ⟨rfl, rfl⟩ ⟨(Nat.le_of_ble_eq_true rfl), (Nat.le_of_ble_eq_true rfl)⟩ hl.1 rfl (Nat.le_of_ble_eq_true rfl) dX7_dimension_15 ⟨(Nat.le_of_ble_eq_true rfl), (Nat.le_of_ble_eq_true rfl)⟩ (fun H locs hw => ?_)
  refine lv_if_eq (tgt := 30) hx hb dX7_dimension_18 (by decide) (fun hc => ?_) (fun hc => ?_)
  · rw [if_pos hc] at hf
    refine lv_iconst (v := 0) hx hb dX7_dimension_30 (by decide) ?_
    exact t_X7_dimension_L31 hC hr hf hw (lv_sub hl [] rfl)
  · rw [if_neg hc] at hf
    refine lv_aload_n hx hb dX7_dimension_21 rfl (lv_at hl 0 rfl) ?_
    refine lv_iload_n hx hb dX7_dimension_22 rfl (lv_at hl 1 rfl) ?_
    refine lv_iload_n hx hb dX7_dimension_23 rfl (lv_at hl 2 rfl) ?_
    obtain ⟨ho, hf⟩ := chk_inv hf
    obtain ⟨r8, σ7, hk, hf⟩ := bnd_inv hf
    refine z_callV (As := [.int a1, .int a2]) (rest := []) (m_X7_dimensionOf hC.2.2.2.2.2.2.2.2 hk) hC hw wd_X7_dimensionOf lkM_X7_203 (isO_sh ho) rfl rfl ⟨rfl, rfl⟩ ⟨(Nat.le_of_ble_eq_true rfl), (Nat.le_of_ble_eq_true rfl)⟩ hl.1 rfl (Nat.le_of_ble_eq_true rfl) dX7_dimension_24 ⟨(Nat.le_of_ble_eq_true rfl), (Nat.le_of_ble_eq_true rfl)⟩ (fun H locs hw => ?_)
    refine lv_goto (tgt := 31) hx hb dX7_dimension_27 (by decide) ?_
    exact t_X7_dimension_L31 hC hr hf hw (lv_sub hl [] rfl)
set_option maxHeartbeats 4000000 in
set_option maxRecDepth 100000 in
theorem t_X7_basisWord_L59 (hC : zC p l s m args meth c cX7_basisWord 4 RX7 D cA B0) (hr : meth.sig.returnType = (Option.some FieldType.int)) {Γ : zSh} {s0 : Int32} {σ : zSt} {out : (Int32 × zSt)} (hf : f_X7_basisWord_L59 Γ s0 σ = some out) {H : Heap} {locs : List Loc} {ls : Array Slot} (hw : zO D cA B0 Γ σ Z s.heap H locs) (hl : lv_has ls 4 []) :
    W p l e rm_X7_basisWord s m args below meth c H locs 0 0 (MQ below (zQ1 D cA B0 (some (.int out.1)) Γ out.2 Z) args s 0 0 (FR B0)) (F0 m 59 ls [.int s0]) := by
  have hx := hC.1
  have hb := hC.2.1
  unfold f_X7_basisWord_L59 at hf
  first | (obtain ⟨rfl, rfl⟩ := sp_inv hf) | (obtain rfl := Option.some.inj hf)
  exact W.iret hx hb hr (z_ret hw rfl) hw.2.2.2.2.2 dX7_basisWord_59 hC.2.2.2.2.2.1
set_option maxHeartbeats 4000000 in
set_option maxRecDepth 100000 in
theorem t_X7_basisWord_L41 (hC : zC p l s m args meth c cX7_basisWord 4 RX7 D cA B0) (hr : meth.sig.returnType = (Option.some FieldType.int)) {Γ : zSh} {x0 : Nat} {x2 : Int32} {s0 : Int32} {s1 : Nat} {σ : zSt} {out : (Int32 × zSt)} (hf : f_X7_basisWord_L41 Γ x0 x2 s0 s1 σ = some out) {H : Heap} {locs : List Loc} {ls : Array Slot} (hw : zO D cA B0 Γ σ Z s.heap H locs) (hl : lv_has ls 4 [(0, .ref x0), (2, .int x2)]) :
    W p l e rm_X7_basisWord s m args below meth c H locs 0 0 (MQ below (zQ1 D cA B0 (some (.int out.1)) Γ out.2 Z) args s 0 0 (FR B0)) (F0 m 41 ls [.int s0, .ref s1]) := by
  have hx := hC.1
  have hb := hC.2.1
  unfold f_X7_basisWord_L41 at hf
  refine lv_iconst (v := 1) hx hb dX7_basisWord_41 (by decide) ?_
  refine lv_iconst (v := 1) hx hb dX7_basisWord_42 (by decide) ?_
  obtain ⟨ho, hf⟩ := chk_inv hf
  obtain ⟨r4, σ3, hk, hf⟩ := bnd_inv hf
  refine z_callV (As := [.int s0, .int 1, .int 1]) (rest := []) (m_X7_goes hC.2.2.2.2.2.2.2.2 hk) hC hw wd_X7_goes lkM_X7_94 (isO_sh ho) rfl rfl ⟨rfl, rfl⟩ ⟨(Nat.le_of_ble_eq_true rfl), (Nat.le_of_ble_eq_true rfl)⟩ hl.1 rfl (Nat.le_of_ble_eq_true rfl) dX7_basisWord_43 ⟨(Nat.le_of_ble_eq_true rfl), (Nat.le_of_ble_eq_true rfl)⟩ (fun H locs hw => ?_)
  refine lv_if_eq (tgt := 58) hx hb dX7_basisWord_46 (by decide) (fun hc => ?_) (fun hc => ?_)
  · rw [if_pos hc] at hf
    refine lv_iconst (v := 0) hx hb dX7_basisWord_58 (by decide) ?_
    exact t_X7_basisWord_L59 hC hr hf hw (lv_sub hl [] rfl)
  · rw [if_neg hc] at hf
    refine lv_aload_n hx hb dX7_basisWord_49 rfl (lv_at hl 0 rfl) ?_
    obtain ⟨v5, hg, hf⟩ := gfR_inv hf
    refine r_gfR hC hw hg clX7 (Nat.le_of_ble_eq_true rfl) lkF_X7_34 rfl dX7_basisWord_50 ?_
    refine lv_iload_n hx hb dX7_basisWord_53 rfl (lv_at hl 1 rfl) ?_
    obtain ⟨v6, hg, hf⟩ := ldI_inv hf
    refine r_ldI hC hw hg dX7_basisWord_54 ?_
    refine lv_goto (tgt := 59) hx hb dX7_basisWord_55 (by decide) ?_
    exact t_X7_basisWord_L59 hC hr hf hw (lv_sub hl [] rfl)
set_option maxHeartbeats 4000000 in
set_option maxRecDepth 100000 in
theorem t_X7_basisWord_L40 (hC : zC p l s m args meth c cX7_basisWord 4 RX7 D cA B0) (hr : meth.sig.returnType = (Option.some FieldType.int)) {Γ : zSh} {x0 : Nat} {x2 : Int32} {s0 : Nat} {σ : zSt} {out : (Int32 × zSt)} (hf : f_X7_basisWord_L40 Γ x0 x2 s0 σ = some out) {H : Heap} {locs : List Loc} {ls : Array Slot} (hw : zO D cA B0 Γ σ Z s.heap H locs) (hl : lv_has ls 4 [(0, .ref x0), (2, .int x2)]) :
    W p l e rm_X7_basisWord s m args below meth c H locs 0 0 (MQ below (zQ1 D cA B0 (some (.int out.1)) Γ out.2 Z) args s 0 0 (FR B0)) (F0 m 40 ls [.ref s0]) := by
  have hx := hC.1
  have hb := hC.2.1
  unfold f_X7_basisWord_L40 at hf
  refine lv_iconst (v := 0) hx hb dX7_basisWord_40 (by decide) ?_
  exact t_X7_basisWord_L41 hC hr hf hw (lv_sub hl [0, 1] rfl)
set_option maxHeartbeats 4000000 in
set_option maxRecDepth 100000 in
theorem t_X7_basisWord_L15 (hC : zC p l s m args meth c cX7_basisWord 4 RX7 D cA B0) (hr : meth.sig.returnType = (Option.some FieldType.int)) {Γ : zSh} {x0 : Nat} {x2 : Int32} {x3 : Int32} {σ : zSt} {out : (Int32 × zSt)} (hf : f_X7_basisWord_L15 Γ x0 x2 x3 σ = some out) {H : Heap} {locs : List Loc} {ls : Array Slot} (hw : zO D cA B0 Γ σ Z s.heap H locs) (hl : lv_has ls 4 [(0, .ref x0), (2, .int x2), (3, .int x3)]) :
    W p l e rm_X7_basisWord s m args below meth c H locs 0 0 (MQ below (zQ1 D cA B0 (some (.int out.1)) Γ out.2 Z) args s 0 0 (FR B0)) (F0 m 15 ls []) := by
  have hx := hC.1
  have hb := hC.2.1
  unfold f_X7_basisWord_L15 at hf
  refine lv_aload_n hx hb dX7_basisWord_15 rfl (lv_at hl 0 rfl) ?_
  refine lv_iload_n hx hb dX7_basisWord_16 rfl (lv_at hl 2 rfl) ?_
  refine lv_if_eq (tgt := 40) hx hb dX7_basisWord_17 (by decide) (fun hc => ?_) (fun hc => ?_)
  · rw [if_pos hc] at hf
    exact t_X7_basisWord_L40 hC hr hf hw (lv_sub hl [0, 1] rfl)
  · rw [if_neg hc] at hf
    refine lv_iload_n hx hb dX7_basisWord_20 rfl (lv_at hl 1 rfl) ?_
    refine lv_i2l hx hb dX7_basisWord_21 rfl ?_
    refine lv_lconst (v := 0) hx hb dX7_basisWord_22 (by decide) ?_
    refine lv_aload_n hx hb dX7_basisWord_23 rfl (lv_at hl 0 rfl) ?_
    obtain ⟨v7, hg, hf⟩ := gfI_inv hf
    refine r_gfI hC hw hg clX7 (Nat.le_of_ble_eq_true rfl) lkF_X7_167 rfl dX7_basisWord_24 ?_
    refine lv_iconst (v := 1) hx hb dX7_basisWord_27 (by decide) ?_
    refine lv_isub hx hb dX7_basisWord_28 ?_
    refine lv_i2l hx hb dX7_basisWord_29 rfl ?_
    obtain ⟨r9, σ8, hk, hf⟩ := bnd_inv hf
    refine z_callS (As := [.long (x2.toInt64), .long 0, .long ((v7 - 1).toInt64)]) (rest := [.ref x0]) (m_X7_in hC.2.2.2.2.2.2.2.2 hk) hC hw wd_X7_in lkM_X7_68 rfl ⟨rfl, rfl⟩ ⟨(Nat.le_of_ble_eq_true rfl), (Nat.le_of_ble_eq_true rfl)⟩ hl.1 rfl (Nat.le_of_ble_eq_true rfl) dX7_basisWord_30 ⟨(Nat.le_of_ble_eq_true rfl), (Nat.le_of_ble_eq_true rfl)⟩ (fun H locs hw => ?_)
    refine lv_if_eq (tgt := 40) hx hb dX7_basisWord_33 (by decide) (fun hc => ?_) (fun hc => ?_)
    · rw [if_pos hc] at hf
      exact t_X7_basisWord_L40 hC hr hf hw (lv_sub hl [0, 1] rfl)
    · rw [if_neg hc] at hf
      refine lv_iconst (v := 1) hx hb dX7_basisWord_36 (by decide) ?_
      refine lv_goto (tgt := 41) hx hb dX7_basisWord_37 (by decide) ?_
      exact t_X7_basisWord_L41 hC hr hf hw (lv_sub hl [0, 1] rfl)
set_option maxHeartbeats 4000000 in
set_option maxRecDepth 100000 in
theorem m_X7_basisWord (h9 : l.stackTraces = false) {Γ : zSh} {a0 : Nat} {a1 : Int32} {a2 : Int32} {σ : zSt} {r : Int32} {σ2 : zSt} (hf : f_X7_basisWord Γ a0 a1 a2 σ = some (r, σ2)) : Met l yX7_basisWord (wq yX7_basisWord cX7_basisWord 4 (Option.some FieldType.int)) rm_X7_basisWord (zQ0 D cA B0 [.ref a0, .int a1, .int a2] Γ σ Z) (zQ1 D cA B0 (some (.int r)) Γ σ2 Z) 0 0 (FR B0) := by
  refine z_ofW h9 (by decide) (Nat.le_of_ble_eq_true rfl) ?_
  intro p e s m args below meth c ls hC hr _ hw hl
  have hx := hC.1
  have hb := hC.2.1
  have hl : lv_has ls 4 [(0, .ref a0), (1, .int a1), (2, .int a2)] := hl
  unfold f_X7_basisWord at hf
  refine lv_iload_n hx hb dX7_basisWord_0 rfl (lv_at hl 1 rfl) ?_
  obtain ⟨r2, σ1, hk, hf⟩ := bnd_inv hf
  refine z_callS (As := [.int a1]) (rest := []) (m_X7_isSlot hC.2.2.2.2.2.2.2.2 hk) hC hw wd_X7_isSlot lkM_X7_88 rfl ⟨rfl, rfl⟩ ⟨(Nat.le_of_ble_eq_true rfl), (Nat.le_of_ble_eq_true rfl)⟩ hl.1 rfl (Nat.le_of_ble_eq_true rfl) dX7_basisWord_1 ⟨(Nat.le_of_ble_eq_true rfl), (Nat.le_of_ble_eq_true rfl)⟩ (fun H locs hw => ?_)
  refine lv_istore_n (lv' := [(3, .int r2), (0, .ref a0), (1, .int a1), (2, .int a2)]) hx hb dX7_basisWord_4 rfl hl (Nat.le_of_ble_eq_true rfl) rfl (fun ls hl => ?_)
  refine lv_iload_n hx hb dX7_basisWord_5 rfl (lv_at hl 0 rfl) ?_
  refine lv_if_eq (tgt := 15) hx hb dX7_basisWord_6 (by decide) (fun hc => ?_) (fun hc => ?_)
  · rw [if_pos hc] at hf
    exact t_X7_basisWord_L15 hC hr hf hw (lv_sub hl [1, 3, 0] rfl)
  · rw [if_neg hc] at hf
    refine lv_aload_n hx hb dX7_basisWord_9 rfl (lv_at hl 1 rfl) ?_
    refine lv_iload_n hx hb dX7_basisWord_10 rfl (lv_at hl 2 rfl) ?_
    refine lv_iconst (v := (-1)) hx hb dX7_basisWord_11 (by decide) ?_
    obtain ⟨ho, hf⟩ := chk_inv hf
    obtain ⟨_, σ10, hk, hf⟩ := bnd_inv hf
    refine z_callV (As := [.int a1, .int (-1)]) (rest := []) (m_X7_spans hC.2.2.2.2.2.2.2.2 hk) hC hw wd_X7_spans lkM_X7_182 (isO_sh ho) rfl rfl ⟨rfl, rfl⟩ ⟨(Nat.le_of_ble_eq_true rfl), (Nat.le_of_ble_eq_true rfl)⟩ hl.1 rfl (Nat.le_of_ble_eq_true rfl) dX7_basisWord_12 ⟨(Nat.le_of_ble_eq_true rfl), (Nat.le_of_ble_eq_true rfl)⟩ (fun H locs hw => ?_)
    exact t_X7_basisWord_L15 hC hr hf hw (lv_sub hl [1, 3, 0] rfl)
set_option maxHeartbeats 4000000 in
set_option maxRecDepth 100000 in
theorem t_X7_blocks_B16 (hC : zC p l s m args meth c cX7_blocks 6 RX7 D cA B0) (hr : meth.sig.returnType = (Option.none : Option Jvm.ClassFile.FieldType)) {Γ : zSh} {x0 : Nat} {x1 : Int32} {x2 : Int32} {x3 : Int32} {x4 : Int32} {x5 : Int32} {σ : zSt} {out : ((Int32 × zSt) ⊕ (zSt))} (hf : f_X7_blocks_B16 Γ x0 x1 x2 x3 x4 x5 σ = some out) {H : Heap} {locs : List Loc} {ls : Array Slot} (hw : zO D cA B0 Γ σ Z s.heap H locs) (hl : lv_has ls 6 [(0, .ref x0), (1, .int x1), (2, .int x2), (3, .int x3), (4, .int x4), (5, .int x5)])
    (kI : ∀ (z5 : Int32) (σ2 : zSt), out = .inl (z5, σ2) → ∀ (H : Heap) (locs : List Loc) (ls : Array Slot), zO D cA B0 Γ σ2 Z s.heap H locs → lv_has ls 6 [(0, .ref x0), (1, .int x1), (2, .int x2), (3, .int x3), (4, .int x4), (5, .int z5)] → W p l e rm_X7_blocks s m args below meth c H locs 0 0 Q (F0 m 16 ls []))
    (kE : ∀ (σ2 : zSt), out = .inr σ2 → ∀ (H : Heap) (locs : List Loc) (ls : Array Slot), zO D cA B0 Γ σ2 Z s.heap H locs → lv_has ls 6 [(0, .ref x0), (1, .int x1), (2, .int x2), (3, .int x3), (4, .int x4)] → W p l e rm_X7_blocks s m args below meth c H locs 0 0 Q (F0 m 96 ls [])) :
    W p l e rm_X7_blocks s m args below meth c H locs 0 0 Q (F0 m 16 ls []) := by
  have hx := hC.1
  have hb := hC.2.1
  unfold f_X7_blocks_B16 at hf
  refine lv_iload hx hb dX7_blocks_16 (lv_at hl 5 rfl) ?_
  refine lv_aload_n hx hb dX7_blocks_18 rfl (lv_at hl 0 rfl) ?_
  refine lv_iload_n hx hb dX7_blocks_19 rfl (lv_at hl 1 rfl) ?_
  obtain ⟨ho, hf⟩ := chk_inv hf
  obtain ⟨r4, σ3, hk, hf⟩ := bnd_inv hf
  refine z_callV (As := [.int x1]) (rest := [.int x5]) (m_X7_many hC.2.2.2.2.2.2.2.2 hk) hC hw wd_X7_many lkM_X7_78 (isO_sh ho) rfl rfl ⟨rfl, rfl⟩ ⟨(Nat.le_of_ble_eq_true rfl), (Nat.le_of_ble_eq_true rfl)⟩ hl.1 rfl (Nat.le_of_ble_eq_true rfl) dX7_blocks_20 ⟨(Nat.le_of_ble_eq_true rfl), (Nat.le_of_ble_eq_true rfl)⟩ (fun H locs hw => ?_)
  refine lv_icmp_ge (tgt := 96) hx hb dX7_blocks_23 (by decide) (fun hc => ?_) (fun hc => ?_)
  · rw [if_pos hc] at hf
    exact kE  σ3 (Option.some.inj hf).symm _ _ _ hw (lv_sub hl [0, 1, 2, 3, 4] rfl)
  · rw [if_neg hc] at hf
    refine lv_aload_n hx hb dX7_blocks_26 rfl (lv_at hl 0 rfl) ?_
    obtain ⟨v5, hg, hf⟩ := gfR_inv hf
    refine r_gfR hC hw hg clX7 (Nat.le_of_ble_eq_true rfl) lkF_X7_7 rfl dX7_blocks_27 ?_
    refine lv_iload_n hx hb dX7_blocks_30 rfl (lv_at hl 2 rfl) ?_
    refine lv_iconst (v := 0) hx hb dX7_blocks_31 (by decide) ?_
    refine lv_iload_n hx hb dX7_blocks_32 rfl (lv_at hl 3 rfl) ?_
    refine lv_iload hx hb dX7_blocks_33 (lv_at hl 4 rfl) ?_
    refine lv_iadd hx hb dX7_blocks_35 ?_
    refine lv_iload_n hx hb dX7_blocks_36 rfl (lv_at hl 3 rfl) ?_
    refine lv_iload hx hb dX7_blocks_37 (lv_at hl 5 rfl) ?_
    refine lv_iadd hx hb dX7_blocks_39 ?_
    obtain ⟨r7, σ6, hk, hf⟩ := bnd_inv hf
    refine z_callS (As := [.int x2, .int 0, .int (x3 + x4), .int (x3 + x5)]) (rest := [.ref v5]) (m_X7_at hC.2.2.2.2.2.2.2.2 hk) hC hw wd_X7_at lkM_X7_116 rfl ⟨rfl, rfl⟩ ⟨(Nat.le_of_ble_eq_true rfl), (Nat.le_of_ble_eq_true rfl)⟩ hl.1 rfl (Nat.le_of_ble_eq_true rfl) dX7_blocks_40 ⟨(Nat.le_of_ble_eq_true rfl), (Nat.le_of_ble_eq_true rfl)⟩ (fun H locs hw => ?_)
    refine lv_aload_n hx hb dX7_blocks_43 rfl (lv_at hl 0 rfl) ?_
    obtain ⟨v8, hg, hf⟩ := gfR_inv hf
    refine r_gfR hC hw hg clX7 (Nat.le_of_ble_eq_true rfl) lkF_X7_7 rfl dX7_blocks_44 ?_
    refine lv_iload_n hx hb dX7_blocks_47 rfl (lv_at hl 1 rfl) ?_
    refine lv_iconst (v := 0) hx hb dX7_blocks_48 (by decide) ?_
    refine lv_iload hx hb dX7_blocks_49 (lv_at hl 4 rfl) ?_
    refine lv_iload hx hb dX7_blocks_51 (lv_at hl 5 rfl) ?_
    obtain ⟨r10, σ9, hk, hf⟩ := bnd_inv hf
    refine z_callS (As := [.int x1, .int 0, .int x4, .int x5]) (rest := [.ref v8, .int r7, .ref v5]) (m_X7_at hC.2.2.2.2.2.2.2.2 hk) hC hw wd_X7_at lkM_X7_116 rfl ⟨rfl, rfl⟩ ⟨(Nat.le_of_ble_eq_true rfl), (Nat.le_of_ble_eq_true rfl)⟩ hl.1 rfl (Nat.le_of_ble_eq_true rfl) dX7_blocks_53 ⟨(Nat.le_of_ble_eq_true rfl), (Nat.le_of_ble_eq_true rfl)⟩ (fun H locs hw => ?_)
    obtain ⟨v11, hg, hf⟩ := ldI_inv hf
    refine r_ldI hC hw hg dX7_blocks_56 ?_
    obtain ⟨σ12, hg, hf⟩ := stI_inv hf
    refine r_stI hC hw hg dX7_blocks_57 (fun H locs hw => ?_)
    refine lv_aload_n hx hb dX7_blocks_58 rfl (lv_at hl 0 rfl) ?_
    obtain ⟨v13, hg, hf⟩ := gfR_inv hf
    refine r_gfR hC hw hg clX7 (Nat.le_of_ble_eq_true rfl) lkF_X7_7 rfl dX7_blocks_59 ?_
    refine lv_iload_n hx hb dX7_blocks_62 rfl (lv_at hl 2 rfl) ?_
    refine lv_iconst (v := 1) hx hb dX7_blocks_63 (by decide) ?_
    refine lv_iload_n hx hb dX7_blocks_64 rfl (lv_at hl 3 rfl) ?_
    refine lv_iload hx hb dX7_blocks_65 (lv_at hl 4 rfl) ?_
    refine lv_iadd hx hb dX7_blocks_67 ?_
    refine lv_iload_n hx hb dX7_blocks_68 rfl (lv_at hl 3 rfl) ?_
    refine lv_iload hx hb dX7_blocks_69 (lv_at hl 5 rfl) ?_
    refine lv_iadd hx hb dX7_blocks_71 ?_
    obtain ⟨r15, σ14, hk, hf⟩ := bnd_inv hf
    refine z_callS (As := [.int x2, .int 1, .int (x3 + x4), .int (x3 + x5)]) (rest := [.ref v13]) (m_X7_at hC.2.2.2.2.2.2.2.2 hk) hC hw wd_X7_at lkM_X7_116 rfl ⟨rfl, rfl⟩ ⟨(Nat.le_of_ble_eq_true rfl), (Nat.le_of_ble_eq_true rfl)⟩ hl.1 rfl (Nat.le_of_ble_eq_true rfl) dX7_blocks_72 ⟨(Nat.le_of_ble_eq_true rfl), (Nat.le_of_ble_eq_true rfl)⟩ (fun H locs hw => ?_)
    refine lv_aload_n hx hb dX7_blocks_75 rfl (lv_at hl 0 rfl) ?_
    obtain ⟨v16, hg, hf⟩ := gfR_inv hf
    refine r_gfR hC hw hg clX7 (Nat.le_of_ble_eq_true rfl) lkF_X7_7 rfl dX7_blocks_76 ?_
    refine lv_iload_n hx hb dX7_blocks_79 rfl (lv_at hl 1 rfl) ?_
    refine lv_iconst (v := 1) hx hb dX7_blocks_80 (by decide) ?_
    refine lv_iload hx hb dX7_blocks_81 (lv_at hl 4 rfl) ?_
    refine lv_iload hx hb dX7_blocks_83 (lv_at hl 5 rfl) ?_
    obtain ⟨r18, σ17, hk, hf⟩ := bnd_inv hf
    refine z_callS (As := [.int x1, .int 1, .int x4, .int x5]) (rest := [.ref v16, .int r15, .ref v13]) (m_X7_at hC.2.2.2.2.2.2.2.2 hk) hC hw wd_X7_at lkM_X7_116 rfl ⟨rfl, rfl⟩ ⟨(Nat.le_of_ble_eq_true rfl), (Nat.le_of_ble_eq_true rfl)⟩ hl.1 rfl (Nat.le_of_ble_eq_true rfl) dX7_blocks_85 ⟨(Nat.le_of_ble_eq_true rfl), (Nat.le_of_ble_eq_true rfl)⟩ (fun H locs hw => ?_)
    obtain ⟨v19, hg, hf⟩ := ldI_inv hf
    refine r_ldI hC hw hg dX7_blocks_88 ?_
    obtain ⟨σ20, hg, hf⟩ := stI_inv hf
    refine r_stI hC hw hg dX7_blocks_89 (fun H locs hw => ?_)
    refine lv_iinc (v := (x5 + 1)) (lv' := [(5, .int (x5 + 1)), (0, .ref x0), (1, .int x1), (2, .int x2), (3, .int x3), (4, .int x4)]) hx hb dX7_blocks_90 hl (k := 5) rfl rfl (Nat.le_of_ble_eq_true rfl) rfl (fun ls hl => ?_)
    refine lv_goto (tgt := 16) hx hb dX7_blocks_93 (by decide) ?_
    exact kI (x5 + 1) σ20 (Option.some.inj hf).symm _ _ _ hw (lv_sub hl [1, 2, 3, 4, 5, 0] rfl)
set_option maxHeartbeats 4000000 in
theorem l_X7_blocks_B16 (hC : zC p l s m args meth c cX7_blocks 6 RX7 D cA B0) (hr : meth.sig.returnType = (Option.none : Option Jvm.ClassFile.FieldType)) {Γ : zSh} {x0 : Nat} {x1 : Int32} {x2 : Int32} {x3 : Int32} {x4 : Int32} {σ2 : zSt} (kE : ∀ (H : Heap) (locs : List Loc) (ls : Array Slot), zO D cA B0 Γ σ2 Z s.heap H locs → lv_has ls 6 [(0, .ref x0), (1, .int x1), (2, .int x2), (3, .int x3), (4, .int x4)] → W p l e rm_X7_blocks s m args below meth c H locs 0 0 Q (F0 m 96 ls [])) :
    ∀ (n : Nat) (x5 : Int32) (σ : zSt), loopM (fun q => f_X7_blocks_B16 Γ x0 x1 x2 x3 x4 q.1 q.2) n (x5, σ) = some σ2 → ∀ (H : Heap) (locs : List Loc) (ls : Array Slot), zO D cA B0 Γ σ Z s.heap H locs → lv_has ls 6 [(0, .ref x0), (1, .int x1), (2, .int x2), (3, .int x3), (4, .int x4), (5, .int x5)] → W p l e rm_X7_blocks s m args below meth c H locs 0 0 Q (F0 m 16 ls []) := by
  intro n
  induction n with
  | zero => intro x5 σ h; exact absurd h (by simp [loopM])
  | succ n ih =>
    intro x5 σ h H locs ls hw hl
    obtain ⟨r, h1, h2, h3⟩ := loopM_inv h
    exact t_X7_blocks_B16 hC hr h1 hw hl (fun z5 s2 e H locs ls hw hl => ih z5 s2 (h2 _ e) H locs ls hw hl) (fun s2 e H locs ls hw hl => by cases h3 _ e; exact kE H locs ls hw hl)
set_option maxHeartbeats 4000000 in
set_option maxRecDepth 100000 in
theorem t_X7_blocks_B3 (hC : zC p l s m args meth c cX7_blocks 6 RX7 D cA B0) (hr : meth.sig.returnType = (Option.none : Option Jvm.ClassFile.FieldType)) {Γ : zSh} {x0 : Nat} {x1 : Int32} {x2 : Int32} {x3 : Int32} {x4 : Int32} {σ : zSt} {out : ((Int32 × zSt) ⊕ (zSt))} (hf : f_X7_blocks_B3 Γ x0 x1 x2 x3 x4 σ = some out) {H : Heap} {locs : List Loc} {ls : Array Slot} (hw : zO D cA B0 Γ σ Z s.heap H locs) (hl : lv_has ls 6 [(0, .ref x0), (1, .int x1), (2, .int x2), (3, .int x3), (4, .int x4)])
    (kI : ∀ (z4 : Int32) (σ2 : zSt), out = .inl (z4, σ2) → ∀ (H : Heap) (locs : List Loc) (ls : Array Slot), zO D cA B0 Γ σ2 Z s.heap H locs → lv_has ls 6 [(0, .ref x0), (1, .int x1), (2, .int x2), (3, .int x3), (4, .int z4)] → W p l e rm_X7_blocks s m args below meth c H locs 0 0 Q (F0 m 3 ls []))
    (kE : ∀ (σ2 : zSt), out = .inr σ2 → ∀ (H : Heap) (locs : List Loc) (ls : Array Slot), zO D cA B0 Γ σ2 Z s.heap H locs → lv_has ls 6 [] → W p l e rm_X7_blocks s m args below meth c H locs 0 0 Q (F0 m 102 ls [])) :
    W p l e rm_X7_blocks s m args below meth c H locs 0 0 Q (F0 m 3 ls []) := by
  have hx := hC.1
  have hb := hC.2.1
  unfold f_X7_blocks_B3 at hf
  refine lv_iload hx hb dX7_blocks_3 (lv_at hl 4 rfl) ?_
  refine lv_aload_n hx hb dX7_blocks_5 rfl (lv_at hl 0 rfl) ?_
  refine lv_iload_n hx hb dX7_blocks_6 rfl (lv_at hl 1 rfl) ?_
  obtain ⟨ho, hf⟩ := chk_inv hf
  obtain ⟨r2, σ1, hk, hf⟩ := bnd_inv hf
  refine z_callV (As := [.int x1]) (rest := [.int x4]) (m_X7_many hC.2.2.2.2.2.2.2.2 hk) hC hw wd_X7_many lkM_X7_78 (isO_sh ho) rfl rfl ⟨rfl, rfl⟩ ⟨(Nat.le_of_ble_eq_true rfl), (Nat.le_of_ble_eq_true rfl)⟩ hl.1 rfl (Nat.le_of_ble_eq_true rfl) dX7_blocks_7 ⟨(Nat.le_of_ble_eq_true rfl), (Nat.le_of_ble_eq_true rfl)⟩ (fun H locs hw => ?_)
  refine lv_icmp_ge (tgt := 102) hx hb dX7_blocks_10 (by decide) (fun hc => ?_) (fun hc => ?_)
  · rw [if_pos hc] at hf
    exact kE  σ1 (Option.some.inj hf).symm _ _ _ hw (lv_sub hl [] rfl)
  · rw [if_neg hc] at hf
    refine lv_iconst (v := 0) hx hb dX7_blocks_13 (by decide) ?_
    refine lv_istore (lv' := [(5, .int 0), (0, .ref x0), (1, .int x1), (2, .int x2), (3, .int x3), (4, .int x4)]) hx hb dX7_blocks_14 hl (Nat.le_of_ble_eq_true rfl) rfl (fun ls hl => ?_)
    obtain ⟨σ21, hk, hf⟩ := lb0_inv hf
    refine l_X7_blocks_B16 hC hr (fun H locs ls hw hl => ?_) FUEL 0 σ1 hk _ _ _ hw (lv_sub hl [1, 2, 3, 4, 5, 0] rfl)
    refine lv_iinc (v := (x4 + 1)) (lv' := [(4, .int (x4 + 1)), (0, .ref x0), (1, .int x1), (2, .int x2), (3, .int x3)]) hx hb dX7_blocks_96 hl (k := 4) rfl rfl (Nat.le_of_ble_eq_true rfl) rfl (fun ls hl => ?_)
    refine lv_goto (tgt := 3) hx hb dX7_blocks_99 (by decide) ?_
    exact kI (x4 + 1) σ21 (Option.some.inj hf).symm _ _ _ hw (lv_sub hl [1, 2, 3, 4, 0] rfl)
set_option maxHeartbeats 4000000 in
theorem l_X7_blocks_B3 (hC : zC p l s m args meth c cX7_blocks 6 RX7 D cA B0) (hr : meth.sig.returnType = (Option.none : Option Jvm.ClassFile.FieldType)) {Γ : zSh} {x0 : Nat} {x1 : Int32} {x2 : Int32} {x3 : Int32} {σ2 : zSt} (kE : ∀ (H : Heap) (locs : List Loc) (ls : Array Slot), zO D cA B0 Γ σ2 Z s.heap H locs → lv_has ls 6 [] → W p l e rm_X7_blocks s m args below meth c H locs 0 0 Q (F0 m 102 ls [])) :
    ∀ (n : Nat) (x4 : Int32) (σ : zSt), loopM (fun q => f_X7_blocks_B3 Γ x0 x1 x2 x3 q.1 q.2) n (x4, σ) = some σ2 → ∀ (H : Heap) (locs : List Loc) (ls : Array Slot), zO D cA B0 Γ σ Z s.heap H locs → lv_has ls 6 [(0, .ref x0), (1, .int x1), (2, .int x2), (3, .int x3), (4, .int x4)] → W p l e rm_X7_blocks s m args below meth c H locs 0 0 Q (F0 m 3 ls []) := by
  intro n
  induction n with
  | zero => intro x4 σ h; exact absurd h (by simp [loopM])
  | succ n ih =>
    intro x4 σ h H locs ls hw hl
    obtain ⟨r, h1, h2, h3⟩ := loopM_inv h
    exact t_X7_blocks_B3 hC hr h1 hw hl (fun z4 s2 e H locs ls hw hl => ih z4 s2 (h2 _ e) H locs ls hw hl) (fun s2 e H locs ls hw hl => by cases h3 _ e; exact kE H locs ls hw hl)
set_option maxHeartbeats 4000000 in
set_option maxRecDepth 100000 in
theorem m_X7_blocks (h9 : l.stackTraces = false) {Γ : zSh} {a0 : Nat} {a1 : Int32} {a2 : Int32} {a3 : Int32} {σ : zSt} {r : Unit} {σ2 : zSt} (hf : f_X7_blocks Γ a0 a1 a2 a3 σ = some (r, σ2)) : Met l yX7_blocks (wq yX7_blocks cX7_blocks 6 (Option.none : Option Jvm.ClassFile.FieldType)) rm_X7_blocks (zQ0 D cA B0 [.ref a0, .int a1, .int a2, .int a3] Γ σ Z) (zQ1 D cA B0 (none) Γ σ2 Z) 0 0 (FR B0) := by
  refine z_ofW h9 (by decide) (Nat.le_of_ble_eq_true rfl) ?_
  intro p e s m args below meth c ls hC hr _ hw hl
  have hx := hC.1
  have hb := hC.2.1
  have hl : lv_has ls 6 [(0, .ref a0), (1, .int a1), (2, .int a2), (3, .int a3)] := hl
  unfold f_X7_blocks at hf
  refine lv_iconst (v := 0) hx hb dX7_blocks_0 (by decide) ?_
  refine lv_istore (lv' := [(4, .int 0), (0, .ref a0), (1, .int a1), (2, .int a2), (3, .int a3)]) hx hb dX7_blocks_1 hl (Nat.le_of_ble_eq_true rfl) rfl (fun ls hl => ?_)
  obtain ⟨σ22, hk, hf⟩ := lb0_inv hf
  refine l_X7_blocks_B3 hC hr (fun H locs ls hw hl => ?_) FUEL 0 σ hk _ _ _ hw (lv_sub hl [1, 2, 3, 4, 0] rfl)
  first | (obtain ⟨rfl, rfl⟩ := sp_inv hf) | (obtain rfl := Option.some.inj hf)
  exact W.vret hx hb hr (z_ret hw rfl) hw.2.2.2.2.2 dX7_blocks_102 hC.2.2.2.2.2.1
set_option maxHeartbeats 4000000 in
set_option maxRecDepth 100000 in
theorem t_X7_sums_B37_L139 (hC : zC p l s m args meth c cX7_sums 7 RX7 D cA B0) (hr : meth.sig.returnType = (Option.none : Option Jvm.ClassFile.FieldType)) {Γ : zSh} {x0 : Nat} {x1 : Int32} {x2 : Int32} {x3 : Int32} {x4 : Int32} {x6 : Int32} {s0 : Int32} {s1 : Nat} {s2 : Int32} {s3 : Nat}  {σ : zSt} {out : ((Int32 × zSt) ⊕ (zSt))} (hf : f_X7_sums_B37_L139 Γ x0 x1 x2 x3 x4 x6 s0 s1 s2 s3 σ = some out) {H : Heap} {locs : List Loc} {ls : Array Slot} (hw : zO D cA B0 Γ σ Z s.heap H locs) (hl : lv_has ls 7 [(0, .ref x0), (1, .int x1), (2, .int x2), (3, .int x3), (4, .int x4), (6, .int x6)])
    (kI : ∀ (z4 : Int32) (σ2 : zSt), out = .inl (z4, σ2) → ∀ (H : Heap) (locs : List Loc) (ls : Array Slot), zO D cA B0 Γ σ2 Z s.heap H locs → lv_has ls 7 [(0, .ref x0), (1, .int x1), (2, .int x2), (3, .int x3), (4, .int z4)] → W p l e rm_X7_sums s m args below meth c H locs 0 0 Q (F0 m 37 ls []))
    (kE : ∀ (σ2 : zSt), out = .inr σ2 → ∀ (H : Heap) (locs : List Loc) (ls : Array Slot), zO D cA B0 Γ σ2 Z s.heap H locs → lv_has ls 7 [] → W p l e rm_X7_sums s m args below meth c H locs 0 0 Q (F0 m 152 ls [])) :
    W p l e rm_X7_sums s m args below meth c H locs 0 0 Q (F0 m 139 ls [.int s0, .ref s1, .int s2, .ref s3]) := by
  have hx := hC.1
  have hb := hC.2.1
  unfold f_X7_sums_B37_L139 at hf
  refine lv_iload hx hb dX7_sums_139 (lv_at hl 5 rfl) ?_
  obtain ⟨r29, σ28, hk, hf⟩ := bnd_inv hf
  refine z_callS (As := [.int s0, .int x6]) (rest := [.ref s1, .int s2, .ref s3]) (m_X7_finalAt hC.2.2.2.2.2.2.2.2 hk) hC hw wd_X7_finalAt lkM_X7_85 rfl ⟨rfl, rfl⟩ ⟨(Nat.le_of_ble_eq_true rfl), (Nat.le_of_ble_eq_true rfl)⟩ hl.1 rfl (Nat.le_of_ble_eq_true rfl) dX7_sums_141 ⟨(Nat.le_of_ble_eq_true rfl), (Nat.le_of_ble_eq_true rfl)⟩ (fun H locs hw => ?_)
  obtain ⟨v30, hg, hf⟩ := ldI_inv hf
  refine r_ldI hC hw hg dX7_sums_144 ?_
  obtain ⟨σ31, hg, hf⟩ := stI_inv hf
  refine r_stI hC hw hg dX7_sums_145 (fun H locs hw => ?_)
  refine lv_iinc (v := (x4 + 1)) (lv' := [(4, .int (x4 + 1)), (0, .ref x0), (1, .int x1), (2, .int x2), (3, .int x3), (6, .int x6)]) hx hb dX7_sums_146 hl (k := 4) rfl rfl (Nat.le_of_ble_eq_true rfl) rfl (fun ls hl => ?_)
  refine lv_goto (tgt := 37) hx hb dX7_sums_149 (by decide) ?_
  exact kI (x4 + 1) σ31 (Option.some.inj hf).symm _ _ _ hw (lv_sub hl [1, 2, 3, 4, 0] rfl)
set_option maxHeartbeats 4000000 in
set_option maxRecDepth 100000 in
theorem t_X7_sums_B37_L108 (hC : zC p l s m args meth c cX7_sums 7 RX7 D cA B0) (hr : meth.sig.returnType = (Option.none : Option Jvm.ClassFile.FieldType)) {Γ : zSh} {x0 : Nat} {x1 : Int32} {x2 : Int32} {x3 : Int32} {x4 : Int32} {x5 : Int32} {x6 : Int32} {s0 : Int32} {s1 : Nat} {s2 : Int32} {s3 : Nat}  {σ : zSt} {out : ((Int32 × zSt) ⊕ (zSt))} (hf : f_X7_sums_B37_L108 Γ x0 x1 x2 x3 x4 x5 x6 s0 s1 s2 s3 σ = some out) {H : Heap} {locs : List Loc} {ls : Array Slot} (hw : zO D cA B0 Γ σ Z s.heap H locs) (hl : lv_has ls 7 [(0, .ref x0), (1, .int x1), (2, .int x2), (3, .int x3), (4, .int x4), (5, .int x5), (6, .int x6)])
    (kI : ∀ (z4 : Int32) (σ2 : zSt), out = .inl (z4, σ2) → ∀ (H : Heap) (locs : List Loc) (ls : Array Slot), zO D cA B0 Γ σ2 Z s.heap H locs → lv_has ls 7 [(0, .ref x0), (1, .int x1), (2, .int x2), (3, .int x3), (4, .int z4)] → W p l e rm_X7_sums s m args below meth c H locs 0 0 Q (F0 m 37 ls []))
    (kE : ∀ (σ2 : zSt), out = .inr σ2 → ∀ (H : Heap) (locs : List Loc) (ls : Array Slot), zO D cA B0 Γ σ2 Z s.heap H locs → lv_has ls 7 [] → W p l e rm_X7_sums s m args below meth c H locs 0 0 Q (F0 m 152 ls [])) :
    W p l e rm_X7_sums s m args below meth c H locs 0 0 Q (F0 m 108 ls [.int s0, .ref s1, .int s2, .ref s3]) := by
  have hx := hC.1
  have hb := hC.2.1
  unfold f_X7_sums_B37_L108 at hf
  refine lv_iload hx hb dX7_sums_108 (lv_at hl 6 rfl) ?_
  obtain ⟨r21, σ20, hk, hf⟩ := bnd_inv hf
  refine z_callS (As := [.int s0, .int x6]) (rest := [.ref s1, .int s2, .ref s3]) (m_X7_initialAt hC.2.2.2.2.2.2.2.2 hk) hC hw wd_X7_initialAt lkM_X7_82 rfl ⟨rfl, rfl⟩ ⟨(Nat.le_of_ble_eq_true rfl), (Nat.le_of_ble_eq_true rfl)⟩ hl.1 rfl (Nat.le_of_ble_eq_true rfl) dX7_sums_110 ⟨(Nat.le_of_ble_eq_true rfl), (Nat.le_of_ble_eq_true rfl)⟩ (fun H locs hw => ?_)
  obtain ⟨v22, hg, hf⟩ := ldI_inv hf
  refine r_ldI hC hw hg dX7_sums_113 ?_
  obtain ⟨σ23, hg, hf⟩ := stI_inv hf
  refine r_stI hC hw hg dX7_sums_114 (fun H locs hw => ?_)
  refine lv_aload_n hx hb dX7_sums_115 rfl (lv_at hl 0 rfl) ?_
  obtain ⟨v24, hg, hf⟩ := gfR_inv hf
  refine r_gfR hC hw hg clX7 (Nat.le_of_ble_eq_true rfl) lkF_X7_7 rfl dX7_sums_116 ?_
  refine lv_iload_n hx hb dX7_sums_119 rfl (lv_at hl 3 rfl) ?_
  refine lv_iload hx hb dX7_sums_120 (lv_at hl 4 rfl) ?_
  obtain ⟨r26, σ25, hk, hf⟩ := bnd_inv hf
  refine z_callS (As := [.int x3, .int x4]) (rest := [.ref v24]) (m_X7_finalAt hC.2.2.2.2.2.2.2.2 hk) hC hw wd_X7_finalAt lkM_X7_85 rfl ⟨rfl, rfl⟩ ⟨(Nat.le_of_ble_eq_true rfl), (Nat.le_of_ble_eq_true rfl)⟩ hl.1 rfl (Nat.le_of_ble_eq_true rfl) dX7_sums_122 ⟨(Nat.le_of_ble_eq_true rfl), (Nat.le_of_ble_eq_true rfl)⟩ (fun H locs hw => ?_)
  refine lv_aload_n hx hb dX7_sums_125 rfl (lv_at hl 0 rfl) ?_
  obtain ⟨v27, hg, hf⟩ := gfR_inv hf
  refine r_gfR hC hw hg clX7 (Nat.le_of_ble_eq_true rfl) lkF_X7_7 rfl dX7_sums_126 ?_
  refine lv_iload hx hb dX7_sums_129 (lv_at hl 5 rfl) ?_
  refine lv_if_eq (tgt := 138) hx hb dX7_sums_131 (by decide) (fun hc => ?_) (fun hc => ?_)
  · rw [if_pos hc] at hf
    refine lv_iload_n hx hb dX7_sums_138 rfl (lv_at hl 2 rfl) ?_
    exact t_X7_sums_B37_L139 hC hr hf hw (lv_sub hl [0, 1, 2, 3, 4, 6] rfl) kI kE
  · rw [if_neg hc] at hf
    refine lv_iload_n hx hb dX7_sums_134 rfl (lv_at hl 1 rfl) ?_
    refine lv_goto (tgt := 139) hx hb dX7_sums_135 (by decide) ?_
    exact t_X7_sums_B37_L139 hC hr hf hw (lv_sub hl [0, 1, 2, 3, 4, 6] rfl) kI kE
set_option maxHeartbeats 4000000 in
set_option maxRecDepth 100000 in
theorem t_X7_sums_B37_L82 (hC : zC p l s m args meth c cX7_sums 7 RX7 D cA B0) (hr : meth.sig.returnType = (Option.none : Option Jvm.ClassFile.FieldType)) {Γ : zSh} {x0 : Nat} {x1 : Int32} {x2 : Int32} {x3 : Int32} {x4 : Int32} {x5 : Int32} {s0 : Int32}  {σ : zSt} {out : ((Int32 × zSt) ⊕ (zSt))} (hf : f_X7_sums_B37_L82 Γ x0 x1 x2 x3 x4 x5 s0 σ = some out) {H : Heap} {locs : List Loc} {ls : Array Slot} (hw : zO D cA B0 Γ σ Z s.heap H locs) (hl : lv_has ls 7 [(0, .ref x0), (1, .int x1), (2, .int x2), (3, .int x3), (4, .int x4), (5, .int x5)])
    (kI : ∀ (z4 : Int32) (σ2 : zSt), out = .inl (z4, σ2) → ∀ (H : Heap) (locs : List Loc) (ls : Array Slot), zO D cA B0 Γ σ2 Z s.heap H locs → lv_has ls 7 [(0, .ref x0), (1, .int x1), (2, .int x2), (3, .int x3), (4, .int z4)] → W p l e rm_X7_sums s m args below meth c H locs 0 0 Q (F0 m 37 ls []))
    (kE : ∀ (σ2 : zSt), out = .inr σ2 → ∀ (H : Heap) (locs : List Loc) (ls : Array Slot), zO D cA B0 Γ σ2 Z s.heap H locs → lv_has ls 7 [] → W p l e rm_X7_sums s m args below meth c H locs 0 0 Q (F0 m 152 ls [])) :
    W p l e rm_X7_sums s m args below meth c H locs 0 0 Q (F0 m 82 ls [.int s0]) := by
  have hx := hC.1
  have hb := hC.2.1
  unfold f_X7_sums_B37_L82 at hf
  refine lv_istore (lv' := [(6, .int s0), (0, .ref x0), (1, .int x1), (2, .int x2), (3, .int x3), (4, .int x4), (5, .int x5)]) hx hb dX7_sums_82 hl (Nat.le_of_ble_eq_true rfl) rfl (fun ls hl => ?_)
  refine lv_aload_n hx hb dX7_sums_84 rfl (lv_at hl 1 rfl) ?_
  obtain ⟨v16, hg, hf⟩ := gfR_inv hf
  refine r_gfR hC hw hg clX7 (Nat.le_of_ble_eq_true rfl) lkF_X7_7 rfl dX7_sums_85 ?_
  refine lv_iload_n hx hb dX7_sums_88 rfl (lv_at hl 4 rfl) ?_
  refine lv_iload hx hb dX7_sums_89 (lv_at hl 5 rfl) ?_
  obtain ⟨r18, σ17, hk, hf⟩ := bnd_inv hf
  refine z_callS (As := [.int x3, .int x4]) (rest := [.ref v16]) (m_X7_initialAt hC.2.2.2.2.2.2.2.2 hk) hC hw wd_X7_initialAt lkM_X7_82 rfl ⟨rfl, rfl⟩ ⟨(Nat.le_of_ble_eq_true rfl), (Nat.le_of_ble_eq_true rfl)⟩ hl.1 rfl (Nat.le_of_ble_eq_true rfl) dX7_sums_91 ⟨(Nat.le_of_ble_eq_true rfl), (Nat.le_of_ble_eq_true rfl)⟩ (fun H locs hw => ?_)
  refine lv_aload_n hx hb dX7_sums_94 rfl (lv_at hl 1 rfl) ?_
  obtain ⟨v19, hg, hf⟩ := gfR_inv hf
  refine r_gfR hC hw hg clX7 (Nat.le_of_ble_eq_true rfl) lkF_X7_7 rfl dX7_sums_95 ?_
  refine lv_iload hx hb dX7_sums_98 (lv_at hl 6 rfl) ?_
  refine lv_if_eq (tgt := 107) hx hb dX7_sums_100 (by decide) (fun hc => ?_) (fun hc => ?_)
  · rw [if_pos hc] at hf
    refine lv_iload_n hx hb dX7_sums_107 rfl (lv_at hl 3 rfl) ?_
    exact t_X7_sums_B37_L108 hC hr hf hw (lv_sub hl [1, 2, 3, 4, 5, 6, 0] rfl) kI kE
  · rw [if_neg hc] at hf
    refine lv_iload_n hx hb dX7_sums_103 rfl (lv_at hl 2 rfl) ?_
    refine lv_goto (tgt := 108) hx hb dX7_sums_104 (by decide) ?_
    exact t_X7_sums_B37_L108 hC hr hf hw (lv_sub hl [1, 2, 3, 4, 5, 6, 0] rfl) kI kE
set_option maxHeartbeats 4000000 in
set_option maxRecDepth 100000 in
theorem t_X7_sums_B37_L62 (hC : zC p l s m args meth c cX7_sums 7 RX7 D cA B0) (hr : meth.sig.returnType = (Option.none : Option Jvm.ClassFile.FieldType)) {Γ : zSh} {x0 : Nat} {x1 : Int32} {x2 : Int32} {x3 : Int32} {x4 : Int32} {s0 : Int32}  {σ : zSt} {out : ((Int32 × zSt) ⊕ (zSt))} (hf : f_X7_sums_B37_L62 Γ x0 x1 x2 x3 x4 s0 σ = some out) {H : Heap} {locs : List Loc} {ls : Array Slot} (hw : zO D cA B0 Γ σ Z s.heap H locs) (hl : lv_has ls 7 [(0, .ref x0), (1, .int x1), (2, .int x2), (3, .int x3), (4, .int x4)])
    (kI : ∀ (z4 : Int32) (σ2 : zSt), out = .inl (z4, σ2) → ∀ (H : Heap) (locs : List Loc) (ls : Array Slot), zO D cA B0 Γ σ2 Z s.heap H locs → lv_has ls 7 [(0, .ref x0), (1, .int x1), (2, .int x2), (3, .int x3), (4, .int z4)] → W p l e rm_X7_sums s m args below meth c H locs 0 0 Q (F0 m 37 ls []))
    (kE : ∀ (σ2 : zSt), out = .inr σ2 → ∀ (H : Heap) (locs : List Loc) (ls : Array Slot), zO D cA B0 Γ σ2 Z s.heap H locs → lv_has ls 7 [] → W p l e rm_X7_sums s m args below meth c H locs 0 0 Q (F0 m 152 ls [])) :
    W p l e rm_X7_sums s m args below meth c H locs 0 0 Q (F0 m 62 ls [.int s0]) := by
  have hx := hC.1
  have hb := hC.2.1
  unfold f_X7_sums_B37_L62 at hf
  refine lv_istore (lv' := [(5, .int s0), (0, .ref x0), (1, .int x1), (2, .int x2), (3, .int x3), (4, .int x4)]) hx hb dX7_sums_62 hl (Nat.le_of_ble_eq_true rfl) rfl (fun ls hl => ?_)
  refine lv_iload hx hb dX7_sums_64 (lv_at hl 0 rfl) ?_
  refine lv_if_eq (tgt := 74) hx hb dX7_sums_66 (by decide) (fun hc => ?_) (fun hc => ?_)
  · rw [if_pos hc] at hf
    refine lv_iload hx hb dX7_sums_74 (lv_at hl 5 rfl) ?_
    refine lv_aload_n hx hb dX7_sums_76 rfl (lv_at hl 1 rfl) ?_
    refine lv_iload_n hx hb dX7_sums_77 rfl (lv_at hl 2 rfl) ?_
    obtain ⟨ho, hf⟩ := chk_inv hf
    obtain ⟨r15, σ14, hk, hf⟩ := bnd_inv hf
    refine z_callV (As := [.int x1]) (rest := [.int x4]) (m_X7_many hC.2.2.2.2.2.2.2.2 hk) hC hw wd_X7_many lkM_X7_78 (isO_sh ho) rfl rfl ⟨rfl, rfl⟩ ⟨(Nat.le_of_ble_eq_true rfl), (Nat.le_of_ble_eq_true rfl)⟩ hl.1 rfl (Nat.le_of_ble_eq_true rfl) dX7_sums_78 ⟨(Nat.le_of_ble_eq_true rfl), (Nat.le_of_ble_eq_true rfl)⟩ (fun H locs hw => ?_)
    refine lv_isub hx hb dX7_sums_81 ?_
    exact t_X7_sums_B37_L82 hC hr hf hw (lv_sub hl [1, 2, 3, 4, 5, 0] rfl) kI kE
  · rw [if_neg hc] at hf
    refine lv_iload hx hb dX7_sums_69 (lv_at hl 5 rfl) ?_
    refine lv_goto (tgt := 82) hx hb dX7_sums_71 (by decide) ?_
    exact t_X7_sums_B37_L82 hC hr hf hw (lv_sub hl [1, 2, 3, 4, 5, 0] rfl) kI kE
set_option maxHeartbeats 4000000 in
set_option maxRecDepth 100000 in
theorem t_X7_sums_B37 (hC : zC p l s m args meth c cX7_sums 7 RX7 D cA B0) (hr : meth.sig.returnType = (Option.none : Option Jvm.ClassFile.FieldType)) {Γ : zSh} {x0 : Nat} {x1 : Int32} {x2 : Int32} {x3 : Int32} {x4 : Int32} {σ : zSt} {out : ((Int32 × zSt) ⊕ (zSt))} (hf : f_X7_sums_B37 Γ x0 x1 x2 x3 x4 σ = some out) {H : Heap} {locs : List Loc} {ls : Array Slot} (hw : zO D cA B0 Γ σ Z s.heap H locs) (hl : lv_has ls 7 [(0, .ref x0), (1, .int x1), (2, .int x2), (3, .int x3), (4, .int x4)])
    (kI : ∀ (z4 : Int32) (σ2 : zSt), out = .inl (z4, σ2) → ∀ (H : Heap) (locs : List Loc) (ls : Array Slot), zO D cA B0 Γ σ2 Z s.heap H locs → lv_has ls 7 [(0, .ref x0), (1, .int x1), (2, .int x2), (3, .int x3), (4, .int z4)] → W p l e rm_X7_sums s m args below meth c H locs 0 0 Q (F0 m 37 ls []))
    (kE : ∀ (σ2 : zSt), out = .inr σ2 → ∀ (H : Heap) (locs : List Loc) (ls : Array Slot), zO D cA B0 Γ σ2 Z s.heap H locs → lv_has ls 7 [] → W p l e rm_X7_sums s m args below meth c H locs 0 0 Q (F0 m 152 ls [])) :
    W p l e rm_X7_sums s m args below meth c H locs 0 0 Q (F0 m 37 ls []) := by
  have hx := hC.1
  have hb := hC.2.1
  unfold f_X7_sums_B37 at hf
  refine lv_iload hx hb dX7_sums_37 (lv_at hl 4 rfl) ?_
  refine lv_aload_n hx hb dX7_sums_39 rfl (lv_at hl 0 rfl) ?_
  refine lv_iload_n hx hb dX7_sums_40 rfl (lv_at hl 3 rfl) ?_
  obtain ⟨ho, hf⟩ := chk_inv hf
  obtain ⟨r11, σ10, hk, hf⟩ := bnd_inv hf
  refine z_callV (As := [.int x3]) (rest := [.int x4]) (m_X7_many hC.2.2.2.2.2.2.2.2 hk) hC hw wd_X7_many lkM_X7_78 (isO_sh ho) rfl rfl ⟨rfl, rfl⟩ ⟨(Nat.le_of_ble_eq_true rfl), (Nat.le_of_ble_eq_true rfl)⟩ hl.1 rfl (Nat.le_of_ble_eq_true rfl) dX7_sums_41 ⟨(Nat.le_of_ble_eq_true rfl), (Nat.le_of_ble_eq_true rfl)⟩ (fun H locs hw => ?_)
  refine lv_icmp_ge (tgt := 152) hx hb dX7_sums_44 (by decide) (fun hc => ?_) (fun hc => ?_)
  · rw [if_pos hc] at hf
    exact kE  σ10 (Option.some.inj hf).symm _ _ _ hw (lv_sub hl [] rfl)
  · rw [if_neg hc] at hf
    refine lv_iload hx hb dX7_sums_47 (lv_at hl 4 rfl) ?_
    refine lv_aload_n hx hb dX7_sums_49 rfl (lv_at hl 0 rfl) ?_
    refine lv_iload_n hx hb dX7_sums_50 rfl (lv_at hl 1 rfl) ?_
    obtain ⟨ho, hf⟩ := chk_inv hf
    obtain ⟨r13, σ12, hk, hf⟩ := bnd_inv hf
    refine z_callV (As := [.int x1]) (rest := [.int x4]) (m_X7_many hC.2.2.2.2.2.2.2.2 hk) hC hw wd_X7_many lkM_X7_78 (isO_sh ho) rfl rfl ⟨rfl, rfl⟩ ⟨(Nat.le_of_ble_eq_true rfl), (Nat.le_of_ble_eq_true rfl)⟩ hl.1 rfl (Nat.le_of_ble_eq_true rfl) dX7_sums_51 ⟨(Nat.le_of_ble_eq_true rfl), (Nat.le_of_ble_eq_true rfl)⟩ (fun H locs hw => ?_)
    refine lv_icmp_ge (tgt := 61) hx hb dX7_sums_54 (by decide) (fun hc => ?_) (fun hc => ?_)
    · rw [if_pos hc] at hf
      refine lv_iconst (v := 0) hx hb dX7_sums_61 (by decide) ?_
      exact t_X7_sums_B37_L62 hC hr hf hw (lv_sub hl [0, 1, 2, 3, 4] rfl) kI kE
    · rw [if_neg hc] at hf
      refine lv_iconst (v := 1) hx hb dX7_sums_57 (by decide) ?_
      refine lv_goto (tgt := 62) hx hb dX7_sums_58 (by decide) ?_
      exact t_X7_sums_B37_L62 hC hr hf hw (lv_sub hl [0, 1, 2, 3, 4] rfl) kI kE
set_option maxHeartbeats 4000000 in
theorem l_X7_sums_B37 (hC : zC p l s m args meth c cX7_sums 7 RX7 D cA B0) (hr : meth.sig.returnType = (Option.none : Option Jvm.ClassFile.FieldType)) {Γ : zSh} {x0 : Nat} {x1 : Int32} {x2 : Int32} {x3 : Int32} {σ2 : zSt} (kE : ∀ (H : Heap) (locs : List Loc) (ls : Array Slot), zO D cA B0 Γ σ2 Z s.heap H locs → lv_has ls 7 [] → W p l e rm_X7_sums s m args below meth c H locs 0 0 Q (F0 m 152 ls [])) :
    ∀ (n : Nat) (x4 : Int32) (σ : zSt), loopM (fun q => f_X7_sums_B37 Γ x0 x1 x2 x3 q.1 q.2) n (x4, σ) = some σ2 → ∀ (H : Heap) (locs : List Loc) (ls : Array Slot), zO D cA B0 Γ σ Z s.heap H locs → lv_has ls 7 [(0, .ref x0), (1, .int x1), (2, .int x2), (3, .int x3), (4, .int x4)] → W p l e rm_X7_sums s m args below meth c H locs 0 0 Q (F0 m 37 ls []) := by
  intro n
  induction n with
  | zero => intro x4 σ h; exact absurd h (by simp [loopM])
  | succ n ih =>
    intro x4 σ h H locs ls hw hl
    obtain ⟨r, h1, h2, h3⟩ := loopM_inv h
    exact t_X7_sums_B37 hC hr h1 hw hl (fun z4 s2 e H locs ls hw hl => ih z4 s2 (h2 _ e) H locs ls hw hl) (fun s2 e H locs ls hw hl => by cases h3 _ e; exact kE H locs ls hw hl)
set_option maxHeartbeats 4000000 in
set_option maxRecDepth 100000 in
theorem m_X7_sums (h9 : l.stackTraces = false) {Γ : zSh} {a0 : Nat} {a1 : Int32} {a2 : Int32} {a3 : Int32} {σ : zSt} {r : Unit} {σ2 : zSt} (hf : f_X7_sums Γ a0 a1 a2 a3 σ = some (r, σ2)) : Met l yX7_sums (wq yX7_sums cX7_sums 7 (Option.none : Option Jvm.ClassFile.FieldType)) rm_X7_sums (zQ0 D cA B0 [.ref a0, .int a1, .int a2, .int a3] Γ σ Z) (zQ1 D cA B0 (none) Γ σ2 Z) 0 0 (FR B0) := by
  refine z_ofW h9 (by decide) (Nat.le_of_ble_eq_true rfl) ?_
  intro p e s m args below meth c ls hC hr _ hw hl
  have hx := hC.1
  have hb := hC.2.1
  have hl : lv_has ls 7 [(0, .ref a0), (1, .int a1), (2, .int a2), (3, .int a3)] := hl
  unfold f_X7_sums at hf
  refine lv_aload_n hx hb dX7_sums_0 rfl (lv_at hl 0 rfl) ?_
  refine lv_iload_n hx hb dX7_sums_1 rfl (lv_at hl 3 rfl) ?_
  refine lv_aload_n hx hb dX7_sums_2 rfl (lv_at hl 0 rfl) ?_
  refine lv_iload_n hx hb dX7_sums_3 rfl (lv_at hl 1 rfl) ?_
  obtain ⟨ho, hf⟩ := chk_inv hf
  obtain ⟨r2, σ1, hk, hf⟩ := bnd_inv hf
  refine z_callV (As := [.int a1]) (rest := [.int a3, .ref a0]) (m_X7_many hC.2.2.2.2.2.2.2.2 hk) hC hw wd_X7_many lkM_X7_78 (isO_sh ho) rfl rfl ⟨rfl, rfl⟩ ⟨(Nat.le_of_ble_eq_true rfl), (Nat.le_of_ble_eq_true rfl)⟩ hl.1 rfl (Nat.le_of_ble_eq_true rfl) dX7_sums_4 ⟨(Nat.le_of_ble_eq_true rfl), (Nat.le_of_ble_eq_true rfl)⟩ (fun H locs hw => ?_)
  refine lv_aload_n hx hb dX7_sums_7 rfl (lv_at hl 0 rfl) ?_
  refine lv_iload_n hx hb dX7_sums_8 rfl (lv_at hl 2 rfl) ?_
  obtain ⟨ho, hf⟩ := chk_inv hf
  obtain ⟨r4, σ3, hk, hf⟩ := bnd_inv hf
  refine z_callV (As := [.int a2]) (rest := [.int r2, .int a3, .ref a0]) (m_X7_many hC.2.2.2.2.2.2.2.2 hk) hC hw wd_X7_many lkM_X7_78 (isO_sh ho) rfl rfl ⟨rfl, rfl⟩ ⟨(Nat.le_of_ble_eq_true rfl), (Nat.le_of_ble_eq_true rfl)⟩ hl.1 rfl (Nat.le_of_ble_eq_true rfl) dX7_sums_9 ⟨(Nat.le_of_ble_eq_true rfl), (Nat.le_of_ble_eq_true rfl)⟩ (fun H locs hw => ?_)
  refine lv_iadd hx hb dX7_sums_12 ?_
  obtain ⟨ho, hf⟩ := chk_inv hf
  obtain ⟨_, σ5, hk, hf⟩ := bnd_inv hf
  refine z_callV (As := [.int a3, .int (r2 + r4)]) (rest := []) (m_X7_clears hC.2.2.2.2.2.2.2.2 hk) hC hw wd_X7_clears lkM_X7_101 (isO_sh ho) rfl rfl ⟨rfl, rfl⟩ ⟨(Nat.le_of_ble_eq_true rfl), (Nat.le_of_ble_eq_true rfl)⟩ hl.1 rfl (Nat.le_of_ble_eq_true rfl) dX7_sums_13 ⟨(Nat.le_of_ble_eq_true rfl), (Nat.le_of_ble_eq_true rfl)⟩ (fun H locs hw => ?_)
  refine lv_aload_n hx hb dX7_sums_16 rfl (lv_at hl 0 rfl) ?_
  refine lv_iload_n hx hb dX7_sums_17 rfl (lv_at hl 1 rfl) ?_
  refine lv_iload_n hx hb dX7_sums_18 rfl (lv_at hl 3 rfl) ?_
  refine lv_iconst (v := 0) hx hb dX7_sums_19 (by decide) ?_
  obtain ⟨ho, hf⟩ := chk_inv hf
  obtain ⟨_, σ6, hk, hf⟩ := bnd_inv hf
  refine z_callV (As := [.int a1, .int a3, .int 0]) (rest := []) (m_X7_blocks hC.2.2.2.2.2.2.2.2 hk) hC hw wd_X7_blocks lkM_X7_206 (isO_sh ho) rfl rfl ⟨rfl, rfl⟩ ⟨(Nat.le_of_ble_eq_true rfl), (Nat.le_of_ble_eq_true rfl)⟩ hl.1 rfl (Nat.le_of_ble_eq_true rfl) dX7_sums_20 ⟨(Nat.le_of_ble_eq_true rfl), (Nat.le_of_ble_eq_true rfl)⟩ (fun H locs hw => ?_)
  refine lv_aload_n hx hb dX7_sums_23 rfl (lv_at hl 0 rfl) ?_
  refine lv_iload_n hx hb dX7_sums_24 rfl (lv_at hl 2 rfl) ?_
  refine lv_iload_n hx hb dX7_sums_25 rfl (lv_at hl 3 rfl) ?_
  refine lv_aload_n hx hb dX7_sums_26 rfl (lv_at hl 0 rfl) ?_
  refine lv_iload_n hx hb dX7_sums_27 rfl (lv_at hl 1 rfl) ?_
  obtain ⟨ho, hf⟩ := chk_inv hf
  obtain ⟨r8, σ7, hk, hf⟩ := bnd_inv hf
  refine z_callV (As := [.int a1]) (rest := [.int a3, .int a2, .ref a0]) (m_X7_many hC.2.2.2.2.2.2.2.2 hk) hC hw wd_X7_many lkM_X7_78 (isO_sh ho) rfl rfl ⟨rfl, rfl⟩ ⟨(Nat.le_of_ble_eq_true rfl), (Nat.le_of_ble_eq_true rfl)⟩ hl.1 rfl (Nat.le_of_ble_eq_true rfl) dX7_sums_28 ⟨(Nat.le_of_ble_eq_true rfl), (Nat.le_of_ble_eq_true rfl)⟩ (fun H locs hw => ?_)
  obtain ⟨ho, hf⟩ := chk_inv hf
  obtain ⟨_, σ9, hk, hf⟩ := bnd_inv hf
  refine z_callV (As := [.int a2, .int a3, .int r8]) (rest := []) (m_X7_blocks hC.2.2.2.2.2.2.2.2 hk) hC hw wd_X7_blocks lkM_X7_206 (isO_sh ho) rfl rfl ⟨rfl, rfl⟩ ⟨(Nat.le_of_ble_eq_true rfl), (Nat.le_of_ble_eq_true rfl)⟩ hl.1 rfl (Nat.le_of_ble_eq_true rfl) dX7_sums_31 ⟨(Nat.le_of_ble_eq_true rfl), (Nat.le_of_ble_eq_true rfl)⟩ (fun H locs hw => ?_)
  refine lv_iconst (v := 0) hx hb dX7_sums_34 (by decide) ?_
  refine lv_istore (lv' := [(4, .int 0), (0, .ref a0), (1, .int a1), (2, .int a2), (3, .int a3)]) hx hb dX7_sums_35 hl (Nat.le_of_ble_eq_true rfl) rfl (fun ls hl => ?_)
  obtain ⟨σ32, hk, hf⟩ := lb0_inv hf
  refine l_X7_sums_B37 hC hr (fun H locs ls hw hl => ?_) FUEL 0 σ9 hk _ _ _ hw (lv_sub hl [1, 2, 3, 4, 0] rfl)
  first | (obtain ⟨rfl, rfl⟩ := sp_inv hf) | (obtain rfl := Option.some.inj hf)
  exact W.vret hx hb hr (z_ret hw rfl) hw.2.2.2.2.2 dX7_sums_152 hC.2.2.2.2.2.1
set_option maxHeartbeats 4000000 in
set_option maxRecDepth 100000 in
theorem t_X7_multiplies_B141 (hC : zC p l s m args meth c cX7_multiplies 9 RX7 D cA B0) (hr : meth.sig.returnType = (Option.none : Option Jvm.ClassFile.FieldType)) {Γ : zSh} {x0 : Nat} {x1 : Int32} {x2 : Int32} {x3 : Int32} {x4 : Int32} {x5 : Int32} {x6 : Int32} {x7 : Int32} {x8 : Int32} {σ : zSt} {out : ((Int32 × zSt) ⊕ (zSt))} (hf : f_X7_multiplies_B141 Γ x0 x1 x2 x3 x4 x5 x6 x7 x8 σ = some out) {H : Heap} {locs : List Loc} {ls : Array Slot} (hw : zO D cA B0 Γ σ Z s.heap H locs) (hl : lv_has ls 9 [(0, .ref x0), (1, .int x1), (2, .int x2), (3, .int x3), (4, .int x4), (5, .int x5), (6, .int x6), (7, .int x7), (8, .int x8)])
    (kI : ∀ (z8 : Int32) (σ2 : zSt), out = .inl (z8, σ2) → ∀ (H : Heap) (locs : List Loc) (ls : Array Slot), zO D cA B0 Γ σ2 Z s.heap H locs → lv_has ls 9 [(0, .ref x0), (1, .int x1), (2, .int x2), (3, .int x3), (4, .int x4), (5, .int x5), (6, .int x6), (7, .int x7), (8, .int z8)] → W p l e rm_X7_multiplies s m args below meth c H locs 0 0 Q (F0 m 141 ls []))
    (kE : ∀ (σ2 : zSt), out = .inr σ2 → ∀ (H : Heap) (locs : List Loc) (ls : Array Slot), zO D cA B0 Γ σ2 Z s.heap H locs → lv_has ls 9 [(0, .ref x0), (1, .int x1), (2, .int x2), (3, .int x3), (4, .int x4), (5, .int x5), (6, .int x6), (7, .int x7)] → W p l e rm_X7_multiplies s m args below meth c H locs 0 0 Q (F0 m 215 ls [])) :
    W p l e rm_X7_multiplies s m args below meth c H locs 0 0 Q (F0 m 141 ls []) := by
  have hx := hC.1
  have hb := hC.2.1
  unfold f_X7_multiplies_B141 at hf
  refine lv_iload hx hb dX7_multiplies_141 (lv_at hl 8 rfl) ?_
  refine lv_iconst (v := 2) hx hb dX7_multiplies_143 (by decide) ?_
  refine lv_icmp_ge (tgt := 215) hx hb dX7_multiplies_144 (by decide) (fun hc => ?_) (fun hc => ?_)
  · rw [if_pos hc] at hf
    exact kE  σ (Option.some.inj hf).symm _ _ _ hw (lv_sub hl [0, 1, 2, 3, 4, 5, 6, 7] rfl)
  · rw [if_neg hc] at hf
    refine lv_aload_n hx hb dX7_multiplies_147 rfl (lv_at hl 0 rfl) ?_
    obtain ⟨v42, hg, hf⟩ := gfR_inv hf
    refine r_gfR hC hw hg clX7 (Nat.le_of_ble_eq_true rfl) lkF_X7_7 rfl dX7_multiplies_148 ?_
    refine lv_iload_n hx hb dX7_multiplies_151 rfl (lv_at hl 3 rfl) ?_
    refine lv_iload hx hb dX7_multiplies_152 (lv_at hl 8 rfl) ?_
    refine lv_iload hx hb dX7_multiplies_154 (lv_at hl 4 rfl) ?_
    refine lv_iload hx hb dX7_multiplies_156 (lv_at hl 7 rfl) ?_
    obtain ⟨r44, σ43, hk, hf⟩ := bnd_inv hf
    refine z_callS (As := [.int x3, .int x8, .int x4, .int x7]) (rest := [.ref v42]) (m_X7_at hC.2.2.2.2.2.2.2.2 hk) hC hw wd_X7_at lkM_X7_116 rfl ⟨rfl, rfl⟩ ⟨(Nat.le_of_ble_eq_true rfl), (Nat.le_of_ble_eq_true rfl)⟩ hl.1 rfl (Nat.le_of_ble_eq_true rfl) dX7_multiplies_158 ⟨(Nat.le_of_ble_eq_true rfl), (Nat.le_of_ble_eq_true rfl)⟩ (fun H locs hw => ?_)
    refine lv_aload_n hx hb dX7_multiplies_161 rfl (lv_at hl 0 rfl) ?_
    obtain ⟨v45, hg, hf⟩ := gfR_inv hf
    refine r_gfR hC hw hg clX7 (Nat.le_of_ble_eq_true rfl) lkF_X7_7 rfl dX7_multiplies_162 ?_
    refine lv_iload_n hx hb dX7_multiplies_165 rfl (lv_at hl 1 rfl) ?_
    refine lv_iload hx hb dX7_multiplies_166 (lv_at hl 8 rfl) ?_
    refine lv_iload hx hb dX7_multiplies_168 (lv_at hl 5 rfl) ?_
    refine lv_iload hx hb dX7_multiplies_170 (lv_at hl 7 rfl) ?_
    refine lv_aload_n hx hb dX7_multiplies_172 rfl (lv_at hl 0 rfl) ?_
    refine lv_iload_n hx hb dX7_multiplies_173 rfl (lv_at hl 2 rfl) ?_
    obtain ⟨ho, hf⟩ := chk_inv hf
    obtain ⟨r47, σ46, hk, hf⟩ := bnd_inv hf
    refine z_callV (As := [.int x2]) (rest := [.int x7, .int x5, .int x8, .int x1, .ref v45, .int r44, .ref v42]) (m_X7_many hC.2.2.2.2.2.2.2.2 hk) hC hw wd_X7_many lkM_X7_78 (isO_sh ho) rfl rfl ⟨rfl, rfl⟩ ⟨(Nat.le_of_ble_eq_true rfl), (Nat.le_of_ble_eq_true rfl)⟩ hl.1 rfl (Nat.le_of_ble_eq_true rfl) dX7_multiplies_174 ⟨(Nat.le_of_ble_eq_true rfl), (Nat.le_of_ble_eq_true rfl)⟩ (fun H locs hw => ?_)
    obtain ⟨v48, hg, hf⟩ := dvI_inv hf
    refine r_dvI hC hg dX7_multiplies_177 ?_
    obtain ⟨r50, σ49, hk, hf⟩ := bnd_inv hf
    refine z_callS (As := [.int x1, .int x8, .int x5, .int v48]) (rest := [.ref v45, .int r44, .ref v42]) (m_X7_at hC.2.2.2.2.2.2.2.2 hk) hC hw wd_X7_at lkM_X7_116 rfl ⟨rfl, rfl⟩ ⟨(Nat.le_of_ble_eq_true rfl), (Nat.le_of_ble_eq_true rfl)⟩ hl.1 rfl (Nat.le_of_ble_eq_true rfl) dX7_multiplies_178 ⟨(Nat.le_of_ble_eq_true rfl), (Nat.le_of_ble_eq_true rfl)⟩ (fun H locs hw => ?_)
    obtain ⟨v51, hg, hf⟩ := ldI_inv hf
    refine r_ldI hC hw hg dX7_multiplies_181 ?_
    refine lv_aload_n hx hb dX7_multiplies_182 rfl (lv_at hl 0 rfl) ?_
    obtain ⟨v52, hg, hf⟩ := gfR_inv hf
    refine r_gfR hC hw hg clX7 (Nat.le_of_ble_eq_true rfl) lkF_X7_7 rfl dX7_multiplies_183 ?_
    refine lv_iload_n hx hb dX7_multiplies_186 rfl (lv_at hl 2 rfl) ?_
    refine lv_iload hx hb dX7_multiplies_187 (lv_at hl 8 rfl) ?_
    refine lv_iload hx hb dX7_multiplies_189 (lv_at hl 6 rfl) ?_
    refine lv_iload hx hb dX7_multiplies_191 (lv_at hl 7 rfl) ?_
    refine lv_aload_n hx hb dX7_multiplies_193 rfl (lv_at hl 0 rfl) ?_
    refine lv_iload_n hx hb dX7_multiplies_194 rfl (lv_at hl 2 rfl) ?_
    obtain ⟨ho, hf⟩ := chk_inv hf
    obtain ⟨r54, σ53, hk, hf⟩ := bnd_inv hf
    refine z_callV (As := [.int x2]) (rest := [.int x7, .int x6, .int x8, .int x2, .ref v52, .int v51, .int r44, .ref v42]) (m_X7_many hC.2.2.2.2.2.2.2.2 hk) hC hw wd_X7_many lkM_X7_78 (isO_sh ho) rfl rfl ⟨rfl, rfl⟩ ⟨(Nat.le_of_ble_eq_true rfl), (Nat.le_of_ble_eq_true rfl)⟩ hl.1 rfl (Nat.le_of_ble_eq_true rfl) dX7_multiplies_195 ⟨(Nat.le_of_ble_eq_true rfl), (Nat.le_of_ble_eq_true rfl)⟩ (fun H locs hw => ?_)
    obtain ⟨v55, hg, hf⟩ := rmI_inv hf
    refine r_rmI hC hg dX7_multiplies_198 ?_
    obtain ⟨r57, σ56, hk, hf⟩ := bnd_inv hf
    refine z_callS (As := [.int x2, .int x8, .int x6, .int v55]) (rest := [.ref v52, .int v51, .int r44, .ref v42]) (m_X7_at hC.2.2.2.2.2.2.2.2 hk) hC hw wd_X7_at lkM_X7_116 rfl ⟨rfl, rfl⟩ ⟨(Nat.le_of_ble_eq_true rfl), (Nat.le_of_ble_eq_true rfl)⟩ hl.1 rfl (Nat.le_of_ble_eq_true rfl) dX7_multiplies_199 ⟨(Nat.le_of_ble_eq_true rfl), (Nat.le_of_ble_eq_true rfl)⟩ (fun H locs hw => ?_)
    obtain ⟨v58, hg, hf⟩ := ldI_inv hf
    refine r_ldI hC hw hg dX7_multiplies_202 ?_
    refine lv_imul hx hb dX7_multiplies_203 ?_
    refine lv_sipush (v := 10007) hx hb dX7_multiplies_204 (by decide) ?_
    obtain ⟨v59, hg, hf⟩ := rmI_inv hf
    refine r_rmI hC hg dX7_multiplies_207 ?_
    obtain ⟨σ60, hg, hf⟩ := stI_inv hf
    refine r_stI hC hw hg dX7_multiplies_208 (fun H locs hw => ?_)
    refine lv_iinc (v := (x8 + 1)) (lv' := [(8, .int (x8 + 1)), (0, .ref x0), (1, .int x1), (2, .int x2), (3, .int x3), (4, .int x4), (5, .int x5), (6, .int x6), (7, .int x7)]) hx hb dX7_multiplies_209 hl (k := 8) rfl rfl (Nat.le_of_ble_eq_true rfl) rfl (fun ls hl => ?_)
    refine lv_goto (tgt := 141) hx hb dX7_multiplies_212 (by decide) ?_
    exact kI (x8 + 1) σ60 (Option.some.inj hf).symm _ _ _ hw (lv_sub hl [1, 2, 3, 4, 5, 6, 7, 8, 0] rfl)
set_option maxHeartbeats 4000000 in
theorem l_X7_multiplies_B141 (hC : zC p l s m args meth c cX7_multiplies 9 RX7 D cA B0) (hr : meth.sig.returnType = (Option.none : Option Jvm.ClassFile.FieldType)) {Γ : zSh} {x0 : Nat} {x1 : Int32} {x2 : Int32} {x3 : Int32} {x4 : Int32} {x5 : Int32} {x6 : Int32} {x7 : Int32} {σ2 : zSt} (kE : ∀ (H : Heap) (locs : List Loc) (ls : Array Slot), zO D cA B0 Γ σ2 Z s.heap H locs → lv_has ls 9 [(0, .ref x0), (1, .int x1), (2, .int x2), (3, .int x3), (4, .int x4), (5, .int x5), (6, .int x6), (7, .int x7)] → W p l e rm_X7_multiplies s m args below meth c H locs 0 0 Q (F0 m 215 ls [])) :
    ∀ (n : Nat) (x8 : Int32) (σ : zSt), loopM (fun q => f_X7_multiplies_B141 Γ x0 x1 x2 x3 x4 x5 x6 x7 q.1 q.2) n (x8, σ) = some σ2 → ∀ (H : Heap) (locs : List Loc) (ls : Array Slot), zO D cA B0 Γ σ Z s.heap H locs → lv_has ls 9 [(0, .ref x0), (1, .int x1), (2, .int x2), (3, .int x3), (4, .int x4), (5, .int x5), (6, .int x6), (7, .int x7), (8, .int x8)] → W p l e rm_X7_multiplies s m args below meth c H locs 0 0 Q (F0 m 141 ls []) := by
  intro n
  induction n with
  | zero => intro x8 σ h; exact absurd h (by simp [loopM])
  | succ n ih =>
    intro x8 σ h H locs ls hw hl
    obtain ⟨r, h1, h2, h3⟩ := loopM_inv h
    exact t_X7_multiplies_B141 hC hr h1 hw hl (fun z8 s2 e H locs ls hw hl => ih z8 s2 (h2 _ e) H locs ls hw hl) (fun s2 e H locs ls hw hl => by cases h3 _ e; exact kE H locs ls hw hl)
set_option maxHeartbeats 4000000 in
set_option maxRecDepth 100000 in
theorem t_X7_multiplies_B128 (hC : zC p l s m args meth c cX7_multiplies 9 RX7 D cA B0) (hr : meth.sig.returnType = (Option.none : Option Jvm.ClassFile.FieldType)) {Γ : zSh} {x0 : Nat} {x1 : Int32} {x2 : Int32} {x3 : Int32} {x4 : Int32} {x5 : Int32} {x6 : Int32} {x7 : Int32} {σ : zSt} {out : ((Int32 × zSt) ⊕ (zSt))} (hf : f_X7_multiplies_B128 Γ x0 x1 x2 x3 x4 x5 x6 x7 σ = some out) {H : Heap} {locs : List Loc} {ls : Array Slot} (hw : zO D cA B0 Γ σ Z s.heap H locs) (hl : lv_has ls 9 [(0, .ref x0), (1, .int x1), (2, .int x2), (3, .int x3), (4, .int x4), (5, .int x5), (6, .int x6), (7, .int x7)])
    (kI : ∀ (z7 : Int32) (σ2 : zSt), out = .inl (z7, σ2) → ∀ (H : Heap) (locs : List Loc) (ls : Array Slot), zO D cA B0 Γ σ2 Z s.heap H locs → lv_has ls 9 [(0, .ref x0), (1, .int x1), (2, .int x2), (3, .int x3), (4, .int x4), (5, .int x5), (6, .int x6), (7, .int z7)] → W p l e rm_X7_multiplies s m args below meth c H locs 0 0 Q (F0 m 128 ls []))
    (kE : ∀ (σ2 : zSt), out = .inr σ2 → ∀ (H : Heap) (locs : List Loc) (ls : Array Slot), zO D cA B0 Γ σ2 Z s.heap H locs → lv_has ls 9 [(0, .ref x0), (1, .int x1), (2, .int x2), (3, .int x3), (4, .int x4)] → W p l e rm_X7_multiplies s m args below meth c H locs 0 0 Q (F0 m 221 ls [])) :
    W p l e rm_X7_multiplies s m args below meth c H locs 0 0 Q (F0 m 128 ls []) := by
  have hx := hC.1
  have hb := hC.2.1
  unfold f_X7_multiplies_B128 at hf
  refine lv_iload hx hb dX7_multiplies_128 (lv_at hl 7 rfl) ?_
  refine lv_aload_n hx hb dX7_multiplies_130 rfl (lv_at hl 0 rfl) ?_
  refine lv_iload_n hx hb dX7_multiplies_131 rfl (lv_at hl 3 rfl) ?_
  obtain ⟨ho, hf⟩ := chk_inv hf
  obtain ⟨r41, σ40, hk, hf⟩ := bnd_inv hf
  refine z_callV (As := [.int x3]) (rest := [.int x7]) (m_X7_many hC.2.2.2.2.2.2.2.2 hk) hC hw wd_X7_many lkM_X7_78 (isO_sh ho) rfl rfl ⟨rfl, rfl⟩ ⟨(Nat.le_of_ble_eq_true rfl), (Nat.le_of_ble_eq_true rfl)⟩ hl.1 rfl (Nat.le_of_ble_eq_true rfl) dX7_multiplies_132 ⟨(Nat.le_of_ble_eq_true rfl), (Nat.le_of_ble_eq_true rfl)⟩ (fun H locs hw => ?_)
  refine lv_icmp_ge (tgt := 221) hx hb dX7_multiplies_135 (by decide) (fun hc => ?_) (fun hc => ?_)
  · rw [if_pos hc] at hf
    exact kE  σ40 (Option.some.inj hf).symm _ _ _ hw (lv_sub hl [0, 1, 2, 3, 4] rfl)
  · rw [if_neg hc] at hf
    refine lv_iconst (v := 0) hx hb dX7_multiplies_138 (by decide) ?_
    refine lv_istore (lv' := [(8, .int 0), (0, .ref x0), (1, .int x1), (2, .int x2), (3, .int x3), (4, .int x4), (5, .int x5), (6, .int x6), (7, .int x7)]) hx hb dX7_multiplies_139 hl (Nat.le_of_ble_eq_true rfl) rfl (fun ls hl => ?_)
    obtain ⟨σ61, hk, hf⟩ := lb0_inv hf
    refine l_X7_multiplies_B141 hC hr (fun H locs ls hw hl => ?_) FUEL 0 σ40 hk _ _ _ hw (lv_sub hl [1, 2, 3, 4, 5, 6, 7, 8, 0] rfl)
    refine lv_iinc (v := (x7 + 1)) (lv' := [(7, .int (x7 + 1)), (0, .ref x0), (1, .int x1), (2, .int x2), (3, .int x3), (4, .int x4), (5, .int x5), (6, .int x6)]) hx hb dX7_multiplies_215 hl (k := 7) rfl rfl (Nat.le_of_ble_eq_true rfl) rfl (fun ls hl => ?_)
    refine lv_goto (tgt := 128) hx hb dX7_multiplies_218 (by decide) ?_
    exact kI (x7 + 1) σ61 (Option.some.inj hf).symm _ _ _ hw (lv_sub hl [1, 2, 3, 4, 5, 6, 7, 0] rfl)
set_option maxHeartbeats 4000000 in
theorem l_X7_multiplies_B128 (hC : zC p l s m args meth c cX7_multiplies 9 RX7 D cA B0) (hr : meth.sig.returnType = (Option.none : Option Jvm.ClassFile.FieldType)) {Γ : zSh} {x0 : Nat} {x1 : Int32} {x2 : Int32} {x3 : Int32} {x4 : Int32} {x5 : Int32} {x6 : Int32} {σ2 : zSt} (kE : ∀ (H : Heap) (locs : List Loc) (ls : Array Slot), zO D cA B0 Γ σ2 Z s.heap H locs → lv_has ls 9 [(0, .ref x0), (1, .int x1), (2, .int x2), (3, .int x3), (4, .int x4)] → W p l e rm_X7_multiplies s m args below meth c H locs 0 0 Q (F0 m 221 ls [])) :
    ∀ (n : Nat) (x7 : Int32) (σ : zSt), loopM (fun q => f_X7_multiplies_B128 Γ x0 x1 x2 x3 x4 x5 x6 q.1 q.2) n (x7, σ) = some σ2 → ∀ (H : Heap) (locs : List Loc) (ls : Array Slot), zO D cA B0 Γ σ Z s.heap H locs → lv_has ls 9 [(0, .ref x0), (1, .int x1), (2, .int x2), (3, .int x3), (4, .int x4), (5, .int x5), (6, .int x6), (7, .int x7)] → W p l e rm_X7_multiplies s m args below meth c H locs 0 0 Q (F0 m 128 ls []) := by
  intro n
  induction n with
  | zero => intro x7 σ h; exact absurd h (by simp [loopM])
  | succ n ih =>
    intro x7 σ h H locs ls hw hl
    obtain ⟨r, h1, h2, h3⟩ := loopM_inv h
    exact t_X7_multiplies_B128 hC hr h1 hw hl (fun z7 s2 e H locs ls hw hl => ih z7 s2 (h2 _ e) H locs ls hw hl) (fun s2 e H locs ls hw hl => by cases h3 _ e; exact kE H locs ls hw hl)
set_option maxHeartbeats 4000000 in
set_option maxRecDepth 100000 in
theorem t_X7_multiplies_B19 (hC : zC p l s m args meth c cX7_multiplies 9 RX7 D cA B0) (hr : meth.sig.returnType = (Option.none : Option Jvm.ClassFile.FieldType)) {Γ : zSh} {x0 : Nat} {x1 : Int32} {x2 : Int32} {x3 : Int32} {x4 : Int32} {σ : zSt} {out : ((Int32 × zSt) ⊕ (zSt))} (hf : f_X7_multiplies_B19 Γ x0 x1 x2 x3 x4 σ = some out) {H : Heap} {locs : List Loc} {ls : Array Slot} (hw : zO D cA B0 Γ σ Z s.heap H locs) (hl : lv_has ls 9 [(0, .ref x0), (1, .int x1), (2, .int x2), (3, .int x3), (4, .int x4)])
    (kI : ∀ (z4 : Int32) (σ2 : zSt), out = .inl (z4, σ2) → ∀ (H : Heap) (locs : List Loc) (ls : Array Slot), zO D cA B0 Γ σ2 Z s.heap H locs → lv_has ls 9 [(0, .ref x0), (1, .int x1), (2, .int x2), (3, .int x3), (4, .int z4)] → W p l e rm_X7_multiplies s m args below meth c H locs 0 0 Q (F0 m 19 ls []))
    (kE : ∀ (σ2 : zSt), out = .inr σ2 → ∀ (H : Heap) (locs : List Loc) (ls : Array Slot), zO D cA B0 Γ σ2 Z s.heap H locs → lv_has ls 9 [] → W p l e rm_X7_multiplies s m args below meth c H locs 0 0 Q (F0 m 227 ls [])) :
    W p l e rm_X7_multiplies s m args below meth c H locs 0 0 Q (F0 m 19 ls []) := by
  have hx := hC.1
  have hb := hC.2.1
  unfold f_X7_multiplies_B19 at hf
  refine lv_iload hx hb dX7_multiplies_19 (lv_at hl 4 rfl) ?_
  refine lv_aload_n hx hb dX7_multiplies_21 rfl (lv_at hl 0 rfl) ?_
  refine lv_iload_n hx hb dX7_multiplies_22 rfl (lv_at hl 3 rfl) ?_
  obtain ⟨ho, hf⟩ := chk_inv hf
  obtain ⟨r7, σ6, hk, hf⟩ := bnd_inv hf
  refine z_callV (As := [.int x3]) (rest := [.int x4]) (m_X7_many hC.2.2.2.2.2.2.2.2 hk) hC hw wd_X7_many lkM_X7_78 (isO_sh ho) rfl rfl ⟨rfl, rfl⟩ ⟨(Nat.le_of_ble_eq_true rfl), (Nat.le_of_ble_eq_true rfl)⟩ hl.1 rfl (Nat.le_of_ble_eq_true rfl) dX7_multiplies_23 ⟨(Nat.le_of_ble_eq_true rfl), (Nat.le_of_ble_eq_true rfl)⟩ (fun H locs hw => ?_)
  refine lv_icmp_ge (tgt := 227) hx hb dX7_multiplies_26 (by decide) (fun hc => ?_) (fun hc => ?_)
  · rw [if_pos hc] at hf
    exact kE  σ6 (Option.some.inj hf).symm _ _ _ hw (lv_sub hl [] rfl)
  · rw [if_neg hc] at hf
    refine lv_iload hx hb dX7_multiplies_29 (lv_at hl 4 rfl) ?_
    refine lv_aload_n hx hb dX7_multiplies_31 rfl (lv_at hl 0 rfl) ?_
    refine lv_iload_n hx hb dX7_multiplies_32 rfl (lv_at hl 2 rfl) ?_
    obtain ⟨ho, hf⟩ := chk_inv hf
    obtain ⟨r9, σ8, hk, hf⟩ := bnd_inv hf
    refine z_callV (As := [.int x2]) (rest := [.int x4]) (m_X7_many hC.2.2.2.2.2.2.2.2 hk) hC hw wd_X7_many lkM_X7_78 (isO_sh ho) rfl rfl ⟨rfl, rfl⟩ ⟨(Nat.le_of_ble_eq_true rfl), (Nat.le_of_ble_eq_true rfl)⟩ hl.1 rfl (Nat.le_of_ble_eq_true rfl) dX7_multiplies_33 ⟨(Nat.le_of_ble_eq_true rfl), (Nat.le_of_ble_eq_true rfl)⟩ (fun H locs hw => ?_)
    obtain ⟨v10, hg, hf⟩ := dvI_inv hf
    refine r_dvI hC hg dX7_multiplies_36 ?_
    refine lv_istore (lv' := [(5, .int v10), (0, .ref x0), (1, .int x1), (2, .int x2), (3, .int x3), (4, .int x4)]) hx hb dX7_multiplies_37 hl (Nat.le_of_ble_eq_true rfl) rfl (fun ls hl => ?_)
    refine lv_iload hx hb dX7_multiplies_39 (lv_at hl 5 rfl) ?_
    refine lv_aload_n hx hb dX7_multiplies_41 rfl (lv_at hl 1 rfl) ?_
    refine lv_iload_n hx hb dX7_multiplies_42 rfl (lv_at hl 3 rfl) ?_
    obtain ⟨ho, hf⟩ := chk_inv hf
    obtain ⟨r12, σ11, hk, hf⟩ := bnd_inv hf
    refine z_callV (As := [.int x2]) (rest := [.int x4]) (m_X7_many hC.2.2.2.2.2.2.2.2 hk) hC hw wd_X7_many lkM_X7_78 (isO_sh ho) rfl rfl ⟨rfl, rfl⟩ ⟨(Nat.le_of_ble_eq_true rfl), (Nat.le_of_ble_eq_true rfl)⟩ hl.1 rfl (Nat.le_of_ble_eq_true rfl) dX7_multiplies_43 ⟨(Nat.le_of_ble_eq_true rfl), (Nat.le_of_ble_eq_true rfl)⟩ (fun H locs hw => ?_)
    obtain ⟨v13, hg, hf⟩ := rmI_inv hf
    refine r_rmI hC hg dX7_multiplies_46 ?_
    refine lv_istore (lv' := [(6, .int v13), (5, .int v10), (0, .ref x0), (1, .int x1), (2, .int x2), (3, .int x3), (4, .int x4)]) hx hb dX7_multiplies_47 hl (Nat.le_of_ble_eq_true rfl) rfl (fun ls hl => ?_)
    refine lv_aload_n hx hb dX7_multiplies_49 rfl (lv_at hl 2 rfl) ?_
    obtain ⟨v14, hg, hf⟩ := gfR_inv hf
    refine r_gfR hC hw hg clX7 (Nat.le_of_ble_eq_true rfl) lkF_X7_7 rfl dX7_multiplies_50 ?_
    refine lv_iload_n hx hb dX7_multiplies_53 rfl (lv_at hl 5 rfl) ?_
    refine lv_iload hx hb dX7_multiplies_54 (lv_at hl 6 rfl) ?_
    obtain ⟨r16, σ15, hk, hf⟩ := bnd_inv hf
    refine z_callS (As := [.int x3, .int x4]) (rest := [.ref v14]) (m_X7_initialAt hC.2.2.2.2.2.2.2.2 hk) hC hw wd_X7_initialAt lkM_X7_82 rfl ⟨rfl, rfl⟩ ⟨(Nat.le_of_ble_eq_true rfl), (Nat.le_of_ble_eq_true rfl)⟩ hl.1 rfl (Nat.le_of_ble_eq_true rfl) dX7_multiplies_56 ⟨(Nat.le_of_ble_eq_true rfl), (Nat.le_of_ble_eq_true rfl)⟩ (fun H locs hw => ?_)
    refine lv_aload_n hx hb dX7_multiplies_59 rfl (lv_at hl 2 rfl) ?_
    obtain ⟨v17, hg, hf⟩ := gfR_inv hf
    refine r_gfR hC hw hg clX7 (Nat.le_of_ble_eq_true rfl) lkF_X7_7 rfl dX7_multiplies_60 ?_
    refine lv_iload_n hx hb dX7_multiplies_63 rfl (lv_at hl 3 rfl) ?_
    refine lv_iload hx hb dX7_multiplies_64 (lv_at hl 1 rfl) ?_
    obtain ⟨r19, σ18, hk, hf⟩ := bnd_inv hf
    refine z_callS (As := [.int x1, .int v10]) (rest := [.ref v17, .int r16, .ref v14]) (m_X7_initialAt hC.2.2.2.2.2.2.2.2 hk) hC hw wd_X7_initialAt lkM_X7_82 rfl ⟨rfl, rfl⟩ ⟨(Nat.le_of_ble_eq_true rfl), (Nat.le_of_ble_eq_true rfl)⟩ hl.1 rfl (Nat.le_of_ble_eq_true rfl) dX7_multiplies_66 ⟨(Nat.le_of_ble_eq_true rfl), (Nat.le_of_ble_eq_true rfl)⟩ (fun H locs hw => ?_)
    obtain ⟨v20, hg, hf⟩ := ldI_inv hf
    refine r_ldI hC hw hg dX7_multiplies_69 ?_
    refine lv_aload_n hx hb dX7_multiplies_70 rfl (lv_at hl 2 rfl) ?_
    obtain ⟨v21, hg, hf⟩ := gfR_inv hf
    refine r_gfR hC hw hg clX7 (Nat.le_of_ble_eq_true rfl) lkF_X7_7 rfl dX7_multiplies_71 ?_
    refine lv_iload_n hx hb dX7_multiplies_74 rfl (lv_at hl 4 rfl) ?_
    refine lv_iload hx hb dX7_multiplies_75 (lv_at hl 0 rfl) ?_
    obtain ⟨r23, σ22, hk, hf⟩ := bnd_inv hf
    refine z_callS (As := [.int x2, .int v13]) (rest := [.ref v21, .int v20, .int r16, .ref v14]) (m_X7_initialAt hC.2.2.2.2.2.2.2.2 hk) hC hw wd_X7_initialAt lkM_X7_82 rfl ⟨rfl, rfl⟩ ⟨(Nat.le_of_ble_eq_true rfl), (Nat.le_of_ble_eq_true rfl)⟩ hl.1 rfl (Nat.le_of_ble_eq_true rfl) dX7_multiplies_77 ⟨(Nat.le_of_ble_eq_true rfl), (Nat.le_of_ble_eq_true rfl)⟩ (fun H locs hw => ?_)
    obtain ⟨v24, hg, hf⟩ := ldI_inv hf
    refine r_ldI hC hw hg dX7_multiplies_80 ?_
    refine lv_imul hx hb dX7_multiplies_81 ?_
    refine lv_sipush (v := 10007) hx hb dX7_multiplies_82 (by decide) ?_
    obtain ⟨v25, hg, hf⟩ := rmI_inv hf
    refine r_rmI hC hg dX7_multiplies_85 ?_
    obtain ⟨σ26, hg, hf⟩ := stI_inv hf
    refine r_stI hC hw hg dX7_multiplies_86 (fun H locs hw => ?_)
    refine lv_aload_n hx hb dX7_multiplies_87 rfl (lv_at hl 2 rfl) ?_
    obtain ⟨v27, hg, hf⟩ := gfR_inv hf
    refine r_gfR hC hw hg clX7 (Nat.le_of_ble_eq_true rfl) lkF_X7_7 rfl dX7_multiplies_88 ?_
    refine lv_iload_n hx hb dX7_multiplies_91 rfl (lv_at hl 5 rfl) ?_
    refine lv_iload hx hb dX7_multiplies_92 (lv_at hl 6 rfl) ?_
    obtain ⟨r29, σ28, hk, hf⟩ := bnd_inv hf
    refine z_callS (As := [.int x3, .int x4]) (rest := [.ref v27]) (m_X7_finalAt hC.2.2.2.2.2.2.2.2 hk) hC hw wd_X7_finalAt lkM_X7_85 rfl ⟨rfl, rfl⟩ ⟨(Nat.le_of_ble_eq_true rfl), (Nat.le_of_ble_eq_true rfl)⟩ hl.1 rfl (Nat.le_of_ble_eq_true rfl) dX7_multiplies_94 ⟨(Nat.le_of_ble_eq_true rfl), (Nat.le_of_ble_eq_true rfl)⟩ (fun H locs hw => ?_)
    refine lv_aload_n hx hb dX7_multiplies_97 rfl (lv_at hl 2 rfl) ?_
    obtain ⟨v30, hg, hf⟩ := gfR_inv hf
    refine r_gfR hC hw hg clX7 (Nat.le_of_ble_eq_true rfl) lkF_X7_7 rfl dX7_multiplies_98 ?_
    refine lv_iload_n hx hb dX7_multiplies_101 rfl (lv_at hl 3 rfl) ?_
    refine lv_iload hx hb dX7_multiplies_102 (lv_at hl 1 rfl) ?_
    obtain ⟨r32, σ31, hk, hf⟩ := bnd_inv hf
    refine z_callS (As := [.int x1, .int v10]) (rest := [.ref v30, .int r29, .ref v27]) (m_X7_finalAt hC.2.2.2.2.2.2.2.2 hk) hC hw wd_X7_finalAt lkM_X7_85 rfl ⟨rfl, rfl⟩ ⟨(Nat.le_of_ble_eq_true rfl), (Nat.le_of_ble_eq_true rfl)⟩ hl.1 rfl (Nat.le_of_ble_eq_true rfl) dX7_multiplies_104 ⟨(Nat.le_of_ble_eq_true rfl), (Nat.le_of_ble_eq_true rfl)⟩ (fun H locs hw => ?_)
    obtain ⟨v33, hg, hf⟩ := ldI_inv hf
    refine r_ldI hC hw hg dX7_multiplies_107 ?_
    refine lv_aload_n hx hb dX7_multiplies_108 rfl (lv_at hl 2 rfl) ?_
    obtain ⟨v34, hg, hf⟩ := gfR_inv hf
    refine r_gfR hC hw hg clX7 (Nat.le_of_ble_eq_true rfl) lkF_X7_7 rfl dX7_multiplies_109 ?_
    refine lv_iload_n hx hb dX7_multiplies_112 rfl (lv_at hl 4 rfl) ?_
    refine lv_iload hx hb dX7_multiplies_113 (lv_at hl 0 rfl) ?_
    obtain ⟨r36, σ35, hk, hf⟩ := bnd_inv hf
    refine z_callS (As := [.int x2, .int v13]) (rest := [.ref v34, .int v33, .int r29, .ref v27]) (m_X7_finalAt hC.2.2.2.2.2.2.2.2 hk) hC hw wd_X7_finalAt lkM_X7_85 rfl ⟨rfl, rfl⟩ ⟨(Nat.le_of_ble_eq_true rfl), (Nat.le_of_ble_eq_true rfl)⟩ hl.1 rfl (Nat.le_of_ble_eq_true rfl) dX7_multiplies_115 ⟨(Nat.le_of_ble_eq_true rfl), (Nat.le_of_ble_eq_true rfl)⟩ (fun H locs hw => ?_)
    obtain ⟨v37, hg, hf⟩ := ldI_inv hf
    refine r_ldI hC hw hg dX7_multiplies_118 ?_
    refine lv_imul hx hb dX7_multiplies_119 ?_
    refine lv_sipush (v := 10007) hx hb dX7_multiplies_120 (by decide) ?_
    obtain ⟨v38, hg, hf⟩ := rmI_inv hf
    refine r_rmI hC hg dX7_multiplies_123 ?_
    obtain ⟨σ39, hg, hf⟩ := stI_inv hf
    refine r_stI hC hw hg dX7_multiplies_124 (fun H locs hw => ?_)
    refine lv_iconst (v := 0) hx hb dX7_multiplies_125 (by decide) ?_
    refine lv_istore (lv' := [(7, .int 0), (6, .int v13), (5, .int v10), (0, .ref x0), (1, .int x1), (2, .int x2), (3, .int x3), (4, .int x4)]) hx hb dX7_multiplies_126 hl (Nat.le_of_ble_eq_true rfl) rfl (fun ls hl => ?_)
    obtain ⟨σ62, hk, hf⟩ := lb0_inv hf
    refine l_X7_multiplies_B128 hC hr (fun H locs ls hw hl => ?_) FUEL 0 σ39 hk _ _ _ hw (lv_sub hl [3, 4, 5, 6, 7, 2, 1, 0] rfl)
    refine lv_iinc (v := (x4 + 1)) (lv' := [(4, .int (x4 + 1)), (0, .ref x0), (1, .int x1), (2, .int x2), (3, .int x3)]) hx hb dX7_multiplies_221 hl (k := 4) rfl rfl (Nat.le_of_ble_eq_true rfl) rfl (fun ls hl => ?_)
    refine lv_goto (tgt := 19) hx hb dX7_multiplies_224 (by decide) ?_
    exact kI (x4 + 1) σ62 (Option.some.inj hf).symm _ _ _ hw (lv_sub hl [1, 2, 3, 4, 0] rfl)
set_option maxHeartbeats 4000000 in
theorem l_X7_multiplies_B19 (hC : zC p l s m args meth c cX7_multiplies 9 RX7 D cA B0) (hr : meth.sig.returnType = (Option.none : Option Jvm.ClassFile.FieldType)) {Γ : zSh} {x0 : Nat} {x1 : Int32} {x2 : Int32} {x3 : Int32} {σ2 : zSt} (kE : ∀ (H : Heap) (locs : List Loc) (ls : Array Slot), zO D cA B0 Γ σ2 Z s.heap H locs → lv_has ls 9 [] → W p l e rm_X7_multiplies s m args below meth c H locs 0 0 Q (F0 m 227 ls [])) :
    ∀ (n : Nat) (x4 : Int32) (σ : zSt), loopM (fun q => f_X7_multiplies_B19 Γ x0 x1 x2 x3 q.1 q.2) n (x4, σ) = some σ2 → ∀ (H : Heap) (locs : List Loc) (ls : Array Slot), zO D cA B0 Γ σ Z s.heap H locs → lv_has ls 9 [(0, .ref x0), (1, .int x1), (2, .int x2), (3, .int x3), (4, .int x4)] → W p l e rm_X7_multiplies s m args below meth c H locs 0 0 Q (F0 m 19 ls []) := by
  intro n
  induction n with
  | zero => intro x4 σ h; exact absurd h (by simp [loopM])
  | succ n ih =>
    intro x4 σ h H locs ls hw hl
    obtain ⟨r, h1, h2, h3⟩ := loopM_inv h
    exact t_X7_multiplies_B19 hC hr h1 hw hl (fun z4 s2 e H locs ls hw hl => ih z4 s2 (h2 _ e) H locs ls hw hl) (fun s2 e H locs ls hw hl => by cases h3 _ e; exact kE H locs ls hw hl)
set_option maxHeartbeats 4000000 in
set_option maxRecDepth 100000 in
theorem m_X7_multiplies (h9 : l.stackTraces = false) {Γ : zSh} {a0 : Nat} {a1 : Int32} {a2 : Int32} {a3 : Int32} {σ : zSt} {r : Unit} {σ2 : zSt} (hf : f_X7_multiplies Γ a0 a1 a2 a3 σ = some (r, σ2)) : Met l yX7_multiplies (wq yX7_multiplies cX7_multiplies 9 (Option.none : Option Jvm.ClassFile.FieldType)) rm_X7_multiplies (zQ0 D cA B0 [.ref a0, .int a1, .int a2, .int a3] Γ σ Z) (zQ1 D cA B0 (none) Γ σ2 Z) 0 0 (FR B0) := by
  refine z_ofW h9 (by decide) (Nat.le_of_ble_eq_true rfl) ?_
  intro p e s m args below meth c ls hC hr _ hw hl
  have hx := hC.1
  have hb := hC.2.1
  have hl : lv_has ls 9 [(0, .ref a0), (1, .int a1), (2, .int a2), (3, .int a3)] := hl
  unfold f_X7_multiplies at hf
  refine lv_aload_n hx hb dX7_multiplies_0 rfl (lv_at hl 0 rfl) ?_
  refine lv_iload_n hx hb dX7_multiplies_1 rfl (lv_at hl 3 rfl) ?_
  refine lv_aload_n hx hb dX7_multiplies_2 rfl (lv_at hl 0 rfl) ?_
  refine lv_iload_n hx hb dX7_multiplies_3 rfl (lv_at hl 1 rfl) ?_
  obtain ⟨ho, hf⟩ := chk_inv hf
  obtain ⟨r2, σ1, hk, hf⟩ := bnd_inv hf
  refine z_callV (As := [.int a1]) (rest := [.int a3, .ref a0]) (m_X7_many hC.2.2.2.2.2.2.2.2 hk) hC hw wd_X7_many lkM_X7_78 (isO_sh ho) rfl rfl ⟨rfl, rfl⟩ ⟨(Nat.le_of_ble_eq_true rfl), (Nat.le_of_ble_eq_true rfl)⟩ hl.1 rfl (Nat.le_of_ble_eq_true rfl) dX7_multiplies_4 ⟨(Nat.le_of_ble_eq_true rfl), (Nat.le_of_ble_eq_true rfl)⟩ (fun H locs hw => ?_)
  refine lv_aload_n hx hb dX7_multiplies_7 rfl (lv_at hl 0 rfl) ?_
  refine lv_iload_n hx hb dX7_multiplies_8 rfl (lv_at hl 2 rfl) ?_
  obtain ⟨ho, hf⟩ := chk_inv hf
  obtain ⟨r4, σ3, hk, hf⟩ := bnd_inv hf
  refine z_callV (As := [.int a2]) (rest := [.int r2, .int a3, .ref a0]) (m_X7_many hC.2.2.2.2.2.2.2.2 hk) hC hw wd_X7_many lkM_X7_78 (isO_sh ho) rfl rfl ⟨rfl, rfl⟩ ⟨(Nat.le_of_ble_eq_true rfl), (Nat.le_of_ble_eq_true rfl)⟩ hl.1 rfl (Nat.le_of_ble_eq_true rfl) dX7_multiplies_9 ⟨(Nat.le_of_ble_eq_true rfl), (Nat.le_of_ble_eq_true rfl)⟩ (fun H locs hw => ?_)
  refine lv_imul hx hb dX7_multiplies_12 ?_
  obtain ⟨ho, hf⟩ := chk_inv hf
  obtain ⟨_, σ5, hk, hf⟩ := bnd_inv hf
  refine z_callV (As := [.int a3, .int (r2 * r4)]) (rest := []) (m_X7_clears hC.2.2.2.2.2.2.2.2 hk) hC hw wd_X7_clears lkM_X7_101 (isO_sh ho) rfl rfl ⟨rfl, rfl⟩ ⟨(Nat.le_of_ble_eq_true rfl), (Nat.le_of_ble_eq_true rfl)⟩ hl.1 rfl (Nat.le_of_ble_eq_true rfl) dX7_multiplies_13 ⟨(Nat.le_of_ble_eq_true rfl), (Nat.le_of_ble_eq_true rfl)⟩ (fun H locs hw => ?_)
  refine lv_iconst (v := 0) hx hb dX7_multiplies_16 (by decide) ?_
  refine lv_istore (lv' := [(4, .int 0), (0, .ref a0), (1, .int a1), (2, .int a2), (3, .int a3)]) hx hb dX7_multiplies_17 hl (Nat.le_of_ble_eq_true rfl) rfl (fun ls hl => ?_)
  obtain ⟨σ63, hk, hf⟩ := lb0_inv hf
  refine l_X7_multiplies_B19 hC hr (fun H locs ls hw hl => ?_) FUEL 0 σ5 hk _ _ _ hw (lv_sub hl [1, 2, 3, 4, 0] rfl)
  first | (obtain ⟨rfl, rfl⟩ := sp_inv hf) | (obtain rfl := Option.some.inj hf)
  exact W.vret hx hb hr (z_ret hw rfl) hw.2.2.2.2.2 dX7_multiplies_227 hC.2.2.2.2.2.1
set_option maxHeartbeats 4000000 in
set_option maxRecDepth 100000 in
theorem t_X7_out_B6 (hC : zC p l s m args meth c cX7_out 6 RX7 D cA B0) (hr : meth.sig.returnType = (Option.some FieldType.int)) {Γ : zSh} {x0 : Nat} {x1 : Int32} {x2 : Int32} {x3 : Int32} {x4 : Int32} {x5 : Int32} {σ : zSt} {out : ((Int32 × Int32 × zSt) ⊕ (Int32 × zSt))} (hf : f_X7_out_B6 Γ x0 x1 x2 x3 x4 x5 σ = some out) {H : Heap} {locs : List Loc} {ls : Array Slot} (hw : zO D cA B0 Γ σ Z s.heap H locs) (hl : lv_has ls 6 [(0, .ref x0), (1, .int x1), (2, .int x2), (3, .int x3), (4, .int x4), (5, .int x5)])
    (kI : ∀ (z4 : Int32) (z5 : Int32) (σ2 : zSt), out = .inl (z4, z5, σ2) → ∀ (H : Heap) (locs : List Loc) (ls : Array Slot), zO D cA B0 Γ σ2 Z s.heap H locs → lv_has ls 6 [(0, .ref x0), (1, .int x1), (2, .int x2), (3, .int x3), (4, .int z4), (5, .int z5)] → W p l e rm_X7_out s m args below meth c H locs 0 0 Q (F0 m 6 ls []))
    (kE : ∀ (z4 : Int32) (σ2 : zSt), out = .inr (z4, σ2) → ∀ (H : Heap) (locs : List Loc) (ls : Array Slot), zO D cA B0 Γ σ2 Z s.heap H locs → lv_has ls 6 [(4, .int z4)] → W p l e rm_X7_out s m args below meth c H locs 0 0 Q (F0 m 56 ls [])) :
    W p l e rm_X7_out s m args below meth c H locs 0 0 Q (F0 m 6 ls []) := by
  have hx := hC.1
  have hb := hC.2.1
  unfold f_X7_out_B6 at hf
  refine lv_iload hx hb dX7_out_6 (lv_at hl 5 rfl) ?_
  refine lv_aload_n hx hb dX7_out_8 rfl (lv_at hl 0 rfl) ?_
  refine lv_iload_n hx hb dX7_out_9 rfl (lv_at hl 1 rfl) ?_
  obtain ⟨ho, hf⟩ := chk_inv hf
  obtain ⟨r2, σ1, hk, hf⟩ := bnd_inv hf
  refine z_callV (As := [.int x1]) (rest := [.int x5]) (m_X7_many hC.2.2.2.2.2.2.2.2 hk) hC hw wd_X7_many lkM_X7_78 (isO_sh ho) rfl rfl ⟨rfl, rfl⟩ ⟨(Nat.le_of_ble_eq_true rfl), (Nat.le_of_ble_eq_true rfl)⟩ hl.1 rfl (Nat.le_of_ble_eq_true rfl) dX7_out_10 ⟨(Nat.le_of_ble_eq_true rfl), (Nat.le_of_ble_eq_true rfl)⟩ (fun H locs hw => ?_)
  refine lv_icmp_ge (tgt := 56) hx hb dX7_out_13 (by decide) (fun hc => ?_) (fun hc => ?_)
  · rw [if_pos hc] at hf
    exact kE x4 σ1 (Option.some.inj hf).symm _ _ _ hw (lv_sub hl [4] rfl)
  · rw [if_neg hc] at hf
    refine lv_iload hx hb dX7_out_16 (lv_at hl 4 rfl) ?_
    refine lv_aload_n hx hb dX7_out_18 rfl (lv_at hl 0 rfl) ?_
    obtain ⟨v3, hg, hf⟩ := gfR_inv hf
    refine r_gfR hC hw hg clX7 (Nat.le_of_ble_eq_true rfl) lkF_X7_7 rfl dX7_out_19 ?_
    refine lv_iload_n hx hb dX7_out_22 rfl (lv_at hl 1 rfl) ?_
    refine lv_iload_n hx hb dX7_out_23 rfl (lv_at hl 2 rfl) ?_
    refine lv_iload_n hx hb dX7_out_24 rfl (lv_at hl 3 rfl) ?_
    refine lv_iload hx hb dX7_out_25 (lv_at hl 5 rfl) ?_
    obtain ⟨r5, σ4, hk, hf⟩ := bnd_inv hf
    refine z_callS (As := [.int x1, .int x2, .int x3, .int x5]) (rest := [.ref v3, .int x4]) (m_X7_at hC.2.2.2.2.2.2.2.2 hk) hC hw wd_X7_at lkM_X7_116 rfl ⟨rfl, rfl⟩ ⟨(Nat.le_of_ble_eq_true rfl), (Nat.le_of_ble_eq_true rfl)⟩ hl.1 rfl (Nat.le_of_ble_eq_true rfl) dX7_out_27 ⟨(Nat.le_of_ble_eq_true rfl), (Nat.le_of_ble_eq_true rfl)⟩ (fun H locs hw => ?_)
    obtain ⟨v6, hg, hf⟩ := ldI_inv hf
    refine r_ldI hC hw hg dX7_out_30 ?_
    refine lv_aload_n hx hb dX7_out_31 rfl (lv_at hl 0 rfl) ?_
    obtain ⟨v7, hg, hf⟩ := gfR_inv hf
    refine r_gfR hC hw hg clX7 (Nat.le_of_ble_eq_true rfl) lkF_X7_7 rfl dX7_out_32 ?_
    refine lv_iload_n hx hb dX7_out_35 rfl (lv_at hl 1 rfl) ?_
    refine lv_iload hx hb dX7_out_36 (lv_at hl 5 rfl) ?_
    obtain ⟨r9, σ8, hk, hf⟩ := bnd_inv hf
    refine z_callS (As := [.int x1, .int x5]) (rest := [.ref v7, .int v6, .int x4]) (m_X7_finalAt hC.2.2.2.2.2.2.2.2 hk) hC hw wd_X7_finalAt lkM_X7_85 rfl ⟨rfl, rfl⟩ ⟨(Nat.le_of_ble_eq_true rfl), (Nat.le_of_ble_eq_true rfl)⟩ hl.1 rfl (Nat.le_of_ble_eq_true rfl) dX7_out_38 ⟨(Nat.le_of_ble_eq_true rfl), (Nat.le_of_ble_eq_true rfl)⟩ (fun H locs hw => ?_)
    obtain ⟨v10, hg, hf⟩ := ldI_inv hf
    refine r_ldI hC hw hg dX7_out_41 ?_
    refine lv_imul hx hb dX7_out_42 ?_
    refine lv_iadd hx hb dX7_out_43 ?_
    refine lv_sipush (v := 10007) hx hb dX7_out_44 (by decide) ?_
    obtain ⟨v11, hg, hf⟩ := rmI_inv hf
    refine r_rmI hC hg dX7_out_47 ?_
    refine lv_istore (lv' := [(4, .int v11), (0, .ref x0), (1, .int x1), (2, .int x2), (3, .int x3), (5, .int x5)]) hx hb dX7_out_48 hl (Nat.le_of_ble_eq_true rfl) rfl (fun ls hl => ?_)
    refine lv_iinc (v := (x5 + 1)) (lv' := [(5, .int (x5 + 1)), (4, .int v11), (0, .ref x0), (1, .int x1), (2, .int x2), (3, .int x3)]) hx hb dX7_out_50 hl (k := 5) rfl rfl (Nat.le_of_ble_eq_true rfl) rfl (fun ls hl => ?_)
    refine lv_goto (tgt := 6) hx hb dX7_out_53 (by decide) ?_
    exact kI v11 (x5 + 1) σ8 (Option.some.inj hf).symm _ _ _ hw (lv_sub hl [2, 3, 4, 5, 1, 0] rfl)
set_option maxHeartbeats 4000000 in
theorem l_X7_out_B6 (hC : zC p l s m args meth c cX7_out 6 RX7 D cA B0) (hr : meth.sig.returnType = (Option.some FieldType.int)) {Γ : zSh} {x0 : Nat} {x1 : Int32} {x2 : Int32} {x3 : Int32} {w4 : Int32} {σ2 : zSt} (kE : ∀ (H : Heap) (locs : List Loc) (ls : Array Slot), zO D cA B0 Γ σ2 Z s.heap H locs → lv_has ls 6 [(4, .int w4)] → W p l e rm_X7_out s m args below meth c H locs 0 0 Q (F0 m 56 ls [])) :
    ∀ (n : Nat) (x4 : Int32) (x5 : Int32) (σ : zSt), loopM (fun q => f_X7_out_B6 Γ x0 x1 x2 x3 q.1 q.2.1 q.2.2) n (x4, x5, σ) = some (w4, σ2) → ∀ (H : Heap) (locs : List Loc) (ls : Array Slot), zO D cA B0 Γ σ Z s.heap H locs → lv_has ls 6 [(0, .ref x0), (1, .int x1), (2, .int x2), (3, .int x3), (4, .int x4), (5, .int x5)] → W p l e rm_X7_out s m args below meth c H locs 0 0 Q (F0 m 6 ls []) := by
  intro n
  induction n with
  | zero => intro x4 x5 σ h; exact absurd h (by simp [loopM])
  | succ n ih =>
    intro x4 x5 σ h H locs ls hw hl
    obtain ⟨r, h1, h2, h3⟩ := loopM_inv h
    exact t_X7_out_B6 hC hr h1 hw hl (fun z4 z5 s2 e H locs ls hw hl => ih z4 z5 s2 (h2 _ e) H locs ls hw hl) (fun z4 s2 e H locs ls hw hl => by cases h3 _ e; exact kE H locs ls hw hl)
set_option maxHeartbeats 4000000 in
set_option maxRecDepth 100000 in
theorem m_X7_out (h9 : l.stackTraces = false) {Γ : zSh} {a0 : Nat} {a1 : Int32} {a2 : Int32} {a3 : Int32} {σ : zSt} {r : Int32} {σ2 : zSt} (hf : f_X7_out Γ a0 a1 a2 a3 σ = some (r, σ2)) : Met l yX7_out (wq yX7_out cX7_out 6 (Option.some FieldType.int)) rm_X7_out (zQ0 D cA B0 [.ref a0, .int a1, .int a2, .int a3] Γ σ Z) (zQ1 D cA B0 (some (.int r)) Γ σ2 Z) 0 0 (FR B0) := by
  refine z_ofW h9 (by decide) (Nat.le_of_ble_eq_true rfl) ?_
  intro p e s m args below meth c ls hC hr _ hw hl
  have hx := hC.1
  have hb := hC.2.1
  have hl : lv_has ls 6 [(0, .ref a0), (1, .int a1), (2, .int a2), (3, .int a3)] := hl
  unfold f_X7_out at hf
  refine lv_iconst (v := 0) hx hb dX7_out_0 (by decide) ?_
  refine lv_istore (lv' := [(4, .int 0), (0, .ref a0), (1, .int a1), (2, .int a2), (3, .int a3)]) hx hb dX7_out_1 hl (Nat.le_of_ble_eq_true rfl) rfl (fun ls hl => ?_)
  refine lv_iconst (v := 0) hx hb dX7_out_3 (by decide) ?_
  refine lv_istore (lv' := [(5, .int 0), (4, .int 0), (0, .ref a0), (1, .int a1), (2, .int a2), (3, .int a3)]) hx hb dX7_out_4 hl (Nat.le_of_ble_eq_true rfl) rfl (fun ls hl => ?_)
  obtain ⟨w13, σ12, hk, hf⟩ := lb1_inv hf
  refine l_X7_out_B6 hC hr (fun H locs ls hw hl => ?_) FUEL 0 0 σ hk _ _ _ hw (lv_sub hl [2, 3, 4, 5, 1, 0] rfl)
  refine lv_iload hx hb dX7_out_56 (lv_at hl 0 rfl) ?_
  first | (obtain ⟨rfl, rfl⟩ := sp_inv hf) | (obtain rfl := Option.some.inj hf)
  exact W.iret hx hb hr (z_ret hw rfl) hw.2.2.2.2.2 dX7_out_58 hC.2.2.2.2.2.1
set_option maxHeartbeats 4000000 in
set_option maxRecDepth 100000 in
theorem t_X7_into_B6 (hC : zC p l s m args meth c cX7_into 6 RX7 D cA B0) (hr : meth.sig.returnType = (Option.some FieldType.int)) {Γ : zSh} {x0 : Nat} {x1 : Int32} {x2 : Int32} {x3 : Int32} {x4 : Int32} {x5 : Int32} {σ : zSt} {out : ((Int32 × Int32 × zSt) ⊕ (Int32 × zSt))} (hf : f_X7_into_B6 Γ x0 x1 x2 x3 x4 x5 σ = some out) {H : Heap} {locs : List Loc} {ls : Array Slot} (hw : zO D cA B0 Γ σ Z s.heap H locs) (hl : lv_has ls 6 [(0, .ref x0), (1, .int x1), (2, .int x2), (3, .int x3), (4, .int x4), (5, .int x5)])
    (kI : ∀ (z4 : Int32) (z5 : Int32) (σ2 : zSt), out = .inl (z4, z5, σ2) → ∀ (H : Heap) (locs : List Loc) (ls : Array Slot), zO D cA B0 Γ σ2 Z s.heap H locs → lv_has ls 6 [(0, .ref x0), (1, .int x1), (2, .int x2), (3, .int x3), (4, .int z4), (5, .int z5)] → W p l e rm_X7_into s m args below meth c H locs 0 0 Q (F0 m 6 ls []))
    (kE : ∀ (z4 : Int32) (σ2 : zSt), out = .inr (z4, σ2) → ∀ (H : Heap) (locs : List Loc) (ls : Array Slot), zO D cA B0 Γ σ2 Z s.heap H locs → lv_has ls 6 [(4, .int z4)] → W p l e rm_X7_into s m args below meth c H locs 0 0 Q (F0 m 56 ls [])) :
    W p l e rm_X7_into s m args below meth c H locs 0 0 Q (F0 m 6 ls []) := by
  have hx := hC.1
  have hb := hC.2.1
  unfold f_X7_into_B6 at hf
  refine lv_iload hx hb dX7_into_6 (lv_at hl 5 rfl) ?_
  refine lv_aload_n hx hb dX7_into_8 rfl (lv_at hl 0 rfl) ?_
  refine lv_iload_n hx hb dX7_into_9 rfl (lv_at hl 1 rfl) ?_
  obtain ⟨ho, hf⟩ := chk_inv hf
  obtain ⟨r2, σ1, hk, hf⟩ := bnd_inv hf
  refine z_callV (As := [.int x1]) (rest := [.int x5]) (m_X7_many hC.2.2.2.2.2.2.2.2 hk) hC hw wd_X7_many lkM_X7_78 (isO_sh ho) rfl rfl ⟨rfl, rfl⟩ ⟨(Nat.le_of_ble_eq_true rfl), (Nat.le_of_ble_eq_true rfl)⟩ hl.1 rfl (Nat.le_of_ble_eq_true rfl) dX7_into_10 ⟨(Nat.le_of_ble_eq_true rfl), (Nat.le_of_ble_eq_true rfl)⟩ (fun H locs hw => ?_)
  refine lv_icmp_ge (tgt := 56) hx hb dX7_into_13 (by decide) (fun hc => ?_) (fun hc => ?_)
  · rw [if_pos hc] at hf
    exact kE x4 σ1 (Option.some.inj hf).symm _ _ _ hw (lv_sub hl [4] rfl)
  · rw [if_neg hc] at hf
    refine lv_iload hx hb dX7_into_16 (lv_at hl 4 rfl) ?_
    refine lv_aload_n hx hb dX7_into_18 rfl (lv_at hl 0 rfl) ?_
    obtain ⟨v3, hg, hf⟩ := gfR_inv hf
    refine r_gfR hC hw hg clX7 (Nat.le_of_ble_eq_true rfl) lkF_X7_7 rfl dX7_into_19 ?_
    refine lv_iload_n hx hb dX7_into_22 rfl (lv_at hl 1 rfl) ?_
    refine lv_iload hx hb dX7_into_23 (lv_at hl 5 rfl) ?_
    obtain ⟨r5, σ4, hk, hf⟩ := bnd_inv hf
    refine z_callS (As := [.int x1, .int x5]) (rest := [.ref v3, .int x4]) (m_X7_initialAt hC.2.2.2.2.2.2.2.2 hk) hC hw wd_X7_initialAt lkM_X7_82 rfl ⟨rfl, rfl⟩ ⟨(Nat.le_of_ble_eq_true rfl), (Nat.le_of_ble_eq_true rfl)⟩ hl.1 rfl (Nat.le_of_ble_eq_true rfl) dX7_into_25 ⟨(Nat.le_of_ble_eq_true rfl), (Nat.le_of_ble_eq_true rfl)⟩ (fun H locs hw => ?_)
    obtain ⟨v6, hg, hf⟩ := ldI_inv hf
    refine r_ldI hC hw hg dX7_into_28 ?_
    refine lv_aload_n hx hb dX7_into_29 rfl (lv_at hl 0 rfl) ?_
    obtain ⟨v7, hg, hf⟩ := gfR_inv hf
    refine r_gfR hC hw hg clX7 (Nat.le_of_ble_eq_true rfl) lkF_X7_7 rfl dX7_into_30 ?_
    refine lv_iload_n hx hb dX7_into_33 rfl (lv_at hl 1 rfl) ?_
    refine lv_iload_n hx hb dX7_into_34 rfl (lv_at hl 2 rfl) ?_
    refine lv_iload hx hb dX7_into_35 (lv_at hl 5 rfl) ?_
    refine lv_iload_n hx hb dX7_into_37 rfl (lv_at hl 3 rfl) ?_
    obtain ⟨r9, σ8, hk, hf⟩ := bnd_inv hf
    refine z_callS (As := [.int x1, .int x2, .int x5, .int x3]) (rest := [.ref v7, .int v6, .int x4]) (m_X7_at hC.2.2.2.2.2.2.2.2 hk) hC hw wd_X7_at lkM_X7_116 rfl ⟨rfl, rfl⟩ ⟨(Nat.le_of_ble_eq_true rfl), (Nat.le_of_ble_eq_true rfl)⟩ hl.1 rfl (Nat.le_of_ble_eq_true rfl) dX7_into_38 ⟨(Nat.le_of_ble_eq_true rfl), (Nat.le_of_ble_eq_true rfl)⟩ (fun H locs hw => ?_)
    obtain ⟨v10, hg, hf⟩ := ldI_inv hf
    refine r_ldI hC hw hg dX7_into_41 ?_
    refine lv_imul hx hb dX7_into_42 ?_
    refine lv_iadd hx hb dX7_into_43 ?_
    refine lv_sipush (v := 10007) hx hb dX7_into_44 (by decide) ?_
    obtain ⟨v11, hg, hf⟩ := rmI_inv hf
    refine r_rmI hC hg dX7_into_47 ?_
    refine lv_istore (lv' := [(4, .int v11), (0, .ref x0), (1, .int x1), (2, .int x2), (3, .int x3), (5, .int x5)]) hx hb dX7_into_48 hl (Nat.le_of_ble_eq_true rfl) rfl (fun ls hl => ?_)
    refine lv_iinc (v := (x5 + 1)) (lv' := [(5, .int (x5 + 1)), (4, .int v11), (0, .ref x0), (1, .int x1), (2, .int x2), (3, .int x3)]) hx hb dX7_into_50 hl (k := 5) rfl rfl (Nat.le_of_ble_eq_true rfl) rfl (fun ls hl => ?_)
    refine lv_goto (tgt := 6) hx hb dX7_into_53 (by decide) ?_
    exact kI v11 (x5 + 1) σ8 (Option.some.inj hf).symm _ _ _ hw (lv_sub hl [2, 3, 4, 5, 1, 0] rfl)
set_option maxHeartbeats 4000000 in
theorem l_X7_into_B6 (hC : zC p l s m args meth c cX7_into 6 RX7 D cA B0) (hr : meth.sig.returnType = (Option.some FieldType.int)) {Γ : zSh} {x0 : Nat} {x1 : Int32} {x2 : Int32} {x3 : Int32} {w4 : Int32} {σ2 : zSt} (kE : ∀ (H : Heap) (locs : List Loc) (ls : Array Slot), zO D cA B0 Γ σ2 Z s.heap H locs → lv_has ls 6 [(4, .int w4)] → W p l e rm_X7_into s m args below meth c H locs 0 0 Q (F0 m 56 ls [])) :
    ∀ (n : Nat) (x4 : Int32) (x5 : Int32) (σ : zSt), loopM (fun q => f_X7_into_B6 Γ x0 x1 x2 x3 q.1 q.2.1 q.2.2) n (x4, x5, σ) = some (w4, σ2) → ∀ (H : Heap) (locs : List Loc) (ls : Array Slot), zO D cA B0 Γ σ Z s.heap H locs → lv_has ls 6 [(0, .ref x0), (1, .int x1), (2, .int x2), (3, .int x3), (4, .int x4), (5, .int x5)] → W p l e rm_X7_into s m args below meth c H locs 0 0 Q (F0 m 6 ls []) := by
  intro n
  induction n with
  | zero => intro x4 x5 σ h; exact absurd h (by simp [loopM])
  | succ n ih =>
    intro x4 x5 σ h H locs ls hw hl
    obtain ⟨r, h1, h2, h3⟩ := loopM_inv h
    exact t_X7_into_B6 hC hr h1 hw hl (fun z4 z5 s2 e H locs ls hw hl => ih z4 z5 s2 (h2 _ e) H locs ls hw hl) (fun z4 s2 e H locs ls hw hl => by cases h3 _ e; exact kE H locs ls hw hl)
set_option maxHeartbeats 4000000 in
set_option maxRecDepth 100000 in
theorem m_X7_into (h9 : l.stackTraces = false) {Γ : zSh} {a0 : Nat} {a1 : Int32} {a2 : Int32} {a3 : Int32} {σ : zSt} {r : Int32} {σ2 : zSt} (hf : f_X7_into Γ a0 a1 a2 a3 σ = some (r, σ2)) : Met l yX7_into (wq yX7_into cX7_into 6 (Option.some FieldType.int)) rm_X7_into (zQ0 D cA B0 [.ref a0, .int a1, .int a2, .int a3] Γ σ Z) (zQ1 D cA B0 (some (.int r)) Γ σ2 Z) 0 0 (FR B0) := by
  refine z_ofW h9 (by decide) (Nat.le_of_ble_eq_true rfl) ?_
  intro p e s m args below meth c ls hC hr _ hw hl
  have hx := hC.1
  have hb := hC.2.1
  have hl : lv_has ls 6 [(0, .ref a0), (1, .int a1), (2, .int a2), (3, .int a3)] := hl
  unfold f_X7_into at hf
  refine lv_iconst (v := 0) hx hb dX7_into_0 (by decide) ?_
  refine lv_istore (lv' := [(4, .int 0), (0, .ref a0), (1, .int a1), (2, .int a2), (3, .int a3)]) hx hb dX7_into_1 hl (Nat.le_of_ble_eq_true rfl) rfl (fun ls hl => ?_)
  refine lv_iconst (v := 0) hx hb dX7_into_3 (by decide) ?_
  refine lv_istore (lv' := [(5, .int 0), (4, .int 0), (0, .ref a0), (1, .int a1), (2, .int a2), (3, .int a3)]) hx hb dX7_into_4 hl (Nat.le_of_ble_eq_true rfl) rfl (fun ls hl => ?_)
  obtain ⟨w13, σ12, hk, hf⟩ := lb1_inv hf
  refine l_X7_into_B6 hC hr (fun H locs ls hw hl => ?_) FUEL 0 0 σ hk _ _ _ hw (lv_sub hl [2, 3, 4, 5, 1, 0] rfl)
  refine lv_iload hx hb dX7_into_56 (lv_at hl 0 rfl) ?_
  first | (obtain ⟨rfl, rfl⟩ := sp_inv hf) | (obtain rfl := Option.some.inj hf)
  exact W.iret hx hb hr (z_ret hw rfl) hw.2.2.2.2.2 dX7_into_58 hC.2.2.2.2.2.1
set_option maxHeartbeats 4000000 in
set_option maxRecDepth 100000 in
theorem t_X7_joins_B44 (hC : zC p l s m args meth c cX7_joins 7 RX7 D cA B0) (hr : meth.sig.returnType = (Option.none : Option Jvm.ClassFile.FieldType)) {Γ : zSh} {x0 : Nat} {x1 : Int32} {x2 : Int32} {x3 : Int32} {x4 : Int32} {x5 : Int32} {σ : zSt} {out : ((Int32 × zSt) ⊕ (zSt))} (hf : f_X7_joins_B44 Γ x0 x1 x2 x3 x4 x5 σ = some out) {H : Heap} {locs : List Loc} {ls : Array Slot} (hw : zO D cA B0 Γ σ Z s.heap H locs) (hl : lv_has ls 7 [(0, .ref x0), (1, .int x1), (2, .int x2), (3, .int x3), (4, .int x4), (5, .int x5)])
    (kI : ∀ (z5 : Int32) (σ2 : zSt), out = .inl (z5, σ2) → ∀ (H : Heap) (locs : List Loc) (ls : Array Slot), zO D cA B0 Γ σ2 Z s.heap H locs → lv_has ls 7 [(0, .ref x0), (1, .int x1), (2, .int x2), (3, .int x3), (4, .int x4), (5, .int z5)] → W p l e rm_X7_joins s m args below meth c H locs 0 0 Q (F0 m 44 ls []))
    (kE : ∀ (σ2 : zSt), out = .inr σ2 → ∀ (H : Heap) (locs : List Loc) (ls : Array Slot), zO D cA B0 Γ σ2 Z s.heap H locs → lv_has ls 7 [(0, .ref x0), (1, .int x1), (2, .int x2), (3, .int x3), (4, .int x4)] → W p l e rm_X7_joins s m args below meth c H locs 0 0 Q (F0 m 111 ls [])) :
    W p l e rm_X7_joins s m args below meth c H locs 0 0 Q (F0 m 44 ls []) := by
  have hx := hC.1
  have hb := hC.2.1
  unfold f_X7_joins_B44 at hf
  refine lv_iload hx hb dX7_joins_44 (lv_at hl 5 rfl) ?_
  refine lv_iload hx hb dX7_joins_46 (lv_at hl 4 rfl) ?_
  refine lv_icmp_ge (tgt := 111) hx hb dX7_joins_48 (by decide) (fun hc => ?_) (fun hc => ?_)
  · rw [if_pos hc] at hf
    exact kE  σ (Option.some.inj hf).symm _ _ _ hw (lv_sub hl [0, 1, 2, 3, 4] rfl)
  · rw [if_neg hc] at hf
    refine lv_aload_n hx hb dX7_joins_51 rfl (lv_at hl 0 rfl) ?_
    obtain ⟨v12, hg, hf⟩ := gfR_inv hf
    refine r_gfR hC hw hg clX7 (Nat.le_of_ble_eq_true rfl) lkF_X7_7 rfl dX7_joins_52 ?_
    refine lv_iload_n hx hb dX7_joins_55 rfl (lv_at hl 3 rfl) ?_
    refine lv_iload hx hb dX7_joins_56 (lv_at hl 5 rfl) ?_
    obtain ⟨r14, σ13, hk, hf⟩ := bnd_inv hf
    refine z_callS (As := [.int x3, .int x5]) (rest := [.ref v12]) (m_X7_initialAt hC.2.2.2.2.2.2.2.2 hk) hC hw wd_X7_initialAt lkM_X7_82 rfl ⟨rfl, rfl⟩ ⟨(Nat.le_of_ble_eq_true rfl), (Nat.le_of_ble_eq_true rfl)⟩ hl.1 rfl (Nat.le_of_ble_eq_true rfl) dX7_joins_58 ⟨(Nat.le_of_ble_eq_true rfl), (Nat.le_of_ble_eq_true rfl)⟩ (fun H locs hw => ?_)
    refine lv_aload_n hx hb dX7_joins_61 rfl (lv_at hl 0 rfl) ?_
    obtain ⟨v15, hg, hf⟩ := gfR_inv hf
    refine r_gfR hC hw hg clX7 (Nat.le_of_ble_eq_true rfl) lkF_X7_7 rfl dX7_joins_62 ?_
    refine lv_iload_n hx hb dX7_joins_65 rfl (lv_at hl 1 rfl) ?_
    refine lv_iload hx hb dX7_joins_66 (lv_at hl 5 rfl) ?_
    obtain ⟨r17, σ16, hk, hf⟩ := bnd_inv hf
    refine z_callS (As := [.int x1, .int x5]) (rest := [.ref v15, .int r14, .ref v12]) (m_X7_initialAt hC.2.2.2.2.2.2.2.2 hk) hC hw wd_X7_initialAt lkM_X7_82 rfl ⟨rfl, rfl⟩ ⟨(Nat.le_of_ble_eq_true rfl), (Nat.le_of_ble_eq_true rfl)⟩ hl.1 rfl (Nat.le_of_ble_eq_true rfl) dX7_joins_68 ⟨(Nat.le_of_ble_eq_true rfl), (Nat.le_of_ble_eq_true rfl)⟩ (fun H locs hw => ?_)
    obtain ⟨v18, hg, hf⟩ := ldI_inv hf
    refine r_ldI hC hw hg dX7_joins_71 ?_
    obtain ⟨σ19, hg, hf⟩ := stI_inv hf
    refine r_stI hC hw hg dX7_joins_72 (fun H locs hw => ?_)
    refine lv_aload_n hx hb dX7_joins_73 rfl (lv_at hl 0 rfl) ?_
    obtain ⟨v20, hg, hf⟩ := gfR_inv hf
    refine r_gfR hC hw hg clX7 (Nat.le_of_ble_eq_true rfl) lkF_X7_7 rfl dX7_joins_74 ?_
    refine lv_iload_n hx hb dX7_joins_77 rfl (lv_at hl 3 rfl) ?_
    refine lv_iload hx hb dX7_joins_78 (lv_at hl 5 rfl) ?_
    obtain ⟨r22, σ21, hk, hf⟩ := bnd_inv hf
    refine z_callS (As := [.int x3, .int x5]) (rest := [.ref v20]) (m_X7_finalAt hC.2.2.2.2.2.2.2.2 hk) hC hw wd_X7_finalAt lkM_X7_85 rfl ⟨rfl, rfl⟩ ⟨(Nat.le_of_ble_eq_true rfl), (Nat.le_of_ble_eq_true rfl)⟩ hl.1 rfl (Nat.le_of_ble_eq_true rfl) dX7_joins_80 ⟨(Nat.le_of_ble_eq_true rfl), (Nat.le_of_ble_eq_true rfl)⟩ (fun H locs hw => ?_)
    refine lv_aload_n hx hb dX7_joins_83 rfl (lv_at hl 0 rfl) ?_
    obtain ⟨v23, hg, hf⟩ := gfR_inv hf
    refine r_gfR hC hw hg clX7 (Nat.le_of_ble_eq_true rfl) lkF_X7_7 rfl dX7_joins_84 ?_
    refine lv_iload_n hx hb dX7_joins_87 rfl (lv_at hl 1 rfl) ?_
    refine lv_iload hx hb dX7_joins_88 (lv_at hl 5 rfl) ?_
    obtain ⟨r25, σ24, hk, hf⟩ := bnd_inv hf
    refine z_callS (As := [.int x1, .int x5]) (rest := [.ref v23, .int r22, .ref v20]) (m_X7_finalAt hC.2.2.2.2.2.2.2.2 hk) hC hw wd_X7_finalAt lkM_X7_85 rfl ⟨rfl, rfl⟩ ⟨(Nat.le_of_ble_eq_true rfl), (Nat.le_of_ble_eq_true rfl)⟩ hl.1 rfl (Nat.le_of_ble_eq_true rfl) dX7_joins_90 ⟨(Nat.le_of_ble_eq_true rfl), (Nat.le_of_ble_eq_true rfl)⟩ (fun H locs hw => ?_)
    obtain ⟨v26, hg, hf⟩ := ldI_inv hf
    refine r_ldI hC hw hg dX7_joins_93 ?_
    refine lv_aload_n hx hb dX7_joins_94 rfl (lv_at hl 0 rfl) ?_
    refine lv_iload_n hx hb dX7_joins_95 rfl (lv_at hl 2 rfl) ?_
    obtain ⟨ho, hf⟩ := chk_inv hf
    obtain ⟨r28, σ27, hk, hf⟩ := bnd_inv hf
    refine z_callV (As := [.int x2]) (rest := [.int v26, .int r22, .ref v20]) (m_X7_emptyWeight hC.2.2.2.2.2.2.2.2 hk) hC hw wd_X7_emptyWeight lkM_X7_140 (isO_sh ho) rfl rfl ⟨rfl, rfl⟩ ⟨(Nat.le_of_ble_eq_true rfl), (Nat.le_of_ble_eq_true rfl)⟩ hl.1 rfl (Nat.le_of_ble_eq_true rfl) dX7_joins_96 ⟨(Nat.le_of_ble_eq_true rfl), (Nat.le_of_ble_eq_true rfl)⟩ (fun H locs hw => ?_)
    refine lv_imul hx hb dX7_joins_99 ?_
    refine lv_sipush (v := 10007) hx hb dX7_joins_100 (by decide) ?_
    obtain ⟨v29, hg, hf⟩ := rmI_inv hf
    refine r_rmI hC hg dX7_joins_103 ?_
    obtain ⟨σ30, hg, hf⟩ := stI_inv hf
    refine r_stI hC hw hg dX7_joins_104 (fun H locs hw => ?_)
    refine lv_iinc (v := (x5 + 1)) (lv' := [(5, .int (x5 + 1)), (0, .ref x0), (1, .int x1), (2, .int x2), (3, .int x3), (4, .int x4)]) hx hb dX7_joins_105 hl (k := 5) rfl rfl (Nat.le_of_ble_eq_true rfl) rfl (fun ls hl => ?_)
    refine lv_goto (tgt := 44) hx hb dX7_joins_108 (by decide) ?_
    exact kI (x5 + 1) σ30 (Option.some.inj hf).symm _ _ _ hw (lv_sub hl [1, 2, 3, 4, 5, 0] rfl)
set_option maxHeartbeats 4000000 in
theorem l_X7_joins_B44 (hC : zC p l s m args meth c cX7_joins 7 RX7 D cA B0) (hr : meth.sig.returnType = (Option.none : Option Jvm.ClassFile.FieldType)) {Γ : zSh} {x0 : Nat} {x1 : Int32} {x2 : Int32} {x3 : Int32} {x4 : Int32} {σ2 : zSt} (kE : ∀ (H : Heap) (locs : List Loc) (ls : Array Slot), zO D cA B0 Γ σ2 Z s.heap H locs → lv_has ls 7 [(0, .ref x0), (1, .int x1), (2, .int x2), (3, .int x3), (4, .int x4)] → W p l e rm_X7_joins s m args below meth c H locs 0 0 Q (F0 m 111 ls [])) :
    ∀ (n : Nat) (x5 : Int32) (σ : zSt), loopM (fun q => f_X7_joins_B44 Γ x0 x1 x2 x3 x4 q.1 q.2) n (x5, σ) = some σ2 → ∀ (H : Heap) (locs : List Loc) (ls : Array Slot), zO D cA B0 Γ σ Z s.heap H locs → lv_has ls 7 [(0, .ref x0), (1, .int x1), (2, .int x2), (3, .int x3), (4, .int x4), (5, .int x5)] → W p l e rm_X7_joins s m args below meth c H locs 0 0 Q (F0 m 44 ls []) := by
  intro n
  induction n with
  | zero => intro x5 σ h; exact absurd h (by simp [loopM])
  | succ n ih =>
    intro x5 σ h H locs ls hw hl
    obtain ⟨r, h1, h2, h3⟩ := loopM_inv h
    exact t_X7_joins_B44 hC hr h1 hw hl (fun z5 s2 e H locs ls hw hl => ih z5 s2 (h2 _ e) H locs ls hw hl) (fun s2 e H locs ls hw hl => by cases h3 _ e; exact kE H locs ls hw hl)
set_option maxHeartbeats 4000000 in
set_option maxRecDepth 100000 in
theorem t_X7_joins_B187 (hC : zC p l s m args meth c cX7_joins 7 RX7 D cA B0) (hr : meth.sig.returnType = (Option.none : Option Jvm.ClassFile.FieldType)) {Γ : zSh} {x0 : Nat} {x1 : Int32} {x2 : Int32} {x3 : Int32} {x4 : Int32} {x5 : Int32} {x6 : Int32} {σ : zSt} {out : ((Int32 × zSt) ⊕ (zSt))} (hf : f_X7_joins_B187 Γ x0 x1 x2 x3 x4 x5 x6 σ = some out) {H : Heap} {locs : List Loc} {ls : Array Slot} (hw : zO D cA B0 Γ σ Z s.heap H locs) (hl : lv_has ls 7 [(0, .ref x0), (1, .int x1), (2, .int x2), (3, .int x3), (4, .int x4), (5, .int x5), (6, .int x6)])
    (kI : ∀ (z6 : Int32) (σ2 : zSt), out = .inl (z6, σ2) → ∀ (H : Heap) (locs : List Loc) (ls : Array Slot), zO D cA B0 Γ σ2 Z s.heap H locs → lv_has ls 7 [(0, .ref x0), (1, .int x1), (2, .int x2), (3, .int x3), (4, .int x4), (5, .int x5), (6, .int z6)] → W p l e rm_X7_joins s m args below meth c H locs 0 0 Q (F0 m 187 ls []))
    (kE : ∀ (σ2 : zSt), out = .inr σ2 → ∀ (H : Heap) (locs : List Loc) (ls : Array Slot), zO D cA B0 Γ σ2 Z s.heap H locs → lv_has ls 7 [(0, .ref x0), (1, .int x1), (2, .int x2), (3, .int x3), (4, .int x4), (5, .int x5)] → W p l e rm_X7_joins s m args below meth c H locs 0 0 Q (F0 m 282 ls [])) :
    W p l e rm_X7_joins s m args below meth c H locs 0 0 Q (F0 m 187 ls []) := by
  have hx := hC.1
  have hb := hC.2.1
  unfold f_X7_joins_B187 at hf
  refine lv_iload hx hb dX7_joins_187 (lv_at hl 6 rfl) ?_
  refine lv_iload hx hb dX7_joins_189 (lv_at hl 4 rfl) ?_
  refine lv_icmp_ge (tgt := 282) hx hb dX7_joins_191 (by decide) (fun hc => ?_) (fun hc => ?_)
  · rw [if_pos hc] at hf
    exact kE  σ (Option.some.inj hf).symm _ _ _ hw (lv_sub hl [0, 1, 2, 3, 4, 5] rfl)
  · rw [if_neg hc] at hf
    refine lv_aload_n hx hb dX7_joins_194 rfl (lv_at hl 0 rfl) ?_
    obtain ⟨v53, hg, hf⟩ := gfR_inv hf
    refine r_gfR hC hw hg clX7 (Nat.le_of_ble_eq_true rfl) lkF_X7_7 rfl dX7_joins_195 ?_
    refine lv_iload_n hx hb dX7_joins_198 rfl (lv_at hl 3 rfl) ?_
    refine lv_iconst (v := 0) hx hb dX7_joins_199 (by decide) ?_
    refine lv_iload hx hb dX7_joins_200 (lv_at hl 6 rfl) ?_
    refine lv_iload hx hb dX7_joins_202 (lv_at hl 4 rfl) ?_
    refine lv_iload hx hb dX7_joins_204 (lv_at hl 5 rfl) ?_
    refine lv_iadd hx hb dX7_joins_206 ?_
    obtain ⟨r55, σ54, hk, hf⟩ := bnd_inv hf
    refine z_callS (As := [.int x3, .int 0, .int x6, .int (x4 + x5)]) (rest := [.ref v53]) (m_X7_at hC.2.2.2.2.2.2.2.2 hk) hC hw wd_X7_at lkM_X7_116 rfl ⟨rfl, rfl⟩ ⟨(Nat.le_of_ble_eq_true rfl), (Nat.le_of_ble_eq_true rfl)⟩ hl.1 rfl (Nat.le_of_ble_eq_true rfl) dX7_joins_207 ⟨(Nat.le_of_ble_eq_true rfl), (Nat.le_of_ble_eq_true rfl)⟩ (fun H locs hw => ?_)
    refine lv_aload_n hx hb dX7_joins_210 rfl (lv_at hl 0 rfl) ?_
    refine lv_iload_n hx hb dX7_joins_211 rfl (lv_at hl 1 rfl) ?_
    refine lv_iconst (v := 0) hx hb dX7_joins_212 (by decide) ?_
    refine lv_iload hx hb dX7_joins_213 (lv_at hl 6 rfl) ?_
    obtain ⟨ho, hf⟩ := chk_inv hf
    obtain ⟨r57, σ56, hk, hf⟩ := bnd_inv hf
    refine z_callV (As := [.int x1, .int 0, .int x6]) (rest := [.int r55, .ref v53]) (m_X7_out hC.2.2.2.2.2.2.2.2 hk) hC hw wd_X7_out lkM_X7_209 (isO_sh ho) rfl rfl ⟨rfl, rfl⟩ ⟨(Nat.le_of_ble_eq_true rfl), (Nat.le_of_ble_eq_true rfl)⟩ hl.1 rfl (Nat.le_of_ble_eq_true rfl) dX7_joins_215 ⟨(Nat.le_of_ble_eq_true rfl), (Nat.le_of_ble_eq_true rfl)⟩ (fun H locs hw => ?_)
    refine lv_aload_n hx hb dX7_joins_218 rfl (lv_at hl 0 rfl) ?_
    obtain ⟨v58, hg, hf⟩ := gfR_inv hf
    refine r_gfR hC hw hg clX7 (Nat.le_of_ble_eq_true rfl) lkF_X7_7 rfl dX7_joins_219 ?_
    refine lv_iload_n hx hb dX7_joins_222 rfl (lv_at hl 2 rfl) ?_
    refine lv_iload hx hb dX7_joins_223 (lv_at hl 5 rfl) ?_
    obtain ⟨r60, σ59, hk, hf⟩ := bnd_inv hf
    refine z_callS (As := [.int x2, .int x5]) (rest := [.ref v58, .int r57, .int r55, .ref v53]) (m_X7_initialAt hC.2.2.2.2.2.2.2.2 hk) hC hw wd_X7_initialAt lkM_X7_82 rfl ⟨rfl, rfl⟩ ⟨(Nat.le_of_ble_eq_true rfl), (Nat.le_of_ble_eq_true rfl)⟩ hl.1 rfl (Nat.le_of_ble_eq_true rfl) dX7_joins_225 ⟨(Nat.le_of_ble_eq_true rfl), (Nat.le_of_ble_eq_true rfl)⟩ (fun H locs hw => ?_)
    obtain ⟨v61, hg, hf⟩ := ldI_inv hf
    refine r_ldI hC hw hg dX7_joins_228 ?_
    refine lv_imul hx hb dX7_joins_229 ?_
    refine lv_sipush (v := 10007) hx hb dX7_joins_230 (by decide) ?_
    obtain ⟨v62, hg, hf⟩ := rmI_inv hf
    refine r_rmI hC hg dX7_joins_233 ?_
    obtain ⟨σ63, hg, hf⟩ := stI_inv hf
    refine r_stI hC hw hg dX7_joins_234 (fun H locs hw => ?_)
    refine lv_aload_n hx hb dX7_joins_235 rfl (lv_at hl 0 rfl) ?_
    obtain ⟨v64, hg, hf⟩ := gfR_inv hf
    refine r_gfR hC hw hg clX7 (Nat.le_of_ble_eq_true rfl) lkF_X7_7 rfl dX7_joins_236 ?_
    refine lv_iload_n hx hb dX7_joins_239 rfl (lv_at hl 3 rfl) ?_
    refine lv_iconst (v := 1) hx hb dX7_joins_240 (by decide) ?_
    refine lv_iload hx hb dX7_joins_241 (lv_at hl 6 rfl) ?_
    refine lv_iload hx hb dX7_joins_243 (lv_at hl 4 rfl) ?_
    refine lv_iload hx hb dX7_joins_245 (lv_at hl 5 rfl) ?_
    refine lv_iadd hx hb dX7_joins_247 ?_
    obtain ⟨r66, σ65, hk, hf⟩ := bnd_inv hf
    refine z_callS (As := [.int x3, .int 1, .int x6, .int (x4 + x5)]) (rest := [.ref v64]) (m_X7_at hC.2.2.2.2.2.2.2.2 hk) hC hw wd_X7_at lkM_X7_116 rfl ⟨rfl, rfl⟩ ⟨(Nat.le_of_ble_eq_true rfl), (Nat.le_of_ble_eq_true rfl)⟩ hl.1 rfl (Nat.le_of_ble_eq_true rfl) dX7_joins_248 ⟨(Nat.le_of_ble_eq_true rfl), (Nat.le_of_ble_eq_true rfl)⟩ (fun H locs hw => ?_)
    refine lv_aload_n hx hb dX7_joins_251 rfl (lv_at hl 0 rfl) ?_
    refine lv_iload_n hx hb dX7_joins_252 rfl (lv_at hl 1 rfl) ?_
    refine lv_iconst (v := 1) hx hb dX7_joins_253 (by decide) ?_
    refine lv_iload hx hb dX7_joins_254 (lv_at hl 6 rfl) ?_
    obtain ⟨ho, hf⟩ := chk_inv hf
    obtain ⟨r68, σ67, hk, hf⟩ := bnd_inv hf
    refine z_callV (As := [.int x1, .int 1, .int x6]) (rest := [.int r66, .ref v64]) (m_X7_out hC.2.2.2.2.2.2.2.2 hk) hC hw wd_X7_out lkM_X7_209 (isO_sh ho) rfl rfl ⟨rfl, rfl⟩ ⟨(Nat.le_of_ble_eq_true rfl), (Nat.le_of_ble_eq_true rfl)⟩ hl.1 rfl (Nat.le_of_ble_eq_true rfl) dX7_joins_256 ⟨(Nat.le_of_ble_eq_true rfl), (Nat.le_of_ble_eq_true rfl)⟩ (fun H locs hw => ?_)
    refine lv_aload_n hx hb dX7_joins_259 rfl (lv_at hl 0 rfl) ?_
    obtain ⟨v69, hg, hf⟩ := gfR_inv hf
    refine r_gfR hC hw hg clX7 (Nat.le_of_ble_eq_true rfl) lkF_X7_7 rfl dX7_joins_260 ?_
    refine lv_iload_n hx hb dX7_joins_263 rfl (lv_at hl 2 rfl) ?_
    refine lv_iload hx hb dX7_joins_264 (lv_at hl 5 rfl) ?_
    obtain ⟨r71, σ70, hk, hf⟩ := bnd_inv hf
    refine z_callS (As := [.int x2, .int x5]) (rest := [.ref v69, .int r68, .int r66, .ref v64]) (m_X7_initialAt hC.2.2.2.2.2.2.2.2 hk) hC hw wd_X7_initialAt lkM_X7_82 rfl ⟨rfl, rfl⟩ ⟨(Nat.le_of_ble_eq_true rfl), (Nat.le_of_ble_eq_true rfl)⟩ hl.1 rfl (Nat.le_of_ble_eq_true rfl) dX7_joins_266 ⟨(Nat.le_of_ble_eq_true rfl), (Nat.le_of_ble_eq_true rfl)⟩ (fun H locs hw => ?_)
    obtain ⟨v72, hg, hf⟩ := ldI_inv hf
    refine r_ldI hC hw hg dX7_joins_269 ?_
    refine lv_imul hx hb dX7_joins_270 ?_
    refine lv_sipush (v := 10007) hx hb dX7_joins_271 (by decide) ?_
    obtain ⟨v73, hg, hf⟩ := rmI_inv hf
    refine r_rmI hC hg dX7_joins_274 ?_
    obtain ⟨σ74, hg, hf⟩ := stI_inv hf
    refine r_stI hC hw hg dX7_joins_275 (fun H locs hw => ?_)
    refine lv_iinc (v := (x6 + 1)) (lv' := [(6, .int (x6 + 1)), (0, .ref x0), (1, .int x1), (2, .int x2), (3, .int x3), (4, .int x4), (5, .int x5)]) hx hb dX7_joins_276 hl (k := 6) rfl rfl (Nat.le_of_ble_eq_true rfl) rfl (fun ls hl => ?_)
    refine lv_goto (tgt := 187) hx hb dX7_joins_279 (by decide) ?_
    exact kI (x6 + 1) σ74 (Option.some.inj hf).symm _ _ _ hw (lv_sub hl [1, 2, 3, 4, 5, 6, 0] rfl)
set_option maxHeartbeats 4000000 in
theorem l_X7_joins_B187 (hC : zC p l s m args meth c cX7_joins 7 RX7 D cA B0) (hr : meth.sig.returnType = (Option.none : Option Jvm.ClassFile.FieldType)) {Γ : zSh} {x0 : Nat} {x1 : Int32} {x2 : Int32} {x3 : Int32} {x4 : Int32} {x5 : Int32} {σ2 : zSt} (kE : ∀ (H : Heap) (locs : List Loc) (ls : Array Slot), zO D cA B0 Γ σ2 Z s.heap H locs → lv_has ls 7 [(0, .ref x0), (1, .int x1), (2, .int x2), (3, .int x3), (4, .int x4), (5, .int x5)] → W p l e rm_X7_joins s m args below meth c H locs 0 0 Q (F0 m 282 ls [])) :
    ∀ (n : Nat) (x6 : Int32) (σ : zSt), loopM (fun q => f_X7_joins_B187 Γ x0 x1 x2 x3 x4 x5 q.1 q.2) n (x6, σ) = some σ2 → ∀ (H : Heap) (locs : List Loc) (ls : Array Slot), zO D cA B0 Γ σ Z s.heap H locs → lv_has ls 7 [(0, .ref x0), (1, .int x1), (2, .int x2), (3, .int x3), (4, .int x4), (5, .int x5), (6, .int x6)] → W p l e rm_X7_joins s m args below meth c H locs 0 0 Q (F0 m 187 ls []) := by
  intro n
  induction n with
  | zero => intro x6 σ h; exact absurd h (by simp [loopM])
  | succ n ih =>
    intro x6 σ h H locs ls hw hl
    obtain ⟨r, h1, h2, h3⟩ := loopM_inv h
    exact t_X7_joins_B187 hC hr h1 hw hl (fun z6 s2 e H locs ls hw hl => ih z6 s2 (h2 _ e) H locs ls hw hl) (fun s2 e H locs ls hw hl => by cases h3 _ e; exact kE H locs ls hw hl)
set_option maxHeartbeats 4000000 in
set_option maxRecDepth 100000 in
theorem t_X7_joins_B114 (hC : zC p l s m args meth c cX7_joins 7 RX7 D cA B0) (hr : meth.sig.returnType = (Option.none : Option Jvm.ClassFile.FieldType)) {Γ : zSh} {x0 : Nat} {x1 : Int32} {x2 : Int32} {x3 : Int32} {x4 : Int32} {x5 : Int32} {σ : zSt} {out : ((Int32 × zSt) ⊕ (zSt))} (hf : f_X7_joins_B114 Γ x0 x1 x2 x3 x4 x5 σ = some out) {H : Heap} {locs : List Loc} {ls : Array Slot} (hw : zO D cA B0 Γ σ Z s.heap H locs) (hl : lv_has ls 7 [(0, .ref x0), (1, .int x1), (2, .int x2), (3, .int x3), (4, .int x4), (5, .int x5)])
    (kI : ∀ (z5 : Int32) (σ2 : zSt), out = .inl (z5, σ2) → ∀ (H : Heap) (locs : List Loc) (ls : Array Slot), zO D cA B0 Γ σ2 Z s.heap H locs → lv_has ls 7 [(0, .ref x0), (1, .int x1), (2, .int x2), (3, .int x3), (4, .int x4), (5, .int z5)] → W p l e rm_X7_joins s m args below meth c H locs 0 0 Q (F0 m 114 ls []))
    (kE : ∀ (σ2 : zSt), out = .inr σ2 → ∀ (H : Heap) (locs : List Loc) (ls : Array Slot), zO D cA B0 Γ σ2 Z s.heap H locs → lv_has ls 7 [] → W p l e rm_X7_joins s m args below meth c H locs 0 0 Q (F0 m 288 ls [])) :
    W p l e rm_X7_joins s m args below meth c H locs 0 0 Q (F0 m 114 ls []) := by
  have hx := hC.1
  have hb := hC.2.1
  unfold f_X7_joins_B114 at hf
  refine lv_iload hx hb dX7_joins_114 (lv_at hl 5 rfl) ?_
  refine lv_aload_n hx hb dX7_joins_116 rfl (lv_at hl 0 rfl) ?_
  refine lv_iload_n hx hb dX7_joins_117 rfl (lv_at hl 2 rfl) ?_
  obtain ⟨ho, hf⟩ := chk_inv hf
  obtain ⟨r33, σ32, hk, hf⟩ := bnd_inv hf
  refine z_callV (As := [.int x2]) (rest := [.int x5]) (m_X7_many hC.2.2.2.2.2.2.2.2 hk) hC hw wd_X7_many lkM_X7_78 (isO_sh ho) rfl rfl ⟨rfl, rfl⟩ ⟨(Nat.le_of_ble_eq_true rfl), (Nat.le_of_ble_eq_true rfl)⟩ hl.1 rfl (Nat.le_of_ble_eq_true rfl) dX7_joins_118 ⟨(Nat.le_of_ble_eq_true rfl), (Nat.le_of_ble_eq_true rfl)⟩ (fun H locs hw => ?_)
  refine lv_icmp_ge (tgt := 288) hx hb dX7_joins_121 (by decide) (fun hc => ?_) (fun hc => ?_)
  · rw [if_pos hc] at hf
    exact kE  σ32 (Option.some.inj hf).symm _ _ _ hw (lv_sub hl [] rfl)
  · rw [if_neg hc] at hf
    refine lv_aload_n hx hb dX7_joins_124 rfl (lv_at hl 0 rfl) ?_
    obtain ⟨v34, hg, hf⟩ := gfR_inv hf
    refine r_gfR hC hw hg clX7 (Nat.le_of_ble_eq_true rfl) lkF_X7_7 rfl dX7_joins_125 ?_
    refine lv_iload_n hx hb dX7_joins_128 rfl (lv_at hl 3 rfl) ?_
    refine lv_iload hx hb dX7_joins_129 (lv_at hl 4 rfl) ?_
    refine lv_iload hx hb dX7_joins_131 (lv_at hl 5 rfl) ?_
    refine lv_iadd hx hb dX7_joins_133 ?_
    obtain ⟨r36, σ35, hk, hf⟩ := bnd_inv hf
    refine z_callS (As := [.int x3, .int (x4 + x5)]) (rest := [.ref v34]) (m_X7_initialAt hC.2.2.2.2.2.2.2.2 hk) hC hw wd_X7_initialAt lkM_X7_82 rfl ⟨rfl, rfl⟩ ⟨(Nat.le_of_ble_eq_true rfl), (Nat.le_of_ble_eq_true rfl)⟩ hl.1 rfl (Nat.le_of_ble_eq_true rfl) dX7_joins_134 ⟨(Nat.le_of_ble_eq_true rfl), (Nat.le_of_ble_eq_true rfl)⟩ (fun H locs hw => ?_)
    refine lv_aload_n hx hb dX7_joins_137 rfl (lv_at hl 0 rfl) ?_
    obtain ⟨v37, hg, hf⟩ := gfR_inv hf
    refine r_gfR hC hw hg clX7 (Nat.le_of_ble_eq_true rfl) lkF_X7_7 rfl dX7_joins_138 ?_
    refine lv_iload_n hx hb dX7_joins_141 rfl (lv_at hl 2 rfl) ?_
    refine lv_iload hx hb dX7_joins_142 (lv_at hl 5 rfl) ?_
    obtain ⟨r39, σ38, hk, hf⟩ := bnd_inv hf
    refine z_callS (As := [.int x2, .int x5]) (rest := [.ref v37, .int r36, .ref v34]) (m_X7_initialAt hC.2.2.2.2.2.2.2.2 hk) hC hw wd_X7_initialAt lkM_X7_82 rfl ⟨rfl, rfl⟩ ⟨(Nat.le_of_ble_eq_true rfl), (Nat.le_of_ble_eq_true rfl)⟩ hl.1 rfl (Nat.le_of_ble_eq_true rfl) dX7_joins_144 ⟨(Nat.le_of_ble_eq_true rfl), (Nat.le_of_ble_eq_true rfl)⟩ (fun H locs hw => ?_)
    obtain ⟨v40, hg, hf⟩ := ldI_inv hf
    refine r_ldI hC hw hg dX7_joins_147 ?_
    refine lv_aload_n hx hb dX7_joins_148 rfl (lv_at hl 0 rfl) ?_
    refine lv_iload_n hx hb dX7_joins_149 rfl (lv_at hl 1 rfl) ?_
    obtain ⟨ho, hf⟩ := chk_inv hf
    obtain ⟨r42, σ41, hk, hf⟩ := bnd_inv hf
    refine z_callV (As := [.int x1]) (rest := [.int v40, .int r36, .ref v34]) (m_X7_emptyWeight hC.2.2.2.2.2.2.2.2 hk) hC hw wd_X7_emptyWeight lkM_X7_140 (isO_sh ho) rfl rfl ⟨rfl, rfl⟩ ⟨(Nat.le_of_ble_eq_true rfl), (Nat.le_of_ble_eq_true rfl)⟩ hl.1 rfl (Nat.le_of_ble_eq_true rfl) dX7_joins_150 ⟨(Nat.le_of_ble_eq_true rfl), (Nat.le_of_ble_eq_true rfl)⟩ (fun H locs hw => ?_)
    refine lv_imul hx hb dX7_joins_153 ?_
    refine lv_sipush (v := 10007) hx hb dX7_joins_154 (by decide) ?_
    obtain ⟨v43, hg, hf⟩ := rmI_inv hf
    refine r_rmI hC hg dX7_joins_157 ?_
    obtain ⟨σ44, hg, hf⟩ := stI_inv hf
    refine r_stI hC hw hg dX7_joins_158 (fun H locs hw => ?_)
    refine lv_aload_n hx hb dX7_joins_159 rfl (lv_at hl 0 rfl) ?_
    obtain ⟨v45, hg, hf⟩ := gfR_inv hf
    refine r_gfR hC hw hg clX7 (Nat.le_of_ble_eq_true rfl) lkF_X7_7 rfl dX7_joins_160 ?_
    refine lv_iload_n hx hb dX7_joins_163 rfl (lv_at hl 3 rfl) ?_
    refine lv_iload hx hb dX7_joins_164 (lv_at hl 4 rfl) ?_
    refine lv_iload hx hb dX7_joins_166 (lv_at hl 5 rfl) ?_
    refine lv_iadd hx hb dX7_joins_168 ?_
    obtain ⟨r47, σ46, hk, hf⟩ := bnd_inv hf
    refine z_callS (As := [.int x3, .int (x4 + x5)]) (rest := [.ref v45]) (m_X7_finalAt hC.2.2.2.2.2.2.2.2 hk) hC hw wd_X7_finalAt lkM_X7_85 rfl ⟨rfl, rfl⟩ ⟨(Nat.le_of_ble_eq_true rfl), (Nat.le_of_ble_eq_true rfl)⟩ hl.1 rfl (Nat.le_of_ble_eq_true rfl) dX7_joins_169 ⟨(Nat.le_of_ble_eq_true rfl), (Nat.le_of_ble_eq_true rfl)⟩ (fun H locs hw => ?_)
    refine lv_aload_n hx hb dX7_joins_172 rfl (lv_at hl 0 rfl) ?_
    obtain ⟨v48, hg, hf⟩ := gfR_inv hf
    refine r_gfR hC hw hg clX7 (Nat.le_of_ble_eq_true rfl) lkF_X7_7 rfl dX7_joins_173 ?_
    refine lv_iload_n hx hb dX7_joins_176 rfl (lv_at hl 2 rfl) ?_
    refine lv_iload hx hb dX7_joins_177 (lv_at hl 5 rfl) ?_
    obtain ⟨r50, σ49, hk, hf⟩ := bnd_inv hf
    refine z_callS (As := [.int x2, .int x5]) (rest := [.ref v48, .int r47, .ref v45]) (m_X7_finalAt hC.2.2.2.2.2.2.2.2 hk) hC hw wd_X7_finalAt lkM_X7_85 rfl ⟨rfl, rfl⟩ ⟨(Nat.le_of_ble_eq_true rfl), (Nat.le_of_ble_eq_true rfl)⟩ hl.1 rfl (Nat.le_of_ble_eq_true rfl) dX7_joins_179 ⟨(Nat.le_of_ble_eq_true rfl), (Nat.le_of_ble_eq_true rfl)⟩ (fun H locs hw => ?_)
    obtain ⟨v51, hg, hf⟩ := ldI_inv hf
    refine r_ldI hC hw hg dX7_joins_182 ?_
    obtain ⟨σ52, hg, hf⟩ := stI_inv hf
    refine r_stI hC hw hg dX7_joins_183 (fun H locs hw => ?_)
    refine lv_iconst (v := 0) hx hb dX7_joins_184 (by decide) ?_
    refine lv_istore (lv' := [(6, .int 0), (0, .ref x0), (1, .int x1), (2, .int x2), (3, .int x3), (4, .int x4), (5, .int x5)]) hx hb dX7_joins_185 hl (Nat.le_of_ble_eq_true rfl) rfl (fun ls hl => ?_)
    obtain ⟨σ75, hk, hf⟩ := lb0_inv hf
    refine l_X7_joins_B187 hC hr (fun H locs ls hw hl => ?_) FUEL 0 σ52 hk _ _ _ hw (lv_sub hl [1, 2, 3, 4, 5, 6, 0] rfl)
    refine lv_iinc (v := (x5 + 1)) (lv' := [(5, .int (x5 + 1)), (0, .ref x0), (1, .int x1), (2, .int x2), (3, .int x3), (4, .int x4)]) hx hb dX7_joins_282 hl (k := 5) rfl rfl (Nat.le_of_ble_eq_true rfl) rfl (fun ls hl => ?_)
    refine lv_goto (tgt := 114) hx hb dX7_joins_285 (by decide) ?_
    exact kI (x5 + 1) σ75 (Option.some.inj hf).symm _ _ _ hw (lv_sub hl [1, 2, 3, 4, 5, 0] rfl)
set_option maxHeartbeats 4000000 in
theorem l_X7_joins_B114 (hC : zC p l s m args meth c cX7_joins 7 RX7 D cA B0) (hr : meth.sig.returnType = (Option.none : Option Jvm.ClassFile.FieldType)) {Γ : zSh} {x0 : Nat} {x1 : Int32} {x2 : Int32} {x3 : Int32} {x4 : Int32} {σ2 : zSt} (kE : ∀ (H : Heap) (locs : List Loc) (ls : Array Slot), zO D cA B0 Γ σ2 Z s.heap H locs → lv_has ls 7 [] → W p l e rm_X7_joins s m args below meth c H locs 0 0 Q (F0 m 288 ls [])) :
    ∀ (n : Nat) (x5 : Int32) (σ : zSt), loopM (fun q => f_X7_joins_B114 Γ x0 x1 x2 x3 x4 q.1 q.2) n (x5, σ) = some σ2 → ∀ (H : Heap) (locs : List Loc) (ls : Array Slot), zO D cA B0 Γ σ Z s.heap H locs → lv_has ls 7 [(0, .ref x0), (1, .int x1), (2, .int x2), (3, .int x3), (4, .int x4), (5, .int x5)] → W p l e rm_X7_joins s m args below meth c H locs 0 0 Q (F0 m 114 ls []) := by
  intro n
  induction n with
  | zero => intro x5 σ h; exact absurd h (by simp [loopM])
  | succ n ih =>
    intro x5 σ h H locs ls hw hl
    obtain ⟨r, h1, h2, h3⟩ := loopM_inv h
    exact t_X7_joins_B114 hC hr h1 hw hl (fun z5 s2 e H locs ls hw hl => ih z5 s2 (h2 _ e) H locs ls hw hl) (fun s2 e H locs ls hw hl => by cases h3 _ e; exact kE H locs ls hw hl)
set_option maxHeartbeats 4000000 in
set_option maxRecDepth 100000 in
theorem m_X7_joins (h9 : l.stackTraces = false) {Γ : zSh} {a0 : Nat} {a1 : Int32} {a2 : Int32} {a3 : Int32} {σ : zSt} {r : Unit} {σ2 : zSt} (hf : f_X7_joins Γ a0 a1 a2 a3 σ = some (r, σ2)) : Met l yX7_joins (wq yX7_joins cX7_joins 7 (Option.none : Option Jvm.ClassFile.FieldType)) rm_X7_joins (zQ0 D cA B0 [.ref a0, .int a1, .int a2, .int a3] Γ σ Z) (zQ1 D cA B0 (none) Γ σ2 Z) 0 0 (FR B0) := by
  refine z_ofW h9 (by decide) (Nat.le_of_ble_eq_true rfl) ?_
  intro p e s m args below meth c ls hC hr _ hw hl
  have hx := hC.1
  have hb := hC.2.1
  have hl : lv_has ls 7 [(0, .ref a0), (1, .int a1), (2, .int a2), (3, .int a3)] := hl
  unfold f_X7_joins at hf
  refine lv_aload_n hx hb dX7_joins_0 rfl (lv_at hl 0 rfl) ?_
  refine lv_iload_n hx hb dX7_joins_1 rfl (lv_at hl 3 rfl) ?_
  refine lv_aload_n hx hb dX7_joins_2 rfl (lv_at hl 0 rfl) ?_
  refine lv_iload_n hx hb dX7_joins_3 rfl (lv_at hl 1 rfl) ?_
  obtain ⟨ho, hf⟩ := chk_inv hf
  obtain ⟨r2, σ1, hk, hf⟩ := bnd_inv hf
  refine z_callV (As := [.int a1]) (rest := [.int a3, .ref a0]) (m_X7_many hC.2.2.2.2.2.2.2.2 hk) hC hw wd_X7_many lkM_X7_78 (isO_sh ho) rfl rfl ⟨rfl, rfl⟩ ⟨(Nat.le_of_ble_eq_true rfl), (Nat.le_of_ble_eq_true rfl)⟩ hl.1 rfl (Nat.le_of_ble_eq_true rfl) dX7_joins_4 ⟨(Nat.le_of_ble_eq_true rfl), (Nat.le_of_ble_eq_true rfl)⟩ (fun H locs hw => ?_)
  refine lv_aload_n hx hb dX7_joins_7 rfl (lv_at hl 0 rfl) ?_
  refine lv_iload_n hx hb dX7_joins_8 rfl (lv_at hl 2 rfl) ?_
  obtain ⟨ho, hf⟩ := chk_inv hf
  obtain ⟨r4, σ3, hk, hf⟩ := bnd_inv hf
  refine z_callV (As := [.int a2]) (rest := [.int r2, .int a3, .ref a0]) (m_X7_many hC.2.2.2.2.2.2.2.2 hk) hC hw wd_X7_many lkM_X7_78 (isO_sh ho) rfl rfl ⟨rfl, rfl⟩ ⟨(Nat.le_of_ble_eq_true rfl), (Nat.le_of_ble_eq_true rfl)⟩ hl.1 rfl (Nat.le_of_ble_eq_true rfl) dX7_joins_9 ⟨(Nat.le_of_ble_eq_true rfl), (Nat.le_of_ble_eq_true rfl)⟩ (fun H locs hw => ?_)
  refine lv_iadd hx hb dX7_joins_12 ?_
  obtain ⟨ho, hf⟩ := chk_inv hf
  obtain ⟨_, σ5, hk, hf⟩ := bnd_inv hf
  refine z_callV (As := [.int a3, .int (r2 + r4)]) (rest := []) (m_X7_clears hC.2.2.2.2.2.2.2.2 hk) hC hw wd_X7_clears lkM_X7_101 (isO_sh ho) rfl rfl ⟨rfl, rfl⟩ ⟨(Nat.le_of_ble_eq_true rfl), (Nat.le_of_ble_eq_true rfl)⟩ hl.1 rfl (Nat.le_of_ble_eq_true rfl) dX7_joins_13 ⟨(Nat.le_of_ble_eq_true rfl), (Nat.le_of_ble_eq_true rfl)⟩ (fun H locs hw => ?_)
  refine lv_aload_n hx hb dX7_joins_16 rfl (lv_at hl 0 rfl) ?_
  refine lv_iload_n hx hb dX7_joins_17 rfl (lv_at hl 1 rfl) ?_
  refine lv_iload_n hx hb dX7_joins_18 rfl (lv_at hl 3 rfl) ?_
  refine lv_iconst (v := 0) hx hb dX7_joins_19 (by decide) ?_
  obtain ⟨ho, hf⟩ := chk_inv hf
  obtain ⟨_, σ6, hk, hf⟩ := bnd_inv hf
  refine z_callV (As := [.int a1, .int a3, .int 0]) (rest := []) (m_X7_blocks hC.2.2.2.2.2.2.2.2 hk) hC hw wd_X7_blocks lkM_X7_206 (isO_sh ho) rfl rfl ⟨rfl, rfl⟩ ⟨(Nat.le_of_ble_eq_true rfl), (Nat.le_of_ble_eq_true rfl)⟩ hl.1 rfl (Nat.le_of_ble_eq_true rfl) dX7_joins_20 ⟨(Nat.le_of_ble_eq_true rfl), (Nat.le_of_ble_eq_true rfl)⟩ (fun H locs hw => ?_)
  refine lv_aload_n hx hb dX7_joins_23 rfl (lv_at hl 0 rfl) ?_
  refine lv_iload_n hx hb dX7_joins_24 rfl (lv_at hl 2 rfl) ?_
  refine lv_iload_n hx hb dX7_joins_25 rfl (lv_at hl 3 rfl) ?_
  refine lv_aload_n hx hb dX7_joins_26 rfl (lv_at hl 0 rfl) ?_
  refine lv_iload_n hx hb dX7_joins_27 rfl (lv_at hl 1 rfl) ?_
  obtain ⟨ho, hf⟩ := chk_inv hf
  obtain ⟨r8, σ7, hk, hf⟩ := bnd_inv hf
  refine z_callV (As := [.int a1]) (rest := [.int a3, .int a2, .ref a0]) (m_X7_many hC.2.2.2.2.2.2.2.2 hk) hC hw wd_X7_many lkM_X7_78 (isO_sh ho) rfl rfl ⟨rfl, rfl⟩ ⟨(Nat.le_of_ble_eq_true rfl), (Nat.le_of_ble_eq_true rfl)⟩ hl.1 rfl (Nat.le_of_ble_eq_true rfl) dX7_joins_28 ⟨(Nat.le_of_ble_eq_true rfl), (Nat.le_of_ble_eq_true rfl)⟩ (fun H locs hw => ?_)
  obtain ⟨ho, hf⟩ := chk_inv hf
  obtain ⟨_, σ9, hk, hf⟩ := bnd_inv hf
  refine z_callV (As := [.int a2, .int a3, .int r8]) (rest := []) (m_X7_blocks hC.2.2.2.2.2.2.2.2 hk) hC hw wd_X7_blocks lkM_X7_206 (isO_sh ho) rfl rfl ⟨rfl, rfl⟩ ⟨(Nat.le_of_ble_eq_true rfl), (Nat.le_of_ble_eq_true rfl)⟩ hl.1 rfl (Nat.le_of_ble_eq_true rfl) dX7_joins_31 ⟨(Nat.le_of_ble_eq_true rfl), (Nat.le_of_ble_eq_true rfl)⟩ (fun H locs hw => ?_)
  refine lv_aload_n hx hb dX7_joins_34 rfl (lv_at hl 0 rfl) ?_
  refine lv_iload_n hx hb dX7_joins_35 rfl (lv_at hl 1 rfl) ?_
  obtain ⟨ho, hf⟩ := chk_inv hf
  obtain ⟨r11, σ10, hk, hf⟩ := bnd_inv hf
  refine z_callV (As := [.int a1]) (rest := []) (m_X7_many hC.2.2.2.2.2.2.2.2 hk) hC hw wd_X7_many lkM_X7_78 (isO_sh ho) rfl rfl ⟨rfl, rfl⟩ ⟨(Nat.le_of_ble_eq_true rfl), (Nat.le_of_ble_eq_true rfl)⟩ hl.1 rfl (Nat.le_of_ble_eq_true rfl) dX7_joins_36 ⟨(Nat.le_of_ble_eq_true rfl), (Nat.le_of_ble_eq_true rfl)⟩ (fun H locs hw => ?_)
  refine lv_istore (lv' := [(4, .int r11), (0, .ref a0), (1, .int a1), (2, .int a2), (3, .int a3)]) hx hb dX7_joins_39 hl (Nat.le_of_ble_eq_true rfl) rfl (fun ls hl => ?_)
  refine lv_iconst (v := 0) hx hb dX7_joins_41 (by decide) ?_
  refine lv_istore (lv' := [(5, .int 0), (4, .int r11), (0, .ref a0), (1, .int a1), (2, .int a2), (3, .int a3)]) hx hb dX7_joins_42 hl (Nat.le_of_ble_eq_true rfl) rfl (fun ls hl => ?_)
  obtain ⟨σ31, hk, hf⟩ := lb0_inv hf
  refine l_X7_joins_B44 hC hr (fun H locs ls hw hl => ?_) FUEL 0 σ10 hk _ _ _ hw (lv_sub hl [2, 3, 4, 5, 1, 0] rfl)
  refine lv_iconst (v := 0) hx hb dX7_joins_111 (by decide) ?_
  refine lv_istore (lv' := [(5, .int 0), (0, .ref a0), (1, .int a1), (2, .int a2), (3, .int a3), (4, .int r11)]) hx hb dX7_joins_112 hl (Nat.le_of_ble_eq_true rfl) rfl (fun ls hl => ?_)
  obtain ⟨σ76, hk, hf⟩ := lb0_inv hf
  refine l_X7_joins_B114 hC hr (fun H locs ls hw hl => ?_) FUEL 0 σ31 hk _ _ _ hw (lv_sub hl [1, 2, 3, 4, 5, 0] rfl)
  first | (obtain ⟨rfl, rfl⟩ := sp_inv hf) | (obtain rfl := Option.some.inj hf)
  exact W.vret hx hb hr (z_ret hw rfl) hw.2.2.2.2.2 dX7_joins_288 hC.2.2.2.2.2.1
set_option maxHeartbeats 4000000 in
set_option maxRecDepth 100000 in
theorem t_X7_canStar_L23 (hC : zC p l s m args meth c cX7_canStar 2 RX7 D cA B0) (hr : meth.sig.returnType = (Option.some FieldType.boolean)) {Γ : zSh} {s0 : Int32} {σ : zSt} {out : (Int32 × zSt)} (hf : f_X7_canStar_L23 Γ s0 σ = some out) {H : Heap} {locs : List Loc} {ls : Array Slot} (hw : zO D cA B0 Γ σ Z s.heap H locs) (hl : lv_has ls 2 []) :
    W p l e rm_X7_canStar s m args below meth c H locs 0 0 (MQ below (zQ1 D cA B0 (some (.int out.1)) Γ out.2 Z) args s 0 0 (FR B0)) (F0 m 23 ls [.int s0]) := by
  have hx := hC.1
  have hb := hC.2.1
  unfold f_X7_canStar_L23 at hf
  obtain ⟨hz, hf⟩ := chk_inv hf
  first | (obtain ⟨rfl, rfl⟩ := sp_inv hf) | (obtain rfl := Option.some.inj hf)
  exact W.zret hx hb hr (isB_n hz).1 (z_ret hw rfl) hw.2.2.2.2.2 dX7_canStar_23 hC.2.2.2.2.2.1
set_option maxHeartbeats 4000000 in
set_option maxRecDepth 100000 in
theorem t_X7_canStar_L22 (hC : zC p l s m args meth c cX7_canStar 2 RX7 D cA B0) (hr : meth.sig.returnType = (Option.some FieldType.boolean)) {Γ : zSh}  {σ : zSt} {out : (Int32 × zSt)} (hf : f_X7_canStar_L22 Γ  σ = some out) {H : Heap} {locs : List Loc} {ls : Array Slot} (hw : zO D cA B0 Γ σ Z s.heap H locs) (hl : lv_has ls 2 []) :
    W p l e rm_X7_canStar s m args below meth c H locs 0 0 (MQ below (zQ1 D cA B0 (some (.int out.1)) Γ out.2 Z) args s 0 0 (FR B0)) (F0 m 22 ls []) := by
  have hx := hC.1
  have hb := hC.2.1
  unfold f_X7_canStar_L22 at hf
  refine lv_iconst (v := 0) hx hb dX7_canStar_22 (by decide) ?_
  exact t_X7_canStar_L23 hC hr hf hw (lv_sub hl [] rfl)
set_option maxHeartbeats 4000000 in
set_option maxRecDepth 100000 in
theorem m_X7_canStar (h9 : l.stackTraces = false) {Γ : zSh} {a0 : Nat} {a1 : Int32} {σ : zSt} {r : Int32} {σ2 : zSt} (hf : f_X7_canStar Γ a0 a1 σ = some (r, σ2)) : Met l yX7_canStar (wq yX7_canStar cX7_canStar 2 (Option.some FieldType.boolean)) rm_X7_canStar (zQ0 D cA B0 [.ref a0, .int a1] Γ σ Z) (zQ1 D cA B0 (some (.int r)) Γ σ2 Z) 0 0 (FR B0) := by
  refine z_ofW h9 (by decide) (Nat.le_of_ble_eq_true rfl) ?_
  intro p e s m args below meth c ls hC hr _ hw hl
  have hx := hC.1
  have hb := hC.2.1
  have hl : lv_has ls 2 [(0, .ref a0), (1, .int a1)] := hl
  unfold f_X7_canStar at hf
  refine lv_aload_n hx hb dX7_canStar_0 rfl (lv_at hl 0 rfl) ?_
  refine lv_iload_n hx hb dX7_canStar_1 rfl (lv_at hl 1 rfl) ?_
  obtain ⟨ho, hf⟩ := chk_inv hf
  obtain ⟨r2, σ1, hk, hf⟩ := bnd_inv hf
  refine z_callV (As := [.int a1]) (rest := []) (m_X7_emptyWeight hC.2.2.2.2.2.2.2.2 hk) hC hw wd_X7_emptyWeight lkM_X7_140 (isO_sh ho) rfl rfl ⟨rfl, rfl⟩ ⟨(Nat.le_of_ble_eq_true rfl), (Nat.le_of_ble_eq_true rfl)⟩ hl.1 rfl (Nat.le_of_ble_eq_true rfl) dX7_canStar_2 ⟨(Nat.le_of_ble_eq_true rfl), (Nat.le_of_ble_eq_true rfl)⟩ (fun H locs hw => ?_)
  refine lv_if_ne (tgt := 22) hx hb dX7_canStar_5 (by decide) (fun hc => ?_) (fun hc => ?_)
  · rw [if_neg hc] at hf
    exact t_X7_canStar_L22 hC hr hf hw (lv_sub hl [] rfl)
  · rw [if_pos hc] at hf
    refine lv_aload_n hx hb dX7_canStar_8 rfl (lv_at hl 0 rfl) ?_
    refine lv_iload_n hx hb dX7_canStar_9 rfl (lv_at hl 1 rfl) ?_
    obtain ⟨ho, hf⟩ := chk_inv hf
    obtain ⟨r4, σ3, hk, hf⟩ := bnd_inv hf
    refine z_callV (As := [.int a1]) (rest := []) (m_X7_many hC.2.2.2.2.2.2.2.2 hk) hC hw wd_X7_many lkM_X7_78 (isO_sh ho) rfl rfl ⟨rfl, rfl⟩ ⟨(Nat.le_of_ble_eq_true rfl), (Nat.le_of_ble_eq_true rfl)⟩ hl.1 rfl (Nat.le_of_ble_eq_true rfl) dX7_canStar_10 ⟨(Nat.le_of_ble_eq_true rfl), (Nat.le_of_ble_eq_true rfl)⟩ (fun H locs hw => ?_)
    refine lv_bipush (v := 12) hx hb dX7_canStar_13 (by decide) ?_
    refine lv_icmp_ge (tgt := 22) hx hb dX7_canStar_15 (by decide) (fun hc => ?_) (fun hc => ?_)
    · rw [if_pos hc] at hf
      exact t_X7_canStar_L22 hC hr hf hw (lv_sub hl [] rfl)
    · rw [if_neg hc] at hf
      refine lv_iconst (v := 1) hx hb dX7_canStar_18 (by decide) ?_
      refine lv_goto (tgt := 23) hx hb dX7_canStar_19 (by decide) ?_
      exact t_X7_canStar_L23 hC hr hf hw (lv_sub hl [] rfl)
set_option maxHeartbeats 4000000 in
set_option maxRecDepth 100000 in
theorem t_X7_stars_B54 (hC : zC p l s m args meth c cX7_stars 6 RX7 D cA B0) (hr : meth.sig.returnType = (Option.none : Option Jvm.ClassFile.FieldType)) {Γ : zSh} {x0 : Nat} {x1 : Int32} {x2 : Int32} {x3 : Int32} {x4 : Int32} {x5 : Int32} {σ : zSt} {out : ((Int32 × Int32 × zSt) ⊕ (Int32 × zSt))} (hf : f_X7_stars_B54 Γ x0 x1 x2 x3 x4 x5 σ = some out) {H : Heap} {locs : List Loc} {ls : Array Slot} (hw : zO D cA B0 Γ σ Z s.heap H locs) (hl : lv_has ls 6 [(0, .ref x0), (1, .int x1), (2, .int x2), (3, .int x3), (4, .int x4), (5, .int x5)])
    (kI : ∀ (z4 : Int32) (z5 : Int32) (σ2 : zSt), out = .inl (z4, z5, σ2) → ∀ (H : Heap) (locs : List Loc) (ls : Array Slot), zO D cA B0 Γ σ2 Z s.heap H locs → lv_has ls 6 [(0, .ref x0), (1, .int x1), (2, .int x2), (3, .int x3), (4, .int z4), (5, .int z5)] → W p l e rm_X7_stars s m args below meth c H locs 0 0 Q (F0 m 54 ls []))
    (kE : ∀ (z4 : Int32) (σ2 : zSt), out = .inr (z4, σ2) → ∀ (H : Heap) (locs : List Loc) (ls : Array Slot), zO D cA B0 Γ σ2 Z s.heap H locs → lv_has ls 6 [(0, .ref x0), (1, .int x1), (2, .int x2), (3, .int x3), (4, .int z4)] → W p l e rm_X7_stars s m args below meth c H locs 0 0 Q (F0 m 145 ls [])) :
    W p l e rm_X7_stars s m args below meth c H locs 0 0 Q (F0 m 54 ls []) := by
  have hx := hC.1
  have hb := hC.2.1
  unfold f_X7_stars_B54 at hf
  refine lv_iload hx hb dX7_stars_54 (lv_at hl 5 rfl) ?_
  refine lv_aload_n hx hb dX7_stars_56 rfl (lv_at hl 0 rfl) ?_
  refine lv_iload_n hx hb dX7_stars_57 rfl (lv_at hl 1 rfl) ?_
  obtain ⟨ho, hf⟩ := chk_inv hf
  obtain ⟨r14, σ13, hk, hf⟩ := bnd_inv hf
  refine z_callV (As := [.int x1]) (rest := [.int x5]) (m_X7_many hC.2.2.2.2.2.2.2.2 hk) hC hw wd_X7_many lkM_X7_78 (isO_sh ho) rfl rfl ⟨rfl, rfl⟩ ⟨(Nat.le_of_ble_eq_true rfl), (Nat.le_of_ble_eq_true rfl)⟩ hl.1 rfl (Nat.le_of_ble_eq_true rfl) dX7_stars_58 ⟨(Nat.le_of_ble_eq_true rfl), (Nat.le_of_ble_eq_true rfl)⟩ (fun H locs hw => ?_)
  refine lv_icmp_ge (tgt := 145) hx hb dX7_stars_61 (by decide) (fun hc => ?_) (fun hc => ?_)
  · rw [if_pos hc] at hf
    exact kE x4 σ13 (Option.some.inj hf).symm _ _ _ hw (lv_sub hl [0, 1, 2, 3, 4] rfl)
  · rw [if_neg hc] at hf
    refine lv_iload hx hb dX7_stars_64 (lv_at hl 4 rfl) ?_
    refine lv_aload_n hx hb dX7_stars_66 rfl (lv_at hl 0 rfl) ?_
    obtain ⟨v15, hg, hf⟩ := gfR_inv hf
    refine r_gfR hC hw hg clX7 (Nat.le_of_ble_eq_true rfl) lkF_X7_7 rfl dX7_stars_67 ?_
    refine lv_iload_n hx hb dX7_stars_70 rfl (lv_at hl 1 rfl) ?_
    refine lv_iload hx hb dX7_stars_71 (lv_at hl 5 rfl) ?_
    obtain ⟨r17, σ16, hk, hf⟩ := bnd_inv hf
    refine z_callS (As := [.int x1, .int x5]) (rest := [.ref v15, .int x4]) (m_X7_initialAt hC.2.2.2.2.2.2.2.2 hk) hC hw wd_X7_initialAt lkM_X7_82 rfl ⟨rfl, rfl⟩ ⟨(Nat.le_of_ble_eq_true rfl), (Nat.le_of_ble_eq_true rfl)⟩ hl.1 rfl (Nat.le_of_ble_eq_true rfl) dX7_stars_73 ⟨(Nat.le_of_ble_eq_true rfl), (Nat.le_of_ble_eq_true rfl)⟩ (fun H locs hw => ?_)
    obtain ⟨v18, hg, hf⟩ := ldI_inv hf
    refine r_ldI hC hw hg dX7_stars_76 ?_
    refine lv_aload_n hx hb dX7_stars_77 rfl (lv_at hl 0 rfl) ?_
    refine lv_iload_n hx hb dX7_stars_78 rfl (lv_at hl 1 rfl) ?_
    refine lv_iload_n hx hb dX7_stars_79 rfl (lv_at hl 3 rfl) ?_
    refine lv_iload hx hb dX7_stars_80 (lv_at hl 5 rfl) ?_
    obtain ⟨ho, hf⟩ := chk_inv hf
    obtain ⟨r20, σ19, hk, hf⟩ := bnd_inv hf
    refine z_callV (As := [.int x1, .int x3, .int x5]) (rest := [.int v18, .int x4]) (m_X7_out hC.2.2.2.2.2.2.2.2 hk) hC hw wd_X7_out lkM_X7_209 (isO_sh ho) rfl rfl ⟨rfl, rfl⟩ ⟨(Nat.le_of_ble_eq_true rfl), (Nat.le_of_ble_eq_true rfl)⟩ hl.1 rfl (Nat.le_of_ble_eq_true rfl) dX7_stars_82 ⟨(Nat.le_of_ble_eq_true rfl), (Nat.le_of_ble_eq_true rfl)⟩ (fun H locs hw => ?_)
    refine lv_imul hx hb dX7_stars_85 ?_
    refine lv_iadd hx hb dX7_stars_86 ?_
    refine lv_sipush (v := 10007) hx hb dX7_stars_87 (by decide) ?_
    obtain ⟨v21, hg, hf⟩ := rmI_inv hf
    refine r_rmI hC hg dX7_stars_90 ?_
    refine lv_istore (lv' := [(4, .int v21), (0, .ref x0), (1, .int x1), (2, .int x2), (3, .int x3), (5, .int x5)]) hx hb dX7_stars_91 hl (Nat.le_of_ble_eq_true rfl) rfl (fun ls hl => ?_)
    refine lv_aload_n hx hb dX7_stars_93 rfl (lv_at hl 1 rfl) ?_
    obtain ⟨v22, hg, hf⟩ := gfR_inv hf
    refine r_gfR hC hw hg clX7 (Nat.le_of_ble_eq_true rfl) lkF_X7_7 rfl dX7_stars_94 ?_
    refine lv_iload_n hx hb dX7_stars_97 rfl (lv_at hl 3 rfl) ?_
    refine lv_iload_n hx hb dX7_stars_98 rfl (lv_at hl 4 rfl) ?_
    refine lv_iconst (v := 0) hx hb dX7_stars_99 (by decide) ?_
    refine lv_iconst (v := 1) hx hb dX7_stars_100 (by decide) ?_
    refine lv_iload hx hb dX7_stars_101 (lv_at hl 5 rfl) ?_
    refine lv_iadd hx hb dX7_stars_103 ?_
    obtain ⟨r24, σ23, hk, hf⟩ := bnd_inv hf
    refine z_callS (As := [.int x2, .int x3, .int 0, .int (1 + x5)]) (rest := [.ref v22]) (m_X7_at hC.2.2.2.2.2.2.2.2 hk) hC hw wd_X7_at lkM_X7_116 rfl ⟨rfl, rfl⟩ ⟨(Nat.le_of_ble_eq_true rfl), (Nat.le_of_ble_eq_true rfl)⟩ hl.1 rfl (Nat.le_of_ble_eq_true rfl) dX7_stars_104 ⟨(Nat.le_of_ble_eq_true rfl), (Nat.le_of_ble_eq_true rfl)⟩ (fun H locs hw => ?_)
    refine lv_aload_n hx hb dX7_stars_107 rfl (lv_at hl 1 rfl) ?_
    refine lv_iload_n hx hb dX7_stars_108 rfl (lv_at hl 2 rfl) ?_
    refine lv_iload_n hx hb dX7_stars_109 rfl (lv_at hl 4 rfl) ?_
    refine lv_iload hx hb dX7_stars_110 (lv_at hl 5 rfl) ?_
    obtain ⟨ho, hf⟩ := chk_inv hf
    obtain ⟨r26, σ25, hk, hf⟩ := bnd_inv hf
    refine z_callV (As := [.int x1, .int x3, .int x5]) (rest := [.int r24, .ref v22]) (m_X7_into hC.2.2.2.2.2.2.2.2 hk) hC hw wd_X7_into lkM_X7_212 (isO_sh ho) rfl rfl ⟨rfl, rfl⟩ ⟨(Nat.le_of_ble_eq_true rfl), (Nat.le_of_ble_eq_true rfl)⟩ hl.1 rfl (Nat.le_of_ble_eq_true rfl) dX7_stars_112 ⟨(Nat.le_of_ble_eq_true rfl), (Nat.le_of_ble_eq_true rfl)⟩ (fun H locs hw => ?_)
    obtain ⟨σ27, hg, hf⟩ := stI_inv hf
    refine r_stI hC hw hg dX7_stars_115 (fun H locs hw => ?_)
    refine lv_aload_n hx hb dX7_stars_116 rfl (lv_at hl 1 rfl) ?_
    obtain ⟨v28, hg, hf⟩ := gfR_inv hf
    refine r_gfR hC hw hg clX7 (Nat.le_of_ble_eq_true rfl) lkF_X7_7 rfl dX7_stars_117 ?_
    refine lv_iload_n hx hb dX7_stars_120 rfl (lv_at hl 3 rfl) ?_
    refine lv_iload_n hx hb dX7_stars_121 rfl (lv_at hl 4 rfl) ?_
    refine lv_iconst (v := 1) hx hb dX7_stars_122 (by decide) ?_
    refine lv_iload hx hb dX7_stars_123 (lv_at hl 5 rfl) ?_
    refine lv_iadd hx hb dX7_stars_125 ?_
    refine lv_iconst (v := 0) hx hb dX7_stars_126 (by decide) ?_
    obtain ⟨r30, σ29, hk, hf⟩ := bnd_inv hf
    refine z_callS (As := [.int x2, .int x3, .int (1 + x5), .int 0]) (rest := [.ref v28]) (m_X7_at hC.2.2.2.2.2.2.2.2 hk) hC hw wd_X7_at lkM_X7_116 rfl ⟨rfl, rfl⟩ ⟨(Nat.le_of_ble_eq_true rfl), (Nat.le_of_ble_eq_true rfl)⟩ hl.1 rfl (Nat.le_of_ble_eq_true rfl) dX7_stars_127 ⟨(Nat.le_of_ble_eq_true rfl), (Nat.le_of_ble_eq_true rfl)⟩ (fun H locs hw => ?_)
    refine lv_aload_n hx hb dX7_stars_130 rfl (lv_at hl 1 rfl) ?_
    refine lv_iload_n hx hb dX7_stars_131 rfl (lv_at hl 2 rfl) ?_
    refine lv_iload_n hx hb dX7_stars_132 rfl (lv_at hl 4 rfl) ?_
    refine lv_iload hx hb dX7_stars_133 (lv_at hl 5 rfl) ?_
    obtain ⟨ho, hf⟩ := chk_inv hf
    obtain ⟨r32, σ31, hk, hf⟩ := bnd_inv hf
    refine z_callV (As := [.int x1, .int x3, .int x5]) (rest := [.int r30, .ref v28]) (m_X7_out hC.2.2.2.2.2.2.2.2 hk) hC hw wd_X7_out lkM_X7_209 (isO_sh ho) rfl rfl ⟨rfl, rfl⟩ ⟨(Nat.le_of_ble_eq_true rfl), (Nat.le_of_ble_eq_true rfl)⟩ hl.1 rfl (Nat.le_of_ble_eq_true rfl) dX7_stars_135 ⟨(Nat.le_of_ble_eq_true rfl), (Nat.le_of_ble_eq_true rfl)⟩ (fun H locs hw => ?_)
    obtain ⟨σ33, hg, hf⟩ := stI_inv hf
    refine r_stI hC hw hg dX7_stars_138 (fun H locs hw => ?_)
    refine lv_iinc (v := (x5 + 1)) (lv' := [(5, .int (x5 + 1)), (4, .int v21), (0, .ref x0), (1, .int x1), (2, .int x2), (3, .int x3)]) hx hb dX7_stars_139 hl (k := 5) rfl rfl (Nat.le_of_ble_eq_true rfl) rfl (fun ls hl => ?_)
    refine lv_goto (tgt := 54) hx hb dX7_stars_142 (by decide) ?_
    exact kI v21 (x5 + 1) σ33 (Option.some.inj hf).symm _ _ _ hw (lv_sub hl [2, 3, 4, 5, 1, 0] rfl)
set_option maxHeartbeats 4000000 in
theorem l_X7_stars_B54 (hC : zC p l s m args meth c cX7_stars 6 RX7 D cA B0) (hr : meth.sig.returnType = (Option.none : Option Jvm.ClassFile.FieldType)) {Γ : zSh} {x0 : Nat} {x1 : Int32} {x2 : Int32} {x3 : Int32} {w4 : Int32} {σ2 : zSt} (kE : ∀ (H : Heap) (locs : List Loc) (ls : Array Slot), zO D cA B0 Γ σ2 Z s.heap H locs → lv_has ls 6 [(0, .ref x0), (1, .int x1), (2, .int x2), (3, .int x3), (4, .int w4)] → W p l e rm_X7_stars s m args below meth c H locs 0 0 Q (F0 m 145 ls [])) :
    ∀ (n : Nat) (x4 : Int32) (x5 : Int32) (σ : zSt), loopM (fun q => f_X7_stars_B54 Γ x0 x1 x2 x3 q.1 q.2.1 q.2.2) n (x4, x5, σ) = some (w4, σ2) → ∀ (H : Heap) (locs : List Loc) (ls : Array Slot), zO D cA B0 Γ σ Z s.heap H locs → lv_has ls 6 [(0, .ref x0), (1, .int x1), (2, .int x2), (3, .int x3), (4, .int x4), (5, .int x5)] → W p l e rm_X7_stars s m args below meth c H locs 0 0 Q (F0 m 54 ls []) := by
  intro n
  induction n with
  | zero => intro x4 x5 σ h; exact absurd h (by simp [loopM])
  | succ n ih =>
    intro x4 x5 σ h H locs ls hw hl
    obtain ⟨r, h1, h2, h3⟩ := loopM_inv h
    exact t_X7_stars_B54 hC hr h1 hw hl (fun z4 z5 s2 e H locs ls hw hl => ih z4 z5 s2 (h2 _ e) H locs ls hw hl) (fun z4 s2 e H locs ls hw hl => by cases h3 _ e; exact kE H locs ls hw hl)
set_option maxHeartbeats 4000000 in
set_option maxRecDepth 100000 in
theorem t_X7_stars_B43 (hC : zC p l s m args meth c cX7_stars 6 RX7 D cA B0) (hr : meth.sig.returnType = (Option.none : Option Jvm.ClassFile.FieldType)) {Γ : zSh} {x0 : Nat} {x1 : Int32} {x2 : Int32} {x3 : Int32} {σ : zSt} {out : ((Int32 × zSt) ⊕ (zSt))} (hf : f_X7_stars_B43 Γ x0 x1 x2 x3 σ = some out) {H : Heap} {locs : List Loc} {ls : Array Slot} (hw : zO D cA B0 Γ σ Z s.heap H locs) (hl : lv_has ls 6 [(0, .ref x0), (1, .int x1), (2, .int x2), (3, .int x3)])
    (kI : ∀ (z3 : Int32) (σ2 : zSt), out = .inl (z3, σ2) → ∀ (H : Heap) (locs : List Loc) (ls : Array Slot), zO D cA B0 Γ σ2 Z s.heap H locs → lv_has ls 6 [(0, .ref x0), (1, .int x1), (2, .int x2), (3, .int z3)] → W p l e rm_X7_stars s m args below meth c H locs 0 0 Q (F0 m 43 ls []))
    (kE : ∀ (σ2 : zSt), out = .inr σ2 → ∀ (H : Heap) (locs : List Loc) (ls : Array Slot), zO D cA B0 Γ σ2 Z s.heap H locs → lv_has ls 6 [] → W p l e rm_X7_stars s m args below meth c H locs 0 0 Q (F0 m 165 ls [])) :
    W p l e rm_X7_stars s m args below meth c H locs 0 0 Q (F0 m 43 ls []) := by
  have hx := hC.1
  have hb := hC.2.1
  unfold f_X7_stars_B43 at hf
  refine lv_iload_n hx hb dX7_stars_43 rfl (lv_at hl 3 rfl) ?_
  refine lv_iconst (v := 2) hx hb dX7_stars_44 (by decide) ?_
  refine lv_icmp_ge (tgt := 165) hx hb dX7_stars_45 (by decide) (fun hc => ?_) (fun hc => ?_)
  · rw [if_pos hc] at hf
    exact kE  σ (Option.some.inj hf).symm _ _ _ hw (lv_sub hl [] rfl)
  · rw [if_neg hc] at hf
    refine lv_iconst (v := 0) hx hb dX7_stars_48 (by decide) ?_
    refine lv_istore (lv' := [(4, .int 0), (0, .ref x0), (1, .int x1), (2, .int x2), (3, .int x3)]) hx hb dX7_stars_49 hl (Nat.le_of_ble_eq_true rfl) rfl (fun ls hl => ?_)
    refine lv_iconst (v := 0) hx hb dX7_stars_51 (by decide) ?_
    refine lv_istore (lv' := [(5, .int 0), (4, .int 0), (0, .ref x0), (1, .int x1), (2, .int x2), (3, .int x3)]) hx hb dX7_stars_52 hl (Nat.le_of_ble_eq_true rfl) rfl (fun ls hl => ?_)
    obtain ⟨w35, σ34, hk, hf⟩ := lb1_inv hf
    refine l_X7_stars_B54 hC hr (fun H locs ls hw hl => ?_) FUEL 0 0 σ hk _ _ _ hw (lv_sub hl [2, 3, 4, 5, 1, 0] rfl)
    refine lv_aload_n hx hb dX7_stars_145 rfl (lv_at hl 0 rfl) ?_
    obtain ⟨v36, hg, hf⟩ := gfR_inv hf
    refine r_gfR hC hw hg clX7 (Nat.le_of_ble_eq_true rfl) lkF_X7_7 rfl dX7_stars_146 ?_
    refine lv_iload_n hx hb dX7_stars_149 rfl (lv_at hl 2 rfl) ?_
    refine lv_iload_n hx hb dX7_stars_150 rfl (lv_at hl 3 rfl) ?_
    refine lv_iconst (v := 0) hx hb dX7_stars_151 (by decide) ?_
    refine lv_iconst (v := 0) hx hb dX7_stars_152 (by decide) ?_
    obtain ⟨r38, σ37, hk, hf⟩ := bnd_inv hf
    refine z_callS (As := [.int x2, .int x3, .int 0, .int 0]) (rest := [.ref v36]) (m_X7_at hC.2.2.2.2.2.2.2.2 hk) hC hw wd_X7_at lkM_X7_116 rfl ⟨rfl, rfl⟩ ⟨(Nat.le_of_ble_eq_true rfl), (Nat.le_of_ble_eq_true rfl)⟩ hl.1 rfl (Nat.le_of_ble_eq_true rfl) dX7_stars_153 ⟨(Nat.le_of_ble_eq_true rfl), (Nat.le_of_ble_eq_true rfl)⟩ (fun H locs hw => ?_)
    refine lv_iload hx hb dX7_stars_156 (lv_at hl 4 rfl) ?_
    obtain ⟨σ39, hg, hf⟩ := stI_inv hf
    refine r_stI hC hw hg dX7_stars_158 (fun H locs hw => ?_)
    refine lv_iinc (v := (x3 + 1)) (lv' := [(3, .int (x3 + 1)), (0, .ref x0), (1, .int x1), (2, .int x2), (4, .int w35)]) hx hb dX7_stars_159 hl (k := 3) rfl rfl (Nat.le_of_ble_eq_true rfl) rfl (fun ls hl => ?_)
    refine lv_goto (tgt := 43) hx hb dX7_stars_162 (by decide) ?_
    exact kI (x3 + 1) σ39 (Option.some.inj hf).symm _ _ _ hw (lv_sub hl [1, 2, 3, 0] rfl)
set_option maxHeartbeats 4000000 in
theorem l_X7_stars_B43 (hC : zC p l s m args meth c cX7_stars 6 RX7 D cA B0) (hr : meth.sig.returnType = (Option.none : Option Jvm.ClassFile.FieldType)) {Γ : zSh} {x0 : Nat} {x1 : Int32} {x2 : Int32} {σ2 : zSt} (kE : ∀ (H : Heap) (locs : List Loc) (ls : Array Slot), zO D cA B0 Γ σ2 Z s.heap H locs → lv_has ls 6 [] → W p l e rm_X7_stars s m args below meth c H locs 0 0 Q (F0 m 165 ls [])) :
    ∀ (n : Nat) (x3 : Int32) (σ : zSt), loopM (fun q => f_X7_stars_B43 Γ x0 x1 x2 q.1 q.2) n (x3, σ) = some σ2 → ∀ (H : Heap) (locs : List Loc) (ls : Array Slot), zO D cA B0 Γ σ Z s.heap H locs → lv_has ls 6 [(0, .ref x0), (1, .int x1), (2, .int x2), (3, .int x3)] → W p l e rm_X7_stars s m args below meth c H locs 0 0 Q (F0 m 43 ls []) := by
  intro n
  induction n with
  | zero => intro x3 σ h; exact absurd h (by simp [loopM])
  | succ n ih =>
    intro x3 σ h H locs ls hw hl
    obtain ⟨r, h1, h2, h3⟩ := loopM_inv h
    exact t_X7_stars_B43 hC hr h1 hw hl (fun z3 s2 e H locs ls hw hl => ih z3 s2 (h2 _ e) H locs ls hw hl) (fun s2 e H locs ls hw hl => by cases h3 _ e; exact kE H locs ls hw hl)
set_option maxHeartbeats 4000000 in
set_option maxRecDepth 100000 in
theorem m_X7_stars (h9 : l.stackTraces = false) {Γ : zSh} {a0 : Nat} {a1 : Int32} {a2 : Int32} {σ : zSt} {r : Unit} {σ2 : zSt} (hf : f_X7_stars Γ a0 a1 a2 σ = some (r, σ2)) : Met l yX7_stars (wq yX7_stars cX7_stars 6 (Option.none : Option Jvm.ClassFile.FieldType)) rm_X7_stars (zQ0 D cA B0 [.ref a0, .int a1, .int a2] Γ σ Z) (zQ1 D cA B0 (none) Γ σ2 Z) 0 0 (FR B0) := by
  refine z_ofW h9 (by decide) (Nat.le_of_ble_eq_true rfl) ?_
  intro p e s m args below meth c ls hC hr _ hw hl
  have hx := hC.1
  have hb := hC.2.1
  have hl : lv_has ls 6 [(0, .ref a0), (1, .int a1), (2, .int a2)] := hl
  unfold f_X7_stars at hf
  refine lv_aload_n hx hb dX7_stars_0 rfl (lv_at hl 0 rfl) ?_
  refine lv_iload_n hx hb dX7_stars_1 rfl (lv_at hl 2 rfl) ?_
  refine lv_aload_n hx hb dX7_stars_2 rfl (lv_at hl 0 rfl) ?_
  refine lv_iload_n hx hb dX7_stars_3 rfl (lv_at hl 1 rfl) ?_
  obtain ⟨ho, hf⟩ := chk_inv hf
  obtain ⟨r2, σ1, hk, hf⟩ := bnd_inv hf
  refine z_callV (As := [.int a1]) (rest := [.int a2, .ref a0]) (m_X7_many hC.2.2.2.2.2.2.2.2 hk) hC hw wd_X7_many lkM_X7_78 (isO_sh ho) rfl rfl ⟨rfl, rfl⟩ ⟨(Nat.le_of_ble_eq_true rfl), (Nat.le_of_ble_eq_true rfl)⟩ hl.1 rfl (Nat.le_of_ble_eq_true rfl) dX7_stars_4 ⟨(Nat.le_of_ble_eq_true rfl), (Nat.le_of_ble_eq_true rfl)⟩ (fun H locs hw => ?_)
  refine lv_iconst (v := 1) hx hb dX7_stars_7 (by decide) ?_
  refine lv_iadd hx hb dX7_stars_8 ?_
  obtain ⟨ho, hf⟩ := chk_inv hf
  obtain ⟨_, σ3, hk, hf⟩ := bnd_inv hf
  refine z_callV (As := [.int a2, .int (r2 + 1)]) (rest := []) (m_X7_clears hC.2.2.2.2.2.2.2.2 hk) hC hw wd_X7_clears lkM_X7_101 (isO_sh ho) rfl rfl ⟨rfl, rfl⟩ ⟨(Nat.le_of_ble_eq_true rfl), (Nat.le_of_ble_eq_true rfl)⟩ hl.1 rfl (Nat.le_of_ble_eq_true rfl) dX7_stars_9 ⟨(Nat.le_of_ble_eq_true rfl), (Nat.le_of_ble_eq_true rfl)⟩ (fun H locs hw => ?_)
  refine lv_aload_n hx hb dX7_stars_12 rfl (lv_at hl 0 rfl) ?_
  refine lv_iload_n hx hb dX7_stars_13 rfl (lv_at hl 1 rfl) ?_
  refine lv_iload_n hx hb dX7_stars_14 rfl (lv_at hl 2 rfl) ?_
  refine lv_iconst (v := 1) hx hb dX7_stars_15 (by decide) ?_
  obtain ⟨ho, hf⟩ := chk_inv hf
  obtain ⟨_, σ4, hk, hf⟩ := bnd_inv hf
  refine z_callV (As := [.int a1, .int a2, .int 1]) (rest := []) (m_X7_blocks hC.2.2.2.2.2.2.2.2 hk) hC hw wd_X7_blocks lkM_X7_206 (isO_sh ho) rfl rfl ⟨rfl, rfl⟩ ⟨(Nat.le_of_ble_eq_true rfl), (Nat.le_of_ble_eq_true rfl)⟩ hl.1 rfl (Nat.le_of_ble_eq_true rfl) dX7_stars_16 ⟨(Nat.le_of_ble_eq_true rfl), (Nat.le_of_ble_eq_true rfl)⟩ (fun H locs hw => ?_)
  refine lv_aload_n hx hb dX7_stars_19 rfl (lv_at hl 0 rfl) ?_
  obtain ⟨v5, hg, hf⟩ := gfR_inv hf
  refine r_gfR hC hw hg clX7 (Nat.le_of_ble_eq_true rfl) lkF_X7_7 rfl dX7_stars_20 ?_
  refine lv_iload_n hx hb dX7_stars_23 rfl (lv_at hl 2 rfl) ?_
  refine lv_iconst (v := 0) hx hb dX7_stars_24 (by decide) ?_
  obtain ⟨r7, σ6, hk, hf⟩ := bnd_inv hf
  refine z_callS (As := [.int a2, .int 0]) (rest := [.ref v5]) (m_X7_initialAt hC.2.2.2.2.2.2.2.2 hk) hC hw wd_X7_initialAt lkM_X7_82 rfl ⟨rfl, rfl⟩ ⟨(Nat.le_of_ble_eq_true rfl), (Nat.le_of_ble_eq_true rfl)⟩ hl.1 rfl (Nat.le_of_ble_eq_true rfl) dX7_stars_25 ⟨(Nat.le_of_ble_eq_true rfl), (Nat.le_of_ble_eq_true rfl)⟩ (fun H locs hw => ?_)
  refine lv_iconst (v := 1) hx hb dX7_stars_28 (by decide) ?_
  obtain ⟨σ8, hg, hf⟩ := stI_inv hf
  refine r_stI hC hw hg dX7_stars_29 (fun H locs hw => ?_)
  refine lv_aload_n hx hb dX7_stars_30 rfl (lv_at hl 0 rfl) ?_
  obtain ⟨v9, hg, hf⟩ := gfR_inv hf
  refine r_gfR hC hw hg clX7 (Nat.le_of_ble_eq_true rfl) lkF_X7_7 rfl dX7_stars_31 ?_
  refine lv_iload_n hx hb dX7_stars_34 rfl (lv_at hl 2 rfl) ?_
  refine lv_iconst (v := 0) hx hb dX7_stars_35 (by decide) ?_
  obtain ⟨r11, σ10, hk, hf⟩ := bnd_inv hf
  refine z_callS (As := [.int a2, .int 0]) (rest := [.ref v9]) (m_X7_finalAt hC.2.2.2.2.2.2.2.2 hk) hC hw wd_X7_finalAt lkM_X7_85 rfl ⟨rfl, rfl⟩ ⟨(Nat.le_of_ble_eq_true rfl), (Nat.le_of_ble_eq_true rfl)⟩ hl.1 rfl (Nat.le_of_ble_eq_true rfl) dX7_stars_36 ⟨(Nat.le_of_ble_eq_true rfl), (Nat.le_of_ble_eq_true rfl)⟩ (fun H locs hw => ?_)
  refine lv_iconst (v := 1) hx hb dX7_stars_39 (by decide) ?_
  obtain ⟨σ12, hg, hf⟩ := stI_inv hf
  refine r_stI hC hw hg dX7_stars_40 (fun H locs hw => ?_)
  refine lv_iconst (v := 0) hx hb dX7_stars_41 (by decide) ?_
  refine lv_istore_n (lv' := [(3, .int 0), (0, .ref a0), (1, .int a1), (2, .int a2)]) hx hb dX7_stars_42 rfl hl (Nat.le_of_ble_eq_true rfl) rfl (fun ls hl => ?_)
  obtain ⟨σ40, hk, hf⟩ := lb0_inv hf
  refine l_X7_stars_B43 hC hr (fun H locs ls hw hl => ?_) FUEL 0 σ12 hk _ _ _ hw (lv_sub hl [1, 2, 3, 0] rfl)
  first | (obtain ⟨rfl, rfl⟩ := sp_inv hf) | (obtain rfl := Option.some.inj hf)
  exact W.vret hx hb hr (z_ret hw rfl) hw.2.2.2.2.2 dX7_stars_165 hC.2.2.2.2.2.1
set_option maxHeartbeats 4000000 in
set_option maxRecDepth 100000 in
theorem t_X7_manyOf_L30 (hC : zC p l s m args meth c cX7_manyOf 4 RX7 D cA B0) (hr : meth.sig.returnType = (Option.some FieldType.int)) {Γ : zSh} {s0 : Int32} {σ : zSt} {out : (Int32 × zSt)} (hf : f_X7_manyOf_L30 Γ s0 σ = some out) {H : Heap} {locs : List Loc} {ls : Array Slot} (hw : zO D cA B0 Γ σ Z s.heap H locs) (hl : lv_has ls 4 []) :
    W p l e rm_X7_manyOf s m args below meth c H locs 0 0 (MQ below (zQ1 D cA B0 (some (.int out.1)) Γ out.2 Z) args s 0 0 (FR B0)) (F0 m 30 ls [.int s0]) := by
  have hx := hC.1
  have hb := hC.2.1
  unfold f_X7_manyOf_L30 at hf
  first | (obtain ⟨rfl, rfl⟩ := sp_inv hf) | (obtain rfl := Option.some.inj hf)
  exact W.iret hx hb hr (z_ret hw rfl) hw.2.2.2.2.2 dX7_manyOf_30 hC.2.2.2.2.2.1
set_option maxHeartbeats 4000000 in
set_option maxRecDepth 100000 in
theorem m_X7_manyOf (h9 : l.stackTraces = false) {Γ : zSh} {a0 : Nat} {a1 : Int32} {a2 : Int32} {a3 : Int32} {σ : zSt} {r : Int32} {σ2 : zSt} (hf : f_X7_manyOf Γ a0 a1 a2 a3 σ = some (r, σ2)) : Met l yX7_manyOf (wq yX7_manyOf cX7_manyOf 4 (Option.some FieldType.int)) rm_X7_manyOf (zQ0 D cA B0 [.ref a0, .int a1, .int a2, .int a3] Γ σ Z) (zQ1 D cA B0 (some (.int r)) Γ σ2 Z) 0 0 (FR B0) := by
  refine z_ofW h9 (by decide) (Nat.le_of_ble_eq_true rfl) ?_
  intro p e s m args below meth c ls hC hr _ hw hl
  have hx := hC.1
  have hb := hC.2.1
  have hl : lv_has ls 4 [(0, .ref a0), (1, .int a1), (2, .int a2), (3, .int a3)] := hl
  unfold f_X7_manyOf at hf
  refine lv_iload_n hx hb dX7_manyOf_0 rfl (lv_at hl 3 rfl) ?_
  refine lv_iconst (v := 1) hx hb dX7_manyOf_1 (by decide) ?_
  refine lv_icmp_ne (tgt := 19) hx hb dX7_manyOf_2 (by decide) (fun hc => ?_) (fun hc => ?_)
  · rw [if_neg hc] at hf
    refine lv_aload_n hx hb dX7_manyOf_19 rfl (lv_at hl 0 rfl) ?_
    refine lv_iload_n hx hb dX7_manyOf_20 rfl (lv_at hl 1 rfl) ?_
    obtain ⟨ho, hf⟩ := chk_inv hf
    obtain ⟨r2, σ1, hk, hf⟩ := bnd_inv hf
    refine z_callV (As := [.int a1]) (rest := []) (m_X7_many hC.2.2.2.2.2.2.2.2 hk) hC hw wd_X7_many lkM_X7_78 (isO_sh ho) rfl rfl ⟨rfl, rfl⟩ ⟨(Nat.le_of_ble_eq_true rfl), (Nat.le_of_ble_eq_true rfl)⟩ hl.1 rfl (Nat.le_of_ble_eq_true rfl) dX7_manyOf_21 ⟨(Nat.le_of_ble_eq_true rfl), (Nat.le_of_ble_eq_true rfl)⟩ (fun H locs hw => ?_)
    refine lv_aload_n hx hb dX7_manyOf_24 rfl (lv_at hl 0 rfl) ?_
    refine lv_iload_n hx hb dX7_manyOf_25 rfl (lv_at hl 2 rfl) ?_
    obtain ⟨ho, hf⟩ := chk_inv hf
    obtain ⟨r4, σ3, hk, hf⟩ := bnd_inv hf
    refine z_callV (As := [.int a2]) (rest := [.int r2]) (m_X7_many hC.2.2.2.2.2.2.2.2 hk) hC hw wd_X7_many lkM_X7_78 (isO_sh ho) rfl rfl ⟨rfl, rfl⟩ ⟨(Nat.le_of_ble_eq_true rfl), (Nat.le_of_ble_eq_true rfl)⟩ hl.1 rfl (Nat.le_of_ble_eq_true rfl) dX7_manyOf_26 ⟨(Nat.le_of_ble_eq_true rfl), (Nat.le_of_ble_eq_true rfl)⟩ (fun H locs hw => ?_)
    refine lv_iadd hx hb dX7_manyOf_29 ?_
    exact t_X7_manyOf_L30 hC hr hf hw (lv_sub hl [] rfl)
  · rw [if_pos hc] at hf
    refine lv_aload_n hx hb dX7_manyOf_5 rfl (lv_at hl 0 rfl) ?_
    refine lv_iload_n hx hb dX7_manyOf_6 rfl (lv_at hl 1 rfl) ?_
    obtain ⟨ho, hf⟩ := chk_inv hf
    obtain ⟨r6, σ5, hk, hf⟩ := bnd_inv hf
    refine z_callV (As := [.int a1]) (rest := []) (m_X7_many hC.2.2.2.2.2.2.2.2 hk) hC hw wd_X7_many lkM_X7_78 (isO_sh ho) rfl rfl ⟨rfl, rfl⟩ ⟨(Nat.le_of_ble_eq_true rfl), (Nat.le_of_ble_eq_true rfl)⟩ hl.1 rfl (Nat.le_of_ble_eq_true rfl) dX7_manyOf_7 ⟨(Nat.le_of_ble_eq_true rfl), (Nat.le_of_ble_eq_true rfl)⟩ (fun H locs hw => ?_)
    refine lv_aload_n hx hb dX7_manyOf_10 rfl (lv_at hl 0 rfl) ?_
    refine lv_iload_n hx hb dX7_manyOf_11 rfl (lv_at hl 2 rfl) ?_
    obtain ⟨ho, hf⟩ := chk_inv hf
    obtain ⟨r8, σ7, hk, hf⟩ := bnd_inv hf
    refine z_callV (As := [.int a2]) (rest := [.int r6]) (m_X7_many hC.2.2.2.2.2.2.2.2 hk) hC hw wd_X7_many lkM_X7_78 (isO_sh ho) rfl rfl ⟨rfl, rfl⟩ ⟨(Nat.le_of_ble_eq_true rfl), (Nat.le_of_ble_eq_true rfl)⟩ hl.1 rfl (Nat.le_of_ble_eq_true rfl) dX7_manyOf_12 ⟨(Nat.le_of_ble_eq_true rfl), (Nat.le_of_ble_eq_true rfl)⟩ (fun H locs hw => ?_)
    refine lv_imul hx hb dX7_manyOf_15 ?_
    refine lv_goto (tgt := 30) hx hb dX7_manyOf_16 (by decide) ?_
    exact t_X7_manyOf_L30 hC hr hf hw (lv_sub hl [] rfl)
set_option maxHeartbeats 4000000 in
set_option maxRecDepth 100000 in
theorem t_X7_combines_L36 (hC : zC p l s m args meth c cX7_combines 4 RX7 D cA B0) (hr : meth.sig.returnType = (Option.none : Option Jvm.ClassFile.FieldType)) {Γ : zSh}  {σ : zSt} {out : (Unit × zSt)} (hf : f_X7_combines_L36 Γ  σ = some out) {H : Heap} {locs : List Loc} {ls : Array Slot} (hw : zO D cA B0 Γ σ Z s.heap H locs) (hl : lv_has ls 4 []) :
    W p l e rm_X7_combines s m args below meth c H locs 0 0 (MQ below (zQ1 D cA B0 (none) Γ out.2 Z) args s 0 0 (FR B0)) (F0 m 36 ls []) := by
  have hx := hC.1
  have hb := hC.2.1
  unfold f_X7_combines_L36 at hf
  first | (obtain ⟨rfl, rfl⟩ := sp_inv hf) | (obtain rfl := Option.some.inj hf)
  exact W.vret hx hb hr (z_ret hw rfl) hw.2.2.2.2.2 dX7_combines_36 hC.2.2.2.2.2.1
set_option maxHeartbeats 4000000 in
set_option maxRecDepth 100000 in
theorem m_X7_combines (h9 : l.stackTraces = false) {Γ : zSh} {a0 : Nat} {a1 : Int32} {a2 : Int32} {a3 : Int32} {σ : zSt} {r : Unit} {σ2 : zSt} (hf : f_X7_combines Γ a0 a1 a2 a3 σ = some (r, σ2)) : Met l yX7_combines (wq yX7_combines cX7_combines 4 (Option.none : Option Jvm.ClassFile.FieldType)) rm_X7_combines (zQ0 D cA B0 [.ref a0, .int a1, .int a2, .int a3] Γ σ Z) (zQ1 D cA B0 (none) Γ σ2 Z) 0 0 (FR B0) := by
  refine z_ofW h9 (by decide) (Nat.le_of_ble_eq_true rfl) ?_
  intro p e s m args below meth c ls hC hr _ hw hl
  have hx := hC.1
  have hb := hC.2.1
  have hl : lv_has ls 4 [(0, .ref a0), (1, .int a1), (2, .int a2), (3, .int a3)] := hl
  unfold f_X7_combines at hf
  refine lv_iload_n hx hb dX7_combines_0 rfl (lv_at hl 3 rfl) ?_
  refine lv_if_ne (tgt := 14) hx hb dX7_combines_1 (by decide) (fun hc => ?_) (fun hc => ?_)
  · rw [if_neg hc] at hf
    refine lv_iload_n hx hb dX7_combines_14 rfl (lv_at hl 3 rfl) ?_
    refine lv_iconst (v := 1) hx hb dX7_combines_15 (by decide) ?_
    refine lv_icmp_ne (tgt := 29) hx hb dX7_combines_16 (by decide) (fun hc => ?_) (fun hc => ?_)
    · rw [if_neg hc] at hf
      refine lv_aload_n hx hb dX7_combines_29 rfl (lv_at hl 0 rfl) ?_
      refine lv_iload_n hx hb dX7_combines_30 rfl (lv_at hl 1 rfl) ?_
      refine lv_iload_n hx hb dX7_combines_31 rfl (lv_at hl 2 rfl) ?_
      refine lv_iconst (v := 5) hx hb dX7_combines_32 (by decide) ?_
      obtain ⟨ho, hf⟩ := chk_inv hf
      obtain ⟨_, σ1, hk, hf⟩ := bnd_inv hf
      refine z_callV (As := [.int a1, .int a2, .int 5]) (rest := []) (m_X7_joins hC.2.2.2.2.2.2.2.2 hk) hC hw wd_X7_joins lkM_X7_221 (isO_sh ho) rfl rfl ⟨rfl, rfl⟩ ⟨(Nat.le_of_ble_eq_true rfl), (Nat.le_of_ble_eq_true rfl)⟩ hl.1 rfl (Nat.le_of_ble_eq_true rfl) dX7_combines_33 ⟨(Nat.le_of_ble_eq_true rfl), (Nat.le_of_ble_eq_true rfl)⟩ (fun H locs hw => ?_)
      exact t_X7_combines_L36 hC hr hf hw (lv_sub hl [] rfl)
    · rw [if_pos hc] at hf
      refine lv_aload_n hx hb dX7_combines_19 rfl (lv_at hl 0 rfl) ?_
      refine lv_iload_n hx hb dX7_combines_20 rfl (lv_at hl 1 rfl) ?_
      refine lv_iload_n hx hb dX7_combines_21 rfl (lv_at hl 2 rfl) ?_
      refine lv_iconst (v := 5) hx hb dX7_combines_22 (by decide) ?_
      obtain ⟨ho, hf⟩ := chk_inv hf
      obtain ⟨_, σ2, hk, hf⟩ := bnd_inv hf
      refine z_callV (As := [.int a1, .int a2, .int 5]) (rest := []) (m_X7_multiplies hC.2.2.2.2.2.2.2.2 hk) hC hw wd_X7_multiplies lkM_X7_218 (isO_sh ho) rfl rfl ⟨rfl, rfl⟩ ⟨(Nat.le_of_ble_eq_true rfl), (Nat.le_of_ble_eq_true rfl)⟩ hl.1 rfl (Nat.le_of_ble_eq_true rfl) dX7_combines_23 ⟨(Nat.le_of_ble_eq_true rfl), (Nat.le_of_ble_eq_true rfl)⟩ (fun H locs hw => ?_)
      refine lv_goto (tgt := 36) hx hb dX7_combines_26 (by decide) ?_
      exact t_X7_combines_L36 hC hr hf hw (lv_sub hl [] rfl)
  · rw [if_pos hc] at hf
    refine lv_aload_n hx hb dX7_combines_4 rfl (lv_at hl 0 rfl) ?_
    refine lv_iload_n hx hb dX7_combines_5 rfl (lv_at hl 1 rfl) ?_
    refine lv_iload_n hx hb dX7_combines_6 rfl (lv_at hl 2 rfl) ?_
    refine lv_iconst (v := 5) hx hb dX7_combines_7 (by decide) ?_
    obtain ⟨ho, hf⟩ := chk_inv hf
    obtain ⟨_, σ3, hk, hf⟩ := bnd_inv hf
    refine z_callV (As := [.int a1, .int a2, .int 5]) (rest := []) (m_X7_sums hC.2.2.2.2.2.2.2.2 hk) hC hw wd_X7_sums lkM_X7_215 (isO_sh ho) rfl rfl ⟨rfl, rfl⟩ ⟨(Nat.le_of_ble_eq_true rfl), (Nat.le_of_ble_eq_true rfl)⟩ hl.1 rfl (Nat.le_of_ble_eq_true rfl) dX7_combines_8 ⟨(Nat.le_of_ble_eq_true rfl), (Nat.le_of_ble_eq_true rfl)⟩ (fun H locs hw => ?_)
    refine lv_goto (tgt := 36) hx hb dX7_combines_11 (by decide) ?_
    exact t_X7_combines_L36 hC hr hf hw (lv_sub hl [] rfl)
set_option maxHeartbeats 4000000 in
set_option maxRecDepth 100000 in
theorem t_X7_combine_L77 (hC : zC p l s m args meth c cX7_combine 6 RX7 D cA B0) (hr : meth.sig.returnType = (Option.some FieldType.int)) {Γ : zSh} {x0 : Nat} {x1 : Int32} {x2 : Int32} {x3 : Int32} {x4 : Int32} {s0 : Int32} {s1 : Int32} {s2 : Int32} {s3 : Nat} {σ : zSt} {out : (Int32 × zSt)} (hf : f_X7_combine_L77 Γ x0 x1 x2 x3 x4 s0 s1 s2 s3 σ = some out) {H : Heap} {locs : List Loc} {ls : Array Slot} (hw : zO D cA B0 Γ σ Z s.heap H locs) (hl : lv_has ls 6 [(0, .ref x0), (1, .int x1), (2, .int x2), (3, .int x3), (4, .int x4)]) :
    W p l e rm_X7_combine s m args below meth c H locs 0 0 (MQ below (zQ1 D cA B0 (some (.int out.1)) Γ out.2 Z) args s 0 0 (FR B0)) (F0 m 77 ls [.int s0, .int s1, .int s2, .ref s3]) := by
  have hx := hC.1
  have hb := hC.2.1
  unfold f_X7_combine_L77 at hf
  obtain ⟨ho, hf⟩ := chk_inv hf
  obtain ⟨r6, σ5, hk, hf⟩ := bnd_inv hf
  refine z_callV (As := [.int s2, .int s1, .int s0]) (rest := []) (m_X7_goes hC.2.2.2.2.2.2.2.2 hk) hC hw wd_X7_goes lkM_X7_94 (isO_sh ho) rfl rfl ⟨rfl, rfl⟩ ⟨(Nat.le_of_ble_eq_true rfl), (Nat.le_of_ble_eq_true rfl)⟩ hl.1 rfl (Nat.le_of_ble_eq_true rfl) dX7_combine_77 ⟨(Nat.le_of_ble_eq_true rfl), (Nat.le_of_ble_eq_true rfl)⟩ (fun H locs hw => ?_)
  refine lv_if_ne (tgt := 85) hx hb dX7_combine_80 (by decide) (fun hc => ?_) (fun hc => ?_)
  · rw [if_neg hc] at hf
    refine lv_aload_n hx hb dX7_combine_85 rfl (lv_at hl 0 rfl) ?_
    obtain ⟨ho, hf⟩ := chk_inv hf
    obtain ⟨_, σ7, hk, hf⟩ := bnd_inv hf
    refine z_callV (As := []) (rest := []) (m_X7_save hC.2.2.2.2.2.2.2.2 hk) hC hw wd_X7_save lkM_X7_98 (isO_sh ho) rfl rfl ⟨rfl, rfl⟩ ⟨(Nat.le_of_ble_eq_true rfl), (Nat.le_of_ble_eq_true rfl)⟩ hl.1 rfl (Nat.le_of_ble_eq_true rfl) dX7_combine_86 ⟨(Nat.le_of_ble_eq_true rfl), (Nat.le_of_ble_eq_true rfl)⟩ (fun H locs hw => ?_)
    refine lv_aload_n hx hb dX7_combine_89 rfl (lv_at hl 0 rfl) ?_
    refine lv_iload_n hx hb dX7_combine_90 rfl (lv_at hl 2 rfl) ?_
    refine lv_iload_n hx hb dX7_combine_91 rfl (lv_at hl 3 rfl) ?_
    refine lv_iload hx hb dX7_combine_92 (lv_at hl 4 rfl) ?_
    obtain ⟨ho, hf⟩ := chk_inv hf
    obtain ⟨_, σ8, hk, hf⟩ := bnd_inv hf
    refine z_callV (As := [.int x2, .int x3, .int x4]) (rest := []) (m_X7_combines hC.2.2.2.2.2.2.2.2 hk) hC hw wd_X7_combines lkM_X7_227 (isO_sh ho) rfl rfl ⟨rfl, rfl⟩ ⟨(Nat.le_of_ble_eq_true rfl), (Nat.le_of_ble_eq_true rfl)⟩ hl.1 rfl (Nat.le_of_ble_eq_true rfl) dX7_combine_94 ⟨(Nat.le_of_ble_eq_true rfl), (Nat.le_of_ble_eq_true rfl)⟩ (fun H locs hw => ?_)
    refine lv_aload_n hx hb dX7_combine_97 rfl (lv_at hl 0 rfl) ?_
    refine lv_iconst (v := 5) hx hb dX7_combine_98 (by decide) ?_
    refine lv_iload_n hx hb dX7_combine_99 rfl (lv_at hl 1 rfl) ?_
    obtain ⟨ho, hf⟩ := chk_inv hf
    obtain ⟨_, σ9, hk, hf⟩ := bnd_inv hf
    refine z_callV (As := [.int 5, .int x1]) (rest := []) (m_X7_copies hC.2.2.2.2.2.2.2.2 hk) hC hw wd_X7_copies lkM_X7_230 (isO_sh ho) rfl rfl ⟨rfl, rfl⟩ ⟨(Nat.le_of_ble_eq_true rfl), (Nat.le_of_ble_eq_true rfl)⟩ hl.1 rfl (Nat.le_of_ble_eq_true rfl) dX7_combine_100 ⟨(Nat.le_of_ble_eq_true rfl), (Nat.le_of_ble_eq_true rfl)⟩ (fun H locs hw => ?_)
    refine lv_aload_n hx hb dX7_combine_103 rfl (lv_at hl 0 rfl) ?_
    refine lv_iload_n hx hb dX7_combine_104 rfl (lv_at hl 1 rfl) ?_
    obtain ⟨ho, hf⟩ := chk_inv hf
    obtain ⟨r11, σ10, hk, hf⟩ := bnd_inv hf
    refine z_callV (As := [.int x1]) (rest := []) (m_X7_many hC.2.2.2.2.2.2.2.2 hk) hC hw wd_X7_many lkM_X7_78 (isO_sh ho) rfl rfl ⟨rfl, rfl⟩ ⟨(Nat.le_of_ble_eq_true rfl), (Nat.le_of_ble_eq_true rfl)⟩ hl.1 rfl (Nat.le_of_ble_eq_true rfl) dX7_combine_105 ⟨(Nat.le_of_ble_eq_true rfl), (Nat.le_of_ble_eq_true rfl)⟩ (fun H locs hw => ?_)
    first | (obtain ⟨rfl, rfl⟩ := sp_inv hf) | (obtain rfl := Option.some.inj hf)
    exact W.iret hx hb hr (z_ret hw rfl) hw.2.2.2.2.2 dX7_combine_108 hC.2.2.2.2.2.1
  · rw [if_pos hc] at hf
    refine lv_iconst (v := 0) hx hb dX7_combine_83 (by decide) ?_
    first | (obtain ⟨rfl, rfl⟩ := sp_inv hf) | (obtain rfl := Option.some.inj hf)
    exact W.iret hx hb hr (z_ret hw rfl) hw.2.2.2.2.2 dX7_combine_84 hC.2.2.2.2.2.1
set_option maxHeartbeats 4000000 in
set_option maxRecDepth 100000 in
theorem t_X7_combine_L76 (hC : zC p l s m args meth c cX7_combine 6 RX7 D cA B0) (hr : meth.sig.returnType = (Option.some FieldType.int)) {Γ : zSh} {x0 : Nat} {x1 : Int32} {x2 : Int32} {x3 : Int32} {x4 : Int32} {s0 : Int32} {s1 : Int32} {s2 : Nat} {σ : zSt} {out : (Int32 × zSt)} (hf : f_X7_combine_L76 Γ x0 x1 x2 x3 x4 s0 s1 s2 σ = some out) {H : Heap} {locs : List Loc} {ls : Array Slot} (hw : zO D cA B0 Γ σ Z s.heap H locs) (hl : lv_has ls 6 [(0, .ref x0), (1, .int x1), (2, .int x2), (3, .int x3), (4, .int x4)]) :
    W p l e rm_X7_combine s m args below meth c H locs 0 0 (MQ below (zQ1 D cA B0 (some (.int out.1)) Γ out.2 Z) args s 0 0 (FR B0)) (F0 m 76 ls [.int s0, .int s1, .ref s2]) := by
  have hx := hC.1
  have hb := hC.2.1
  unfold f_X7_combine_L76 at hf
  refine lv_iconst (v := 0) hx hb dX7_combine_76 (by decide) ?_
  exact t_X7_combine_L77 hC hr hf hw (lv_sub hl [0, 1, 2, 3, 4] rfl)
set_option maxHeartbeats 4000000 in
set_option maxRecDepth 100000 in
theorem t_X7_combine_L26 (hC : zC p l s m args meth c cX7_combine 6 RX7 D cA B0) (hr : meth.sig.returnType = (Option.some FieldType.int)) {Γ : zSh} {x0 : Nat} {x1 : Int32} {x2 : Int32} {x3 : Int32} {x4 : Int32} {s0 : Int32} {σ : zSt} {out : (Int32 × zSt)} (hf : f_X7_combine_L26 Γ x0 x1 x2 x3 x4 s0 σ = some out) {H : Heap} {locs : List Loc} {ls : Array Slot} (hw : zO D cA B0 Γ σ Z s.heap H locs) (hl : lv_has ls 6 [(0, .ref x0), (1, .int x1), (2, .int x2), (3, .int x3), (4, .int x4)]) :
    W p l e rm_X7_combine s m args below meth c H locs 0 0 (MQ below (zQ1 D cA B0 (some (.int out.1)) Γ out.2 Z) args s 0 0 (FR B0)) (F0 m 26 ls [.int s0]) := by
  have hx := hC.1
  have hb := hC.2.1
  unfold f_X7_combine_L26 at hf
  refine lv_istore (lv' := [(5, .int s0), (0, .ref x0), (1, .int x1), (2, .int x2), (3, .int x3), (4, .int x4)]) hx hb dX7_combine_26 hl (Nat.le_of_ble_eq_true rfl) rfl (fun ls hl => ?_)
  refine lv_aload_n hx hb dX7_combine_28 rfl (lv_at hl 1 rfl) ?_
  refine lv_iload hx hb dX7_combine_29 (lv_at hl 0 rfl) ?_
  refine lv_iload hx hb dX7_combine_31 (lv_at hl 5 rfl) ?_
  refine lv_i2l hx hb dX7_combine_33 rfl ?_
  refine lv_lconst (v := 0) hx hb dX7_combine_34 (by decide) ?_
  refine lv_ldc2 (v := 2) hx hb hC.2.2.2.1 (hC.2.2.2.2.1 _ lkJ_X7_201) dX7_combine_35 ?_
  obtain ⟨r4, σ3, hk, hf⟩ := bnd_inv hf
  refine z_callS (As := [.long (x4.toInt64), .long 0, .long 2]) (rest := [.int s0, .ref x0]) (m_X7_in hC.2.2.2.2.2.2.2.2 hk) hC hw wd_X7_in lkM_X7_68 rfl ⟨rfl, rfl⟩ ⟨(Nat.le_of_ble_eq_true rfl), (Nat.le_of_ble_eq_true rfl)⟩ hl.1 rfl (Nat.le_of_ble_eq_true rfl) dX7_combine_38 ⟨(Nat.le_of_ble_eq_true rfl), (Nat.le_of_ble_eq_true rfl)⟩ (fun H locs hw => ?_)
  refine lv_iload hx hb dX7_combine_41 (lv_at hl 0 rfl) ?_
  refine lv_if_eq (tgt := 76) hx hb dX7_combine_43 (by decide) (fun hc => ?_) (fun hc => ?_)
  · rw [if_pos hc] at hf
    exact t_X7_combine_L76 hC hr hf hw (lv_sub hl [1, 2, 3, 4, 5] rfl)
  · rw [if_neg hc] at hf
    refine lv_iload hx hb dX7_combine_46 (lv_at hl 5 rfl) ?_
    refine lv_i2l hx hb dX7_combine_48 rfl ?_
    refine lv_lconst (v := 0) hx hb dX7_combine_49 (by decide) ?_
    refine lv_ldc2 (v := 2) hx hb hC.2.2.2.1 (hC.2.2.2.2.1 _ lkJ_X7_201) dX7_combine_50 ?_
    obtain ⟨r13, σ12, hk, hf⟩ := bnd_inv hf
    refine z_callS (As := [.long (x4.toInt64), .long 0, .long 2]) (rest := [.int r4, .int s0, .ref x0]) (m_X7_in hC.2.2.2.2.2.2.2.2 hk) hC hw wd_X7_in lkM_X7_68 rfl ⟨rfl, rfl⟩ ⟨(Nat.le_of_ble_eq_true rfl), (Nat.le_of_ble_eq_true rfl)⟩ hl.1 rfl (Nat.le_of_ble_eq_true rfl) dX7_combine_53 ⟨(Nat.le_of_ble_eq_true rfl), (Nat.le_of_ble_eq_true rfl)⟩ (fun H locs hw => ?_)
    refine lv_if_eq (tgt := 76) hx hb dX7_combine_56 (by decide) (fun hc => ?_) (fun hc => ?_)
    · rw [if_pos hc] at hf
      exact t_X7_combine_L76 hC hr hf hw (lv_sub hl [1, 2, 3, 4, 5] rfl)
    · rw [if_neg hc] at hf
      refine lv_aload_n hx hb dX7_combine_59 rfl (lv_at hl 1 rfl) ?_
      refine lv_iload_n hx hb dX7_combine_60 rfl (lv_at hl 3 rfl) ?_
      refine lv_iload_n hx hb dX7_combine_61 rfl (lv_at hl 4 rfl) ?_
      refine lv_iload hx hb dX7_combine_62 (lv_at hl 5 rfl) ?_
      obtain ⟨ho, hf⟩ := chk_inv hf
      obtain ⟨r15, σ14, hk, hf⟩ := bnd_inv hf
      refine z_callV (As := [.int x2, .int x3, .int x4]) (rest := [.int r4, .int s0, .ref x0]) (m_X7_manyOf hC.2.2.2.2.2.2.2.2 hk) hC hw wd_X7_manyOf lkM_X7_224 (isO_sh ho) rfl rfl ⟨rfl, rfl⟩ ⟨(Nat.le_of_ble_eq_true rfl), (Nat.le_of_ble_eq_true rfl)⟩ hl.1 rfl (Nat.le_of_ble_eq_true rfl) dX7_combine_64 ⟨(Nat.le_of_ble_eq_true rfl), (Nat.le_of_ble_eq_true rfl)⟩ (fun H locs hw => ?_)
      refine lv_bipush (v := 12) hx hb dX7_combine_67 (by decide) ?_
      refine lv_icmp_gt (tgt := 76) hx hb dX7_combine_69 (by decide) (fun hc => ?_) (fun hc => ?_)
      · rw [if_pos hc] at hf
        exact t_X7_combine_L76 hC hr hf hw (lv_sub hl [1, 2, 3, 4, 5] rfl)
      · rw [if_neg hc] at hf
        refine lv_iconst (v := 1) hx hb dX7_combine_72 (by decide) ?_
        refine lv_goto (tgt := 77) hx hb dX7_combine_73 (by decide) ?_
        exact t_X7_combine_L77 hC hr hf hw (lv_sub hl [1, 2, 3, 4, 5] rfl)
set_option maxHeartbeats 4000000 in
set_option maxRecDepth 100000 in
theorem t_X7_combine_L25 (hC : zC p l s m args meth c cX7_combine 6 RX7 D cA B0) (hr : meth.sig.returnType = (Option.some FieldType.int)) {Γ : zSh} {x0 : Nat} {x1 : Int32} {x2 : Int32} {x3 : Int32} {x4 : Int32} {σ : zSt} {out : (Int32 × zSt)} (hf : f_X7_combine_L25 Γ x0 x1 x2 x3 x4 σ = some out) {H : Heap} {locs : List Loc} {ls : Array Slot} (hw : zO D cA B0 Γ σ Z s.heap H locs) (hl : lv_has ls 6 [(0, .ref x0), (1, .int x1), (2, .int x2), (3, .int x3), (4, .int x4)]) :
    W p l e rm_X7_combine s m args below meth c H locs 0 0 (MQ below (zQ1 D cA B0 (some (.int out.1)) Γ out.2 Z) args s 0 0 (FR B0)) (F0 m 25 ls []) := by
  have hx := hC.1
  have hb := hC.2.1
  unfold f_X7_combine_L25 at hf
  refine lv_iconst (v := 0) hx hb dX7_combine_25 (by decide) ?_
  exact t_X7_combine_L26 hC hr hf hw (lv_sub hl [0, 1, 2, 3, 4] rfl)
set_option maxHeartbeats 4000000 in
set_option maxRecDepth 100000 in
theorem m_X7_combine (h9 : l.stackTraces = false) {Γ : zSh} {a0 : Nat} {a1 : Int32} {a2 : Int32} {a3 : Int32} {a4 : Int32} {σ : zSt} {r : Int32} {σ2 : zSt} (hf : f_X7_combine Γ a0 a1 a2 a3 a4 σ = some (r, σ2)) : Met l yX7_combine (wq yX7_combine cX7_combine 6 (Option.some FieldType.int)) rm_X7_combine (zQ0 D cA B0 [.ref a0, .int a1, .int a2, .int a3, .int a4] Γ σ Z) (zQ1 D cA B0 (some (.int r)) Γ σ2 Z) 0 0 (FR B0) := by
  refine z_ofW h9 (by decide) (Nat.le_of_ble_eq_true rfl) ?_
  intro p e s m args below meth c ls hC hr _ hw hl
  have hx := hC.1
  have hb := hC.2.1
  have hl : lv_has ls 6 [(0, .ref a0), (1, .int a1), (2, .int a2), (3, .int a3), (4, .int a4)] := hl
  unfold f_X7_combine at hf
  refine lv_iload_n hx hb dX7_combine_0 rfl (lv_at hl 1 rfl) ?_
  obtain ⟨r2, σ1, hk, hf⟩ := bnd_inv hf
  refine z_callS (As := [.int a1]) (rest := []) (m_X7_isSlot hC.2.2.2.2.2.2.2.2 hk) hC hw wd_X7_isSlot lkM_X7_88 rfl ⟨rfl, rfl⟩ ⟨(Nat.le_of_ble_eq_true rfl), (Nat.le_of_ble_eq_true rfl)⟩ hl.1 rfl (Nat.le_of_ble_eq_true rfl) dX7_combine_1 ⟨(Nat.le_of_ble_eq_true rfl), (Nat.le_of_ble_eq_true rfl)⟩ (fun H locs hw => ?_)
  refine lv_if_eq (tgt := 25) hx hb dX7_combine_4 (by decide) (fun hc => ?_) (fun hc => ?_)
  · rw [if_pos hc] at hf
    exact t_X7_combine_L25 hC hr hf hw (lv_sub hl [0, 1, 2, 3, 4] rfl)
  · rw [if_neg hc] at hf
    refine lv_iload_n hx hb dX7_combine_7 rfl (lv_at hl 2 rfl) ?_
    obtain ⟨r17, σ16, hk, hf⟩ := bnd_inv hf
    refine z_callS (As := [.int a2]) (rest := []) (m_X7_isSlot hC.2.2.2.2.2.2.2.2 hk) hC hw wd_X7_isSlot lkM_X7_88 rfl ⟨rfl, rfl⟩ ⟨(Nat.le_of_ble_eq_true rfl), (Nat.le_of_ble_eq_true rfl)⟩ hl.1 rfl (Nat.le_of_ble_eq_true rfl) dX7_combine_8 ⟨(Nat.le_of_ble_eq_true rfl), (Nat.le_of_ble_eq_true rfl)⟩ (fun H locs hw => ?_)
    refine lv_if_eq (tgt := 25) hx hb dX7_combine_11 (by decide) (fun hc => ?_) (fun hc => ?_)
    · rw [if_pos hc] at hf
      exact t_X7_combine_L25 hC hr hf hw (lv_sub hl [0, 1, 2, 3, 4] rfl)
    · rw [if_neg hc] at hf
      refine lv_iload_n hx hb dX7_combine_14 rfl (lv_at hl 3 rfl) ?_
      obtain ⟨r19, σ18, hk, hf⟩ := bnd_inv hf
      refine z_callS (As := [.int a3]) (rest := []) (m_X7_isSlot hC.2.2.2.2.2.2.2.2 hk) hC hw wd_X7_isSlot lkM_X7_88 rfl ⟨rfl, rfl⟩ ⟨(Nat.le_of_ble_eq_true rfl), (Nat.le_of_ble_eq_true rfl)⟩ hl.1 rfl (Nat.le_of_ble_eq_true rfl) dX7_combine_15 ⟨(Nat.le_of_ble_eq_true rfl), (Nat.le_of_ble_eq_true rfl)⟩ (fun H locs hw => ?_)
      refine lv_if_eq (tgt := 25) hx hb dX7_combine_18 (by decide) (fun hc => ?_) (fun hc => ?_)
      · rw [if_pos hc] at hf
        exact t_X7_combine_L25 hC hr hf hw (lv_sub hl [0, 1, 2, 3, 4] rfl)
      · rw [if_neg hc] at hf
        refine lv_iconst (v := 1) hx hb dX7_combine_21 (by decide) ?_
        refine lv_goto (tgt := 26) hx hb dX7_combine_22 (by decide) ?_
        exact t_X7_combine_L26 hC hr hf hw (lv_sub hl [0, 1, 2, 3, 4] rfl)
set_option maxHeartbeats 4000000 in
set_option maxRecDepth 100000 in
theorem t_X7_derives_L131 (hC : zC p l s m args meth c cX7_derives 4 RX7 D cA B0) (hr : meth.sig.returnType = (Option.none : Option Jvm.ClassFile.FieldType)) {Γ : zSh}  {σ : zSt} {out : (Unit × zSt)} (hf : f_X7_derives_L131 Γ  σ = some out) {H : Heap} {locs : List Loc} {ls : Array Slot} (hw : zO D cA B0 Γ σ Z s.heap H locs) (hl : lv_has ls 4 []) :
    W p l e rm_X7_derives s m args below meth c H locs 0 0 (MQ below (zQ1 D cA B0 (none) Γ out.2 Z) args s 0 0 (FR B0)) (F0 m 131 ls []) := by
  have hx := hC.1
  have hb := hC.2.1
  unfold f_X7_derives_L131 at hf
  first | (obtain ⟨rfl, rfl⟩ := sp_inv hf) | (obtain rfl := Option.some.inj hf)
  exact W.vret hx hb hr (z_ret hw rfl) hw.2.2.2.2.2 dX7_derives_131 hC.2.2.2.2.2.1
set_option maxHeartbeats 4000000 in
set_option maxRecDepth 100000 in
theorem t_X7_derives_B97 (hC : zC p l s m args meth c cX7_derives 4 RX7 D cA B0) (hr : meth.sig.returnType = (Option.none : Option Jvm.ClassFile.FieldType)) {Γ : zSh} {x0 : Nat} {x1 : Int32} {x2 : Int32} {x3 : Int32} {σ : zSt} {out : ((Int32 × zSt) ⊕ (zSt))} (hf : f_X7_derives_B97 Γ x0 x1 x2 x3 σ = some out) {H : Heap} {locs : List Loc} {ls : Array Slot} (hw : zO D cA B0 Γ σ Z s.heap H locs) (hl : lv_has ls 4 [(0, .ref x0), (1, .int x1), (2, .int x2), (3, .int x3)])
    (kI : ∀ (z3 : Int32) (σ2 : zSt), out = .inl (z3, σ2) → ∀ (H : Heap) (locs : List Loc) (ls : Array Slot), zO D cA B0 Γ σ2 Z s.heap H locs → lv_has ls 4 [(0, .ref x0), (1, .int x1), (2, .int x2), (3, .int z3)] → W p l e rm_X7_derives s m args below meth c H locs 0 0 Q (F0 m 97 ls []))
    (kE : ∀ (σ2 : zSt), out = .inr σ2 → ∀ (H : Heap) (locs : List Loc) (ls : Array Slot), zO D cA B0 Γ σ2 Z s.heap H locs → lv_has ls 4 [] → W p l e rm_X7_derives s m args below meth c H locs 0 0 Q (F0 m 131 ls [])) :
    W p l e rm_X7_derives s m args below meth c H locs 0 0 Q (F0 m 97 ls []) := by
  have hx := hC.1
  have hb := hC.2.1
  unfold f_X7_derives_B97 at hf
  refine lv_iload_n hx hb dX7_derives_97 rfl (lv_at hl 3 rfl) ?_
  refine lv_aload_n hx hb dX7_derives_98 rfl (lv_at hl 0 rfl) ?_
  refine lv_iload_n hx hb dX7_derives_99 rfl (lv_at hl 1 rfl) ?_
  obtain ⟨ho, hf⟩ := chk_inv hf
  obtain ⟨r6, σ5, hk, hf⟩ := bnd_inv hf
  refine z_callV (As := [.int x1]) (rest := [.int x3]) (m_X7_many hC.2.2.2.2.2.2.2.2 hk) hC hw wd_X7_many lkM_X7_78 (isO_sh ho) rfl rfl ⟨rfl, rfl⟩ ⟨(Nat.le_of_ble_eq_true rfl), (Nat.le_of_ble_eq_true rfl)⟩ hl.1 rfl (Nat.le_of_ble_eq_true rfl) dX7_derives_100 ⟨(Nat.le_of_ble_eq_true rfl), (Nat.le_of_ble_eq_true rfl)⟩ (fun H locs hw => ?_)
  refine lv_icmp_ge (tgt := 131) hx hb dX7_derives_103 (by decide) (fun hc => ?_) (fun hc => ?_)
  · rw [if_pos hc] at hf
    exact kE  σ5 (Option.some.inj hf).symm _ _ _ hw (lv_sub hl [] rfl)
  · rw [if_neg hc] at hf
    refine lv_aload_n hx hb dX7_derives_106 rfl (lv_at hl 0 rfl) ?_
    obtain ⟨v7, hg, hf⟩ := gfR_inv hf
    refine r_gfR hC hw hg clX7 (Nat.le_of_ble_eq_true rfl) lkF_X7_7 rfl dX7_derives_107 ?_
    refine lv_iconst (v := 5) hx hb dX7_derives_110 (by decide) ?_
    refine lv_iload_n hx hb dX7_derives_111 rfl (lv_at hl 3 rfl) ?_
    obtain ⟨r9, σ8, hk, hf⟩ := bnd_inv hf
    refine z_callS (As := [.int 5, .int x3]) (rest := [.ref v7]) (m_X7_initialAt hC.2.2.2.2.2.2.2.2 hk) hC hw wd_X7_initialAt lkM_X7_82 rfl ⟨rfl, rfl⟩ ⟨(Nat.le_of_ble_eq_true rfl), (Nat.le_of_ble_eq_true rfl)⟩ hl.1 rfl (Nat.le_of_ble_eq_true rfl) dX7_derives_112 ⟨(Nat.le_of_ble_eq_true rfl), (Nat.le_of_ble_eq_true rfl)⟩ (fun H locs hw => ?_)
    refine lv_aload_n hx hb dX7_derives_115 rfl (lv_at hl 0 rfl) ?_
    refine lv_iload_n hx hb dX7_derives_116 rfl (lv_at hl 1 rfl) ?_
    refine lv_iload_n hx hb dX7_derives_117 rfl (lv_at hl 2 rfl) ?_
    refine lv_iconst (v := 3) hx hb dX7_derives_118 (by decide) ?_
    refine lv_isub hx hb dX7_derives_119 ?_
    refine lv_iload_n hx hb dX7_derives_120 rfl (lv_at hl 3 rfl) ?_
    obtain ⟨ho, hf⟩ := chk_inv hf
    obtain ⟨r11, σ10, hk, hf⟩ := bnd_inv hf
    refine z_callV (As := [.int x1, .int (x2 - 3), .int x3]) (rest := [.int r9, .ref v7]) (m_X7_into hC.2.2.2.2.2.2.2.2 hk) hC hw wd_X7_into lkM_X7_212 (isO_sh ho) rfl rfl ⟨rfl, rfl⟩ ⟨(Nat.le_of_ble_eq_true rfl), (Nat.le_of_ble_eq_true rfl)⟩ hl.1 rfl (Nat.le_of_ble_eq_true rfl) dX7_derives_121 ⟨(Nat.le_of_ble_eq_true rfl), (Nat.le_of_ble_eq_true rfl)⟩ (fun H locs hw => ?_)
    obtain ⟨σ12, hg, hf⟩ := stI_inv hf
    refine r_stI hC hw hg dX7_derives_124 (fun H locs hw => ?_)
    refine lv_iinc (v := (x3 + 1)) (lv' := [(3, .int (x3 + 1)), (0, .ref x0), (1, .int x1), (2, .int x2)]) hx hb dX7_derives_125 hl (k := 3) rfl rfl (Nat.le_of_ble_eq_true rfl) rfl (fun ls hl => ?_)
    refine lv_goto (tgt := 97) hx hb dX7_derives_128 (by decide) ?_
    exact kI (x3 + 1) σ12 (Option.some.inj hf).symm _ _ _ hw (lv_sub hl [1, 2, 3, 0] rfl)
set_option maxHeartbeats 4000000 in
theorem l_X7_derives_B97 (hC : zC p l s m args meth c cX7_derives 4 RX7 D cA B0) (hr : meth.sig.returnType = (Option.none : Option Jvm.ClassFile.FieldType)) {Γ : zSh} {x0 : Nat} {x1 : Int32} {x2 : Int32} {σ2 : zSt} (kE : ∀ (H : Heap) (locs : List Loc) (ls : Array Slot), zO D cA B0 Γ σ2 Z s.heap H locs → lv_has ls 4 [] → W p l e rm_X7_derives s m args below meth c H locs 0 0 Q (F0 m 131 ls [])) :
    ∀ (n : Nat) (x3 : Int32) (σ : zSt), loopM (fun q => f_X7_derives_B97 Γ x0 x1 x2 q.1 q.2) n (x3, σ) = some σ2 → ∀ (H : Heap) (locs : List Loc) (ls : Array Slot), zO D cA B0 Γ σ Z s.heap H locs → lv_has ls 4 [(0, .ref x0), (1, .int x1), (2, .int x2), (3, .int x3)] → W p l e rm_X7_derives s m args below meth c H locs 0 0 Q (F0 m 97 ls []) := by
  intro n
  induction n with
  | zero => intro x3 σ h; exact absurd h (by simp [loopM])
  | succ n ih =>
    intro x3 σ h H locs ls hw hl
    obtain ⟨r, h1, h2, h3⟩ := loopM_inv h
    exact t_X7_derives_B97 hC hr h1 hw hl (fun z3 s2 e H locs ls hw hl => ih z3 s2 (h2 _ e) H locs ls hw hl) (fun s2 e H locs ls hw hl => by cases h3 _ e; exact kE H locs ls hw hl)
set_option maxHeartbeats 4000000 in
set_option maxRecDepth 100000 in
theorem t_X7_derives_L89 (hC : zC p l s m args meth c cX7_derives 4 RX7 D cA B0) (hr : meth.sig.returnType = (Option.none : Option Jvm.ClassFile.FieldType)) {Γ : zSh} {x0 : Nat} {x1 : Int32} {x2 : Int32} {σ : zSt} {out : (Unit × zSt)} (hf : f_X7_derives_L89 Γ x0 x1 x2 σ = some out) {H : Heap} {locs : List Loc} {ls : Array Slot} (hw : zO D cA B0 Γ σ Z s.heap H locs) (hl : lv_has ls 4 [(0, .ref x0), (1, .int x1), (2, .int x2)]) :
    W p l e rm_X7_derives s m args below meth c H locs 0 0 (MQ below (zQ1 D cA B0 (none) Γ out.2 Z) args s 0 0 (FR B0)) (F0 m 89 ls []) := by
  have hx := hC.1
  have hb := hC.2.1
  unfold f_X7_derives_L89 at hf
  refine lv_aload_n hx hb dX7_derives_89 rfl (lv_at hl 0 rfl) ?_
  refine lv_iload_n hx hb dX7_derives_90 rfl (lv_at hl 1 rfl) ?_
  refine lv_iconst (v := 5) hx hb dX7_derives_91 (by decide) ?_
  obtain ⟨ho, hf⟩ := chk_inv hf
  obtain ⟨_, σ4, hk, hf⟩ := bnd_inv hf
  refine z_callV (As := [.int x1, .int 5]) (rest := []) (m_X7_copies hC.2.2.2.2.2.2.2.2 hk) hC hw wd_X7_copies lkM_X7_230 (isO_sh ho) rfl rfl ⟨rfl, rfl⟩ ⟨(Nat.le_of_ble_eq_true rfl), (Nat.le_of_ble_eq_true rfl)⟩ hl.1 rfl (Nat.le_of_ble_eq_true rfl) dX7_derives_92 ⟨(Nat.le_of_ble_eq_true rfl), (Nat.le_of_ble_eq_true rfl)⟩ (fun H locs hw => ?_)
  refine lv_iconst (v := 0) hx hb dX7_derives_95 (by decide) ?_
  refine lv_istore_n (lv' := [(3, .int 0), (0, .ref x0), (1, .int x1), (2, .int x2)]) hx hb dX7_derives_96 rfl hl (Nat.le_of_ble_eq_true rfl) rfl (fun ls hl => ?_)
  obtain ⟨σ13, hk, hf⟩ := lb0_inv hf
  refine l_X7_derives_B97 hC hr (fun H locs ls hw hl => ?_) FUEL 0 σ4 hk _ _ _ hw (lv_sub hl [1, 2, 3, 0] rfl)
  exact t_X7_derives_L131 hC hr hf hw (lv_sub hl [] rfl)
set_option maxHeartbeats 4000000 in
set_option maxRecDepth 100000 in
theorem m_X7_derives (h9 : l.stackTraces = false) {Γ : zSh} {a0 : Nat} {a1 : Int32} {a2 : Int32} {σ : zSt} {r : Unit} {σ2 : zSt} (hf : f_X7_derives Γ a0 a1 a2 σ = some (r, σ2)) : Met l yX7_derives (wq yX7_derives cX7_derives 4 (Option.none : Option Jvm.ClassFile.FieldType)) rm_X7_derives (zQ0 D cA B0 [.ref a0, .int a1, .int a2] Γ σ Z) (zQ1 D cA B0 (none) Γ σ2 Z) 0 0 (FR B0) := by
  refine z_ofW h9 (by decide) (Nat.le_of_ble_eq_true rfl) ?_
  intro p e s m args below meth c ls hC hr _ hw hl
  have hx := hC.1
  have hb := hC.2.1
  have hl : lv_has ls 4 [(0, .ref a0), (1, .int a1), (2, .int a2)] := hl
  unfold f_X7_derives at hf
  refine lv_iload_n hx hb dX7_derives_0 rfl (lv_at hl 2 rfl) ?_
  by_cases h1_0 : a2 = 0
  · rw [if_pos h1_0] at hf
    refine lv_tableIn (tgt := 44) hx hb dX7_derives_1 (by rw [h1_0]; decide) (by rw [h1_0]; decide) (by rw [h1_0]; rfl) (by decide) ?_
    refine lv_aload_n hx hb dX7_derives_44 rfl (lv_at hl 0 rfl) ?_
    refine lv_iload_n hx hb dX7_derives_45 rfl (lv_at hl 1 rfl) ?_
    refine lv_iconst (v := 5) hx hb dX7_derives_46 (by decide) ?_
    obtain ⟨ho, hf⟩ := chk_inv hf
    obtain ⟨_, σ1, hk, hf⟩ := bnd_inv hf
    refine z_callV (As := [.int a1, .int 5]) (rest := []) (m_X7_copies hC.2.2.2.2.2.2.2.2 hk) hC hw wd_X7_copies lkM_X7_230 (isO_sh ho) rfl rfl ⟨rfl, rfl⟩ ⟨(Nat.le_of_ble_eq_true rfl), (Nat.le_of_ble_eq_true rfl)⟩ hl.1 rfl (Nat.le_of_ble_eq_true rfl) dX7_derives_47 ⟨(Nat.le_of_ble_eq_true rfl), (Nat.le_of_ble_eq_true rfl)⟩ (fun H locs hw => ?_)
    refine lv_goto (tgt := 131) hx hb dX7_derives_50 (by decide) ?_
    exact t_X7_derives_L131 hC hr hf hw (lv_sub hl [] rfl)
  · rw [if_neg h1_0] at hf
    by_cases h1_1 : a2 = 1
    · rw [if_pos h1_1] at hf
      refine lv_tableIn (tgt := 53) hx hb dX7_derives_1 (by rw [h1_1]; decide) (by rw [h1_1]; decide) (by rw [h1_1]; rfl) (by decide) ?_
      refine lv_aload_n hx hb dX7_derives_53 rfl (lv_at hl 0 rfl) ?_
      refine lv_iload_n hx hb dX7_derives_54 rfl (lv_at hl 1 rfl) ?_
      refine lv_iconst (v := 5) hx hb dX7_derives_55 (by decide) ?_
      obtain ⟨ho, hf⟩ := chk_inv hf
      obtain ⟨_, σ2, hk, hf⟩ := bnd_inv hf
      refine z_callV (As := [.int a1, .int 5]) (rest := []) (m_X7_turns hC.2.2.2.2.2.2.2.2 hk) hC hw wd_X7_turns lkM_X7_195 (isO_sh ho) rfl rfl ⟨rfl, rfl⟩ ⟨(Nat.le_of_ble_eq_true rfl), (Nat.le_of_ble_eq_true rfl)⟩ hl.1 rfl (Nat.le_of_ble_eq_true rfl) dX7_derives_56 ⟨(Nat.le_of_ble_eq_true rfl), (Nat.le_of_ble_eq_true rfl)⟩ (fun H locs hw => ?_)
      refine lv_goto (tgt := 131) hx hb dX7_derives_59 (by decide) ?_
      exact t_X7_derives_L131 hC hr hf hw (lv_sub hl [] rfl)
    · rw [if_neg h1_1] at hf
      by_cases h1_2 : a2 = 2
      · rw [if_pos h1_2] at hf
        refine lv_tableIn (tgt := 62) hx hb dX7_derives_1 (by rw [h1_2]; decide) (by rw [h1_2]; decide) (by rw [h1_2]; rfl) (by decide) ?_
        refine lv_aload_n hx hb dX7_derives_62 rfl (lv_at hl 0 rfl) ?_
        refine lv_iload_n hx hb dX7_derives_63 rfl (lv_at hl 1 rfl) ?_
        refine lv_iconst (v := 5) hx hb dX7_derives_64 (by decide) ?_
        obtain ⟨ho, hf⟩ := chk_inv hf
        obtain ⟨_, σ3, hk, hf⟩ := bnd_inv hf
        refine z_callV (As := [.int a1, .int 5]) (rest := []) (m_X7_stars hC.2.2.2.2.2.2.2.2 hk) hC hw wd_X7_stars lkM_X7_233 (isO_sh ho) rfl rfl ⟨rfl, rfl⟩ ⟨(Nat.le_of_ble_eq_true rfl), (Nat.le_of_ble_eq_true rfl)⟩ hl.1 rfl (Nat.le_of_ble_eq_true rfl) dX7_derives_65 ⟨(Nat.le_of_ble_eq_true rfl), (Nat.le_of_ble_eq_true rfl)⟩ (fun H locs hw => ?_)
        refine lv_goto (tgt := 131) hx hb dX7_derives_68 (by decide) ?_
        exact t_X7_derives_L131 hC hr hf hw (lv_sub hl [] rfl)
      · rw [if_neg h1_2] at hf
        by_cases h1_3 : a2 = 3
        · rw [if_pos h1_3] at hf
          refine lv_tableIn (tgt := 89) hx hb dX7_derives_1 (by rw [h1_3]; decide) (by rw [h1_3]; decide) (by rw [h1_3]; rfl) (by decide) ?_
          exact t_X7_derives_L89 hC hr hf hw (lv_sub hl [0, 1, 2] rfl)
        · rw [if_neg h1_3] at hf
          by_cases h1_4 : a2 = 4
          · rw [if_pos h1_4] at hf
            refine lv_tableIn (tgt := 89) hx hb dX7_derives_1 (by rw [h1_4]; decide) (by rw [h1_4]; decide) (by rw [h1_4]; rfl) (by decide) ?_
            exact t_X7_derives_L89 hC hr hf hw (lv_sub hl [0, 1, 2] rfl)
          · rw [if_neg h1_4] at hf
            by_cases h1_5 : a2 = 5
            · rw [if_pos h1_5] at hf
              refine lv_tableIn (tgt := 71) hx hb dX7_derives_1 (by rw [h1_5]; decide) (by rw [h1_5]; decide) (by rw [h1_5]; rfl) (by decide) ?_
              refine lv_aload_n hx hb dX7_derives_71 rfl (lv_at hl 0 rfl) ?_
              refine lv_iload_n hx hb dX7_derives_72 rfl (lv_at hl 1 rfl) ?_
              refine lv_iconst (v := 5) hx hb dX7_derives_73 (by decide) ?_
              obtain ⟨ho, hf⟩ := chk_inv hf
              obtain ⟨_, σ14, hk, hf⟩ := bnd_inv hf
              refine z_callV (As := [.int a1, .int 5]) (rest := []) (m_X7_forwards hC.2.2.2.2.2.2.2.2 hk) hC hw wd_X7_forwards lkM_X7_192 (isO_sh ho) rfl rfl ⟨rfl, rfl⟩ ⟨(Nat.le_of_ble_eq_true rfl), (Nat.le_of_ble_eq_true rfl)⟩ hl.1 rfl (Nat.le_of_ble_eq_true rfl) dX7_derives_74 ⟨(Nat.le_of_ble_eq_true rfl), (Nat.le_of_ble_eq_true rfl)⟩ (fun H locs hw => ?_)
              refine lv_goto (tgt := 131) hx hb dX7_derives_77 (by decide) ?_
              exact t_X7_derives_L131 hC hr hf hw (lv_sub hl [] rfl)
            · rw [if_neg h1_5] at hf
              by_cases h1_6 : a2 = 6
              · rw [if_pos h1_6] at hf
                refine lv_tableIn (tgt := 80) hx hb dX7_derives_1 (by rw [h1_6]; decide) (by rw [h1_6]; decide) (by rw [h1_6]; rfl) (by decide) ?_
                refine lv_aload_n hx hb dX7_derives_80 rfl (lv_at hl 0 rfl) ?_
                refine lv_iload_n hx hb dX7_derives_81 rfl (lv_at hl 1 rfl) ?_
                refine lv_iconst (v := 5) hx hb dX7_derives_82 (by decide) ?_
                obtain ⟨ho, hf⟩ := chk_inv hf
                obtain ⟨_, σ15, hk, hf⟩ := bnd_inv hf
                refine z_callV (As := [.int a1, .int 5]) (rest := []) (m_X7_minimizes hC.2.2.2.2.2.2.2.2 hk) hC hw wd_X7_minimizes lkM_X7_198 (isO_sh ho) rfl rfl ⟨rfl, rfl⟩ ⟨(Nat.le_of_ble_eq_true rfl), (Nat.le_of_ble_eq_true rfl)⟩ hl.1 rfl (Nat.le_of_ble_eq_true rfl) dX7_derives_83 ⟨(Nat.le_of_ble_eq_true rfl), (Nat.le_of_ble_eq_true rfl)⟩ (fun H locs hw => ?_)
                refine lv_goto (tgt := 131) hx hb dX7_derives_86 (by decide) ?_
                exact t_X7_derives_L131 hC hr hf hw (lv_sub hl [] rfl)
              · rw [if_neg h1_6] at hf
                refine lv_tableOut (tgt := 89) hx hb dX7_derives_1 (by have := tsw0_6 h1_0 h1_1 h1_2 h1_3 h1_4 h1_5 h1_6; omega) (by decide) ?_
                exact t_X7_derives_L89 hC hr hf hw (lv_sub hl [0, 1, 2] rfl)
set_option maxHeartbeats 4000000 in
set_option maxRecDepth 100000 in
theorem t_X7_derive_L56 (hC : zC p l s m args meth c cX7_derive 5 RX7 D cA B0) (hr : meth.sig.returnType = (Option.some FieldType.int)) {Γ : zSh} {x0 : Nat} {x1 : Int32} {x2 : Int32} {x3 : Int32} {s0 : Int32} {s1 : Int32} {s2 : Int32} {s3 : Nat} {σ : zSt} {out : (Int32 × zSt)} (hf : f_X7_derive_L56 Γ x0 x1 x2 x3 s0 s1 s2 s3 σ = some out) {H : Heap} {locs : List Loc} {ls : Array Slot} (hw : zO D cA B0 Γ σ Z s.heap H locs) (hl : lv_has ls 5 [(0, .ref x0), (1, .int x1), (2, .int x2), (3, .int x3)]) :
    W p l e rm_X7_derive s m args below meth c H locs 0 0 (MQ below (zQ1 D cA B0 (some (.int out.1)) Γ out.2 Z) args s 0 0 (FR B0)) (F0 m 56 ls [.int s0, .int s1, .int s2, .ref s3]) := by
  have hx := hC.1
  have hb := hC.2.1
  unfold f_X7_derive_L56 at hf
  obtain ⟨ho, hf⟩ := chk_inv hf
  obtain ⟨r6, σ5, hk, hf⟩ := bnd_inv hf
  refine z_callV (As := [.int s2, .int s1, .int s0]) (rest := []) (m_X7_goes hC.2.2.2.2.2.2.2.2 hk) hC hw wd_X7_goes lkM_X7_94 (isO_sh ho) rfl rfl ⟨rfl, rfl⟩ ⟨(Nat.le_of_ble_eq_true rfl), (Nat.le_of_ble_eq_true rfl)⟩ hl.1 rfl (Nat.le_of_ble_eq_true rfl) dX7_derive_56 ⟨(Nat.le_of_ble_eq_true rfl), (Nat.le_of_ble_eq_true rfl)⟩ (fun H locs hw => ?_)
  refine lv_if_ne (tgt := 64) hx hb dX7_derive_59 (by decide) (fun hc => ?_) (fun hc => ?_)
  · rw [if_neg hc] at hf
    refine lv_aload_n hx hb dX7_derive_64 rfl (lv_at hl 0 rfl) ?_
    obtain ⟨ho, hf⟩ := chk_inv hf
    obtain ⟨_, σ7, hk, hf⟩ := bnd_inv hf
    refine z_callV (As := []) (rest := []) (m_X7_save hC.2.2.2.2.2.2.2.2 hk) hC hw wd_X7_save lkM_X7_98 (isO_sh ho) rfl rfl ⟨rfl, rfl⟩ ⟨(Nat.le_of_ble_eq_true rfl), (Nat.le_of_ble_eq_true rfl)⟩ hl.1 rfl (Nat.le_of_ble_eq_true rfl) dX7_derive_65 ⟨(Nat.le_of_ble_eq_true rfl), (Nat.le_of_ble_eq_true rfl)⟩ (fun H locs hw => ?_)
    refine lv_aload_n hx hb dX7_derive_68 rfl (lv_at hl 0 rfl) ?_
    refine lv_iload_n hx hb dX7_derive_69 rfl (lv_at hl 2 rfl) ?_
    refine lv_iload_n hx hb dX7_derive_70 rfl (lv_at hl 3 rfl) ?_
    obtain ⟨ho, hf⟩ := chk_inv hf
    obtain ⟨_, σ8, hk, hf⟩ := bnd_inv hf
    refine z_callV (As := [.int x2, .int x3]) (rest := []) (m_X7_derives hC.2.2.2.2.2.2.2.2 hk) hC hw wd_X7_derives lkM_X7_241 (isO_sh ho) rfl rfl ⟨rfl, rfl⟩ ⟨(Nat.le_of_ble_eq_true rfl), (Nat.le_of_ble_eq_true rfl)⟩ hl.1 rfl (Nat.le_of_ble_eq_true rfl) dX7_derive_71 ⟨(Nat.le_of_ble_eq_true rfl), (Nat.le_of_ble_eq_true rfl)⟩ (fun H locs hw => ?_)
    refine lv_aload_n hx hb dX7_derive_74 rfl (lv_at hl 0 rfl) ?_
    refine lv_iconst (v := 5) hx hb dX7_derive_75 (by decide) ?_
    refine lv_iload_n hx hb dX7_derive_76 rfl (lv_at hl 1 rfl) ?_
    obtain ⟨ho, hf⟩ := chk_inv hf
    obtain ⟨_, σ9, hk, hf⟩ := bnd_inv hf
    refine z_callV (As := [.int 5, .int x1]) (rest := []) (m_X7_copies hC.2.2.2.2.2.2.2.2 hk) hC hw wd_X7_copies lkM_X7_230 (isO_sh ho) rfl rfl ⟨rfl, rfl⟩ ⟨(Nat.le_of_ble_eq_true rfl), (Nat.le_of_ble_eq_true rfl)⟩ hl.1 rfl (Nat.le_of_ble_eq_true rfl) dX7_derive_77 ⟨(Nat.le_of_ble_eq_true rfl), (Nat.le_of_ble_eq_true rfl)⟩ (fun H locs hw => ?_)
    refine lv_aload_n hx hb dX7_derive_80 rfl (lv_at hl 0 rfl) ?_
    refine lv_iload_n hx hb dX7_derive_81 rfl (lv_at hl 1 rfl) ?_
    obtain ⟨ho, hf⟩ := chk_inv hf
    obtain ⟨r11, σ10, hk, hf⟩ := bnd_inv hf
    refine z_callV (As := [.int x1]) (rest := []) (m_X7_many hC.2.2.2.2.2.2.2.2 hk) hC hw wd_X7_many lkM_X7_78 (isO_sh ho) rfl rfl ⟨rfl, rfl⟩ ⟨(Nat.le_of_ble_eq_true rfl), (Nat.le_of_ble_eq_true rfl)⟩ hl.1 rfl (Nat.le_of_ble_eq_true rfl) dX7_derive_82 ⟨(Nat.le_of_ble_eq_true rfl), (Nat.le_of_ble_eq_true rfl)⟩ (fun H locs hw => ?_)
    first | (obtain ⟨rfl, rfl⟩ := sp_inv hf) | (obtain rfl := Option.some.inj hf)
    exact W.iret hx hb hr (z_ret hw rfl) hw.2.2.2.2.2 dX7_derive_85 hC.2.2.2.2.2.1
  · rw [if_pos hc] at hf
    refine lv_iconst (v := 0) hx hb dX7_derive_62 (by decide) ?_
    first | (obtain ⟨rfl, rfl⟩ := sp_inv hf) | (obtain rfl := Option.some.inj hf)
    exact W.iret hx hb hr (z_ret hw rfl) hw.2.2.2.2.2 dX7_derive_63 hC.2.2.2.2.2.1
set_option maxHeartbeats 4000000 in
set_option maxRecDepth 100000 in
theorem t_X7_derive_L55 (hC : zC p l s m args meth c cX7_derive 5 RX7 D cA B0) (hr : meth.sig.returnType = (Option.some FieldType.int)) {Γ : zSh} {x0 : Nat} {x1 : Int32} {x2 : Int32} {x3 : Int32} {s0 : Int32} {s1 : Int32} {s2 : Nat} {σ : zSt} {out : (Int32 × zSt)} (hf : f_X7_derive_L55 Γ x0 x1 x2 x3 s0 s1 s2 σ = some out) {H : Heap} {locs : List Loc} {ls : Array Slot} (hw : zO D cA B0 Γ σ Z s.heap H locs) (hl : lv_has ls 5 [(0, .ref x0), (1, .int x1), (2, .int x2), (3, .int x3)]) :
    W p l e rm_X7_derive s m args below meth c H locs 0 0 (MQ below (zQ1 D cA B0 (some (.int out.1)) Γ out.2 Z) args s 0 0 (FR B0)) (F0 m 55 ls [.int s0, .int s1, .ref s2]) := by
  have hx := hC.1
  have hb := hC.2.1
  unfold f_X7_derive_L55 at hf
  refine lv_iconst (v := 0) hx hb dX7_derive_55 (by decide) ?_
  exact t_X7_derive_L56 hC hr hf hw (lv_sub hl [0, 1, 2, 3] rfl)
set_option maxHeartbeats 4000000 in
set_option maxRecDepth 100000 in
theorem t_X7_derive_L51 (hC : zC p l s m args meth c cX7_derive 5 RX7 D cA B0) (hr : meth.sig.returnType = (Option.some FieldType.int)) {Γ : zSh} {x0 : Nat} {x1 : Int32} {x2 : Int32} {x3 : Int32} {s0 : Int32} {s1 : Int32} {s2 : Nat} {σ : zSt} {out : (Int32 × zSt)} (hf : f_X7_derive_L51 Γ x0 x1 x2 x3 s0 s1 s2 σ = some out) {H : Heap} {locs : List Loc} {ls : Array Slot} (hw : zO D cA B0 Γ σ Z s.heap H locs) (hl : lv_has ls 5 [(0, .ref x0), (1, .int x1), (2, .int x2), (3, .int x3)]) :
    W p l e rm_X7_derive s m args below meth c H locs 0 0 (MQ below (zQ1 D cA B0 (some (.int out.1)) Γ out.2 Z) args s 0 0 (FR B0)) (F0 m 51 ls [.int s0, .int s1, .ref s2]) := by
  have hx := hC.1
  have hb := hC.2.1
  unfold f_X7_derive_L51 at hf
  refine lv_iconst (v := 1) hx hb dX7_derive_51 (by decide) ?_
  refine lv_goto (tgt := 56) hx hb dX7_derive_52 (by decide) ?_
  exact t_X7_derive_L56 hC hr hf hw (lv_sub hl [0, 1, 2, 3] rfl)
set_option maxHeartbeats 4000000 in
set_option maxRecDepth 100000 in
theorem t_X7_derive_L19 (hC : zC p l s m args meth c cX7_derive 5 RX7 D cA B0) (hr : meth.sig.returnType = (Option.some FieldType.int)) {Γ : zSh} {x0 : Nat} {x1 : Int32} {x2 : Int32} {x3 : Int32} {s0 : Int32} {σ : zSt} {out : (Int32 × zSt)} (hf : f_X7_derive_L19 Γ x0 x1 x2 x3 s0 σ = some out) {H : Heap} {locs : List Loc} {ls : Array Slot} (hw : zO D cA B0 Γ σ Z s.heap H locs) (hl : lv_has ls 5 [(0, .ref x0), (1, .int x1), (2, .int x2), (3, .int x3)]) :
    W p l e rm_X7_derive s m args below meth c H locs 0 0 (MQ below (zQ1 D cA B0 (some (.int out.1)) Γ out.2 Z) args s 0 0 (FR B0)) (F0 m 19 ls [.int s0]) := by
  have hx := hC.1
  have hb := hC.2.1
  unfold f_X7_derive_L19 at hf
  refine lv_istore (lv' := [(4, .int s0), (0, .ref x0), (1, .int x1), (2, .int x2), (3, .int x3)]) hx hb dX7_derive_19 hl (Nat.le_of_ble_eq_true rfl) rfl (fun ls hl => ?_)
  refine lv_aload_n hx hb dX7_derive_21 rfl (lv_at hl 1 rfl) ?_
  refine lv_iload hx hb dX7_derive_22 (lv_at hl 0 rfl) ?_
  refine lv_iload_n hx hb dX7_derive_24 rfl (lv_at hl 4 rfl) ?_
  refine lv_i2l hx hb dX7_derive_25 rfl ?_
  refine lv_lconst (v := 0) hx hb dX7_derive_26 (by decide) ?_
  refine lv_ldc2 (v := 6) hx hb hC.2.2.2.1 (hC.2.2.2.2.1 _ lkJ_X7_236) dX7_derive_27 ?_
  obtain ⟨r4, σ3, hk, hf⟩ := bnd_inv hf
  refine z_callS (As := [.long (x3.toInt64), .long 0, .long 6]) (rest := [.int s0, .ref x0]) (m_X7_in hC.2.2.2.2.2.2.2.2 hk) hC hw wd_X7_in lkM_X7_68 rfl ⟨rfl, rfl⟩ ⟨(Nat.le_of_ble_eq_true rfl), (Nat.le_of_ble_eq_true rfl)⟩ hl.1 rfl (Nat.le_of_ble_eq_true rfl) dX7_derive_30 ⟨(Nat.le_of_ble_eq_true rfl), (Nat.le_of_ble_eq_true rfl)⟩ (fun H locs hw => ?_)
  refine lv_iload hx hb dX7_derive_33 (lv_at hl 0 rfl) ?_
  refine lv_if_eq (tgt := 55) hx hb dX7_derive_35 (by decide) (fun hc => ?_) (fun hc => ?_)
  · rw [if_pos hc] at hf
    exact t_X7_derive_L55 hC hr hf hw (lv_sub hl [1, 2, 3, 4] rfl)
  · rw [if_neg hc] at hf
    refine lv_iload_n hx hb dX7_derive_38 rfl (lv_at hl 4 rfl) ?_
    refine lv_iconst (v := 2) hx hb dX7_derive_39 (by decide) ?_
    refine lv_icmp_ne (tgt := 51) hx hb dX7_derive_40 (by decide) (fun hc => ?_) (fun hc => ?_)
    · rw [if_neg hc] at hf
      exact t_X7_derive_L51 hC hr hf hw (lv_sub hl [1, 2, 3, 4] rfl)
    · rw [if_pos hc] at hf
      refine lv_aload_n hx hb dX7_derive_43 rfl (lv_at hl 1 rfl) ?_
      refine lv_iload_n hx hb dX7_derive_44 rfl (lv_at hl 3 rfl) ?_
      obtain ⟨ho, hf⟩ := chk_inv hf
      obtain ⟨r13, σ12, hk, hf⟩ := bnd_inv hf
      refine z_callV (As := [.int x2]) (rest := [.int r4, .int s0, .ref x0]) (m_X7_canStar hC.2.2.2.2.2.2.2.2 hk) hC hw wd_X7_canStar lkM_X7_238 (isO_sh ho) rfl rfl ⟨rfl, rfl⟩ ⟨(Nat.le_of_ble_eq_true rfl), (Nat.le_of_ble_eq_true rfl)⟩ hl.1 rfl (Nat.le_of_ble_eq_true rfl) dX7_derive_45 ⟨(Nat.le_of_ble_eq_true rfl), (Nat.le_of_ble_eq_true rfl)⟩ (fun H locs hw => ?_)
      refine lv_if_eq (tgt := 55) hx hb dX7_derive_48 (by decide) (fun hc => ?_) (fun hc => ?_)
      · rw [if_pos hc] at hf
        exact t_X7_derive_L55 hC hr hf hw (lv_sub hl [1, 2, 3, 4] rfl)
      · rw [if_neg hc] at hf
        exact t_X7_derive_L51 hC hr hf hw (lv_sub hl [1, 2, 3, 4] rfl)
set_option maxHeartbeats 4000000 in
set_option maxRecDepth 100000 in
theorem t_X7_derive_L18 (hC : zC p l s m args meth c cX7_derive 5 RX7 D cA B0) (hr : meth.sig.returnType = (Option.some FieldType.int)) {Γ : zSh} {x0 : Nat} {x1 : Int32} {x2 : Int32} {x3 : Int32} {σ : zSt} {out : (Int32 × zSt)} (hf : f_X7_derive_L18 Γ x0 x1 x2 x3 σ = some out) {H : Heap} {locs : List Loc} {ls : Array Slot} (hw : zO D cA B0 Γ σ Z s.heap H locs) (hl : lv_has ls 5 [(0, .ref x0), (1, .int x1), (2, .int x2), (3, .int x3)]) :
    W p l e rm_X7_derive s m args below meth c H locs 0 0 (MQ below (zQ1 D cA B0 (some (.int out.1)) Γ out.2 Z) args s 0 0 (FR B0)) (F0 m 18 ls []) := by
  have hx := hC.1
  have hb := hC.2.1
  unfold f_X7_derive_L18 at hf
  refine lv_iconst (v := 0) hx hb dX7_derive_18 (by decide) ?_
  exact t_X7_derive_L19 hC hr hf hw (lv_sub hl [0, 1, 2, 3] rfl)
set_option maxHeartbeats 4000000 in
set_option maxRecDepth 100000 in
theorem m_X7_derive (h9 : l.stackTraces = false) {Γ : zSh} {a0 : Nat} {a1 : Int32} {a2 : Int32} {a3 : Int32} {σ : zSt} {r : Int32} {σ2 : zSt} (hf : f_X7_derive Γ a0 a1 a2 a3 σ = some (r, σ2)) : Met l yX7_derive (wq yX7_derive cX7_derive 5 (Option.some FieldType.int)) rm_X7_derive (zQ0 D cA B0 [.ref a0, .int a1, .int a2, .int a3] Γ σ Z) (zQ1 D cA B0 (some (.int r)) Γ σ2 Z) 0 0 (FR B0) := by
  refine z_ofW h9 (by decide) (Nat.le_of_ble_eq_true rfl) ?_
  intro p e s m args below meth c ls hC hr _ hw hl
  have hx := hC.1
  have hb := hC.2.1
  have hl : lv_has ls 5 [(0, .ref a0), (1, .int a1), (2, .int a2), (3, .int a3)] := hl
  unfold f_X7_derive at hf
  refine lv_iload_n hx hb dX7_derive_0 rfl (lv_at hl 1 rfl) ?_
  obtain ⟨r2, σ1, hk, hf⟩ := bnd_inv hf
  refine z_callS (As := [.int a1]) (rest := []) (m_X7_isSlot hC.2.2.2.2.2.2.2.2 hk) hC hw wd_X7_isSlot lkM_X7_88 rfl ⟨rfl, rfl⟩ ⟨(Nat.le_of_ble_eq_true rfl), (Nat.le_of_ble_eq_true rfl)⟩ hl.1 rfl (Nat.le_of_ble_eq_true rfl) dX7_derive_1 ⟨(Nat.le_of_ble_eq_true rfl), (Nat.le_of_ble_eq_true rfl)⟩ (fun H locs hw => ?_)
  refine lv_if_eq (tgt := 18) hx hb dX7_derive_4 (by decide) (fun hc => ?_) (fun hc => ?_)
  · rw [if_pos hc] at hf
    exact t_X7_derive_L18 hC hr hf hw (lv_sub hl [0, 1, 2, 3] rfl)
  · rw [if_neg hc] at hf
    refine lv_iload_n hx hb dX7_derive_7 rfl (lv_at hl 2 rfl) ?_
    obtain ⟨r15, σ14, hk, hf⟩ := bnd_inv hf
    refine z_callS (As := [.int a2]) (rest := []) (m_X7_isSlot hC.2.2.2.2.2.2.2.2 hk) hC hw wd_X7_isSlot lkM_X7_88 rfl ⟨rfl, rfl⟩ ⟨(Nat.le_of_ble_eq_true rfl), (Nat.le_of_ble_eq_true rfl)⟩ hl.1 rfl (Nat.le_of_ble_eq_true rfl) dX7_derive_8 ⟨(Nat.le_of_ble_eq_true rfl), (Nat.le_of_ble_eq_true rfl)⟩ (fun H locs hw => ?_)
    refine lv_if_eq (tgt := 18) hx hb dX7_derive_11 (by decide) (fun hc => ?_) (fun hc => ?_)
    · rw [if_pos hc] at hf
      exact t_X7_derive_L18 hC hr hf hw (lv_sub hl [0, 1, 2, 3] rfl)
    · rw [if_neg hc] at hf
      refine lv_iconst (v := 1) hx hb dX7_derive_14 (by decide) ?_
      refine lv_goto (tgt := 19) hx hb dX7_derive_15 (by decide) ?_
      exact t_X7_derive_L19 hC hr hf hw (lv_sub hl [0, 1, 2, 3] rfl)
end
