section
variable {p : Program} {l : Launch} {e : Env} {s : State} {m : MethodId} {args : Array Value} {below : List Frame} {meth : Method} {c : Code} {Q : State → Prop} {D : va_G} {cA : Nat → ClassId} {B0 : Nat} {Z : Nat → Prop}
set_option maxHeartbeats 4000000 in
set_option maxRecDepth 100000 in
theorem t_L_law_B23_L1930 (hC : zC p l s m args meth c cL_law 7 RL D cA B0) {C0 S0 : Nat} (h0 : C0 + 8 ≤ 601024 ∧ S0 + 48 ≤ 7293034) {b9 L : Nat} {xs : Nat → Int32} (h9 : va_X b9 L xs s s.heap ∧ b9 < s.heap.size ∧ ¬ FR B0 b9) {Γ : zSh} {x0 : Nat} {x1 : Nat} {x2 : Nat} {x3 : Nat} {x4 : Int32}  {σ : zSt} {out : ((Int32 × zSt) ⊕ ((zSt) ⊕ (Int32 × zSt)))} (hf : f_L_law_B23_L1930 xs L b9 Γ x0 x1 x2 x3 x4 σ = some out) {H : Heap} {locs : List Loc} {ls : Array Slot} (hw : zO D cA B0 Γ σ (ZB B0) s.heap H locs) (hl : lv_has ls 7 [(0, .ref x0), (1, .ref x1), (2, .ref x2), (3, .ref x3), (4, .int x4)])
    (kI : ∀ (z4 : Int32) (σ2 : zSt), out = .inl (z4, σ2) → ∀ (H : Heap) (locs : List Loc) (ls : Array Slot), zO D cA B0 Γ σ2 (ZB B0) s.heap H locs → lv_has ls 7 [(0, .ref x0), (1, .ref x1), (2, .ref x2), (3, .ref x3), (4, .int z4)] → W p l e room_1 s m args below meth c H locs (C0 + 8) (S0 + 48) Q (F0 m 23 ls []))
    (kE : ∀ (σ2 : zSt), out = .inr (.inl σ2) → ∀ (H : Heap) (locs : List Loc) (ls : Array Slot), zO D cA B0 Γ σ2 (ZB B0) s.heap H locs → lv_has ls 7 [] → W p l e room_1 s m args below meth c H locs (C0 + 8) (S0 + 48) Q (F0 m 1936 ls []))
    (kR : ∀ (v : Int32) (σ2 : zSt), out = .inr (.inr (v, σ2)) → isB v = true → ∀ (H : Heap) (locs : List Loc) (ls : Array Slot) (pr : Nat), zO D cA B0 Γ σ2 (ZB B0) s.heap H locs → decode cL_law pr = .ok (.ireturn, 1) → W p l e room_1 s m args below meth c H locs (C0 + 8) (S0 + 48) Q (F0 m pr ls [.int v])) :
    W p l e room_1 s m args below meth c H locs (C0 + 8) (S0 + 48) Q (F0 m 1930 ls []) := by
  have hx := hC.1
  have hb := hC.2.1
  unfold f_L_law_B23_L1930 at hf
  refine lv_iinc (v := (x4 + 6)) (lv' := [(4, .int (x4 + 6)), (0, .ref x0), (1, .ref x1), (2, .ref x2), (3, .ref x3)]) hx hb dL_law_1930 hl (k := 4) rfl rfl (Nat.le_of_ble_eq_true rfl) rfl (fun ls hl => ?_)
  refine lv_goto (tgt := 23) hx hb dL_law_1933 (by decide) ?_
  refine W.widen (k := C0 + 8) (n := S0 + 48) (by omega) (by omega) ?_
  exact kI (x4 + 6) σ (Option.some.inj hf).symm _ _ _ hw (lv_sub hl [1, 2, 3, 4, 0] rfl)
set_option maxHeartbeats 4000000 in
set_option maxRecDepth 100000 in
theorem t_L_law_B23_L225 (hC : zC p l s m args meth c cL_law 7 RL D cA B0) {C0 S0 : Nat} (h0 : C0 + 8 ≤ 601024 ∧ S0 + 48 ≤ 7293034) {b9 L : Nat} {xs : Nat → Int32} (h9 : va_X b9 L xs s s.heap ∧ b9 < s.heap.size ∧ ¬ FR B0 b9) {Γ : zSh} {x0 : Nat} {x1 : Nat} {x2 : Nat} {x3 : Nat} {x4 : Int32}  {σ : zSt} {out : ((Int32 × zSt) ⊕ ((zSt) ⊕ (Int32 × zSt)))} (hf : f_L_law_B23_L225 xs L b9 Γ x0 x1 x2 x3 x4 σ = some out) {H : Heap} {locs : List Loc} {ls : Array Slot} (hw : zO D cA B0 Γ σ (ZB B0) s.heap H locs) (hl : lv_has ls 7 [(0, .ref x0), (1, .ref x1), (2, .ref x2), (3, .ref x3), (4, .int x4)])
    (kI : ∀ (z4 : Int32) (σ2 : zSt), out = .inl (z4, σ2) → ∀ (H : Heap) (locs : List Loc) (ls : Array Slot), zO D cA B0 Γ σ2 (ZB B0) s.heap H locs → lv_has ls 7 [(0, .ref x0), (1, .ref x1), (2, .ref x2), (3, .ref x3), (4, .int z4)] → W p l e room_1 s m args below meth c H locs (C0 + 8) (S0 + 48) Q (F0 m 23 ls []))
    (kE : ∀ (σ2 : zSt), out = .inr (.inl σ2) → ∀ (H : Heap) (locs : List Loc) (ls : Array Slot), zO D cA B0 Γ σ2 (ZB B0) s.heap H locs → lv_has ls 7 [] → W p l e room_1 s m args below meth c H locs (C0 + 8) (S0 + 48) Q (F0 m 1936 ls []))
    (kR : ∀ (v : Int32) (σ2 : zSt), out = .inr (.inr (v, σ2)) → isB v = true → ∀ (H : Heap) (locs : List Loc) (ls : Array Slot) (pr : Nat), zO D cA B0 Γ σ2 (ZB B0) s.heap H locs → decode cL_law pr = .ok (.ireturn, 1) → W p l e room_1 s m args below meth c H locs (C0 + 8) (S0 + 48) Q (F0 m pr ls [.int v])) :
    W p l e room_1 s m args below meth c H locs (C0 + 8) (S0 + 48) Q (F0 m 225 ls []) := by
  have hx := hC.1
  have hb := hC.2.1
  unfold f_L_law_B23_L225 at hf
  refine lv_goto (tgt := 1930) hx hb dL_law_225 (by decide) ?_
  exact t_L_law_B23_L1930 hC h0 h9 hf hw (lv_sub hl [0, 1, 2, 3, 4] rfl) kI kE kR
set_option maxHeartbeats 4000000 in
set_option maxRecDepth 100000 in
theorem t_L_law_B23_L333 (hC : zC p l s m args meth c cL_law 7 RL D cA B0) {C0 S0 : Nat} (h0 : C0 + 8 ≤ 601024 ∧ S0 + 48 ≤ 7293034) {b9 L : Nat} {xs : Nat → Int32} (h9 : va_X b9 L xs s s.heap ∧ b9 < s.heap.size ∧ ¬ FR B0 b9) {Γ : zSh} {x0 : Nat} {x1 : Nat} {x2 : Nat} {x3 : Nat} {x4 : Int32}  {σ : zSt} {out : ((Int32 × zSt) ⊕ ((zSt) ⊕ (Int32 × zSt)))} (hf : f_L_law_B23_L333 xs L b9 Γ x0 x1 x2 x3 x4 σ = some out) {H : Heap} {locs : List Loc} {ls : Array Slot} (hw : zO D cA B0 Γ σ (ZB B0) s.heap H locs) (hl : lv_has ls 7 [(0, .ref x0), (1, .ref x1), (2, .ref x2), (3, .ref x3), (4, .int x4)])
    (kI : ∀ (z4 : Int32) (σ2 : zSt), out = .inl (z4, σ2) → ∀ (H : Heap) (locs : List Loc) (ls : Array Slot), zO D cA B0 Γ σ2 (ZB B0) s.heap H locs → lv_has ls 7 [(0, .ref x0), (1, .ref x1), (2, .ref x2), (3, .ref x3), (4, .int z4)] → W p l e room_1 s m args below meth c H locs (C0 + 8) (S0 + 48) Q (F0 m 23 ls []))
    (kE : ∀ (σ2 : zSt), out = .inr (.inl σ2) → ∀ (H : Heap) (locs : List Loc) (ls : Array Slot), zO D cA B0 Γ σ2 (ZB B0) s.heap H locs → lv_has ls 7 [] → W p l e room_1 s m args below meth c H locs (C0 + 8) (S0 + 48) Q (F0 m 1936 ls []))
    (kR : ∀ (v : Int32) (σ2 : zSt), out = .inr (.inr (v, σ2)) → isB v = true → ∀ (H : Heap) (locs : List Loc) (ls : Array Slot) (pr : Nat), zO D cA B0 Γ σ2 (ZB B0) s.heap H locs → decode cL_law pr = .ok (.ireturn, 1) → W p l e room_1 s m args below meth c H locs (C0 + 8) (S0 + 48) Q (F0 m pr ls [.int v])) :
    W p l e room_1 s m args below meth c H locs (C0 + 8) (S0 + 48) Q (F0 m 333 ls []) := by
  have hx := hC.1
  have hb := hC.2.1
  unfold f_L_law_B23_L333 at hf
  refine lv_goto (tgt := 1930) hx hb dL_law_333 (by decide) ?_
  exact t_L_law_B23_L1930 hC h0 h9 hf hw (lv_sub hl [0, 1, 2, 3, 4] rfl) kI kE kR
set_option maxHeartbeats 4000000 in
set_option maxRecDepth 100000 in
theorem t_L_law_B23_L294 (hC : zC p l s m args meth c cL_law 7 RL D cA B0) {C0 S0 : Nat} (h0 : C0 + 8 ≤ 601024 ∧ S0 + 48 ≤ 7293034) {b9 L : Nat} {xs : Nat → Int32} (h9 : va_X b9 L xs s s.heap ∧ b9 < s.heap.size ∧ ¬ FR B0 b9) {Γ : zSh} {x0 : Nat} {x1 : Nat} {x2 : Nat} {x3 : Nat} {x4 : Int32} {x5 : Int32} {s0 : Int32} {s1 : Int32} {s2 : Int32} {s3 : Nat}  {σ : zSt} {out : ((Int32 × zSt) ⊕ ((zSt) ⊕ (Int32 × zSt)))} (hf : f_L_law_B23_L294 xs L b9 Γ x0 x1 x2 x3 x4 x5 s0 s1 s2 s3 σ = some out) {H : Heap} {locs : List Loc} {ls : Array Slot} (hw : zO D cA B0 Γ σ (ZB B0) s.heap H locs) (hl : lv_has ls 7 [(0, .ref x0), (1, .ref x1), (2, .ref x2), (3, .ref x3), (4, .int x4), (5, .int x5)])
    (kI : ∀ (z4 : Int32) (σ2 : zSt), out = .inl (z4, σ2) → ∀ (H : Heap) (locs : List Loc) (ls : Array Slot), zO D cA B0 Γ σ2 (ZB B0) s.heap H locs → lv_has ls 7 [(0, .ref x0), (1, .ref x1), (2, .ref x2), (3, .ref x3), (4, .int z4)] → W p l e room_1 s m args below meth c H locs (C0 + 8) (S0 + 48) Q (F0 m 23 ls []))
    (kE : ∀ (σ2 : zSt), out = .inr (.inl σ2) → ∀ (H : Heap) (locs : List Loc) (ls : Array Slot), zO D cA B0 Γ σ2 (ZB B0) s.heap H locs → lv_has ls 7 [] → W p l e room_1 s m args below meth c H locs (C0 + 8) (S0 + 48) Q (F0 m 1936 ls []))
    (kR : ∀ (v : Int32) (σ2 : zSt), out = .inr (.inr (v, σ2)) → isB v = true → ∀ (H : Heap) (locs : List Loc) (ls : Array Slot) (pr : Nat), zO D cA B0 Γ σ2 (ZB B0) s.heap H locs → decode cL_law pr = .ok (.ireturn, 1) → W p l e room_1 s m args below meth c H locs (C0 + 8) (S0 + 48) Q (F0 m pr ls [.int v])) :
    W p l e room_1 s m args below meth c H locs (C0 + 8) (S0 + 48) Q (F0 m 294 ls [.int s0, .int s1, .int s2, .ref s3]) := by
  have hx := hC.1
  have hb := hC.2.1
  unfold f_L_law_B23_L294 at hf
  refine lv_aload_n hx hb dL_law_294 rfl (lv_at hl 0 rfl) ?_
  refine lv_iload hx hb dL_law_295 (lv_at hl 4 rfl) ?_
  refine lv_iconst (v := 4) hx hb dL_law_297 (by decide) ?_
  refine lv_iadd hx hb dL_law_298 ?_
  obtain ⟨v23, hg, hf⟩ := scI_inv hf
  refine r_sld hC hw h9 hg dL_law_299 ?_
  obtain ⟨ho, hf⟩ := chk_inv hf
  obtain ⟨r25, σ24, hk, hf⟩ := bnd_inv hf
  refine z_callV (As := [.int s2, .int s1, .int s0, .int v23]) (rest := []) (m_X7_setEnd hC.2.2.2.2.2.2.2.2 hk) hC hw wd_X7_setEnd lkM_L_112 (isO_sh ho) rfl rfl ⟨rfl, rfl⟩ ⟨(Nat.le_of_ble_eq_true rfl), (Nat.le_of_ble_eq_true rfl)⟩ hl.1 rfl (Nat.le_of_ble_eq_true rfl) dL_law_300 ⟨(by show _ ≤ (601024 : Nat); omega), (by show _ ≤ (7293034 : Nat); omega)⟩ (fun H locs hw => ?_)
  refine lv_istore (lv' := [(6, .int r25), (0, .ref x0), (1, .ref x1), (2, .ref x2), (3, .ref x3), (4, .int x4), (5, .int x5)]) hx hb dL_law_303 hl (Nat.le_of_ble_eq_true rfl) rfl (fun ls hl => ?_)
  refine lv_aload_n hx hb dL_law_305 rfl (lv_at hl 3 rfl) ?_
  obtain ⟨ho, hf⟩ := chk_inv hf
  obtain ⟨r27, σ26, hk, hf⟩ := bnd_inv hf
  refine z_callV (As := []) (rest := []) (m_X7_thrown hC.2.2.2.2.2.2.2.2 hk) hC hw wd_X7_thrown lkM_L_106 (isO_sh ho) rfl rfl ⟨rfl, rfl⟩ ⟨(Nat.le_of_ble_eq_true rfl), (Nat.le_of_ble_eq_true rfl)⟩ hl.1 rfl (Nat.le_of_ble_eq_true rfl) dL_law_306 ⟨(by show _ ≤ (601024 : Nat); omega), (by show _ ≤ (7293034 : Nat); omega)⟩ (fun H locs hw => ?_)
  refine lv_iload hx hb dL_law_309 (lv_at hl 6 rfl) ?_
  refine lv_icmp_eq (tgt := 316) hx hb dL_law_311 (by decide) (fun hc => ?_) (fun hc => ?_)
  · rw [if_pos hc] at hf
    refine lv_iload hx hb dL_law_316 (lv_at hl 6 rfl) ?_
    refine lv_if_ne (tgt := 333) hx hb dL_law_318 (by decide) (fun hc => ?_) (fun hc => ?_)
    · rw [if_neg hc] at hf
      exact t_L_law_B23_L333 hC h0 h9 hf hw (lv_sub hl [1, 2, 3, 4, 5] rfl) kI kE kR
    · rw [if_pos hc] at hf
      refine lv_aload_n hx hb dL_law_321 rfl (lv_at hl 4 rfl) ?_
      refine lv_iconst (v := 0) hx hb dL_law_322 (by decide) ?_
      obtain ⟨v28, hg, hf⟩ := ldL_inv hf
      refine r_ldL hC hw hg dL_law_323 ?_
      refine lv_iload hx hb dL_law_324 (lv_at hl 0 rfl) ?_
      refine lv_i2l hx hb dL_law_326 rfl ?_
      refine W.lcmp hx hb dL_law_327 ?_
      refine lv_if_eq (tgt := 333) hx hb dL_law_328 (by decide) (fun hc => ?_) (fun hc => ?_)
      · rw [if_pos hc] at hf
        exact t_L_law_B23_L333 hC h0 h9 hf hw (lv_sub hl [1, 2, 3, 4, 5] rfl) kI kE kR
      · rw [if_neg hc] at hf
        refine lv_iconst (v := 0) hx hb dL_law_331 (by decide) ?_
        obtain ⟨hz, hf⟩ := chk_inv hf
        refine W.widen (k := C0 + 8) (n := S0 + 48) (by omega) (by omega) ?_
        exact kR 0 σ26 (Option.some.inj hf).symm hz _ _ _ 332 hw dL_law_332
  · rw [if_neg hc] at hf
    refine lv_iconst (v := 0) hx hb dL_law_314 (by decide) ?_
    obtain ⟨hz, hf⟩ := chk_inv hf
    refine W.widen (k := C0 + 8) (n := S0 + 48) (by omega) (by omega) ?_
    exact kR 0 σ26 (Option.some.inj hf).symm hz _ _ _ 315 hw dL_law_315
set_option maxHeartbeats 4000000 in
set_option maxRecDepth 100000 in
theorem t_L_law_B23_L255 (hC : zC p l s m args meth c cL_law 7 RL D cA B0) {C0 S0 : Nat} (h0 : C0 + 8 ≤ 601024 ∧ S0 + 48 ≤ 7293034) {b9 L : Nat} {xs : Nat → Int32} (h9 : va_X b9 L xs s s.heap ∧ b9 < s.heap.size ∧ ¬ FR B0 b9) {Γ : zSh} {x0 : Nat} {x1 : Nat} {x2 : Nat} {x3 : Nat} {x4 : Int32} {s0 : Int32} {s1 : Int32} {s2 : Int32} {s3 : Nat}  {σ : zSt} {out : ((Int32 × zSt) ⊕ ((zSt) ⊕ (Int32 × zSt)))} (hf : f_L_law_B23_L255 xs L b9 Γ x0 x1 x2 x3 x4 s0 s1 s2 s3 σ = some out) {H : Heap} {locs : List Loc} {ls : Array Slot} (hw : zO D cA B0 Γ σ (ZB B0) s.heap H locs) (hl : lv_has ls 7 [(0, .ref x0), (1, .ref x1), (2, .ref x2), (3, .ref x3), (4, .int x4)])
    (kI : ∀ (z4 : Int32) (σ2 : zSt), out = .inl (z4, σ2) → ∀ (H : Heap) (locs : List Loc) (ls : Array Slot), zO D cA B0 Γ σ2 (ZB B0) s.heap H locs → lv_has ls 7 [(0, .ref x0), (1, .ref x1), (2, .ref x2), (3, .ref x3), (4, .int z4)] → W p l e room_1 s m args below meth c H locs (C0 + 8) (S0 + 48) Q (F0 m 23 ls []))
    (kE : ∀ (σ2 : zSt), out = .inr (.inl σ2) → ∀ (H : Heap) (locs : List Loc) (ls : Array Slot), zO D cA B0 Γ σ2 (ZB B0) s.heap H locs → lv_has ls 7 [] → W p l e room_1 s m args below meth c H locs (C0 + 8) (S0 + 48) Q (F0 m 1936 ls []))
    (kR : ∀ (v : Int32) (σ2 : zSt), out = .inr (.inr (v, σ2)) → isB v = true → ∀ (H : Heap) (locs : List Loc) (ls : Array Slot) (pr : Nat), zO D cA B0 Γ σ2 (ZB B0) s.heap H locs → decode cL_law pr = .ok (.ireturn, 1) → W p l e room_1 s m args below meth c H locs (C0 + 8) (S0 + 48) Q (F0 m pr ls [.int v])) :
    W p l e room_1 s m args below meth c H locs (C0 + 0) (S0 + 0) Q (F0 m 255 ls [.int s0, .int s1, .int s2, .ref s3]) := by
  have hx := hC.1
  have hb := hC.2.1
  unfold f_L_law_B23_L255 at hf
  refine lv_aload_n hx hb dL_law_255 rfl (lv_at hl 0 rfl) ?_
  refine lv_iload hx hb dL_law_256 (lv_at hl 4 rfl) ?_
  refine lv_iconst (v := 4) hx hb dL_law_258 (by decide) ?_
  refine lv_iadd hx hb dL_law_259 ?_
  obtain ⟨v17, hg, hf⟩ := scI_inv hf
  refine r_sld hC hw h9 hg dL_law_260 ?_
  refine lv_aload_n hx hb dL_law_261 rfl (lv_at hl 3 rfl) ?_
  obtain ⟨r19, σ18, hk, hf⟩ := bnd_inv hf
  refine z_callSW (As := [.ref s3, .int s2, .int s1, .int s0, .int v17, .ref x3]) (rest := []) (m_L_setEnd hC.2.2.2.2.2.2.2.2 hk) hC hw wd_L_setEnd lkM_L_109 rfl ⟨rfl, rfl⟩ ⟨(Nat.le_of_ble_eq_true rfl), (Nat.le_of_ble_eq_true rfl)⟩ hl.1 rfl (Nat.le_of_ble_eq_true rfl) dL_law_262 ⟨(by show _ ≤ (601024 : Nat); omega), (by show _ ≤ (7293034 : Nat); omega)⟩ (fun H locs hw => ?_)
  refine lv_istore (lv' := [(5, .int r19), (0, .ref x0), (1, .ref x1), (2, .ref x2), (3, .ref x3), (4, .int x4)]) hx hb dL_law_265 hl (Nat.le_of_ble_eq_true rfl) rfl (fun ls hl => ?_)
  refine lv_aload_n hx hb dL_law_267 rfl (lv_at hl 3 rfl) ?_
  refine lv_aload_n hx hb dL_law_268 rfl (lv_at hl 1 rfl) ?_
  refine lv_iload hx hb dL_law_269 (lv_at hl 5 rfl) ?_
  refine lv_iconst (v := 1) hx hb dL_law_271 (by decide) ?_
  refine lv_iadd hx hb dL_law_272 ?_
  obtain ⟨v20, hg, hf⟩ := scI_inv hf
  refine r_sld hC hw h9 hg dL_law_273 ?_
  refine lv_aload_n hx hb dL_law_274 rfl (lv_at hl 1 rfl) ?_
  refine lv_iload hx hb dL_law_275 (lv_at hl 5 rfl) ?_
  refine lv_iconst (v := 2) hx hb dL_law_277 (by decide) ?_
  refine lv_iadd hx hb dL_law_278 ?_
  obtain ⟨v21, hg, hf⟩ := scI_inv hf
  refine r_sld hC hw h9 hg dL_law_279 ?_
  refine lv_aload_n hx hb dL_law_280 rfl (lv_at hl 1 rfl) ?_
  refine lv_iload hx hb dL_law_281 (lv_at hl 5 rfl) ?_
  refine lv_iconst (v := 3) hx hb dL_law_283 (by decide) ?_
  refine lv_iadd hx hb dL_law_284 ?_
  obtain ⟨v22, hg, hf⟩ := scI_inv hf
  refine r_sld hC hw h9 hg dL_law_285 ?_
  refine lv_if_eq (tgt := 293) hx hb dL_law_286 (by decide) (fun hc => ?_) (fun hc => ?_)
  · rw [if_pos hc] at hf
    refine lv_iconst (v := 0) hx hb dL_law_293 (by decide) ?_
    refine W.widen (k := C0 + 8) (n := S0 + 48) (by omega) (by omega) ?_
    exact t_L_law_B23_L294 hC h0 h9 hf hw (lv_sub hl [1, 2, 3, 4, 5, 0] rfl) kI kE kR
  · rw [if_neg hc] at hf
    refine lv_iconst (v := 1) hx hb dL_law_289 (by decide) ?_
    refine lv_goto (tgt := 294) hx hb dL_law_290 (by decide) ?_
    refine W.widen (k := C0 + 8) (n := S0 + 48) (by omega) (by omega) ?_
    exact t_L_law_B23_L294 hC h0 h9 hf hw (lv_sub hl [1, 2, 3, 4, 5, 0] rfl) kI kE kR
set_option maxHeartbeats 4000000 in
set_option maxRecDepth 100000 in
theorem t_L_law_B23_L437 (hC : zC p l s m args meth c cL_law 7 RL D cA B0) {C0 S0 : Nat} (h0 : C0 + 8 ≤ 601024 ∧ S0 + 48 ≤ 7293034) {b9 L : Nat} {xs : Nat → Int32} (h9 : va_X b9 L xs s s.heap ∧ b9 < s.heap.size ∧ ¬ FR B0 b9) {Γ : zSh} {x0 : Nat} {x1 : Nat} {x2 : Nat} {x3 : Nat} {x4 : Int32}  {σ : zSt} {out : ((Int32 × zSt) ⊕ ((zSt) ⊕ (Int32 × zSt)))} (hf : f_L_law_B23_L437 xs L b9 Γ x0 x1 x2 x3 x4 σ = some out) {H : Heap} {locs : List Loc} {ls : Array Slot} (hw : zO D cA B0 Γ σ (ZB B0) s.heap H locs) (hl : lv_has ls 7 [(0, .ref x0), (1, .ref x1), (2, .ref x2), (3, .ref x3), (4, .int x4)])
    (kI : ∀ (z4 : Int32) (σ2 : zSt), out = .inl (z4, σ2) → ∀ (H : Heap) (locs : List Loc) (ls : Array Slot), zO D cA B0 Γ σ2 (ZB B0) s.heap H locs → lv_has ls 7 [(0, .ref x0), (1, .ref x1), (2, .ref x2), (3, .ref x3), (4, .int z4)] → W p l e room_1 s m args below meth c H locs (C0 + 8) (S0 + 48) Q (F0 m 23 ls []))
    (kE : ∀ (σ2 : zSt), out = .inr (.inl σ2) → ∀ (H : Heap) (locs : List Loc) (ls : Array Slot), zO D cA B0 Γ σ2 (ZB B0) s.heap H locs → lv_has ls 7 [] → W p l e room_1 s m args below meth c H locs (C0 + 8) (S0 + 48) Q (F0 m 1936 ls []))
    (kR : ∀ (v : Int32) (σ2 : zSt), out = .inr (.inr (v, σ2)) → isB v = true → ∀ (H : Heap) (locs : List Loc) (ls : Array Slot) (pr : Nat), zO D cA B0 Γ σ2 (ZB B0) s.heap H locs → decode cL_law pr = .ok (.ireturn, 1) → W p l e room_1 s m args below meth c H locs (C0 + 8) (S0 + 48) Q (F0 m pr ls [.int v])) :
    W p l e room_1 s m args below meth c H locs (C0 + 8) (S0 + 48) Q (F0 m 437 ls []) := by
  have hx := hC.1
  have hb := hC.2.1
  unfold f_L_law_B23_L437 at hf
  refine lv_goto (tgt := 1930) hx hb dL_law_437 (by decide) ?_
  exact t_L_law_B23_L1930 hC h0 h9 hf hw (lv_sub hl [0, 1, 2, 3, 4] rfl) kI kE kR
set_option maxHeartbeats 4000000 in
set_option maxRecDepth 100000 in
theorem t_L_law_B23_L517 (hC : zC p l s m args meth c cL_law 7 RL D cA B0) {C0 S0 : Nat} (h0 : C0 + 8 ≤ 601024 ∧ S0 + 48 ≤ 7293034) {b9 L : Nat} {xs : Nat → Int32} (h9 : va_X b9 L xs s s.heap ∧ b9 < s.heap.size ∧ ¬ FR B0 b9) {Γ : zSh} {x0 : Nat} {x1 : Nat} {x2 : Nat} {x3 : Nat} {x4 : Int32}  {σ : zSt} {out : ((Int32 × zSt) ⊕ ((zSt) ⊕ (Int32 × zSt)))} (hf : f_L_law_B23_L517 xs L b9 Γ x0 x1 x2 x3 x4 σ = some out) {H : Heap} {locs : List Loc} {ls : Array Slot} (hw : zO D cA B0 Γ σ (ZB B0) s.heap H locs) (hl : lv_has ls 7 [(0, .ref x0), (1, .ref x1), (2, .ref x2), (3, .ref x3), (4, .int x4)])
    (kI : ∀ (z4 : Int32) (σ2 : zSt), out = .inl (z4, σ2) → ∀ (H : Heap) (locs : List Loc) (ls : Array Slot), zO D cA B0 Γ σ2 (ZB B0) s.heap H locs → lv_has ls 7 [(0, .ref x0), (1, .ref x1), (2, .ref x2), (3, .ref x3), (4, .int z4)] → W p l e room_1 s m args below meth c H locs (C0 + 8) (S0 + 48) Q (F0 m 23 ls []))
    (kE : ∀ (σ2 : zSt), out = .inr (.inl σ2) → ∀ (H : Heap) (locs : List Loc) (ls : Array Slot), zO D cA B0 Γ σ2 (ZB B0) s.heap H locs → lv_has ls 7 [] → W p l e room_1 s m args below meth c H locs (C0 + 8) (S0 + 48) Q (F0 m 1936 ls []))
    (kR : ∀ (v : Int32) (σ2 : zSt), out = .inr (.inr (v, σ2)) → isB v = true → ∀ (H : Heap) (locs : List Loc) (ls : Array Slot) (pr : Nat), zO D cA B0 Γ σ2 (ZB B0) s.heap H locs → decode cL_law pr = .ok (.ireturn, 1) → W p l e room_1 s m args below meth c H locs (C0 + 8) (S0 + 48) Q (F0 m pr ls [.int v])) :
    W p l e room_1 s m args below meth c H locs (C0 + 8) (S0 + 48) Q (F0 m 517 ls []) := by
  have hx := hC.1
  have hb := hC.2.1
  unfold f_L_law_B23_L517 at hf
  refine lv_goto (tgt := 1930) hx hb dL_law_517 (by decide) ?_
  exact t_L_law_B23_L1930 hC h0 h9 hf hw (lv_sub hl [0, 1, 2, 3, 4] rfl) kI kE kR
set_option maxHeartbeats 4000000 in
set_option maxRecDepth 100000 in
theorem t_L_law_B23_L573 (hC : zC p l s m args meth c cL_law 7 RL D cA B0) {C0 S0 : Nat} (h0 : C0 + 8 ≤ 601024 ∧ S0 + 48 ≤ 7293034) {b9 L : Nat} {xs : Nat → Int32} (h9 : va_X b9 L xs s s.heap ∧ b9 < s.heap.size ∧ ¬ FR B0 b9) {Γ : zSh} {x0 : Nat} {x1 : Nat} {x2 : Nat} {x3 : Nat} {x4 : Int32}  {σ : zSt} {out : ((Int32 × zSt) ⊕ ((zSt) ⊕ (Int32 × zSt)))} (hf : f_L_law_B23_L573 xs L b9 Γ x0 x1 x2 x3 x4 σ = some out) {H : Heap} {locs : List Loc} {ls : Array Slot} (hw : zO D cA B0 Γ σ (ZB B0) s.heap H locs) (hl : lv_has ls 7 [(0, .ref x0), (1, .ref x1), (2, .ref x2), (3, .ref x3), (4, .int x4)])
    (kI : ∀ (z4 : Int32) (σ2 : zSt), out = .inl (z4, σ2) → ∀ (H : Heap) (locs : List Loc) (ls : Array Slot), zO D cA B0 Γ σ2 (ZB B0) s.heap H locs → lv_has ls 7 [(0, .ref x0), (1, .ref x1), (2, .ref x2), (3, .ref x3), (4, .int z4)] → W p l e room_1 s m args below meth c H locs (C0 + 8) (S0 + 48) Q (F0 m 23 ls []))
    (kE : ∀ (σ2 : zSt), out = .inr (.inl σ2) → ∀ (H : Heap) (locs : List Loc) (ls : Array Slot), zO D cA B0 Γ σ2 (ZB B0) s.heap H locs → lv_has ls 7 [] → W p l e room_1 s m args below meth c H locs (C0 + 8) (S0 + 48) Q (F0 m 1936 ls []))
    (kR : ∀ (v : Int32) (σ2 : zSt), out = .inr (.inr (v, σ2)) → isB v = true → ∀ (H : Heap) (locs : List Loc) (ls : Array Slot) (pr : Nat), zO D cA B0 Γ σ2 (ZB B0) s.heap H locs → decode cL_law pr = .ok (.ireturn, 1) → W p l e room_1 s m args below meth c H locs (C0 + 8) (S0 + 48) Q (F0 m pr ls [.int v])) :
    W p l e room_1 s m args below meth c H locs (C0 + 8) (S0 + 48) Q (F0 m 573 ls []) := by
  have hx := hC.1
  have hb := hC.2.1
  unfold f_L_law_B23_L573 at hf
  refine lv_goto (tgt := 1930) hx hb dL_law_573 (by decide) ?_
  exact t_L_law_B23_L1930 hC h0 h9 hf hw (lv_sub hl [0, 1, 2, 3, 4] rfl) kI kE kR
set_option maxHeartbeats 4000000 in
set_option maxRecDepth 100000 in
theorem t_L_law_B23_L669 (hC : zC p l s m args meth c cL_law 7 RL D cA B0) {C0 S0 : Nat} (h0 : C0 + 8 ≤ 601024 ∧ S0 + 48 ≤ 7293034) {b9 L : Nat} {xs : Nat → Int32} (h9 : va_X b9 L xs s s.heap ∧ b9 < s.heap.size ∧ ¬ FR B0 b9) {Γ : zSh} {x0 : Nat} {x1 : Nat} {x2 : Nat} {x3 : Nat} {x4 : Int32}  {σ : zSt} {out : ((Int32 × zSt) ⊕ ((zSt) ⊕ (Int32 × zSt)))} (hf : f_L_law_B23_L669 xs L b9 Γ x0 x1 x2 x3 x4 σ = some out) {H : Heap} {locs : List Loc} {ls : Array Slot} (hw : zO D cA B0 Γ σ (ZB B0) s.heap H locs) (hl : lv_has ls 7 [(0, .ref x0), (1, .ref x1), (2, .ref x2), (3, .ref x3), (4, .int x4)])
    (kI : ∀ (z4 : Int32) (σ2 : zSt), out = .inl (z4, σ2) → ∀ (H : Heap) (locs : List Loc) (ls : Array Slot), zO D cA B0 Γ σ2 (ZB B0) s.heap H locs → lv_has ls 7 [(0, .ref x0), (1, .ref x1), (2, .ref x2), (3, .ref x3), (4, .int z4)] → W p l e room_1 s m args below meth c H locs (C0 + 8) (S0 + 48) Q (F0 m 23 ls []))
    (kE : ∀ (σ2 : zSt), out = .inr (.inl σ2) → ∀ (H : Heap) (locs : List Loc) (ls : Array Slot), zO D cA B0 Γ σ2 (ZB B0) s.heap H locs → lv_has ls 7 [] → W p l e room_1 s m args below meth c H locs (C0 + 8) (S0 + 48) Q (F0 m 1936 ls []))
    (kR : ∀ (v : Int32) (σ2 : zSt), out = .inr (.inr (v, σ2)) → isB v = true → ∀ (H : Heap) (locs : List Loc) (ls : Array Slot) (pr : Nat), zO D cA B0 Γ σ2 (ZB B0) s.heap H locs → decode cL_law pr = .ok (.ireturn, 1) → W p l e room_1 s m args below meth c H locs (C0 + 8) (S0 + 48) Q (F0 m pr ls [.int v])) :
    W p l e room_1 s m args below meth c H locs (C0 + 8) (S0 + 48) Q (F0 m 669 ls []) := by
  have hx := hC.1
  have hb := hC.2.1
  unfold f_L_law_B23_L669 at hf
  refine lv_goto (tgt := 1930) hx hb dL_law_669 (by decide) ?_
  exact t_L_law_B23_L1930 hC h0 h9 hf hw (lv_sub hl [0, 1, 2, 3, 4] rfl) kI kE kR
set_option maxHeartbeats 4000000 in
set_option maxRecDepth 100000 in
theorem t_L_law_B23_L636 (hC : zC p l s m args meth c cL_law 7 RL D cA B0) {C0 S0 : Nat} (h0 : C0 + 8 ≤ 601024 ∧ S0 + 48 ≤ 7293034) {b9 L : Nat} {xs : Nat → Int32} (h9 : va_X b9 L xs s s.heap ∧ b9 < s.heap.size ∧ ¬ FR B0 b9) {Γ : zSh} {x0 : Nat} {x1 : Nat} {x2 : Nat} {x3 : Nat} {x4 : Int32} {x5 : Int32} {s0 : Int32} {s1 : Int32} {s2 : Int32} {s3 : Nat}  {σ : zSt} {out : ((Int32 × zSt) ⊕ ((zSt) ⊕ (Int32 × zSt)))} (hf : f_L_law_B23_L636 xs L b9 Γ x0 x1 x2 x3 x4 x5 s0 s1 s2 s3 σ = some out) {H : Heap} {locs : List Loc} {ls : Array Slot} (hw : zO D cA B0 Γ σ (ZB B0) s.heap H locs) (hl : lv_has ls 7 [(0, .ref x0), (1, .ref x1), (2, .ref x2), (3, .ref x3), (4, .int x4), (5, .int x5)])
    (kI : ∀ (z4 : Int32) (σ2 : zSt), out = .inl (z4, σ2) → ∀ (H : Heap) (locs : List Loc) (ls : Array Slot), zO D cA B0 Γ σ2 (ZB B0) s.heap H locs → lv_has ls 7 [(0, .ref x0), (1, .ref x1), (2, .ref x2), (3, .ref x3), (4, .int z4)] → W p l e room_1 s m args below meth c H locs (C0 + 8) (S0 + 48) Q (F0 m 23 ls []))
    (kE : ∀ (σ2 : zSt), out = .inr (.inl σ2) → ∀ (H : Heap) (locs : List Loc) (ls : Array Slot), zO D cA B0 Γ σ2 (ZB B0) s.heap H locs → lv_has ls 7 [] → W p l e room_1 s m args below meth c H locs (C0 + 8) (S0 + 48) Q (F0 m 1936 ls []))
    (kR : ∀ (v : Int32) (σ2 : zSt), out = .inr (.inr (v, σ2)) → isB v = true → ∀ (H : Heap) (locs : List Loc) (ls : Array Slot) (pr : Nat), zO D cA B0 Γ σ2 (ZB B0) s.heap H locs → decode cL_law pr = .ok (.ireturn, 1) → W p l e room_1 s m args below meth c H locs (C0 + 8) (S0 + 48) Q (F0 m pr ls [.int v])) :
    W p l e room_1 s m args below meth c H locs (C0 + 8) (S0 + 48) Q (F0 m 636 ls [.int s0, .int s1, .int s2, .ref s3]) := by
  have hx := hC.1
  have hb := hC.2.1
  unfold f_L_law_B23_L636 at hf
  obtain ⟨ho, hf⟩ := chk_inv hf
  obtain ⟨r77, σ76, hk, hf⟩ := bnd_inv hf
  refine z_callV (As := [.int s2, .int s1, .int s0]) (rest := []) (m_X7_end hC.2.2.2.2.2.2.2.2 hk) hC hw wd_X7_end lkM_L_128 (isO_sh ho) rfl rfl ⟨rfl, rfl⟩ ⟨(Nat.le_of_ble_eq_true rfl), (Nat.le_of_ble_eq_true rfl)⟩ hl.1 rfl (Nat.le_of_ble_eq_true rfl) dL_law_636 ⟨(by show _ ≤ (601024 : Nat); omega), (by show _ ≤ (7293034 : Nat); omega)⟩ (fun H locs hw => ?_)
  refine lv_istore (lv' := [(6, .int r77), (0, .ref x0), (1, .ref x1), (2, .ref x2), (3, .ref x3), (4, .int x4), (5, .int x5)]) hx hb dL_law_639 hl (Nat.le_of_ble_eq_true rfl) rfl (fun ls hl => ?_)
  refine lv_aload_n hx hb dL_law_641 rfl (lv_at hl 3 rfl) ?_
  obtain ⟨ho, hf⟩ := chk_inv hf
  obtain ⟨r79, σ78, hk, hf⟩ := bnd_inv hf
  refine z_callV (As := []) (rest := []) (m_X7_thrown hC.2.2.2.2.2.2.2.2 hk) hC hw wd_X7_thrown lkM_L_106 (isO_sh ho) rfl rfl ⟨rfl, rfl⟩ ⟨(Nat.le_of_ble_eq_true rfl), (Nat.le_of_ble_eq_true rfl)⟩ hl.1 rfl (Nat.le_of_ble_eq_true rfl) dL_law_642 ⟨(by show _ ≤ (601024 : Nat); omega), (by show _ ≤ (7293034 : Nat); omega)⟩ (fun H locs hw => ?_)
  refine lv_iload hx hb dL_law_645 (lv_at hl 6 rfl) ?_
  refine lv_icmp_eq (tgt := 652) hx hb dL_law_647 (by decide) (fun hc => ?_) (fun hc => ?_)
  · rw [if_pos hc] at hf
    refine lv_iload hx hb dL_law_652 (lv_at hl 6 rfl) ?_
    refine lv_if_ne (tgt := 669) hx hb dL_law_654 (by decide) (fun hc => ?_) (fun hc => ?_)
    · rw [if_neg hc] at hf
      exact t_L_law_B23_L669 hC h0 h9 hf hw (lv_sub hl [1, 2, 3, 4, 5] rfl) kI kE kR
    · rw [if_pos hc] at hf
      refine lv_aload_n hx hb dL_law_657 rfl (lv_at hl 4 rfl) ?_
      refine lv_iconst (v := 0) hx hb dL_law_658 (by decide) ?_
      obtain ⟨v80, hg, hf⟩ := ldL_inv hf
      refine r_ldL hC hw hg dL_law_659 ?_
      refine lv_iload hx hb dL_law_660 (lv_at hl 0 rfl) ?_
      refine lv_i2l hx hb dL_law_662 rfl ?_
      refine W.lcmp hx hb dL_law_663 ?_
      refine lv_if_eq (tgt := 669) hx hb dL_law_664 (by decide) (fun hc => ?_) (fun hc => ?_)
      · rw [if_pos hc] at hf
        exact t_L_law_B23_L669 hC h0 h9 hf hw (lv_sub hl [1, 2, 3, 4, 5] rfl) kI kE kR
      · rw [if_neg hc] at hf
        refine lv_iconst (v := 0) hx hb dL_law_667 (by decide) ?_
        obtain ⟨hz, hf⟩ := chk_inv hf
        refine W.widen (k := C0 + 8) (n := S0 + 48) (by omega) (by omega) ?_
        exact kR 0 σ78 (Option.some.inj hf).symm hz _ _ _ 668 hw dL_law_668
  · rw [if_neg hc] at hf
    refine lv_iconst (v := 0) hx hb dL_law_650 (by decide) ?_
    obtain ⟨hz, hf⟩ := chk_inv hf
    refine W.widen (k := C0 + 8) (n := S0 + 48) (by omega) (by omega) ?_
    exact kR 0 σ78 (Option.some.inj hf).symm hz _ _ _ 651 hw dL_law_651
set_option maxHeartbeats 4000000 in
set_option maxRecDepth 100000 in
theorem t_L_law_B23_L603 (hC : zC p l s m args meth c cL_law 7 RL D cA B0) {C0 S0 : Nat} (h0 : C0 + 8 ≤ 601024 ∧ S0 + 48 ≤ 7293034) {b9 L : Nat} {xs : Nat → Int32} (h9 : va_X b9 L xs s s.heap ∧ b9 < s.heap.size ∧ ¬ FR B0 b9) {Γ : zSh} {x0 : Nat} {x1 : Nat} {x2 : Nat} {x3 : Nat} {x4 : Int32} {s0 : Int32} {s1 : Int32} {s2 : Int32} {s3 : Nat}  {σ : zSt} {out : ((Int32 × zSt) ⊕ ((zSt) ⊕ (Int32 × zSt)))} (hf : f_L_law_B23_L603 xs L b9 Γ x0 x1 x2 x3 x4 s0 s1 s2 s3 σ = some out) {H : Heap} {locs : List Loc} {ls : Array Slot} (hw : zO D cA B0 Γ σ (ZB B0) s.heap H locs) (hl : lv_has ls 7 [(0, .ref x0), (1, .ref x1), (2, .ref x2), (3, .ref x3), (4, .int x4)])
    (kI : ∀ (z4 : Int32) (σ2 : zSt), out = .inl (z4, σ2) → ∀ (H : Heap) (locs : List Loc) (ls : Array Slot), zO D cA B0 Γ σ2 (ZB B0) s.heap H locs → lv_has ls 7 [(0, .ref x0), (1, .ref x1), (2, .ref x2), (3, .ref x3), (4, .int z4)] → W p l e room_1 s m args below meth c H locs (C0 + 8) (S0 + 48) Q (F0 m 23 ls []))
    (kE : ∀ (σ2 : zSt), out = .inr (.inl σ2) → ∀ (H : Heap) (locs : List Loc) (ls : Array Slot), zO D cA B0 Γ σ2 (ZB B0) s.heap H locs → lv_has ls 7 [] → W p l e room_1 s m args below meth c H locs (C0 + 8) (S0 + 48) Q (F0 m 1936 ls []))
    (kR : ∀ (v : Int32) (σ2 : zSt), out = .inr (.inr (v, σ2)) → isB v = true → ∀ (H : Heap) (locs : List Loc) (ls : Array Slot) (pr : Nat), zO D cA B0 Γ σ2 (ZB B0) s.heap H locs → decode cL_law pr = .ok (.ireturn, 1) → W p l e room_1 s m args below meth c H locs (C0 + 8) (S0 + 48) Q (F0 m pr ls [.int v])) :
    W p l e room_1 s m args below meth c H locs (C0 + 0) (S0 + 0) Q (F0 m 603 ls [.int s0, .int s1, .int s2, .ref s3]) := by
  have hx := hC.1
  have hb := hC.2.1
  unfold f_L_law_B23_L603 at hf
  refine lv_aload_n hx hb dL_law_603 rfl (lv_at hl 3 rfl) ?_
  obtain ⟨r72, σ71, hk, hf⟩ := bnd_inv hf
  refine z_callSW (As := [.ref s3, .int s2, .int s1, .int s0, .ref x3]) (rest := []) (m_L_end hC.2.2.2.2.2.2.2.2 hk) hC hw wd_L_end lkM_L_125 rfl ⟨rfl, rfl⟩ ⟨(Nat.le_of_ble_eq_true rfl), (Nat.le_of_ble_eq_true rfl)⟩ hl.1 rfl (Nat.le_of_ble_eq_true rfl) dL_law_604 ⟨(by show _ ≤ (601024 : Nat); omega), (by show _ ≤ (7293034 : Nat); omega)⟩ (fun H locs hw => ?_)
  refine lv_istore (lv' := [(5, .int r72), (0, .ref x0), (1, .ref x1), (2, .ref x2), (3, .ref x3), (4, .int x4)]) hx hb dL_law_607 hl (Nat.le_of_ble_eq_true rfl) rfl (fun ls hl => ?_)
  refine lv_aload_n hx hb dL_law_609 rfl (lv_at hl 3 rfl) ?_
  refine lv_aload_n hx hb dL_law_610 rfl (lv_at hl 1 rfl) ?_
  refine lv_iload hx hb dL_law_611 (lv_at hl 5 rfl) ?_
  refine lv_iconst (v := 1) hx hb dL_law_613 (by decide) ?_
  refine lv_iadd hx hb dL_law_614 ?_
  obtain ⟨v73, hg, hf⟩ := scI_inv hf
  refine r_sld hC hw h9 hg dL_law_615 ?_
  refine lv_aload_n hx hb dL_law_616 rfl (lv_at hl 1 rfl) ?_
  refine lv_iload hx hb dL_law_617 (lv_at hl 5 rfl) ?_
  refine lv_iconst (v := 2) hx hb dL_law_619 (by decide) ?_
  refine lv_iadd hx hb dL_law_620 ?_
  obtain ⟨v74, hg, hf⟩ := scI_inv hf
  refine r_sld hC hw h9 hg dL_law_621 ?_
  refine lv_aload_n hx hb dL_law_622 rfl (lv_at hl 1 rfl) ?_
  refine lv_iload hx hb dL_law_623 (lv_at hl 5 rfl) ?_
  refine lv_iconst (v := 3) hx hb dL_law_625 (by decide) ?_
  refine lv_iadd hx hb dL_law_626 ?_
  obtain ⟨v75, hg, hf⟩ := scI_inv hf
  refine r_sld hC hw h9 hg dL_law_627 ?_
  refine lv_if_eq (tgt := 635) hx hb dL_law_628 (by decide) (fun hc => ?_) (fun hc => ?_)
  · rw [if_pos hc] at hf
    refine lv_iconst (v := 0) hx hb dL_law_635 (by decide) ?_
    refine W.widen (k := C0 + 8) (n := S0 + 48) (by omega) (by omega) ?_
    exact t_L_law_B23_L636 hC h0 h9 hf hw (lv_sub hl [1, 2, 3, 4, 5, 0] rfl) kI kE kR
  · rw [if_neg hc] at hf
    refine lv_iconst (v := 1) hx hb dL_law_631 (by decide) ?_
    refine lv_goto (tgt := 636) hx hb dL_law_632 (by decide) ?_
    refine W.widen (k := C0 + 8) (n := S0 + 48) (by omega) (by omega) ?_
    exact t_L_law_B23_L636 hC h0 h9 hf hw (lv_sub hl [1, 2, 3, 4, 5, 0] rfl) kI kE kR
set_option maxHeartbeats 4000000 in
set_option maxRecDepth 100000 in
theorem t_L_law_B23_L761 (hC : zC p l s m args meth c cL_law 7 RL D cA B0) {C0 S0 : Nat} (h0 : C0 + 8 ≤ 601024 ∧ S0 + 48 ≤ 7293034) {b9 L : Nat} {xs : Nat → Int32} (h9 : va_X b9 L xs s s.heap ∧ b9 < s.heap.size ∧ ¬ FR B0 b9) {Γ : zSh} {x0 : Nat} {x1 : Nat} {x2 : Nat} {x3 : Nat} {x4 : Int32}  {σ : zSt} {out : ((Int32 × zSt) ⊕ ((zSt) ⊕ (Int32 × zSt)))} (hf : f_L_law_B23_L761 xs L b9 Γ x0 x1 x2 x3 x4 σ = some out) {H : Heap} {locs : List Loc} {ls : Array Slot} (hw : zO D cA B0 Γ σ (ZB B0) s.heap H locs) (hl : lv_has ls 7 [(0, .ref x0), (1, .ref x1), (2, .ref x2), (3, .ref x3), (4, .int x4)])
    (kI : ∀ (z4 : Int32) (σ2 : zSt), out = .inl (z4, σ2) → ∀ (H : Heap) (locs : List Loc) (ls : Array Slot), zO D cA B0 Γ σ2 (ZB B0) s.heap H locs → lv_has ls 7 [(0, .ref x0), (1, .ref x1), (2, .ref x2), (3, .ref x3), (4, .int z4)] → W p l e room_1 s m args below meth c H locs (C0 + 8) (S0 + 48) Q (F0 m 23 ls []))
    (kE : ∀ (σ2 : zSt), out = .inr (.inl σ2) → ∀ (H : Heap) (locs : List Loc) (ls : Array Slot), zO D cA B0 Γ σ2 (ZB B0) s.heap H locs → lv_has ls 7 [] → W p l e room_1 s m args below meth c H locs (C0 + 8) (S0 + 48) Q (F0 m 1936 ls []))
    (kR : ∀ (v : Int32) (σ2 : zSt), out = .inr (.inr (v, σ2)) → isB v = true → ∀ (H : Heap) (locs : List Loc) (ls : Array Slot) (pr : Nat), zO D cA B0 Γ σ2 (ZB B0) s.heap H locs → decode cL_law pr = .ok (.ireturn, 1) → W p l e room_1 s m args below meth c H locs (C0 + 8) (S0 + 48) Q (F0 m pr ls [.int v])) :
    W p l e room_1 s m args below meth c H locs (C0 + 8) (S0 + 48) Q (F0 m 761 ls []) := by
  have hx := hC.1
  have hb := hC.2.1
  unfold f_L_law_B23_L761 at hf
  refine lv_goto (tgt := 1930) hx hb dL_law_761 (by decide) ?_
  exact t_L_law_B23_L1930 hC h0 h9 hf hw (lv_sub hl [0, 1, 2, 3, 4] rfl) kI kE kR
set_option maxHeartbeats 4000000 in
set_option maxRecDepth 100000 in
theorem t_L_law_B23_L829 (hC : zC p l s m args meth c cL_law 7 RL D cA B0) {C0 S0 : Nat} (h0 : C0 + 8 ≤ 601024 ∧ S0 + 48 ≤ 7293034) {b9 L : Nat} {xs : Nat → Int32} (h9 : va_X b9 L xs s s.heap ∧ b9 < s.heap.size ∧ ¬ FR B0 b9) {Γ : zSh} {x0 : Nat} {x1 : Nat} {x2 : Nat} {x3 : Nat} {x4 : Int32}  {σ : zSt} {out : ((Int32 × zSt) ⊕ ((zSt) ⊕ (Int32 × zSt)))} (hf : f_L_law_B23_L829 xs L b9 Γ x0 x1 x2 x3 x4 σ = some out) {H : Heap} {locs : List Loc} {ls : Array Slot} (hw : zO D cA B0 Γ σ (ZB B0) s.heap H locs) (hl : lv_has ls 7 [(0, .ref x0), (1, .ref x1), (2, .ref x2), (3, .ref x3), (4, .int x4)])
    (kI : ∀ (z4 : Int32) (σ2 : zSt), out = .inl (z4, σ2) → ∀ (H : Heap) (locs : List Loc) (ls : Array Slot), zO D cA B0 Γ σ2 (ZB B0) s.heap H locs → lv_has ls 7 [(0, .ref x0), (1, .ref x1), (2, .ref x2), (3, .ref x3), (4, .int z4)] → W p l e room_1 s m args below meth c H locs (C0 + 8) (S0 + 48) Q (F0 m 23 ls []))
    (kE : ∀ (σ2 : zSt), out = .inr (.inl σ2) → ∀ (H : Heap) (locs : List Loc) (ls : Array Slot), zO D cA B0 Γ σ2 (ZB B0) s.heap H locs → lv_has ls 7 [] → W p l e room_1 s m args below meth c H locs (C0 + 8) (S0 + 48) Q (F0 m 1936 ls []))
    (kR : ∀ (v : Int32) (σ2 : zSt), out = .inr (.inr (v, σ2)) → isB v = true → ∀ (H : Heap) (locs : List Loc) (ls : Array Slot) (pr : Nat), zO D cA B0 Γ σ2 (ZB B0) s.heap H locs → decode cL_law pr = .ok (.ireturn, 1) → W p l e room_1 s m args below meth c H locs (C0 + 8) (S0 + 48) Q (F0 m pr ls [.int v])) :
    W p l e room_1 s m args below meth c H locs (C0 + 8) (S0 + 48) Q (F0 m 829 ls []) := by
  have hx := hC.1
  have hb := hC.2.1
  unfold f_L_law_B23_L829 at hf
  refine lv_goto (tgt := 1930) hx hb dL_law_829 (by decide) ?_
  exact t_L_law_B23_L1930 hC h0 h9 hf hw (lv_sub hl [0, 1, 2, 3, 4] rfl) kI kE kR
set_option maxHeartbeats 4000000 in
set_option maxRecDepth 100000 in
theorem t_L_law_B23_L909 (hC : zC p l s m args meth c cL_law 7 RL D cA B0) {C0 S0 : Nat} (h0 : C0 + 8 ≤ 601024 ∧ S0 + 48 ≤ 7293034) {b9 L : Nat} {xs : Nat → Int32} (h9 : va_X b9 L xs s s.heap ∧ b9 < s.heap.size ∧ ¬ FR B0 b9) {Γ : zSh} {x0 : Nat} {x1 : Nat} {x2 : Nat} {x3 : Nat} {x4 : Int32}  {σ : zSt} {out : ((Int32 × zSt) ⊕ ((zSt) ⊕ (Int32 × zSt)))} (hf : f_L_law_B23_L909 xs L b9 Γ x0 x1 x2 x3 x4 σ = some out) {H : Heap} {locs : List Loc} {ls : Array Slot} (hw : zO D cA B0 Γ σ (ZB B0) s.heap H locs) (hl : lv_has ls 7 [(0, .ref x0), (1, .ref x1), (2, .ref x2), (3, .ref x3), (4, .int x4)])
    (kI : ∀ (z4 : Int32) (σ2 : zSt), out = .inl (z4, σ2) → ∀ (H : Heap) (locs : List Loc) (ls : Array Slot), zO D cA B0 Γ σ2 (ZB B0) s.heap H locs → lv_has ls 7 [(0, .ref x0), (1, .ref x1), (2, .ref x2), (3, .ref x3), (4, .int z4)] → W p l e room_1 s m args below meth c H locs (C0 + 8) (S0 + 48) Q (F0 m 23 ls []))
    (kE : ∀ (σ2 : zSt), out = .inr (.inl σ2) → ∀ (H : Heap) (locs : List Loc) (ls : Array Slot), zO D cA B0 Γ σ2 (ZB B0) s.heap H locs → lv_has ls 7 [] → W p l e room_1 s m args below meth c H locs (C0 + 8) (S0 + 48) Q (F0 m 1936 ls []))
    (kR : ∀ (v : Int32) (σ2 : zSt), out = .inr (.inr (v, σ2)) → isB v = true → ∀ (H : Heap) (locs : List Loc) (ls : Array Slot) (pr : Nat), zO D cA B0 Γ σ2 (ZB B0) s.heap H locs → decode cL_law pr = .ok (.ireturn, 1) → W p l e room_1 s m args below meth c H locs (C0 + 8) (S0 + 48) Q (F0 m pr ls [.int v])) :
    W p l e room_1 s m args below meth c H locs (C0 + 8) (S0 + 48) Q (F0 m 909 ls []) := by
  have hx := hC.1
  have hb := hC.2.1
  unfold f_L_law_B23_L909 at hf
  refine lv_goto (tgt := 1930) hx hb dL_law_909 (by decide) ?_
  exact t_L_law_B23_L1930 hC h0 h9 hf hw (lv_sub hl [0, 1, 2, 3, 4] rfl) kI kE kR
set_option maxHeartbeats 4000000 in
set_option maxRecDepth 100000 in
theorem t_L_law_B23_L977 (hC : zC p l s m args meth c cL_law 7 RL D cA B0) {C0 S0 : Nat} (h0 : C0 + 8 ≤ 601024 ∧ S0 + 48 ≤ 7293034) {b9 L : Nat} {xs : Nat → Int32} (h9 : va_X b9 L xs s s.heap ∧ b9 < s.heap.size ∧ ¬ FR B0 b9) {Γ : zSh} {x0 : Nat} {x1 : Nat} {x2 : Nat} {x3 : Nat} {x4 : Int32}  {σ : zSt} {out : ((Int32 × zSt) ⊕ ((zSt) ⊕ (Int32 × zSt)))} (hf : f_L_law_B23_L977 xs L b9 Γ x0 x1 x2 x3 x4 σ = some out) {H : Heap} {locs : List Loc} {ls : Array Slot} (hw : zO D cA B0 Γ σ (ZB B0) s.heap H locs) (hl : lv_has ls 7 [(0, .ref x0), (1, .ref x1), (2, .ref x2), (3, .ref x3), (4, .int x4)])
    (kI : ∀ (z4 : Int32) (σ2 : zSt), out = .inl (z4, σ2) → ∀ (H : Heap) (locs : List Loc) (ls : Array Slot), zO D cA B0 Γ σ2 (ZB B0) s.heap H locs → lv_has ls 7 [(0, .ref x0), (1, .ref x1), (2, .ref x2), (3, .ref x3), (4, .int z4)] → W p l e room_1 s m args below meth c H locs (C0 + 8) (S0 + 48) Q (F0 m 23 ls []))
    (kE : ∀ (σ2 : zSt), out = .inr (.inl σ2) → ∀ (H : Heap) (locs : List Loc) (ls : Array Slot), zO D cA B0 Γ σ2 (ZB B0) s.heap H locs → lv_has ls 7 [] → W p l e room_1 s m args below meth c H locs (C0 + 8) (S0 + 48) Q (F0 m 1936 ls []))
    (kR : ∀ (v : Int32) (σ2 : zSt), out = .inr (.inr (v, σ2)) → isB v = true → ∀ (H : Heap) (locs : List Loc) (ls : Array Slot) (pr : Nat), zO D cA B0 Γ σ2 (ZB B0) s.heap H locs → decode cL_law pr = .ok (.ireturn, 1) → W p l e room_1 s m args below meth c H locs (C0 + 8) (S0 + 48) Q (F0 m pr ls [.int v])) :
    W p l e room_1 s m args below meth c H locs (C0 + 8) (S0 + 48) Q (F0 m 977 ls []) := by
  have hx := hC.1
  have hb := hC.2.1
  unfold f_L_law_B23_L977 at hf
  refine lv_goto (tgt := 1930) hx hb dL_law_977 (by decide) ?_
  exact t_L_law_B23_L1930 hC h0 h9 hf hw (lv_sub hl [0, 1, 2, 3, 4] rfl) kI kE kR
set_option maxHeartbeats 4000000 in
set_option maxRecDepth 100000 in
theorem t_L_law_B23_L1045 (hC : zC p l s m args meth c cL_law 7 RL D cA B0) {C0 S0 : Nat} (h0 : C0 + 8 ≤ 601024 ∧ S0 + 48 ≤ 7293034) {b9 L : Nat} {xs : Nat → Int32} (h9 : va_X b9 L xs s s.heap ∧ b9 < s.heap.size ∧ ¬ FR B0 b9) {Γ : zSh} {x0 : Nat} {x1 : Nat} {x2 : Nat} {x3 : Nat} {x4 : Int32}  {σ : zSt} {out : ((Int32 × zSt) ⊕ ((zSt) ⊕ (Int32 × zSt)))} (hf : f_L_law_B23_L1045 xs L b9 Γ x0 x1 x2 x3 x4 σ = some out) {H : Heap} {locs : List Loc} {ls : Array Slot} (hw : zO D cA B0 Γ σ (ZB B0) s.heap H locs) (hl : lv_has ls 7 [(0, .ref x0), (1, .ref x1), (2, .ref x2), (3, .ref x3), (4, .int x4)])
    (kI : ∀ (z4 : Int32) (σ2 : zSt), out = .inl (z4, σ2) → ∀ (H : Heap) (locs : List Loc) (ls : Array Slot), zO D cA B0 Γ σ2 (ZB B0) s.heap H locs → lv_has ls 7 [(0, .ref x0), (1, .ref x1), (2, .ref x2), (3, .ref x3), (4, .int z4)] → W p l e room_1 s m args below meth c H locs (C0 + 8) (S0 + 48) Q (F0 m 23 ls []))
    (kE : ∀ (σ2 : zSt), out = .inr (.inl σ2) → ∀ (H : Heap) (locs : List Loc) (ls : Array Slot), zO D cA B0 Γ σ2 (ZB B0) s.heap H locs → lv_has ls 7 [] → W p l e room_1 s m args below meth c H locs (C0 + 8) (S0 + 48) Q (F0 m 1936 ls []))
    (kR : ∀ (v : Int32) (σ2 : zSt), out = .inr (.inr (v, σ2)) → isB v = true → ∀ (H : Heap) (locs : List Loc) (ls : Array Slot) (pr : Nat), zO D cA B0 Γ σ2 (ZB B0) s.heap H locs → decode cL_law pr = .ok (.ireturn, 1) → W p l e room_1 s m args below meth c H locs (C0 + 8) (S0 + 48) Q (F0 m pr ls [.int v])) :
    W p l e room_1 s m args below meth c H locs (C0 + 8) (S0 + 48) Q (F0 m 1045 ls []) := by
  have hx := hC.1
  have hb := hC.2.1
  unfold f_L_law_B23_L1045 at hf
  refine lv_goto (tgt := 1930) hx hb dL_law_1045 (by decide) ?_
  exact t_L_law_B23_L1930 hC h0 h9 hf hw (lv_sub hl [0, 1, 2, 3, 4] rfl) kI kE kR
set_option maxHeartbeats 4000000 in
set_option maxRecDepth 100000 in
theorem t_L_law_B23_L1101 (hC : zC p l s m args meth c cL_law 7 RL D cA B0) {C0 S0 : Nat} (h0 : C0 + 8 ≤ 601024 ∧ S0 + 48 ≤ 7293034) {b9 L : Nat} {xs : Nat → Int32} (h9 : va_X b9 L xs s s.heap ∧ b9 < s.heap.size ∧ ¬ FR B0 b9) {Γ : zSh} {x0 : Nat} {x1 : Nat} {x2 : Nat} {x3 : Nat} {x4 : Int32}  {σ : zSt} {out : ((Int32 × zSt) ⊕ ((zSt) ⊕ (Int32 × zSt)))} (hf : f_L_law_B23_L1101 xs L b9 Γ x0 x1 x2 x3 x4 σ = some out) {H : Heap} {locs : List Loc} {ls : Array Slot} (hw : zO D cA B0 Γ σ (ZB B0) s.heap H locs) (hl : lv_has ls 7 [(0, .ref x0), (1, .ref x1), (2, .ref x2), (3, .ref x3), (4, .int x4)])
    (kI : ∀ (z4 : Int32) (σ2 : zSt), out = .inl (z4, σ2) → ∀ (H : Heap) (locs : List Loc) (ls : Array Slot), zO D cA B0 Γ σ2 (ZB B0) s.heap H locs → lv_has ls 7 [(0, .ref x0), (1, .ref x1), (2, .ref x2), (3, .ref x3), (4, .int z4)] → W p l e room_1 s m args below meth c H locs (C0 + 8) (S0 + 48) Q (F0 m 23 ls []))
    (kE : ∀ (σ2 : zSt), out = .inr (.inl σ2) → ∀ (H : Heap) (locs : List Loc) (ls : Array Slot), zO D cA B0 Γ σ2 (ZB B0) s.heap H locs → lv_has ls 7 [] → W p l e room_1 s m args below meth c H locs (C0 + 8) (S0 + 48) Q (F0 m 1936 ls []))
    (kR : ∀ (v : Int32) (σ2 : zSt), out = .inr (.inr (v, σ2)) → isB v = true → ∀ (H : Heap) (locs : List Loc) (ls : Array Slot) (pr : Nat), zO D cA B0 Γ σ2 (ZB B0) s.heap H locs → decode cL_law pr = .ok (.ireturn, 1) → W p l e room_1 s m args below meth c H locs (C0 + 8) (S0 + 48) Q (F0 m pr ls [.int v])) :
    W p l e room_1 s m args below meth c H locs (C0 + 8) (S0 + 48) Q (F0 m 1101 ls []) := by
  have hx := hC.1
  have hb := hC.2.1
  unfold f_L_law_B23_L1101 at hf
  refine lv_goto (tgt := 1930) hx hb dL_law_1101 (by decide) ?_
  exact t_L_law_B23_L1930 hC h0 h9 hf hw (lv_sub hl [0, 1, 2, 3, 4] rfl) kI kE kR
set_option maxHeartbeats 4000000 in
set_option maxRecDepth 100000 in
theorem t_L_law_B23_L1193 (hC : zC p l s m args meth c cL_law 7 RL D cA B0) {C0 S0 : Nat} (h0 : C0 + 8 ≤ 601024 ∧ S0 + 48 ≤ 7293034) {b9 L : Nat} {xs : Nat → Int32} (h9 : va_X b9 L xs s s.heap ∧ b9 < s.heap.size ∧ ¬ FR B0 b9) {Γ : zSh} {x0 : Nat} {x1 : Nat} {x2 : Nat} {x3 : Nat} {x4 : Int32}  {σ : zSt} {out : ((Int32 × zSt) ⊕ ((zSt) ⊕ (Int32 × zSt)))} (hf : f_L_law_B23_L1193 xs L b9 Γ x0 x1 x2 x3 x4 σ = some out) {H : Heap} {locs : List Loc} {ls : Array Slot} (hw : zO D cA B0 Γ σ (ZB B0) s.heap H locs) (hl : lv_has ls 7 [(0, .ref x0), (1, .ref x1), (2, .ref x2), (3, .ref x3), (4, .int x4)])
    (kI : ∀ (z4 : Int32) (σ2 : zSt), out = .inl (z4, σ2) → ∀ (H : Heap) (locs : List Loc) (ls : Array Slot), zO D cA B0 Γ σ2 (ZB B0) s.heap H locs → lv_has ls 7 [(0, .ref x0), (1, .ref x1), (2, .ref x2), (3, .ref x3), (4, .int z4)] → W p l e room_1 s m args below meth c H locs (C0 + 8) (S0 + 48) Q (F0 m 23 ls []))
    (kE : ∀ (σ2 : zSt), out = .inr (.inl σ2) → ∀ (H : Heap) (locs : List Loc) (ls : Array Slot), zO D cA B0 Γ σ2 (ZB B0) s.heap H locs → lv_has ls 7 [] → W p l e room_1 s m args below meth c H locs (C0 + 8) (S0 + 48) Q (F0 m 1936 ls []))
    (kR : ∀ (v : Int32) (σ2 : zSt), out = .inr (.inr (v, σ2)) → isB v = true → ∀ (H : Heap) (locs : List Loc) (ls : Array Slot) (pr : Nat), zO D cA B0 Γ σ2 (ZB B0) s.heap H locs → decode cL_law pr = .ok (.ireturn, 1) → W p l e room_1 s m args below meth c H locs (C0 + 8) (S0 + 48) Q (F0 m pr ls [.int v])) :
    W p l e room_1 s m args below meth c H locs (C0 + 8) (S0 + 48) Q (F0 m 1193 ls []) := by
  have hx := hC.1
  have hb := hC.2.1
  unfold f_L_law_B23_L1193 at hf
  refine lv_goto (tgt := 1930) hx hb dL_law_1193 (by decide) ?_
  exact t_L_law_B23_L1930 hC h0 h9 hf hw (lv_sub hl [0, 1, 2, 3, 4] rfl) kI kE kR
set_option maxHeartbeats 4000000 in
set_option maxRecDepth 100000 in
theorem t_L_law_B23_L1273 (hC : zC p l s m args meth c cL_law 7 RL D cA B0) {C0 S0 : Nat} (h0 : C0 + 8 ≤ 601024 ∧ S0 + 48 ≤ 7293034) {b9 L : Nat} {xs : Nat → Int32} (h9 : va_X b9 L xs s s.heap ∧ b9 < s.heap.size ∧ ¬ FR B0 b9) {Γ : zSh} {x0 : Nat} {x1 : Nat} {x2 : Nat} {x3 : Nat} {x4 : Int32}  {σ : zSt} {out : ((Int32 × zSt) ⊕ ((zSt) ⊕ (Int32 × zSt)))} (hf : f_L_law_B23_L1273 xs L b9 Γ x0 x1 x2 x3 x4 σ = some out) {H : Heap} {locs : List Loc} {ls : Array Slot} (hw : zO D cA B0 Γ σ (ZB B0) s.heap H locs) (hl : lv_has ls 7 [(0, .ref x0), (1, .ref x1), (2, .ref x2), (3, .ref x3), (4, .int x4)])
    (kI : ∀ (z4 : Int32) (σ2 : zSt), out = .inl (z4, σ2) → ∀ (H : Heap) (locs : List Loc) (ls : Array Slot), zO D cA B0 Γ σ2 (ZB B0) s.heap H locs → lv_has ls 7 [(0, .ref x0), (1, .ref x1), (2, .ref x2), (3, .ref x3), (4, .int z4)] → W p l e room_1 s m args below meth c H locs (C0 + 8) (S0 + 48) Q (F0 m 23 ls []))
    (kE : ∀ (σ2 : zSt), out = .inr (.inl σ2) → ∀ (H : Heap) (locs : List Loc) (ls : Array Slot), zO D cA B0 Γ σ2 (ZB B0) s.heap H locs → lv_has ls 7 [] → W p l e room_1 s m args below meth c H locs (C0 + 8) (S0 + 48) Q (F0 m 1936 ls []))
    (kR : ∀ (v : Int32) (σ2 : zSt), out = .inr (.inr (v, σ2)) → isB v = true → ∀ (H : Heap) (locs : List Loc) (ls : Array Slot) (pr : Nat), zO D cA B0 Γ σ2 (ZB B0) s.heap H locs → decode cL_law pr = .ok (.ireturn, 1) → W p l e room_1 s m args below meth c H locs (C0 + 8) (S0 + 48) Q (F0 m pr ls [.int v])) :
    W p l e room_1 s m args below meth c H locs (C0 + 8) (S0 + 48) Q (F0 m 1273 ls []) := by
  have hx := hC.1
  have hb := hC.2.1
  unfold f_L_law_B23_L1273 at hf
  refine lv_goto (tgt := 1930) hx hb dL_law_1273 (by decide) ?_
  exact t_L_law_B23_L1930 hC h0 h9 hf hw (lv_sub hl [0, 1, 2, 3, 4] rfl) kI kE kR
set_option maxHeartbeats 4000000 in
set_option maxRecDepth 100000 in
theorem t_L_law_B23_L1341 (hC : zC p l s m args meth c cL_law 7 RL D cA B0) {C0 S0 : Nat} (h0 : C0 + 8 ≤ 601024 ∧ S0 + 48 ≤ 7293034) {b9 L : Nat} {xs : Nat → Int32} (h9 : va_X b9 L xs s s.heap ∧ b9 < s.heap.size ∧ ¬ FR B0 b9) {Γ : zSh} {x0 : Nat} {x1 : Nat} {x2 : Nat} {x3 : Nat} {x4 : Int32}  {σ : zSt} {out : ((Int32 × zSt) ⊕ ((zSt) ⊕ (Int32 × zSt)))} (hf : f_L_law_B23_L1341 xs L b9 Γ x0 x1 x2 x3 x4 σ = some out) {H : Heap} {locs : List Loc} {ls : Array Slot} (hw : zO D cA B0 Γ σ (ZB B0) s.heap H locs) (hl : lv_has ls 7 [(0, .ref x0), (1, .ref x1), (2, .ref x2), (3, .ref x3), (4, .int x4)])
    (kI : ∀ (z4 : Int32) (σ2 : zSt), out = .inl (z4, σ2) → ∀ (H : Heap) (locs : List Loc) (ls : Array Slot), zO D cA B0 Γ σ2 (ZB B0) s.heap H locs → lv_has ls 7 [(0, .ref x0), (1, .ref x1), (2, .ref x2), (3, .ref x3), (4, .int z4)] → W p l e room_1 s m args below meth c H locs (C0 + 8) (S0 + 48) Q (F0 m 23 ls []))
    (kE : ∀ (σ2 : zSt), out = .inr (.inl σ2) → ∀ (H : Heap) (locs : List Loc) (ls : Array Slot), zO D cA B0 Γ σ2 (ZB B0) s.heap H locs → lv_has ls 7 [] → W p l e room_1 s m args below meth c H locs (C0 + 8) (S0 + 48) Q (F0 m 1936 ls []))
    (kR : ∀ (v : Int32) (σ2 : zSt), out = .inr (.inr (v, σ2)) → isB v = true → ∀ (H : Heap) (locs : List Loc) (ls : Array Slot) (pr : Nat), zO D cA B0 Γ σ2 (ZB B0) s.heap H locs → decode cL_law pr = .ok (.ireturn, 1) → W p l e room_1 s m args below meth c H locs (C0 + 8) (S0 + 48) Q (F0 m pr ls [.int v])) :
    W p l e room_1 s m args below meth c H locs (C0 + 8) (S0 + 48) Q (F0 m 1341 ls []) := by
  have hx := hC.1
  have hb := hC.2.1
  unfold f_L_law_B23_L1341 at hf
  refine lv_goto (tgt := 1930) hx hb dL_law_1341 (by decide) ?_
  exact t_L_law_B23_L1930 hC h0 h9 hf hw (lv_sub hl [0, 1, 2, 3, 4] rfl) kI kE kR
set_option maxHeartbeats 4000000 in
set_option maxRecDepth 100000 in
theorem t_L_law_B23_L1409 (hC : zC p l s m args meth c cL_law 7 RL D cA B0) {C0 S0 : Nat} (h0 : C0 + 8 ≤ 601024 ∧ S0 + 48 ≤ 7293034) {b9 L : Nat} {xs : Nat → Int32} (h9 : va_X b9 L xs s s.heap ∧ b9 < s.heap.size ∧ ¬ FR B0 b9) {Γ : zSh} {x0 : Nat} {x1 : Nat} {x2 : Nat} {x3 : Nat} {x4 : Int32}  {σ : zSt} {out : ((Int32 × zSt) ⊕ ((zSt) ⊕ (Int32 × zSt)))} (hf : f_L_law_B23_L1409 xs L b9 Γ x0 x1 x2 x3 x4 σ = some out) {H : Heap} {locs : List Loc} {ls : Array Slot} (hw : zO D cA B0 Γ σ (ZB B0) s.heap H locs) (hl : lv_has ls 7 [(0, .ref x0), (1, .ref x1), (2, .ref x2), (3, .ref x3), (4, .int x4)])
    (kI : ∀ (z4 : Int32) (σ2 : zSt), out = .inl (z4, σ2) → ∀ (H : Heap) (locs : List Loc) (ls : Array Slot), zO D cA B0 Γ σ2 (ZB B0) s.heap H locs → lv_has ls 7 [(0, .ref x0), (1, .ref x1), (2, .ref x2), (3, .ref x3), (4, .int z4)] → W p l e room_1 s m args below meth c H locs (C0 + 8) (S0 + 48) Q (F0 m 23 ls []))
    (kE : ∀ (σ2 : zSt), out = .inr (.inl σ2) → ∀ (H : Heap) (locs : List Loc) (ls : Array Slot), zO D cA B0 Γ σ2 (ZB B0) s.heap H locs → lv_has ls 7 [] → W p l e room_1 s m args below meth c H locs (C0 + 8) (S0 + 48) Q (F0 m 1936 ls []))
    (kR : ∀ (v : Int32) (σ2 : zSt), out = .inr (.inr (v, σ2)) → isB v = true → ∀ (H : Heap) (locs : List Loc) (ls : Array Slot) (pr : Nat), zO D cA B0 Γ σ2 (ZB B0) s.heap H locs → decode cL_law pr = .ok (.ireturn, 1) → W p l e room_1 s m args below meth c H locs (C0 + 8) (S0 + 48) Q (F0 m pr ls [.int v])) :
    W p l e room_1 s m args below meth c H locs (C0 + 8) (S0 + 48) Q (F0 m 1409 ls []) := by
  have hx := hC.1
  have hb := hC.2.1
  unfold f_L_law_B23_L1409 at hf
  refine lv_goto (tgt := 1930) hx hb dL_law_1409 (by decide) ?_
  exact t_L_law_B23_L1930 hC h0 h9 hf hw (lv_sub hl [0, 1, 2, 3, 4] rfl) kI kE kR
set_option maxHeartbeats 4000000 in
set_option maxRecDepth 100000 in
theorem t_L_law_B23_L1477 (hC : zC p l s m args meth c cL_law 7 RL D cA B0) {C0 S0 : Nat} (h0 : C0 + 8 ≤ 601024 ∧ S0 + 48 ≤ 7293034) {b9 L : Nat} {xs : Nat → Int32} (h9 : va_X b9 L xs s s.heap ∧ b9 < s.heap.size ∧ ¬ FR B0 b9) {Γ : zSh} {x0 : Nat} {x1 : Nat} {x2 : Nat} {x3 : Nat} {x4 : Int32}  {σ : zSt} {out : ((Int32 × zSt) ⊕ ((zSt) ⊕ (Int32 × zSt)))} (hf : f_L_law_B23_L1477 xs L b9 Γ x0 x1 x2 x3 x4 σ = some out) {H : Heap} {locs : List Loc} {ls : Array Slot} (hw : zO D cA B0 Γ σ (ZB B0) s.heap H locs) (hl : lv_has ls 7 [(0, .ref x0), (1, .ref x1), (2, .ref x2), (3, .ref x3), (4, .int x4)])
    (kI : ∀ (z4 : Int32) (σ2 : zSt), out = .inl (z4, σ2) → ∀ (H : Heap) (locs : List Loc) (ls : Array Slot), zO D cA B0 Γ σ2 (ZB B0) s.heap H locs → lv_has ls 7 [(0, .ref x0), (1, .ref x1), (2, .ref x2), (3, .ref x3), (4, .int z4)] → W p l e room_1 s m args below meth c H locs (C0 + 8) (S0 + 48) Q (F0 m 23 ls []))
    (kE : ∀ (σ2 : zSt), out = .inr (.inl σ2) → ∀ (H : Heap) (locs : List Loc) (ls : Array Slot), zO D cA B0 Γ σ2 (ZB B0) s.heap H locs → lv_has ls 7 [] → W p l e room_1 s m args below meth c H locs (C0 + 8) (S0 + 48) Q (F0 m 1936 ls []))
    (kR : ∀ (v : Int32) (σ2 : zSt), out = .inr (.inr (v, σ2)) → isB v = true → ∀ (H : Heap) (locs : List Loc) (ls : Array Slot) (pr : Nat), zO D cA B0 Γ σ2 (ZB B0) s.heap H locs → decode cL_law pr = .ok (.ireturn, 1) → W p l e room_1 s m args below meth c H locs (C0 + 8) (S0 + 48) Q (F0 m pr ls [.int v])) :
    W p l e room_1 s m args below meth c H locs (C0 + 8) (S0 + 48) Q (F0 m 1477 ls []) := by
  have hx := hC.1
  have hb := hC.2.1
  unfold f_L_law_B23_L1477 at hf
  refine lv_goto (tgt := 1930) hx hb dL_law_1477 (by decide) ?_
  exact t_L_law_B23_L1930 hC h0 h9 hf hw (lv_sub hl [0, 1, 2, 3, 4] rfl) kI kE kR
set_option maxHeartbeats 4000000 in
set_option maxRecDepth 100000 in
theorem t_L_law_B23_L1545 (hC : zC p l s m args meth c cL_law 7 RL D cA B0) {C0 S0 : Nat} (h0 : C0 + 8 ≤ 601024 ∧ S0 + 48 ≤ 7293034) {b9 L : Nat} {xs : Nat → Int32} (h9 : va_X b9 L xs s s.heap ∧ b9 < s.heap.size ∧ ¬ FR B0 b9) {Γ : zSh} {x0 : Nat} {x1 : Nat} {x2 : Nat} {x3 : Nat} {x4 : Int32}  {σ : zSt} {out : ((Int32 × zSt) ⊕ ((zSt) ⊕ (Int32 × zSt)))} (hf : f_L_law_B23_L1545 xs L b9 Γ x0 x1 x2 x3 x4 σ = some out) {H : Heap} {locs : List Loc} {ls : Array Slot} (hw : zO D cA B0 Γ σ (ZB B0) s.heap H locs) (hl : lv_has ls 7 [(0, .ref x0), (1, .ref x1), (2, .ref x2), (3, .ref x3), (4, .int x4)])
    (kI : ∀ (z4 : Int32) (σ2 : zSt), out = .inl (z4, σ2) → ∀ (H : Heap) (locs : List Loc) (ls : Array Slot), zO D cA B0 Γ σ2 (ZB B0) s.heap H locs → lv_has ls 7 [(0, .ref x0), (1, .ref x1), (2, .ref x2), (3, .ref x3), (4, .int z4)] → W p l e room_1 s m args below meth c H locs (C0 + 8) (S0 + 48) Q (F0 m 23 ls []))
    (kE : ∀ (σ2 : zSt), out = .inr (.inl σ2) → ∀ (H : Heap) (locs : List Loc) (ls : Array Slot), zO D cA B0 Γ σ2 (ZB B0) s.heap H locs → lv_has ls 7 [] → W p l e room_1 s m args below meth c H locs (C0 + 8) (S0 + 48) Q (F0 m 1936 ls []))
    (kR : ∀ (v : Int32) (σ2 : zSt), out = .inr (.inr (v, σ2)) → isB v = true → ∀ (H : Heap) (locs : List Loc) (ls : Array Slot) (pr : Nat), zO D cA B0 Γ σ2 (ZB B0) s.heap H locs → decode cL_law pr = .ok (.ireturn, 1) → W p l e room_1 s m args below meth c H locs (C0 + 8) (S0 + 48) Q (F0 m pr ls [.int v])) :
    W p l e room_1 s m args below meth c H locs (C0 + 8) (S0 + 48) Q (F0 m 1545 ls []) := by
  have hx := hC.1
  have hb := hC.2.1
  unfold f_L_law_B23_L1545 at hf
  refine lv_goto (tgt := 1930) hx hb dL_law_1545 (by decide) ?_
  exact t_L_law_B23_L1930 hC h0 h9 hf hw (lv_sub hl [0, 1, 2, 3, 4] rfl) kI kE kR
set_option maxHeartbeats 4000000 in
set_option maxRecDepth 100000 in
theorem t_L_law_B23_L1613 (hC : zC p l s m args meth c cL_law 7 RL D cA B0) {C0 S0 : Nat} (h0 : C0 + 8 ≤ 601024 ∧ S0 + 48 ≤ 7293034) {b9 L : Nat} {xs : Nat → Int32} (h9 : va_X b9 L xs s s.heap ∧ b9 < s.heap.size ∧ ¬ FR B0 b9) {Γ : zSh} {x0 : Nat} {x1 : Nat} {x2 : Nat} {x3 : Nat} {x4 : Int32}  {σ : zSt} {out : ((Int32 × zSt) ⊕ ((zSt) ⊕ (Int32 × zSt)))} (hf : f_L_law_B23_L1613 xs L b9 Γ x0 x1 x2 x3 x4 σ = some out) {H : Heap} {locs : List Loc} {ls : Array Slot} (hw : zO D cA B0 Γ σ (ZB B0) s.heap H locs) (hl : lv_has ls 7 [(0, .ref x0), (1, .ref x1), (2, .ref x2), (3, .ref x3), (4, .int x4)])
    (kI : ∀ (z4 : Int32) (σ2 : zSt), out = .inl (z4, σ2) → ∀ (H : Heap) (locs : List Loc) (ls : Array Slot), zO D cA B0 Γ σ2 (ZB B0) s.heap H locs → lv_has ls 7 [(0, .ref x0), (1, .ref x1), (2, .ref x2), (3, .ref x3), (4, .int z4)] → W p l e room_1 s m args below meth c H locs (C0 + 8) (S0 + 48) Q (F0 m 23 ls []))
    (kE : ∀ (σ2 : zSt), out = .inr (.inl σ2) → ∀ (H : Heap) (locs : List Loc) (ls : Array Slot), zO D cA B0 Γ σ2 (ZB B0) s.heap H locs → lv_has ls 7 [] → W p l e room_1 s m args below meth c H locs (C0 + 8) (S0 + 48) Q (F0 m 1936 ls []))
    (kR : ∀ (v : Int32) (σ2 : zSt), out = .inr (.inr (v, σ2)) → isB v = true → ∀ (H : Heap) (locs : List Loc) (ls : Array Slot) (pr : Nat), zO D cA B0 Γ σ2 (ZB B0) s.heap H locs → decode cL_law pr = .ok (.ireturn, 1) → W p l e room_1 s m args below meth c H locs (C0 + 8) (S0 + 48) Q (F0 m pr ls [.int v])) :
    W p l e room_1 s m args below meth c H locs (C0 + 8) (S0 + 48) Q (F0 m 1613 ls []) := by
  have hx := hC.1
  have hb := hC.2.1
  unfold f_L_law_B23_L1613 at hf
  refine lv_goto (tgt := 1930) hx hb dL_law_1613 (by decide) ?_
  exact t_L_law_B23_L1930 hC h0 h9 hf hw (lv_sub hl [0, 1, 2, 3, 4] rfl) kI kE kR
set_option maxHeartbeats 4000000 in
set_option maxRecDepth 100000 in
theorem t_L_law_B23_L1688 (hC : zC p l s m args meth c cL_law 7 RL D cA B0) {C0 S0 : Nat} (h0 : C0 + 8 ≤ 601024 ∧ S0 + 48 ≤ 7293034) {b9 L : Nat} {xs : Nat → Int32} (h9 : va_X b9 L xs s s.heap ∧ b9 < s.heap.size ∧ ¬ FR B0 b9) {Γ : zSh} {x0 : Nat} {x1 : Nat} {x2 : Nat} {x3 : Nat} {x4 : Int32}  {σ : zSt} {out : ((Int32 × zSt) ⊕ ((zSt) ⊕ (Int32 × zSt)))} (hf : f_L_law_B23_L1688 xs L b9 Γ x0 x1 x2 x3 x4 σ = some out) {H : Heap} {locs : List Loc} {ls : Array Slot} (hw : zO D cA B0 Γ σ (ZB B0) s.heap H locs) (hl : lv_has ls 7 [(0, .ref x0), (1, .ref x1), (2, .ref x2), (3, .ref x3), (4, .int x4)])
    (kI : ∀ (z4 : Int32) (σ2 : zSt), out = .inl (z4, σ2) → ∀ (H : Heap) (locs : List Loc) (ls : Array Slot), zO D cA B0 Γ σ2 (ZB B0) s.heap H locs → lv_has ls 7 [(0, .ref x0), (1, .ref x1), (2, .ref x2), (3, .ref x3), (4, .int z4)] → W p l e room_1 s m args below meth c H locs (C0 + 8) (S0 + 48) Q (F0 m 23 ls []))
    (kE : ∀ (σ2 : zSt), out = .inr (.inl σ2) → ∀ (H : Heap) (locs : List Loc) (ls : Array Slot), zO D cA B0 Γ σ2 (ZB B0) s.heap H locs → lv_has ls 7 [] → W p l e room_1 s m args below meth c H locs (C0 + 8) (S0 + 48) Q (F0 m 1936 ls []))
    (kR : ∀ (v : Int32) (σ2 : zSt), out = .inr (.inr (v, σ2)) → isB v = true → ∀ (H : Heap) (locs : List Loc) (ls : Array Slot) (pr : Nat), zO D cA B0 Γ σ2 (ZB B0) s.heap H locs → decode cL_law pr = .ok (.ireturn, 1) → W p l e room_1 s m args below meth c H locs (C0 + 8) (S0 + 48) Q (F0 m pr ls [.int v])) :
    W p l e room_1 s m args below meth c H locs (C0 + 8) (S0 + 48) Q (F0 m 1688 ls []) := by
  have hx := hC.1
  have hb := hC.2.1
  unfold f_L_law_B23_L1688 at hf
  refine lv_goto (tgt := 1930) hx hb dL_law_1688 (by decide) ?_
  exact t_L_law_B23_L1930 hC h0 h9 hf hw (lv_sub hl [0, 1, 2, 3, 4] rfl) kI kE kR
set_option maxHeartbeats 4000000 in
set_option maxRecDepth 100000 in
theorem t_L_law_B23_L1682 (hC : zC p l s m args meth c cL_law 7 RL D cA B0) {C0 S0 : Nat} (h0 : C0 + 8 ≤ 601024 ∧ S0 + 48 ≤ 7293034) {b9 L : Nat} {xs : Nat → Int32} (h9 : va_X b9 L xs s s.heap ∧ b9 < s.heap.size ∧ ¬ FR B0 b9) {Γ : zSh} {x0 : Nat} {x1 : Nat} {x2 : Nat} {x3 : Nat} {x4 : Int32} {s0 : Int64} {s1 : Int64}  {σ : zSt} {out : ((Int32 × zSt) ⊕ ((zSt) ⊕ (Int32 × zSt)))} (hf : f_L_law_B23_L1682 xs L b9 Γ x0 x1 x2 x3 x4 s0 s1 σ = some out) {H : Heap} {locs : List Loc} {ls : Array Slot} (hw : zO D cA B0 Γ σ (ZB B0) s.heap H locs) (hl : lv_has ls 7 [(0, .ref x0), (1, .ref x1), (2, .ref x2), (3, .ref x3), (4, .int x4)])
    (kI : ∀ (z4 : Int32) (σ2 : zSt), out = .inl (z4, σ2) → ∀ (H : Heap) (locs : List Loc) (ls : Array Slot), zO D cA B0 Γ σ2 (ZB B0) s.heap H locs → lv_has ls 7 [(0, .ref x0), (1, .ref x1), (2, .ref x2), (3, .ref x3), (4, .int z4)] → W p l e room_1 s m args below meth c H locs (C0 + 8) (S0 + 48) Q (F0 m 23 ls []))
    (kE : ∀ (σ2 : zSt), out = .inr (.inl σ2) → ∀ (H : Heap) (locs : List Loc) (ls : Array Slot), zO D cA B0 Γ σ2 (ZB B0) s.heap H locs → lv_has ls 7 [] → W p l e room_1 s m args below meth c H locs (C0 + 8) (S0 + 48) Q (F0 m 1936 ls []))
    (kR : ∀ (v : Int32) (σ2 : zSt), out = .inr (.inr (v, σ2)) → isB v = true → ∀ (H : Heap) (locs : List Loc) (ls : Array Slot) (pr : Nat), zO D cA B0 Γ σ2 (ZB B0) s.heap H locs → decode cL_law pr = .ok (.ireturn, 1) → W p l e room_1 s m args below meth c H locs (C0 + 8) (S0 + 48) Q (F0 m pr ls [.int v])) :
    W p l e room_1 s m args below meth c H locs (C0 + 8) (S0 + 48) Q (F0 m 1682 ls [.long s0, .long s1]) := by
  have hx := hC.1
  have hb := hC.2.1
  unfold f_L_law_B23_L1682 at hf
  refine W.lcmp hx hb dL_law_1682 ?_
  refine lv_if_eq (tgt := 1688) hx hb dL_law_1683 (by decide) (fun hc => ?_) (fun hc => ?_)
  · rw [if_pos hc] at hf
    exact t_L_law_B23_L1688 hC h0 h9 hf hw (lv_sub hl [0, 1, 2, 3, 4] rfl) kI kE kR
  · rw [if_neg hc] at hf
    refine lv_iconst (v := 0) hx hb dL_law_1686 (by decide) ?_
    obtain ⟨hz, hf⟩ := chk_inv hf
    refine W.widen (k := C0 + 8) (n := S0 + 48) (by omega) (by omega) ?_
    exact kR 0 σ (Option.some.inj hf).symm hz _ _ _ 1687 hw dL_law_1687
set_option maxHeartbeats 4000000 in
set_option maxRecDepth 100000 in
theorem t_L_law_B23_L1744 (hC : zC p l s m args meth c cL_law 7 RL D cA B0) {C0 S0 : Nat} (h0 : C0 + 8 ≤ 601024 ∧ S0 + 48 ≤ 7293034) {b9 L : Nat} {xs : Nat → Int32} (h9 : va_X b9 L xs s s.heap ∧ b9 < s.heap.size ∧ ¬ FR B0 b9) {Γ : zSh} {x0 : Nat} {x1 : Nat} {x2 : Nat} {x3 : Nat} {x4 : Int32}  {σ : zSt} {out : ((Int32 × zSt) ⊕ ((zSt) ⊕ (Int32 × zSt)))} (hf : f_L_law_B23_L1744 xs L b9 Γ x0 x1 x2 x3 x4 σ = some out) {H : Heap} {locs : List Loc} {ls : Array Slot} (hw : zO D cA B0 Γ σ (ZB B0) s.heap H locs) (hl : lv_has ls 7 [(0, .ref x0), (1, .ref x1), (2, .ref x2), (3, .ref x3), (4, .int x4)])
    (kI : ∀ (z4 : Int32) (σ2 : zSt), out = .inl (z4, σ2) → ∀ (H : Heap) (locs : List Loc) (ls : Array Slot), zO D cA B0 Γ σ2 (ZB B0) s.heap H locs → lv_has ls 7 [(0, .ref x0), (1, .ref x1), (2, .ref x2), (3, .ref x3), (4, .int z4)] → W p l e room_1 s m args below meth c H locs (C0 + 8) (S0 + 48) Q (F0 m 23 ls []))
    (kE : ∀ (σ2 : zSt), out = .inr (.inl σ2) → ∀ (H : Heap) (locs : List Loc) (ls : Array Slot), zO D cA B0 Γ σ2 (ZB B0) s.heap H locs → lv_has ls 7 [] → W p l e room_1 s m args below meth c H locs (C0 + 8) (S0 + 48) Q (F0 m 1936 ls []))
    (kR : ∀ (v : Int32) (σ2 : zSt), out = .inr (.inr (v, σ2)) → isB v = true → ∀ (H : Heap) (locs : List Loc) (ls : Array Slot) (pr : Nat), zO D cA B0 Γ σ2 (ZB B0) s.heap H locs → decode cL_law pr = .ok (.ireturn, 1) → W p l e room_1 s m args below meth c H locs (C0 + 8) (S0 + 48) Q (F0 m pr ls [.int v])) :
    W p l e room_1 s m args below meth c H locs (C0 + 8) (S0 + 48) Q (F0 m 1744 ls []) := by
  have hx := hC.1
  have hb := hC.2.1
  unfold f_L_law_B23_L1744 at hf
  refine lv_goto (tgt := 1930) hx hb dL_law_1744 (by decide) ?_
  exact t_L_law_B23_L1930 hC h0 h9 hf hw (lv_sub hl [0, 1, 2, 3, 4] rfl) kI kE kR
set_option maxHeartbeats 4000000 in
set_option maxRecDepth 100000 in
theorem t_L_law_B23_L1800 (hC : zC p l s m args meth c cL_law 7 RL D cA B0) {C0 S0 : Nat} (h0 : C0 + 8 ≤ 601024 ∧ S0 + 48 ≤ 7293034) {b9 L : Nat} {xs : Nat → Int32} (h9 : va_X b9 L xs s s.heap ∧ b9 < s.heap.size ∧ ¬ FR B0 b9) {Γ : zSh} {x0 : Nat} {x1 : Nat} {x2 : Nat} {x3 : Nat} {x4 : Int32}  {σ : zSt} {out : ((Int32 × zSt) ⊕ ((zSt) ⊕ (Int32 × zSt)))} (hf : f_L_law_B23_L1800 xs L b9 Γ x0 x1 x2 x3 x4 σ = some out) {H : Heap} {locs : List Loc} {ls : Array Slot} (hw : zO D cA B0 Γ σ (ZB B0) s.heap H locs) (hl : lv_has ls 7 [(0, .ref x0), (1, .ref x1), (2, .ref x2), (3, .ref x3), (4, .int x4)])
    (kI : ∀ (z4 : Int32) (σ2 : zSt), out = .inl (z4, σ2) → ∀ (H : Heap) (locs : List Loc) (ls : Array Slot), zO D cA B0 Γ σ2 (ZB B0) s.heap H locs → lv_has ls 7 [(0, .ref x0), (1, .ref x1), (2, .ref x2), (3, .ref x3), (4, .int z4)] → W p l e room_1 s m args below meth c H locs (C0 + 8) (S0 + 48) Q (F0 m 23 ls []))
    (kE : ∀ (σ2 : zSt), out = .inr (.inl σ2) → ∀ (H : Heap) (locs : List Loc) (ls : Array Slot), zO D cA B0 Γ σ2 (ZB B0) s.heap H locs → lv_has ls 7 [] → W p l e room_1 s m args below meth c H locs (C0 + 8) (S0 + 48) Q (F0 m 1936 ls []))
    (kR : ∀ (v : Int32) (σ2 : zSt), out = .inr (.inr (v, σ2)) → isB v = true → ∀ (H : Heap) (locs : List Loc) (ls : Array Slot) (pr : Nat), zO D cA B0 Γ σ2 (ZB B0) s.heap H locs → decode cL_law pr = .ok (.ireturn, 1) → W p l e room_1 s m args below meth c H locs (C0 + 8) (S0 + 48) Q (F0 m pr ls [.int v])) :
    W p l e room_1 s m args below meth c H locs (C0 + 8) (S0 + 48) Q (F0 m 1800 ls []) := by
  have hx := hC.1
  have hb := hC.2.1
  unfold f_L_law_B23_L1800 at hf
  refine lv_goto (tgt := 1930) hx hb dL_law_1800 (by decide) ?_
  exact t_L_law_B23_L1930 hC h0 h9 hf hw (lv_sub hl [0, 1, 2, 3, 4] rfl) kI kE kR
set_option maxHeartbeats 4000000 in
set_option maxRecDepth 100000 in
theorem t_L_law_B23_L1869 (hC : zC p l s m args meth c cL_law 7 RL D cA B0) {C0 S0 : Nat} (h0 : C0 + 8 ≤ 601024 ∧ S0 + 48 ≤ 7293034) {b9 L : Nat} {xs : Nat → Int32} (h9 : va_X b9 L xs s s.heap ∧ b9 < s.heap.size ∧ ¬ FR B0 b9) {Γ : zSh} {x0 : Nat} {x1 : Nat} {x2 : Nat} {x3 : Nat} {x4 : Int32}  {σ : zSt} {out : ((Int32 × zSt) ⊕ ((zSt) ⊕ (Int32 × zSt)))} (hf : f_L_law_B23_L1869 xs L b9 Γ x0 x1 x2 x3 x4 σ = some out) {H : Heap} {locs : List Loc} {ls : Array Slot} (hw : zO D cA B0 Γ σ (ZB B0) s.heap H locs) (hl : lv_has ls 7 [(0, .ref x0), (1, .ref x1), (2, .ref x2), (3, .ref x3), (4, .int x4)])
    (kI : ∀ (z4 : Int32) (σ2 : zSt), out = .inl (z4, σ2) → ∀ (H : Heap) (locs : List Loc) (ls : Array Slot), zO D cA B0 Γ σ2 (ZB B0) s.heap H locs → lv_has ls 7 [(0, .ref x0), (1, .ref x1), (2, .ref x2), (3, .ref x3), (4, .int z4)] → W p l e room_1 s m args below meth c H locs (C0 + 8) (S0 + 48) Q (F0 m 23 ls []))
    (kE : ∀ (σ2 : zSt), out = .inr (.inl σ2) → ∀ (H : Heap) (locs : List Loc) (ls : Array Slot), zO D cA B0 Γ σ2 (ZB B0) s.heap H locs → lv_has ls 7 [] → W p l e room_1 s m args below meth c H locs (C0 + 8) (S0 + 48) Q (F0 m 1936 ls []))
    (kR : ∀ (v : Int32) (σ2 : zSt), out = .inr (.inr (v, σ2)) → isB v = true → ∀ (H : Heap) (locs : List Loc) (ls : Array Slot) (pr : Nat), zO D cA B0 Γ σ2 (ZB B0) s.heap H locs → decode cL_law pr = .ok (.ireturn, 1) → W p l e room_1 s m args below meth c H locs (C0 + 8) (S0 + 48) Q (F0 m pr ls [.int v])) :
    W p l e room_1 s m args below meth c H locs (C0 + 8) (S0 + 48) Q (F0 m 1869 ls []) := by
  have hx := hC.1
  have hb := hC.2.1
  unfold f_L_law_B23_L1869 at hf
  refine lv_goto (tgt := 1930) hx hb dL_law_1869 (by decide) ?_
  exact t_L_law_B23_L1930 hC h0 h9 hf hw (lv_sub hl [0, 1, 2, 3, 4] rfl) kI kE kR
set_option maxHeartbeats 4000000 in
set_option maxRecDepth 100000 in
theorem t_L_law_B23_L1913 (hC : zC p l s m args meth c cL_law 7 RL D cA B0) {C0 S0 : Nat} (h0 : C0 + 8 ≤ 601024 ∧ S0 + 48 ≤ 7293034) {b9 L : Nat} {xs : Nat → Int32} (h9 : va_X b9 L xs s s.heap ∧ b9 < s.heap.size ∧ ¬ FR B0 b9) {Γ : zSh} {x0 : Nat} {x1 : Nat} {x2 : Nat} {x3 : Nat} {x4 : Int32}  {σ : zSt} {out : ((Int32 × zSt) ⊕ ((zSt) ⊕ (Int32 × zSt)))} (hf : f_L_law_B23_L1913 xs L b9 Γ x0 x1 x2 x3 x4 σ = some out) {H : Heap} {locs : List Loc} {ls : Array Slot} (hw : zO D cA B0 Γ σ (ZB B0) s.heap H locs) (hl : lv_has ls 7 [(0, .ref x0), (1, .ref x1), (2, .ref x2), (3, .ref x3), (4, .int x4)])
    (kI : ∀ (z4 : Int32) (σ2 : zSt), out = .inl (z4, σ2) → ∀ (H : Heap) (locs : List Loc) (ls : Array Slot), zO D cA B0 Γ σ2 (ZB B0) s.heap H locs → lv_has ls 7 [(0, .ref x0), (1, .ref x1), (2, .ref x2), (3, .ref x3), (4, .int z4)] → W p l e room_1 s m args below meth c H locs (C0 + 8) (S0 + 48) Q (F0 m 23 ls []))
    (kE : ∀ (σ2 : zSt), out = .inr (.inl σ2) → ∀ (H : Heap) (locs : List Loc) (ls : Array Slot), zO D cA B0 Γ σ2 (ZB B0) s.heap H locs → lv_has ls 7 [] → W p l e room_1 s m args below meth c H locs (C0 + 8) (S0 + 48) Q (F0 m 1936 ls []))
    (kR : ∀ (v : Int32) (σ2 : zSt), out = .inr (.inr (v, σ2)) → isB v = true → ∀ (H : Heap) (locs : List Loc) (ls : Array Slot) (pr : Nat), zO D cA B0 Γ σ2 (ZB B0) s.heap H locs → decode cL_law pr = .ok (.ireturn, 1) → W p l e room_1 s m args below meth c H locs (C0 + 8) (S0 + 48) Q (F0 m pr ls [.int v])) :
    W p l e room_1 s m args below meth c H locs (C0 + 8) (S0 + 48) Q (F0 m 1913 ls []) := by
  have hx := hC.1
  have hb := hC.2.1
  unfold f_L_law_B23_L1913 at hf
  refine lv_goto (tgt := 1930) hx hb dL_law_1913 (by decide) ?_
  exact t_L_law_B23_L1930 hC h0 h9 hf hw (lv_sub hl [0, 1, 2, 3, 4] rfl) kI kE kR
set_option maxHeartbeats 8000000 in
set_option maxRecDepth 100000 in
theorem t_L_law_B23 (hC : zC p l s m args meth c cL_law 7 RL D cA B0) {C0 S0 : Nat} (h0 : C0 + 8 ≤ 601024 ∧ S0 + 48 ≤ 7293034) {b9 L : Nat} {xs : Nat → Int32} (h9 : va_X b9 L xs s s.heap ∧ b9 < s.heap.size ∧ ¬ FR B0 b9) {Γ : zSh} {x0 : Nat} {x1 : Nat} {x2 : Nat} {x3 : Nat} {x4 : Int32} {σ : zSt} {out : ((Int32 × zSt) ⊕ ((zSt) ⊕ (Int32 × zSt)))} (hf : f_L_law_B23 xs L b9 Γ x0 x1 x2 x3 x4 σ = some out) {H : Heap} {locs : List Loc} {ls : Array Slot} (hw : zO D cA B0 Γ σ (ZB B0) s.heap H locs) (hl : lv_has ls 7 [(0, .ref x0), (1, .ref x1), (2, .ref x2), (3, .ref x3), (4, .int x4)])
    (kI : ∀ (z4 : Int32) (σ2 : zSt), out = .inl (z4, σ2) → ∀ (H : Heap) (locs : List Loc) (ls : Array Slot), zO D cA B0 Γ σ2 (ZB B0) s.heap H locs → lv_has ls 7 [(0, .ref x0), (1, .ref x1), (2, .ref x2), (3, .ref x3), (4, .int z4)] → W p l e room_1 s m args below meth c H locs (C0 + 8) (S0 + 48) Q (F0 m 23 ls []))
    (kE : ∀ (σ2 : zSt), out = .inr (.inl σ2) → ∀ (H : Heap) (locs : List Loc) (ls : Array Slot), zO D cA B0 Γ σ2 (ZB B0) s.heap H locs → lv_has ls 7 [] → W p l e room_1 s m args below meth c H locs (C0 + 8) (S0 + 48) Q (F0 m 1936 ls []))
    (kR : ∀ (v : Int32) (σ2 : zSt), out = .inr (.inr (v, σ2)) → isB v = true → ∀ (H : Heap) (locs : List Loc) (ls : Array Slot) (pr : Nat), zO D cA B0 Γ σ2 (ZB B0) s.heap H locs → decode cL_law pr = .ok (.ireturn, 1) → W p l e room_1 s m args below meth c H locs (C0 + 8) (S0 + 48) Q (F0 m pr ls [.int v])) :
    W p l e room_1 s m args below meth c H locs (C0 + 0) (S0 + 0) Q (F0 m 23 ls []) := by
  have hx := hC.1
  have hb := hC.2.1
  unfold f_L_law_B23 at hf
  refine lv_iload hx hb dL_law_23 (lv_at hl 4 rfl) ?_
  refine lv_aload_n hx hb dL_law_25 rfl (lv_at hl 0 rfl) ?_
  obtain ⟨v1, hg, hf⟩ := scL_inv hf
  refine r_slen hC hw h9 hg dL_law_26 ?_
  refine lv_bipush (v := 6) hx hb dL_law_27 (by decide) ?_
  refine lv_isub hx hb dL_law_29 ?_
  refine lv_icmp_gt (tgt := 1936) hx hb dL_law_30 (by decide) (fun hc => ?_) (fun hc => ?_)
  · rw [if_pos hc] at hf
    refine W.widen (k := C0 + 8) (n := S0 + 48) (by omega) (by omega) ?_
    exact kE  σ (Option.some.inj hf).symm _ _ _ hw (lv_sub hl [] rfl)
  · rw [if_neg hc] at hf
    refine lv_aload_n hx hb dL_law_33 rfl (lv_at hl 0 rfl) ?_
    refine lv_iload hx hb dL_law_34 (lv_at hl 4 rfl) ?_
    obtain ⟨v2, hg, hf⟩ := scI_inv hf
    refine r_sld hC hw h9 hg dL_law_36 ?_
    refine lv_bipush (v := 31) hx hb dL_law_37 (by decide) ?_
    refine lv_iand hx hb dL_law_39 ?_
    by_cases h40_0 : (v2 &&& 31) = 0
    · rw [if_pos h40_0] at hf
      refine lv_tableIn (tgt := 160) hx hb dL_law_40 (by rw [h40_0]; decide) (by rw [h40_0]; decide) (by rw [h40_0]; rfl) (by decide) ?_
      refine lv_aload_n hx hb dL_law_160 rfl (lv_at hl 1 rfl) ?_
      refine lv_aload_n hx hb dL_law_161 rfl (lv_at hl 0 rfl) ?_
      refine lv_iload hx hb dL_law_162 (lv_at hl 4 rfl) ?_
      refine lv_iconst (v := 1) hx hb dL_law_164 (by decide) ?_
      refine lv_iadd hx hb dL_law_165 ?_
      obtain ⟨v3, hg, hf⟩ := scI_inv hf
      refine r_sld hC hw h9 hg dL_law_166 ?_
      refine lv_aload_n hx hb dL_law_167 rfl (lv_at hl 0 rfl) ?_
      refine lv_iload hx hb dL_law_168 (lv_at hl 4 rfl) ?_
      refine lv_iconst (v := 2) hx hb dL_law_170 (by decide) ?_
      refine lv_iadd hx hb dL_law_171 ?_
      obtain ⟨v4, hg, hf⟩ := scI_inv hf
      refine r_sld hC hw h9 hg dL_law_172 ?_
      refine lv_aload_n hx hb dL_law_173 rfl (lv_at hl 3 rfl) ?_
      obtain ⟨r6, σ5, hk, hf⟩ := bnd_inv hf
      refine z_callSW (As := [.ref x1, .int v3, .int v4, .ref x3]) (rest := []) (m_L_begin hC.2.2.2.2.2.2.2.2 hk) hC hw wd_L_begin lkM_L_100 rfl ⟨rfl, rfl⟩ ⟨(Nat.le_of_ble_eq_true rfl), (Nat.le_of_ble_eq_true rfl)⟩ hl.1 rfl (Nat.le_of_ble_eq_true rfl) dL_law_174 ⟨(by show _ ≤ (601024 : Nat); omega), (by show _ ≤ (7293034 : Nat); omega)⟩ (fun H locs hw => ?_)
      refine lv_istore (lv' := [(5, .int r6), (0, .ref x0), (1, .ref x1), (2, .ref x2), (3, .ref x3), (4, .int x4)]) hx hb dL_law_177 hl (Nat.le_of_ble_eq_true rfl) rfl (fun ls hl => ?_)
      refine lv_aload_n hx hb dL_law_179 rfl (lv_at hl 3 rfl) ?_
      refine lv_aload_n hx hb dL_law_180 rfl (lv_at hl 1 rfl) ?_
      refine lv_iload hx hb dL_law_181 (lv_at hl 5 rfl) ?_
      refine lv_iconst (v := 1) hx hb dL_law_183 (by decide) ?_
      refine lv_iadd hx hb dL_law_184 ?_
      obtain ⟨v7, hg, hf⟩ := scI_inv hf
      refine r_sld hC hw h9 hg dL_law_185 ?_
      refine lv_aload_n hx hb dL_law_186 rfl (lv_at hl 1 rfl) ?_
      refine lv_iload hx hb dL_law_187 (lv_at hl 5 rfl) ?_
      refine lv_iconst (v := 2) hx hb dL_law_189 (by decide) ?_
      refine lv_iadd hx hb dL_law_190 ?_
      obtain ⟨v8, hg, hf⟩ := scI_inv hf
      refine r_sld hC hw h9 hg dL_law_191 ?_
      obtain ⟨ho, hf⟩ := chk_inv hf
      obtain ⟨r10, σ9, hk, hf⟩ := bnd_inv hf
      refine z_callV (As := [.int v7, .int v8]) (rest := []) (m_X7_begin hC.2.2.2.2.2.2.2.2 hk) hC hw wd_X7_begin lkM_L_105 (isO_sh ho) rfl rfl ⟨rfl, rfl⟩ ⟨(Nat.le_of_ble_eq_true rfl), (Nat.le_of_ble_eq_true rfl)⟩ hl.1 rfl (Nat.le_of_ble_eq_true rfl) dL_law_192 ⟨(by show _ ≤ (601024 : Nat); omega), (by show _ ≤ (7293034 : Nat); omega)⟩ (fun H locs hw => ?_)
      refine lv_istore (lv' := [(6, .int r10), (5, .int r6), (0, .ref x0), (1, .ref x1), (2, .ref x2), (3, .ref x3), (4, .int x4)]) hx hb dL_law_195 hl (Nat.le_of_ble_eq_true rfl) rfl (fun ls hl => ?_)
      refine lv_aload_n hx hb dL_law_197 rfl (lv_at hl 4 rfl) ?_
      obtain ⟨ho, hf⟩ := chk_inv hf
      obtain ⟨r12, σ11, hk, hf⟩ := bnd_inv hf
      refine z_callV (As := []) (rest := []) (m_X7_thrown hC.2.2.2.2.2.2.2.2 hk) hC hw wd_X7_thrown lkM_L_106 (isO_sh ho) rfl rfl ⟨rfl, rfl⟩ ⟨(Nat.le_of_ble_eq_true rfl), (Nat.le_of_ble_eq_true rfl)⟩ hl.1 rfl (Nat.le_of_ble_eq_true rfl) dL_law_198 ⟨(by show _ ≤ (601024 : Nat); omega), (by show _ ≤ (7293034 : Nat); omega)⟩ (fun H locs hw => ?_)
      refine lv_iload hx hb dL_law_201 (lv_at hl 1 rfl) ?_
      refine lv_icmp_eq (tgt := 208) hx hb dL_law_203 (by decide) (fun hc => ?_) (fun hc => ?_)
      · rw [if_pos hc] at hf
        refine lv_iload hx hb dL_law_208 (lv_at hl 1 rfl) ?_
        refine lv_if_ne (tgt := 225) hx hb dL_law_210 (by decide) (fun hc => ?_) (fun hc => ?_)
        · rw [if_neg hc] at hf
          refine W.widen (k := C0 + 8) (n := S0 + 48) (by omega) (by omega) ?_
          exact t_L_law_B23_L225 hC h0 h9 hf hw (lv_sub hl [2, 3, 4, 5, 6] rfl) kI kE kR
        · rw [if_pos hc] at hf
          refine lv_aload_n hx hb dL_law_213 rfl (lv_at hl 5 rfl) ?_
          refine lv_iconst (v := 0) hx hb dL_law_214 (by decide) ?_
          obtain ⟨v13, hg, hf⟩ := ldL_inv hf
          refine r_ldL hC hw hg dL_law_215 ?_
          refine lv_iload hx hb dL_law_216 (lv_at hl 0 rfl) ?_
          refine lv_i2l hx hb dL_law_218 rfl ?_
          refine W.lcmp hx hb dL_law_219 ?_
          refine lv_if_eq (tgt := 225) hx hb dL_law_220 (by decide) (fun hc => ?_) (fun hc => ?_)
          · rw [if_pos hc] at hf
            refine W.widen (k := C0 + 8) (n := S0 + 48) (by omega) (by omega) ?_
            exact t_L_law_B23_L225 hC h0 h9 hf hw (lv_sub hl [2, 3, 4, 5, 6] rfl) kI kE kR
          · rw [if_neg hc] at hf
            refine lv_iconst (v := 0) hx hb dL_law_223 (by decide) ?_
            obtain ⟨hz, hf⟩ := chk_inv hf
            refine W.widen (k := C0 + 8) (n := S0 + 48) (by omega) (by omega) ?_
            exact kR 0 σ11 (Option.some.inj hf).symm hz _ _ _ 224 hw dL_law_224
      · rw [if_neg hc] at hf
        refine lv_iconst (v := 0) hx hb dL_law_206 (by decide) ?_
        obtain ⟨hz, hf⟩ := chk_inv hf
        refine W.widen (k := C0 + 8) (n := S0 + 48) (by omega) (by omega) ?_
        exact kR 0 σ11 (Option.some.inj hf).symm hz _ _ _ 207 hw dL_law_207
    · rw [if_neg h40_0] at hf
      by_cases h40_1 : (v2 &&& 31) = 1
      · rw [if_pos h40_1] at hf
        refine lv_tableIn (tgt := 228) hx hb dL_law_40 (by rw [h40_1]; decide) (by rw [h40_1]; decide) (by rw [h40_1]; rfl) (by decide) ?_
        refine lv_aload_n hx hb dL_law_228 rfl (lv_at hl 1 rfl) ?_
        refine lv_aload_n hx hb dL_law_229 rfl (lv_at hl 0 rfl) ?_
        refine lv_iload hx hb dL_law_230 (lv_at hl 4 rfl) ?_
        refine lv_iconst (v := 1) hx hb dL_law_232 (by decide) ?_
        refine lv_iadd hx hb dL_law_233 ?_
        obtain ⟨v14, hg, hf⟩ := scI_inv hf
        refine r_sld hC hw h9 hg dL_law_234 ?_
        refine lv_aload_n hx hb dL_law_235 rfl (lv_at hl 0 rfl) ?_
        refine lv_iload hx hb dL_law_236 (lv_at hl 4 rfl) ?_
        refine lv_iconst (v := 2) hx hb dL_law_238 (by decide) ?_
        refine lv_iadd hx hb dL_law_239 ?_
        obtain ⟨v15, hg, hf⟩ := scI_inv hf
        refine r_sld hC hw h9 hg dL_law_240 ?_
        refine lv_aload_n hx hb dL_law_241 rfl (lv_at hl 0 rfl) ?_
        refine lv_iload hx hb dL_law_242 (lv_at hl 4 rfl) ?_
        refine lv_iconst (v := 3) hx hb dL_law_244 (by decide) ?_
        refine lv_iadd hx hb dL_law_245 ?_
        obtain ⟨v16, hg, hf⟩ := scI_inv hf
        refine r_sld hC hw h9 hg dL_law_246 ?_
        refine lv_if_eq (tgt := 254) hx hb dL_law_247 (by decide) (fun hc => ?_) (fun hc => ?_)
        · rw [if_pos hc] at hf
          refine lv_iconst (v := 0) hx hb dL_law_254 (by decide) ?_
          exact t_L_law_B23_L255 hC h0 h9 hf hw (lv_sub hl [0, 1, 2, 3, 4] rfl) kI kE kR
        · rw [if_neg hc] at hf
          refine lv_iconst (v := 1) hx hb dL_law_250 (by decide) ?_
          refine lv_goto (tgt := 255) hx hb dL_law_251 (by decide) ?_
          exact t_L_law_B23_L255 hC h0 h9 hf hw (lv_sub hl [0, 1, 2, 3, 4] rfl) kI kE kR
      · rw [if_neg h40_1] at hf
        by_cases h40_2 : (v2 &&& 31) = 2
        · rw [if_pos h40_2] at hf
          refine lv_tableIn (tgt := 336) hx hb dL_law_40 (by rw [h40_2]; decide) (by rw [h40_2]; decide) (by rw [h40_2]; rfl) (by decide) ?_
          refine lv_aload_n hx hb dL_law_336 rfl (lv_at hl 1 rfl) ?_
          refine lv_aload_n hx hb dL_law_337 rfl (lv_at hl 0 rfl) ?_
          refine lv_iload hx hb dL_law_338 (lv_at hl 4 rfl) ?_
          refine lv_iconst (v := 1) hx hb dL_law_340 (by decide) ?_
          refine lv_iadd hx hb dL_law_341 ?_
          obtain ⟨v29, hg, hf⟩ := scI_inv hf
          refine r_sld hC hw h9 hg dL_law_342 ?_
          refine lv_aload_n hx hb dL_law_343 rfl (lv_at hl 0 rfl) ?_
          refine lv_iload hx hb dL_law_344 (lv_at hl 4 rfl) ?_
          refine lv_iconst (v := 2) hx hb dL_law_346 (by decide) ?_
          refine lv_iadd hx hb dL_law_347 ?_
          obtain ⟨v30, hg, hf⟩ := scI_inv hf
          refine r_sld hC hw h9 hg dL_law_348 ?_
          refine lv_aload_n hx hb dL_law_349 rfl (lv_at hl 0 rfl) ?_
          refine lv_iload hx hb dL_law_350 (lv_at hl 4 rfl) ?_
          refine lv_iconst (v := 3) hx hb dL_law_352 (by decide) ?_
          refine lv_iadd hx hb dL_law_353 ?_
          obtain ⟨v31, hg, hf⟩ := scI_inv hf
          refine r_sld hC hw h9 hg dL_law_354 ?_
          refine lv_aload_n hx hb dL_law_355 rfl (lv_at hl 0 rfl) ?_
          refine lv_iload hx hb dL_law_356 (lv_at hl 4 rfl) ?_
          refine lv_iconst (v := 4) hx hb dL_law_358 (by decide) ?_
          refine lv_iadd hx hb dL_law_359 ?_
          obtain ⟨v32, hg, hf⟩ := scI_inv hf
          refine r_sld hC hw h9 hg dL_law_360 ?_
          refine lv_aload_n hx hb dL_law_361 rfl (lv_at hl 0 rfl) ?_
          refine lv_iload hx hb dL_law_362 (lv_at hl 4 rfl) ?_
          refine lv_iconst (v := 5) hx hb dL_law_364 (by decide) ?_
          refine lv_iadd hx hb dL_law_365 ?_
          obtain ⟨v33, hg, hf⟩ := scI_inv hf
          refine r_sld hC hw h9 hg dL_law_366 ?_
          refine lv_aload_n hx hb dL_law_367 rfl (lv_at hl 3 rfl) ?_
          obtain ⟨r35, σ34, hk, hf⟩ := bnd_inv hf
          refine z_callSW (As := [.ref x1, .int v29, .int v30, .int v31, .int v32, .int v33, .ref x3]) (rest := []) (m_L_setStep hC.2.2.2.2.2.2.2.2 hk) hC hw wd_L_setStep lkM_L_113 rfl ⟨rfl, rfl⟩ ⟨(Nat.le_of_ble_eq_true rfl), (Nat.le_of_ble_eq_true rfl)⟩ hl.1 rfl (Nat.le_of_ble_eq_true rfl) dL_law_368 ⟨(by show _ ≤ (601024 : Nat); omega), (by show _ ≤ (7293034 : Nat); omega)⟩ (fun H locs hw => ?_)
          refine lv_istore (lv' := [(5, .int r35), (0, .ref x0), (1, .ref x1), (2, .ref x2), (3, .ref x3), (4, .int x4)]) hx hb dL_law_371 hl (Nat.le_of_ble_eq_true rfl) rfl (fun ls hl => ?_)
          refine lv_aload_n hx hb dL_law_373 rfl (lv_at hl 3 rfl) ?_
          refine lv_aload_n hx hb dL_law_374 rfl (lv_at hl 1 rfl) ?_
          refine lv_iload hx hb dL_law_375 (lv_at hl 5 rfl) ?_
          refine lv_iconst (v := 1) hx hb dL_law_377 (by decide) ?_
          refine lv_iadd hx hb dL_law_378 ?_
          obtain ⟨v36, hg, hf⟩ := scI_inv hf
          refine r_sld hC hw h9 hg dL_law_379 ?_
          refine lv_aload_n hx hb dL_law_380 rfl (lv_at hl 1 rfl) ?_
          refine lv_iload hx hb dL_law_381 (lv_at hl 5 rfl) ?_
          refine lv_iconst (v := 2) hx hb dL_law_383 (by decide) ?_
          refine lv_iadd hx hb dL_law_384 ?_
          obtain ⟨v37, hg, hf⟩ := scI_inv hf
          refine r_sld hC hw h9 hg dL_law_385 ?_
          refine lv_aload_n hx hb dL_law_386 rfl (lv_at hl 1 rfl) ?_
          refine lv_iload hx hb dL_law_387 (lv_at hl 5 rfl) ?_
          refine lv_iconst (v := 3) hx hb dL_law_389 (by decide) ?_
          refine lv_iadd hx hb dL_law_390 ?_
          obtain ⟨v38, hg, hf⟩ := scI_inv hf
          refine r_sld hC hw h9 hg dL_law_391 ?_
          refine lv_aload_n hx hb dL_law_392 rfl (lv_at hl 1 rfl) ?_
          refine lv_iload hx hb dL_law_393 (lv_at hl 5 rfl) ?_
          refine lv_iconst (v := 4) hx hb dL_law_395 (by decide) ?_
          refine lv_iadd hx hb dL_law_396 ?_
          obtain ⟨v39, hg, hf⟩ := scI_inv hf
          refine r_sld hC hw h9 hg dL_law_397 ?_
          refine lv_aload_n hx hb dL_law_398 rfl (lv_at hl 1 rfl) ?_
          refine lv_iload hx hb dL_law_399 (lv_at hl 5 rfl) ?_
          refine lv_iconst (v := 5) hx hb dL_law_401 (by decide) ?_
          refine lv_iadd hx hb dL_law_402 ?_
          obtain ⟨v40, hg, hf⟩ := scI_inv hf
          refine r_sld hC hw h9 hg dL_law_403 ?_
          obtain ⟨ho, hf⟩ := chk_inv hf
          obtain ⟨r42, σ41, hk, hf⟩ := bnd_inv hf
          refine z_callV (As := [.int v36, .int v37, .int v38, .int v39, .int v40]) (rest := []) (m_X7_setStep hC.2.2.2.2.2.2.2.2 hk) hC hw wd_X7_setStep lkM_L_116 (isO_sh ho) rfl rfl ⟨rfl, rfl⟩ ⟨(Nat.le_of_ble_eq_true rfl), (Nat.le_of_ble_eq_true rfl)⟩ hl.1 rfl (Nat.le_of_ble_eq_true rfl) dL_law_404 ⟨(by show _ ≤ (601024 : Nat); omega), (by show _ ≤ (7293034 : Nat); omega)⟩ (fun H locs hw => ?_)
          refine lv_istore (lv' := [(6, .int r42), (5, .int r35), (0, .ref x0), (1, .ref x1), (2, .ref x2), (3, .ref x3), (4, .int x4)]) hx hb dL_law_407 hl (Nat.le_of_ble_eq_true rfl) rfl (fun ls hl => ?_)
          refine lv_aload_n hx hb dL_law_409 rfl (lv_at hl 4 rfl) ?_
          obtain ⟨ho, hf⟩ := chk_inv hf
          obtain ⟨r44, σ43, hk, hf⟩ := bnd_inv hf
          refine z_callV (As := []) (rest := []) (m_X7_thrown hC.2.2.2.2.2.2.2.2 hk) hC hw wd_X7_thrown lkM_L_106 (isO_sh ho) rfl rfl ⟨rfl, rfl⟩ ⟨(Nat.le_of_ble_eq_true rfl), (Nat.le_of_ble_eq_true rfl)⟩ hl.1 rfl (Nat.le_of_ble_eq_true rfl) dL_law_410 ⟨(by show _ ≤ (601024 : Nat); omega), (by show _ ≤ (7293034 : Nat); omega)⟩ (fun H locs hw => ?_)
          refine lv_iload hx hb dL_law_413 (lv_at hl 1 rfl) ?_
          refine lv_icmp_eq (tgt := 420) hx hb dL_law_415 (by decide) (fun hc => ?_) (fun hc => ?_)
          · rw [if_pos hc] at hf
            refine lv_iload hx hb dL_law_420 (lv_at hl 1 rfl) ?_
            refine lv_if_ne (tgt := 437) hx hb dL_law_422 (by decide) (fun hc => ?_) (fun hc => ?_)
            · rw [if_neg hc] at hf
              refine W.widen (k := C0 + 8) (n := S0 + 48) (by omega) (by omega) ?_
              exact t_L_law_B23_L437 hC h0 h9 hf hw (lv_sub hl [2, 3, 4, 5, 6] rfl) kI kE kR
            · rw [if_pos hc] at hf
              refine lv_aload_n hx hb dL_law_425 rfl (lv_at hl 5 rfl) ?_
              refine lv_iconst (v := 0) hx hb dL_law_426 (by decide) ?_
              obtain ⟨v45, hg, hf⟩ := ldL_inv hf
              refine r_ldL hC hw hg dL_law_427 ?_
              refine lv_iload hx hb dL_law_428 (lv_at hl 0 rfl) ?_
              refine lv_i2l hx hb dL_law_430 rfl ?_
              refine W.lcmp hx hb dL_law_431 ?_
              refine lv_if_eq (tgt := 437) hx hb dL_law_432 (by decide) (fun hc => ?_) (fun hc => ?_)
              · rw [if_pos hc] at hf
                refine W.widen (k := C0 + 8) (n := S0 + 48) (by omega) (by omega) ?_
                exact t_L_law_B23_L437 hC h0 h9 hf hw (lv_sub hl [2, 3, 4, 5, 6] rfl) kI kE kR
              · rw [if_neg hc] at hf
                refine lv_iconst (v := 0) hx hb dL_law_435 (by decide) ?_
                obtain ⟨hz, hf⟩ := chk_inv hf
                refine W.widen (k := C0 + 8) (n := S0 + 48) (by omega) (by omega) ?_
                exact kR 0 σ43 (Option.some.inj hf).symm hz _ _ _ 436 hw dL_law_436
          · rw [if_neg hc] at hf
            refine lv_iconst (v := 0) hx hb dL_law_418 (by decide) ?_
            obtain ⟨hz, hf⟩ := chk_inv hf
            refine W.widen (k := C0 + 8) (n := S0 + 48) (by omega) (by omega) ?_
            exact kR 0 σ43 (Option.some.inj hf).symm hz _ _ _ 419 hw dL_law_419
        · rw [if_neg h40_2] at hf
          by_cases h40_3 : (v2 &&& 31) = 3
          · rw [if_pos h40_3] at hf
            refine lv_tableIn (tgt := 440) hx hb dL_law_40 (by rw [h40_3]; decide) (by rw [h40_3]; decide) (by rw [h40_3]; rfl) (by decide) ?_
            refine lv_aload_n hx hb dL_law_440 rfl (lv_at hl 1 rfl) ?_
            refine lv_aload_n hx hb dL_law_441 rfl (lv_at hl 0 rfl) ?_
            refine lv_iload hx hb dL_law_442 (lv_at hl 4 rfl) ?_
            refine lv_iconst (v := 1) hx hb dL_law_444 (by decide) ?_
            refine lv_iadd hx hb dL_law_445 ?_
            obtain ⟨v46, hg, hf⟩ := scI_inv hf
            refine r_sld hC hw h9 hg dL_law_446 ?_
            refine lv_aload_n hx hb dL_law_447 rfl (lv_at hl 0 rfl) ?_
            refine lv_iload hx hb dL_law_448 (lv_at hl 4 rfl) ?_
            refine lv_iconst (v := 2) hx hb dL_law_450 (by decide) ?_
            refine lv_iadd hx hb dL_law_451 ?_
            obtain ⟨v47, hg, hf⟩ := scI_inv hf
            refine r_sld hC hw h9 hg dL_law_452 ?_
            refine lv_aload_n hx hb dL_law_453 rfl (lv_at hl 0 rfl) ?_
            refine lv_iload hx hb dL_law_454 (lv_at hl 4 rfl) ?_
            refine lv_iconst (v := 3) hx hb dL_law_456 (by decide) ?_
            refine lv_iadd hx hb dL_law_457 ?_
            obtain ⟨v48, hg, hf⟩ := scI_inv hf
            refine r_sld hC hw h9 hg dL_law_458 ?_
            refine lv_aload_n hx hb dL_law_459 rfl (lv_at hl 3 rfl) ?_
            obtain ⟨r50, σ49, hk, hf⟩ := bnd_inv hf
            refine z_callSW (As := [.ref x1, .int v46, .int v47, .int v48, .ref x3]) (rest := []) (m_L_random hC.2.2.2.2.2.2.2.2 hk) hC hw wd_L_random lkM_L_117 rfl ⟨rfl, rfl⟩ ⟨(Nat.le_of_ble_eq_true rfl), (Nat.le_of_ble_eq_true rfl)⟩ hl.1 rfl (Nat.le_of_ble_eq_true rfl) dL_law_460 ⟨(by show _ ≤ (601024 : Nat); omega), (by show _ ≤ (7293034 : Nat); omega)⟩ (fun H locs hw => ?_)
            refine lv_istore (lv' := [(5, .int r50), (0, .ref x0), (1, .ref x1), (2, .ref x2), (3, .ref x3), (4, .int x4)]) hx hb dL_law_463 hl (Nat.le_of_ble_eq_true rfl) rfl (fun ls hl => ?_)
            refine lv_aload_n hx hb dL_law_465 rfl (lv_at hl 3 rfl) ?_
            refine lv_aload_n hx hb dL_law_466 rfl (lv_at hl 1 rfl) ?_
            refine lv_iload hx hb dL_law_467 (lv_at hl 5 rfl) ?_
            refine lv_iconst (v := 1) hx hb dL_law_469 (by decide) ?_
            refine lv_iadd hx hb dL_law_470 ?_
            obtain ⟨v51, hg, hf⟩ := scI_inv hf
            refine r_sld hC hw h9 hg dL_law_471 ?_
            refine lv_aload_n hx hb dL_law_472 rfl (lv_at hl 1 rfl) ?_
            refine lv_iload hx hb dL_law_473 (lv_at hl 5 rfl) ?_
            refine lv_iconst (v := 2) hx hb dL_law_475 (by decide) ?_
            refine lv_iadd hx hb dL_law_476 ?_
            obtain ⟨v52, hg, hf⟩ := scI_inv hf
            refine r_sld hC hw h9 hg dL_law_477 ?_
            refine lv_aload_n hx hb dL_law_478 rfl (lv_at hl 1 rfl) ?_
            refine lv_iload hx hb dL_law_479 (lv_at hl 5 rfl) ?_
            refine lv_iconst (v := 3) hx hb dL_law_481 (by decide) ?_
            refine lv_iadd hx hb dL_law_482 ?_
            obtain ⟨v53, hg, hf⟩ := scI_inv hf
            refine r_sld hC hw h9 hg dL_law_483 ?_
            obtain ⟨ho, hf⟩ := chk_inv hf
            obtain ⟨r55, σ54, hk, hf⟩ := bnd_inv hf
            refine z_callV (As := [.int v51, .int v52, .int v53]) (rest := []) (m_X7_random hC.2.2.2.2.2.2.2.2 hk) hC hw wd_X7_random lkM_L_120 (isO_sh ho) rfl rfl ⟨rfl, rfl⟩ ⟨(Nat.le_of_ble_eq_true rfl), (Nat.le_of_ble_eq_true rfl)⟩ hl.1 rfl (Nat.le_of_ble_eq_true rfl) dL_law_484 ⟨(by show _ ≤ (601024 : Nat); omega), (by show _ ≤ (7293034 : Nat); omega)⟩ (fun H locs hw => ?_)
            refine lv_istore (lv' := [(6, .int r55), (5, .int r50), (0, .ref x0), (1, .ref x1), (2, .ref x2), (3, .ref x3), (4, .int x4)]) hx hb dL_law_487 hl (Nat.le_of_ble_eq_true rfl) rfl (fun ls hl => ?_)
            refine lv_aload_n hx hb dL_law_489 rfl (lv_at hl 4 rfl) ?_
            obtain ⟨ho, hf⟩ := chk_inv hf
            obtain ⟨r57, σ56, hk, hf⟩ := bnd_inv hf
            refine z_callV (As := []) (rest := []) (m_X7_thrown hC.2.2.2.2.2.2.2.2 hk) hC hw wd_X7_thrown lkM_L_106 (isO_sh ho) rfl rfl ⟨rfl, rfl⟩ ⟨(Nat.le_of_ble_eq_true rfl), (Nat.le_of_ble_eq_true rfl)⟩ hl.1 rfl (Nat.le_of_ble_eq_true rfl) dL_law_490 ⟨(by show _ ≤ (601024 : Nat); omega), (by show _ ≤ (7293034 : Nat); omega)⟩ (fun H locs hw => ?_)
            refine lv_iload hx hb dL_law_493 (lv_at hl 1 rfl) ?_
            refine lv_icmp_eq (tgt := 500) hx hb dL_law_495 (by decide) (fun hc => ?_) (fun hc => ?_)
            · rw [if_pos hc] at hf
              refine lv_iload hx hb dL_law_500 (lv_at hl 1 rfl) ?_
              refine lv_if_ne (tgt := 517) hx hb dL_law_502 (by decide) (fun hc => ?_) (fun hc => ?_)
              · rw [if_neg hc] at hf
                refine W.widen (k := C0 + 8) (n := S0 + 48) (by omega) (by omega) ?_
                exact t_L_law_B23_L517 hC h0 h9 hf hw (lv_sub hl [2, 3, 4, 5, 6] rfl) kI kE kR
              · rw [if_pos hc] at hf
                refine lv_aload_n hx hb dL_law_505 rfl (lv_at hl 5 rfl) ?_
                refine lv_iconst (v := 0) hx hb dL_law_506 (by decide) ?_
                obtain ⟨v58, hg, hf⟩ := ldL_inv hf
                refine r_ldL hC hw hg dL_law_507 ?_
                refine lv_iload hx hb dL_law_508 (lv_at hl 0 rfl) ?_
                refine lv_i2l hx hb dL_law_510 rfl ?_
                refine W.lcmp hx hb dL_law_511 ?_
                refine lv_if_eq (tgt := 517) hx hb dL_law_512 (by decide) (fun hc => ?_) (fun hc => ?_)
                · rw [if_pos hc] at hf
                  refine W.widen (k := C0 + 8) (n := S0 + 48) (by omega) (by omega) ?_
                  exact t_L_law_B23_L517 hC h0 h9 hf hw (lv_sub hl [2, 3, 4, 5, 6] rfl) kI kE kR
                · rw [if_neg hc] at hf
                  refine lv_iconst (v := 0) hx hb dL_law_515 (by decide) ?_
                  obtain ⟨hz, hf⟩ := chk_inv hf
                  refine W.widen (k := C0 + 8) (n := S0 + 48) (by omega) (by omega) ?_
                  exact kR 0 σ56 (Option.some.inj hf).symm hz _ _ _ 516 hw dL_law_516
            · rw [if_neg hc] at hf
              refine lv_iconst (v := 0) hx hb dL_law_498 (by decide) ?_
              obtain ⟨hz, hf⟩ := chk_inv hf
              refine W.widen (k := C0 + 8) (n := S0 + 48) (by omega) (by omega) ?_
              exact kR 0 σ56 (Option.some.inj hf).symm hz _ _ _ 499 hw dL_law_499
          · rw [if_neg h40_3] at hf
            by_cases h40_4 : (v2 &&& 31) = 4
            · rw [if_pos h40_4] at hf
              refine lv_tableIn (tgt := 520) hx hb dL_law_40 (by rw [h40_4]; decide) (by rw [h40_4]; decide) (by rw [h40_4]; rfl) (by decide) ?_
              refine lv_aload_n hx hb dL_law_520 rfl (lv_at hl 1 rfl) ?_
              refine lv_aload_n hx hb dL_law_521 rfl (lv_at hl 0 rfl) ?_
              refine lv_iload hx hb dL_law_522 (lv_at hl 4 rfl) ?_
              refine lv_iconst (v := 1) hx hb dL_law_524 (by decide) ?_
              refine lv_iadd hx hb dL_law_525 ?_
              obtain ⟨v59, hg, hf⟩ := scI_inv hf
              refine r_sld hC hw h9 hg dL_law_526 ?_
              refine lv_aload_n hx hb dL_law_527 rfl (lv_at hl 3 rfl) ?_
              obtain ⟨r61, σ60, hk, hf⟩ := bnd_inv hf
              refine z_callSW (As := [.ref x1, .int v59, .ref x3]) (rest := []) (m_L_states hC.2.2.2.2.2.2.2.2 hk) hC hw wd_L_states lkM_L_121 rfl ⟨rfl, rfl⟩ ⟨(Nat.le_of_ble_eq_true rfl), (Nat.le_of_ble_eq_true rfl)⟩ hl.1 rfl (Nat.le_of_ble_eq_true rfl) dL_law_528 ⟨(by show _ ≤ (601024 : Nat); omega), (by show _ ≤ (7293034 : Nat); omega)⟩ (fun H locs hw => ?_)
              refine lv_istore (lv' := [(5, .int r61), (0, .ref x0), (1, .ref x1), (2, .ref x2), (3, .ref x3), (4, .int x4)]) hx hb dL_law_531 hl (Nat.le_of_ble_eq_true rfl) rfl (fun ls hl => ?_)
              refine lv_aload_n hx hb dL_law_533 rfl (lv_at hl 3 rfl) ?_
              refine lv_aload_n hx hb dL_law_534 rfl (lv_at hl 1 rfl) ?_
              refine lv_iload hx hb dL_law_535 (lv_at hl 5 rfl) ?_
              refine lv_iconst (v := 1) hx hb dL_law_537 (by decide) ?_
              refine lv_iadd hx hb dL_law_538 ?_
              obtain ⟨v62, hg, hf⟩ := scI_inv hf
              refine r_sld hC hw h9 hg dL_law_539 ?_
              obtain ⟨ho, hf⟩ := chk_inv hf
              obtain ⟨r64, σ63, hk, hf⟩ := bnd_inv hf
              refine z_callV (As := [.int v62]) (rest := []) (m_X7_states hC.2.2.2.2.2.2.2.2 hk) hC hw wd_X7_states lkM_L_124 (isO_sh ho) rfl rfl ⟨rfl, rfl⟩ ⟨(Nat.le_of_ble_eq_true rfl), (Nat.le_of_ble_eq_true rfl)⟩ hl.1 rfl (Nat.le_of_ble_eq_true rfl) dL_law_540 ⟨(by show _ ≤ (601024 : Nat); omega), (by show _ ≤ (7293034 : Nat); omega)⟩ (fun H locs hw => ?_)
              refine lv_istore (lv' := [(6, .int r64), (5, .int r61), (0, .ref x0), (1, .ref x1), (2, .ref x2), (3, .ref x3), (4, .int x4)]) hx hb dL_law_543 hl (Nat.le_of_ble_eq_true rfl) rfl (fun ls hl => ?_)
              refine lv_aload_n hx hb dL_law_545 rfl (lv_at hl 4 rfl) ?_
              obtain ⟨ho, hf⟩ := chk_inv hf
              obtain ⟨r66, σ65, hk, hf⟩ := bnd_inv hf
              refine z_callV (As := []) (rest := []) (m_X7_thrown hC.2.2.2.2.2.2.2.2 hk) hC hw wd_X7_thrown lkM_L_106 (isO_sh ho) rfl rfl ⟨rfl, rfl⟩ ⟨(Nat.le_of_ble_eq_true rfl), (Nat.le_of_ble_eq_true rfl)⟩ hl.1 rfl (Nat.le_of_ble_eq_true rfl) dL_law_546 ⟨(by show _ ≤ (601024 : Nat); omega), (by show _ ≤ (7293034 : Nat); omega)⟩ (fun H locs hw => ?_)
              refine lv_iload hx hb dL_law_549 (lv_at hl 1 rfl) ?_
              refine lv_icmp_eq (tgt := 556) hx hb dL_law_551 (by decide) (fun hc => ?_) (fun hc => ?_)
              · rw [if_pos hc] at hf
                refine lv_iload hx hb dL_law_556 (lv_at hl 1 rfl) ?_
                refine lv_if_ne (tgt := 573) hx hb dL_law_558 (by decide) (fun hc => ?_) (fun hc => ?_)
                · rw [if_neg hc] at hf
                  refine W.widen (k := C0 + 8) (n := S0 + 48) (by omega) (by omega) ?_
                  exact t_L_law_B23_L573 hC h0 h9 hf hw (lv_sub hl [2, 3, 4, 5, 6] rfl) kI kE kR
                · rw [if_pos hc] at hf
                  refine lv_aload_n hx hb dL_law_561 rfl (lv_at hl 5 rfl) ?_
                  refine lv_iconst (v := 0) hx hb dL_law_562 (by decide) ?_
                  obtain ⟨v67, hg, hf⟩ := ldL_inv hf
                  refine r_ldL hC hw hg dL_law_563 ?_
                  refine lv_iload hx hb dL_law_564 (lv_at hl 0 rfl) ?_
                  refine lv_i2l hx hb dL_law_566 rfl ?_
                  refine W.lcmp hx hb dL_law_567 ?_
                  refine lv_if_eq (tgt := 573) hx hb dL_law_568 (by decide) (fun hc => ?_) (fun hc => ?_)
                  · rw [if_pos hc] at hf
                    refine W.widen (k := C0 + 8) (n := S0 + 48) (by omega) (by omega) ?_
                    exact t_L_law_B23_L573 hC h0 h9 hf hw (lv_sub hl [2, 3, 4, 5, 6] rfl) kI kE kR
                  · rw [if_neg hc] at hf
                    refine lv_iconst (v := 0) hx hb dL_law_571 (by decide) ?_
                    obtain ⟨hz, hf⟩ := chk_inv hf
                    refine W.widen (k := C0 + 8) (n := S0 + 48) (by omega) (by omega) ?_
                    exact kR 0 σ65 (Option.some.inj hf).symm hz _ _ _ 572 hw dL_law_572
              · rw [if_neg hc] at hf
                refine lv_iconst (v := 0) hx hb dL_law_554 (by decide) ?_
                obtain ⟨hz, hf⟩ := chk_inv hf
                refine W.widen (k := C0 + 8) (n := S0 + 48) (by omega) (by omega) ?_
                exact kR 0 σ65 (Option.some.inj hf).symm hz _ _ _ 555 hw dL_law_555
            · rw [if_neg h40_4] at hf
              by_cases h40_5 : (v2 &&& 31) = 5
              · rw [if_pos h40_5] at hf
                refine lv_tableIn (tgt := 576) hx hb dL_law_40 (by rw [h40_5]; decide) (by rw [h40_5]; decide) (by rw [h40_5]; rfl) (by decide) ?_
                refine lv_aload_n hx hb dL_law_576 rfl (lv_at hl 1 rfl) ?_
                refine lv_aload_n hx hb dL_law_577 rfl (lv_at hl 0 rfl) ?_
                refine lv_iload hx hb dL_law_578 (lv_at hl 4 rfl) ?_
                refine lv_iconst (v := 1) hx hb dL_law_580 (by decide) ?_
                refine lv_iadd hx hb dL_law_581 ?_
                obtain ⟨v68, hg, hf⟩ := scI_inv hf
                refine r_sld hC hw h9 hg dL_law_582 ?_
                refine lv_aload_n hx hb dL_law_583 rfl (lv_at hl 0 rfl) ?_
                refine lv_iload hx hb dL_law_584 (lv_at hl 4 rfl) ?_
                refine lv_iconst (v := 2) hx hb dL_law_586 (by decide) ?_
                refine lv_iadd hx hb dL_law_587 ?_
                obtain ⟨v69, hg, hf⟩ := scI_inv hf
                refine r_sld hC hw h9 hg dL_law_588 ?_
                refine lv_aload_n hx hb dL_law_589 rfl (lv_at hl 0 rfl) ?_
                refine lv_iload hx hb dL_law_590 (lv_at hl 4 rfl) ?_
                refine lv_iconst (v := 3) hx hb dL_law_592 (by decide) ?_
                refine lv_iadd hx hb dL_law_593 ?_
                obtain ⟨v70, hg, hf⟩ := scI_inv hf
                refine r_sld hC hw h9 hg dL_law_594 ?_
                refine lv_if_eq (tgt := 602) hx hb dL_law_595 (by decide) (fun hc => ?_) (fun hc => ?_)
                · rw [if_pos hc] at hf
                  refine lv_iconst (v := 0) hx hb dL_law_602 (by decide) ?_
                  exact t_L_law_B23_L603 hC h0 h9 hf hw (lv_sub hl [0, 1, 2, 3, 4] rfl) kI kE kR
                · rw [if_neg hc] at hf
                  refine lv_iconst (v := 1) hx hb dL_law_598 (by decide) ?_
                  refine lv_goto (tgt := 603) hx hb dL_law_599 (by decide) ?_
                  exact t_L_law_B23_L603 hC h0 h9 hf hw (lv_sub hl [0, 1, 2, 3, 4] rfl) kI kE kR
              · rw [if_neg h40_5] at hf
                by_cases h40_6 : (v2 &&& 31) = 6
                · rw [if_pos h40_6] at hf
                  refine lv_tableIn (tgt := 672) hx hb dL_law_40 (by rw [h40_6]; decide) (by rw [h40_6]; decide) (by rw [h40_6]; rfl) (by decide) ?_
                  refine lv_aload_n hx hb dL_law_672 rfl (lv_at hl 1 rfl) ?_
                  refine lv_aload_n hx hb dL_law_673 rfl (lv_at hl 0 rfl) ?_
                  refine lv_iload hx hb dL_law_674 (lv_at hl 4 rfl) ?_
                  refine lv_iconst (v := 1) hx hb dL_law_676 (by decide) ?_
                  refine lv_iadd hx hb dL_law_677 ?_
                  obtain ⟨v81, hg, hf⟩ := scI_inv hf
                  refine r_sld hC hw h9 hg dL_law_678 ?_
                  refine lv_aload_n hx hb dL_law_679 rfl (lv_at hl 0 rfl) ?_
                  refine lv_iload hx hb dL_law_680 (lv_at hl 4 rfl) ?_
                  refine lv_iconst (v := 2) hx hb dL_law_682 (by decide) ?_
                  refine lv_iadd hx hb dL_law_683 ?_
                  obtain ⟨v82, hg, hf⟩ := scI_inv hf
                  refine r_sld hC hw h9 hg dL_law_684 ?_
                  refine lv_aload_n hx hb dL_law_685 rfl (lv_at hl 0 rfl) ?_
                  refine lv_iload hx hb dL_law_686 (lv_at hl 4 rfl) ?_
                  refine lv_iconst (v := 3) hx hb dL_law_688 (by decide) ?_
                  refine lv_iadd hx hb dL_law_689 ?_
                  obtain ⟨v83, hg, hf⟩ := scI_inv hf
                  refine r_sld hC hw h9 hg dL_law_690 ?_
                  refine lv_aload_n hx hb dL_law_691 rfl (lv_at hl 0 rfl) ?_
                  refine lv_iload hx hb dL_law_692 (lv_at hl 4 rfl) ?_
                  refine lv_iconst (v := 4) hx hb dL_law_694 (by decide) ?_
                  refine lv_iadd hx hb dL_law_695 ?_
                  obtain ⟨v84, hg, hf⟩ := scI_inv hf
                  refine r_sld hC hw h9 hg dL_law_696 ?_
                  refine lv_aload_n hx hb dL_law_697 rfl (lv_at hl 3 rfl) ?_
                  obtain ⟨r86, σ85, hk, hf⟩ := bnd_inv hf
                  refine z_callSW (As := [.ref x1, .int v81, .int v82, .int v83, .int v84, .ref x3]) (rest := []) (m_L_step hC.2.2.2.2.2.2.2.2 hk) hC hw wd_L_step lkM_L_129 rfl ⟨rfl, rfl⟩ ⟨(Nat.le_of_ble_eq_true rfl), (Nat.le_of_ble_eq_true rfl)⟩ hl.1 rfl (Nat.le_of_ble_eq_true rfl) dL_law_698 ⟨(by show _ ≤ (601024 : Nat); omega), (by show _ ≤ (7293034 : Nat); omega)⟩ (fun H locs hw => ?_)
                  refine lv_istore (lv' := [(5, .int r86), (0, .ref x0), (1, .ref x1), (2, .ref x2), (3, .ref x3), (4, .int x4)]) hx hb dL_law_701 hl (Nat.le_of_ble_eq_true rfl) rfl (fun ls hl => ?_)
                  refine lv_aload_n hx hb dL_law_703 rfl (lv_at hl 3 rfl) ?_
                  refine lv_aload_n hx hb dL_law_704 rfl (lv_at hl 1 rfl) ?_
                  refine lv_iload hx hb dL_law_705 (lv_at hl 5 rfl) ?_
                  refine lv_iconst (v := 1) hx hb dL_law_707 (by decide) ?_
                  refine lv_iadd hx hb dL_law_708 ?_
                  obtain ⟨v87, hg, hf⟩ := scI_inv hf
                  refine r_sld hC hw h9 hg dL_law_709 ?_
                  refine lv_aload_n hx hb dL_law_710 rfl (lv_at hl 1 rfl) ?_
                  refine lv_iload hx hb dL_law_711 (lv_at hl 5 rfl) ?_
                  refine lv_iconst (v := 2) hx hb dL_law_713 (by decide) ?_
                  refine lv_iadd hx hb dL_law_714 ?_
                  obtain ⟨v88, hg, hf⟩ := scI_inv hf
                  refine r_sld hC hw h9 hg dL_law_715 ?_
                  refine lv_aload_n hx hb dL_law_716 rfl (lv_at hl 1 rfl) ?_
                  refine lv_iload hx hb dL_law_717 (lv_at hl 5 rfl) ?_
                  refine lv_iconst (v := 3) hx hb dL_law_719 (by decide) ?_
                  refine lv_iadd hx hb dL_law_720 ?_
                  obtain ⟨v89, hg, hf⟩ := scI_inv hf
                  refine r_sld hC hw h9 hg dL_law_721 ?_
                  refine lv_aload_n hx hb dL_law_722 rfl (lv_at hl 1 rfl) ?_
                  refine lv_iload hx hb dL_law_723 (lv_at hl 5 rfl) ?_
                  refine lv_iconst (v := 4) hx hb dL_law_725 (by decide) ?_
                  refine lv_iadd hx hb dL_law_726 ?_
                  obtain ⟨v90, hg, hf⟩ := scI_inv hf
                  refine r_sld hC hw h9 hg dL_law_727 ?_
                  obtain ⟨ho, hf⟩ := chk_inv hf
                  obtain ⟨r92, σ91, hk, hf⟩ := bnd_inv hf
                  refine z_callV (As := [.int v87, .int v88, .int v89, .int v90]) (rest := []) (m_X7_step hC.2.2.2.2.2.2.2.2 hk) hC hw wd_X7_step lkM_L_132 (isO_sh ho) rfl rfl ⟨rfl, rfl⟩ ⟨(Nat.le_of_ble_eq_true rfl), (Nat.le_of_ble_eq_true rfl)⟩ hl.1 rfl (Nat.le_of_ble_eq_true rfl) dL_law_728 ⟨(by show _ ≤ (601024 : Nat); omega), (by show _ ≤ (7293034 : Nat); omega)⟩ (fun H locs hw => ?_)
                  refine lv_istore (lv' := [(6, .int r92), (5, .int r86), (0, .ref x0), (1, .ref x1), (2, .ref x2), (3, .ref x3), (4, .int x4)]) hx hb dL_law_731 hl (Nat.le_of_ble_eq_true rfl) rfl (fun ls hl => ?_)
                  refine lv_aload_n hx hb dL_law_733 rfl (lv_at hl 4 rfl) ?_
                  obtain ⟨ho, hf⟩ := chk_inv hf
                  obtain ⟨r94, σ93, hk, hf⟩ := bnd_inv hf
                  refine z_callV (As := []) (rest := []) (m_X7_thrown hC.2.2.2.2.2.2.2.2 hk) hC hw wd_X7_thrown lkM_L_106 (isO_sh ho) rfl rfl ⟨rfl, rfl⟩ ⟨(Nat.le_of_ble_eq_true rfl), (Nat.le_of_ble_eq_true rfl)⟩ hl.1 rfl (Nat.le_of_ble_eq_true rfl) dL_law_734 ⟨(by show _ ≤ (601024 : Nat); omega), (by show _ ≤ (7293034 : Nat); omega)⟩ (fun H locs hw => ?_)
                  refine lv_iload hx hb dL_law_737 (lv_at hl 1 rfl) ?_
                  refine lv_icmp_eq (tgt := 744) hx hb dL_law_739 (by decide) (fun hc => ?_) (fun hc => ?_)
                  · rw [if_pos hc] at hf
                    refine lv_iload hx hb dL_law_744 (lv_at hl 1 rfl) ?_
                    refine lv_if_ne (tgt := 761) hx hb dL_law_746 (by decide) (fun hc => ?_) (fun hc => ?_)
                    · rw [if_neg hc] at hf
                      refine W.widen (k := C0 + 8) (n := S0 + 48) (by omega) (by omega) ?_
                      exact t_L_law_B23_L761 hC h0 h9 hf hw (lv_sub hl [2, 3, 4, 5, 6] rfl) kI kE kR
                    · rw [if_pos hc] at hf
                      refine lv_aload_n hx hb dL_law_749 rfl (lv_at hl 5 rfl) ?_
                      refine lv_iconst (v := 0) hx hb dL_law_750 (by decide) ?_
                      obtain ⟨v95, hg, hf⟩ := ldL_inv hf
                      refine r_ldL hC hw hg dL_law_751 ?_
                      refine lv_iload hx hb dL_law_752 (lv_at hl 0 rfl) ?_
                      refine lv_i2l hx hb dL_law_754 rfl ?_
                      refine W.lcmp hx hb dL_law_755 ?_
                      refine lv_if_eq (tgt := 761) hx hb dL_law_756 (by decide) (fun hc => ?_) (fun hc => ?_)
                      · rw [if_pos hc] at hf
                        refine W.widen (k := C0 + 8) (n := S0 + 48) (by omega) (by omega) ?_
                        exact t_L_law_B23_L761 hC h0 h9 hf hw (lv_sub hl [2, 3, 4, 5, 6] rfl) kI kE kR
                      · rw [if_neg hc] at hf
                        refine lv_iconst (v := 0) hx hb dL_law_759 (by decide) ?_
                        obtain ⟨hz, hf⟩ := chk_inv hf
                        refine W.widen (k := C0 + 8) (n := S0 + 48) (by omega) (by omega) ?_
                        exact kR 0 σ93 (Option.some.inj hf).symm hz _ _ _ 760 hw dL_law_760
                  · rw [if_neg hc] at hf
                    refine lv_iconst (v := 0) hx hb dL_law_742 (by decide) ?_
                    obtain ⟨hz, hf⟩ := chk_inv hf
                    refine W.widen (k := C0 + 8) (n := S0 + 48) (by omega) (by omega) ?_
                    exact kR 0 σ93 (Option.some.inj hf).symm hz _ _ _ 743 hw dL_law_743
                · rw [if_neg h40_6] at hf
                  by_cases h40_7 : (v2 &&& 31) = 7
                  · rw [if_pos h40_7] at hf
                    refine lv_tableIn (tgt := 764) hx hb dL_law_40 (by rw [h40_7]; decide) (by rw [h40_7]; decide) (by rw [h40_7]; rfl) (by decide) ?_
                    refine lv_aload_n hx hb dL_law_764 rfl (lv_at hl 1 rfl) ?_
                    refine lv_aload_n hx hb dL_law_765 rfl (lv_at hl 0 rfl) ?_
                    refine lv_iload hx hb dL_law_766 (lv_at hl 4 rfl) ?_
                    refine lv_iconst (v := 1) hx hb dL_law_768 (by decide) ?_
                    refine lv_iadd hx hb dL_law_769 ?_
                    obtain ⟨v96, hg, hf⟩ := scI_inv hf
                    refine r_sld hC hw h9 hg dL_law_770 ?_
                    refine lv_aload_n hx hb dL_law_771 rfl (lv_at hl 0 rfl) ?_
                    refine lv_iload hx hb dL_law_772 (lv_at hl 4 rfl) ?_
                    refine lv_iconst (v := 2) hx hb dL_law_774 (by decide) ?_
                    refine lv_iadd hx hb dL_law_775 ?_
                    obtain ⟨v97, hg, hf⟩ := scI_inv hf
                    refine r_sld hC hw h9 hg dL_law_776 ?_
                    refine lv_aload_n hx hb dL_law_777 rfl (lv_at hl 3 rfl) ?_
                    obtain ⟨r99, σ98, hk, hf⟩ := bnd_inv hf
                    refine z_callSW (As := [.ref x1, .int v96, .int v97, .ref x3]) (rest := []) (m_L_weight hC.2.2.2.2.2.2.2.2 hk) hC hw wd_L_weight lkM_L_133 rfl ⟨rfl, rfl⟩ ⟨(Nat.le_of_ble_eq_true rfl), (Nat.le_of_ble_eq_true rfl)⟩ hl.1 rfl (Nat.le_of_ble_eq_true rfl) dL_law_778 ⟨(by show _ ≤ (601024 : Nat); omega), (by show _ ≤ (7293034 : Nat); omega)⟩ (fun H locs hw => ?_)
                    refine lv_istore (lv' := [(5, .int r99), (0, .ref x0), (1, .ref x1), (2, .ref x2), (3, .ref x3), (4, .int x4)]) hx hb dL_law_781 hl (Nat.le_of_ble_eq_true rfl) rfl (fun ls hl => ?_)
                    refine lv_aload_n hx hb dL_law_783 rfl (lv_at hl 3 rfl) ?_
                    refine lv_aload_n hx hb dL_law_784 rfl (lv_at hl 1 rfl) ?_
                    refine lv_iload hx hb dL_law_785 (lv_at hl 5 rfl) ?_
                    refine lv_iconst (v := 1) hx hb dL_law_787 (by decide) ?_
                    refine lv_iadd hx hb dL_law_788 ?_
                    obtain ⟨v100, hg, hf⟩ := scI_inv hf
                    refine r_sld hC hw h9 hg dL_law_789 ?_
                    refine lv_aload_n hx hb dL_law_790 rfl (lv_at hl 1 rfl) ?_
                    refine lv_iload hx hb dL_law_791 (lv_at hl 5 rfl) ?_
                    refine lv_iconst (v := 2) hx hb dL_law_793 (by decide) ?_
                    refine lv_iadd hx hb dL_law_794 ?_
                    obtain ⟨v101, hg, hf⟩ := scI_inv hf
                    refine r_sld hC hw h9 hg dL_law_795 ?_
                    obtain ⟨ho, hf⟩ := chk_inv hf
                    obtain ⟨r103, σ102, hk, hf⟩ := bnd_inv hf
                    refine z_callV (As := [.int v100, .int v101]) (rest := []) (m_X7_weight hC.2.2.2.2.2.2.2.2 hk) hC hw wd_X7_weight lkM_L_135 (isO_sh ho) rfl rfl ⟨rfl, rfl⟩ ⟨(Nat.le_of_ble_eq_true rfl), (Nat.le_of_ble_eq_true rfl)⟩ hl.1 rfl (Nat.le_of_ble_eq_true rfl) dL_law_796 ⟨(by show _ ≤ (601024 : Nat); omega), (by show _ ≤ (7293034 : Nat); omega)⟩ (fun H locs hw => ?_)
                    refine lv_istore (lv' := [(6, .int r103), (5, .int r99), (0, .ref x0), (1, .ref x1), (2, .ref x2), (3, .ref x3), (4, .int x4)]) hx hb dL_law_799 hl (Nat.le_of_ble_eq_true rfl) rfl (fun ls hl => ?_)
                    refine lv_aload_n hx hb dL_law_801 rfl (lv_at hl 4 rfl) ?_
                    obtain ⟨ho, hf⟩ := chk_inv hf
                    obtain ⟨r105, σ104, hk, hf⟩ := bnd_inv hf
                    refine z_callV (As := []) (rest := []) (m_X7_thrown hC.2.2.2.2.2.2.2.2 hk) hC hw wd_X7_thrown lkM_L_106 (isO_sh ho) rfl rfl ⟨rfl, rfl⟩ ⟨(Nat.le_of_ble_eq_true rfl), (Nat.le_of_ble_eq_true rfl)⟩ hl.1 rfl (Nat.le_of_ble_eq_true rfl) dL_law_802 ⟨(by show _ ≤ (601024 : Nat); omega), (by show _ ≤ (7293034 : Nat); omega)⟩ (fun H locs hw => ?_)
                    refine lv_iload hx hb dL_law_805 (lv_at hl 1 rfl) ?_
                    refine lv_icmp_eq (tgt := 812) hx hb dL_law_807 (by decide) (fun hc => ?_) (fun hc => ?_)
                    · rw [if_pos hc] at hf
                      refine lv_iload hx hb dL_law_812 (lv_at hl 1 rfl) ?_
                      refine lv_if_ne (tgt := 829) hx hb dL_law_814 (by decide) (fun hc => ?_) (fun hc => ?_)
                      · rw [if_neg hc] at hf
                        refine W.widen (k := C0 + 8) (n := S0 + 48) (by omega) (by omega) ?_
                        exact t_L_law_B23_L829 hC h0 h9 hf hw (lv_sub hl [2, 3, 4, 5, 6] rfl) kI kE kR
                      · rw [if_pos hc] at hf
                        refine lv_aload_n hx hb dL_law_817 rfl (lv_at hl 5 rfl) ?_
                        refine lv_iconst (v := 0) hx hb dL_law_818 (by decide) ?_
                        obtain ⟨v106, hg, hf⟩ := ldL_inv hf
                        refine r_ldL hC hw hg dL_law_819 ?_
                        refine lv_iload hx hb dL_law_820 (lv_at hl 0 rfl) ?_
                        refine lv_i2l hx hb dL_law_822 rfl ?_
                        refine W.lcmp hx hb dL_law_823 ?_
                        refine lv_if_eq (tgt := 829) hx hb dL_law_824 (by decide) (fun hc => ?_) (fun hc => ?_)
                        · rw [if_pos hc] at hf
                          refine W.widen (k := C0 + 8) (n := S0 + 48) (by omega) (by omega) ?_
                          exact t_L_law_B23_L829 hC h0 h9 hf hw (lv_sub hl [2, 3, 4, 5, 6] rfl) kI kE kR
                        · rw [if_neg hc] at hf
                          refine lv_iconst (v := 0) hx hb dL_law_827 (by decide) ?_
                          obtain ⟨hz, hf⟩ := chk_inv hf
                          refine W.widen (k := C0 + 8) (n := S0 + 48) (by omega) (by omega) ?_
                          exact kR 0 σ104 (Option.some.inj hf).symm hz _ _ _ 828 hw dL_law_828
                    · rw [if_neg hc] at hf
                      refine lv_iconst (v := 0) hx hb dL_law_810 (by decide) ?_
                      obtain ⟨hz, hf⟩ := chk_inv hf
                      refine W.widen (k := C0 + 8) (n := S0 + 48) (by omega) (by omega) ?_
                      exact kR 0 σ104 (Option.some.inj hf).symm hz _ _ _ 811 hw dL_law_811
                  · rw [if_neg h40_7] at hf
                    by_cases h40_8 : (v2 &&& 31) = 8
                    · rw [if_pos h40_8] at hf
                      refine lv_tableIn (tgt := 832) hx hb dL_law_40 (by rw [h40_8]; decide) (by rw [h40_8]; decide) (by rw [h40_8]; rfl) (by decide) ?_
                      refine lv_aload_n hx hb dL_law_832 rfl (lv_at hl 1 rfl) ?_
                      refine lv_aload_n hx hb dL_law_833 rfl (lv_at hl 0 rfl) ?_
                      refine lv_iload hx hb dL_law_834 (lv_at hl 4 rfl) ?_
                      refine lv_iconst (v := 1) hx hb dL_law_836 (by decide) ?_
                      refine lv_iadd hx hb dL_law_837 ?_
                      obtain ⟨v107, hg, hf⟩ := scI_inv hf
                      refine r_sld hC hw h9 hg dL_law_838 ?_
                      refine lv_aload_n hx hb dL_law_839 rfl (lv_at hl 0 rfl) ?_
                      refine lv_iload hx hb dL_law_840 (lv_at hl 4 rfl) ?_
                      refine lv_iconst (v := 2) hx hb dL_law_842 (by decide) ?_
                      refine lv_iadd hx hb dL_law_843 ?_
                      obtain ⟨v108, hg, hf⟩ := scI_inv hf
                      refine r_sld hC hw h9 hg dL_law_844 ?_
                      refine lv_aload_n hx hb dL_law_845 rfl (lv_at hl 0 rfl) ?_
                      refine lv_iload hx hb dL_law_846 (lv_at hl 4 rfl) ?_
                      refine lv_iconst (v := 3) hx hb dL_law_848 (by decide) ?_
                      refine lv_iadd hx hb dL_law_849 ?_
                      obtain ⟨v109, hg, hf⟩ := scI_inv hf
                      refine r_sld hC hw h9 hg dL_law_850 ?_
                      refine lv_aload_n hx hb dL_law_851 rfl (lv_at hl 3 rfl) ?_
                      obtain ⟨r111, σ110, hk, hf⟩ := bnd_inv hf
                      refine z_callSW (As := [.ref x1, .int v107, .int v108, .int v109, .ref x3]) (rest := []) (m_L_powerWeight hC.2.2.2.2.2.2.2.2 hk) hC hw wd_L_powerWeight lkM_L_136 rfl ⟨rfl, rfl⟩ ⟨(Nat.le_of_ble_eq_true rfl), (Nat.le_of_ble_eq_true rfl)⟩ hl.1 rfl (Nat.le_of_ble_eq_true rfl) dL_law_852 ⟨(by show _ ≤ (601024 : Nat); omega), (by show _ ≤ (7293034 : Nat); omega)⟩ (fun H locs hw => ?_)
                      refine lv_istore (lv' := [(5, .int r111), (0, .ref x0), (1, .ref x1), (2, .ref x2), (3, .ref x3), (4, .int x4)]) hx hb dL_law_855 hl (Nat.le_of_ble_eq_true rfl) rfl (fun ls hl => ?_)
                      refine lv_aload_n hx hb dL_law_857 rfl (lv_at hl 3 rfl) ?_
                      refine lv_aload_n hx hb dL_law_858 rfl (lv_at hl 1 rfl) ?_
                      refine lv_iload hx hb dL_law_859 (lv_at hl 5 rfl) ?_
                      refine lv_iconst (v := 1) hx hb dL_law_861 (by decide) ?_
                      refine lv_iadd hx hb dL_law_862 ?_
                      obtain ⟨v112, hg, hf⟩ := scI_inv hf
                      refine r_sld hC hw h9 hg dL_law_863 ?_
                      refine lv_aload_n hx hb dL_law_864 rfl (lv_at hl 1 rfl) ?_
                      refine lv_iload hx hb dL_law_865 (lv_at hl 5 rfl) ?_
                      refine lv_iconst (v := 2) hx hb dL_law_867 (by decide) ?_
                      refine lv_iadd hx hb dL_law_868 ?_
                      obtain ⟨v113, hg, hf⟩ := scI_inv hf
                      refine r_sld hC hw h9 hg dL_law_869 ?_
                      refine lv_aload_n hx hb dL_law_870 rfl (lv_at hl 1 rfl) ?_
                      refine lv_iload hx hb dL_law_871 (lv_at hl 5 rfl) ?_
                      refine lv_iconst (v := 3) hx hb dL_law_873 (by decide) ?_
                      refine lv_iadd hx hb dL_law_874 ?_
                      obtain ⟨v114, hg, hf⟩ := scI_inv hf
                      refine r_sld hC hw h9 hg dL_law_875 ?_
                      obtain ⟨ho, hf⟩ := chk_inv hf
                      obtain ⟨r116, σ115, hk, hf⟩ := bnd_inv hf
                      refine z_callV (As := [.int v112, .int v113, .int v114]) (rest := []) (m_X7_powerWeight hC.2.2.2.2.2.2.2.2 hk) hC hw wd_X7_powerWeight lkM_L_138 (isO_sh ho) rfl rfl ⟨rfl, rfl⟩ ⟨(Nat.le_of_ble_eq_true rfl), (Nat.le_of_ble_eq_true rfl)⟩ hl.1 rfl (Nat.le_of_ble_eq_true rfl) dL_law_876 ⟨(by show _ ≤ (601024 : Nat); omega), (by show _ ≤ (7293034 : Nat); omega)⟩ (fun H locs hw => ?_)
                      refine lv_istore (lv' := [(6, .int r116), (5, .int r111), (0, .ref x0), (1, .ref x1), (2, .ref x2), (3, .ref x3), (4, .int x4)]) hx hb dL_law_879 hl (Nat.le_of_ble_eq_true rfl) rfl (fun ls hl => ?_)
                      refine lv_aload_n hx hb dL_law_881 rfl (lv_at hl 4 rfl) ?_
                      obtain ⟨ho, hf⟩ := chk_inv hf
                      obtain ⟨r118, σ117, hk, hf⟩ := bnd_inv hf
                      refine z_callV (As := []) (rest := []) (m_X7_thrown hC.2.2.2.2.2.2.2.2 hk) hC hw wd_X7_thrown lkM_L_106 (isO_sh ho) rfl rfl ⟨rfl, rfl⟩ ⟨(Nat.le_of_ble_eq_true rfl), (Nat.le_of_ble_eq_true rfl)⟩ hl.1 rfl (Nat.le_of_ble_eq_true rfl) dL_law_882 ⟨(by show _ ≤ (601024 : Nat); omega), (by show _ ≤ (7293034 : Nat); omega)⟩ (fun H locs hw => ?_)
                      refine lv_iload hx hb dL_law_885 (lv_at hl 1 rfl) ?_
                      refine lv_icmp_eq (tgt := 892) hx hb dL_law_887 (by decide) (fun hc => ?_) (fun hc => ?_)
                      · rw [if_pos hc] at hf
                        refine lv_iload hx hb dL_law_892 (lv_at hl 1 rfl) ?_
                        refine lv_if_ne (tgt := 909) hx hb dL_law_894 (by decide) (fun hc => ?_) (fun hc => ?_)
                        · rw [if_neg hc] at hf
                          refine W.widen (k := C0 + 8) (n := S0 + 48) (by omega) (by omega) ?_
                          exact t_L_law_B23_L909 hC h0 h9 hf hw (lv_sub hl [2, 3, 4, 5, 6] rfl) kI kE kR
                        · rw [if_pos hc] at hf
                          refine lv_aload_n hx hb dL_law_897 rfl (lv_at hl 5 rfl) ?_
                          refine lv_iconst (v := 0) hx hb dL_law_898 (by decide) ?_
                          obtain ⟨v119, hg, hf⟩ := ldL_inv hf
                          refine r_ldL hC hw hg dL_law_899 ?_
                          refine lv_iload hx hb dL_law_900 (lv_at hl 0 rfl) ?_
                          refine lv_i2l hx hb dL_law_902 rfl ?_
                          refine W.lcmp hx hb dL_law_903 ?_
                          refine lv_if_eq (tgt := 909) hx hb dL_law_904 (by decide) (fun hc => ?_) (fun hc => ?_)
                          · rw [if_pos hc] at hf
                            refine W.widen (k := C0 + 8) (n := S0 + 48) (by omega) (by omega) ?_
                            exact t_L_law_B23_L909 hC h0 h9 hf hw (lv_sub hl [2, 3, 4, 5, 6] rfl) kI kE kR
                          · rw [if_neg hc] at hf
                            refine lv_iconst (v := 0) hx hb dL_law_907 (by decide) ?_
                            obtain ⟨hz, hf⟩ := chk_inv hf
                            refine W.widen (k := C0 + 8) (n := S0 + 48) (by omega) (by omega) ?_
                            exact kR 0 σ117 (Option.some.inj hf).symm hz _ _ _ 908 hw dL_law_908
                      · rw [if_neg hc] at hf
                        refine lv_iconst (v := 0) hx hb dL_law_890 (by decide) ?_
                        obtain ⟨hz, hf⟩ := chk_inv hf
                        refine W.widen (k := C0 + 8) (n := S0 + 48) (by omega) (by omega) ?_
                        exact kR 0 σ117 (Option.some.inj hf).symm hz _ _ _ 891 hw dL_law_891
                    · rw [if_neg h40_8] at hf
                      by_cases h40_9 : (v2 &&& 31) = 9
                      · rw [if_pos h40_9] at hf
                        refine lv_tableIn (tgt := 912) hx hb dL_law_40 (by rw [h40_9]; decide) (by rw [h40_9]; decide) (by rw [h40_9]; rfl) (by decide) ?_
                        refine lv_aload_n hx hb dL_law_912 rfl (lv_at hl 1 rfl) ?_
                        refine lv_aload_n hx hb dL_law_913 rfl (lv_at hl 0 rfl) ?_
                        refine lv_iload hx hb dL_law_914 (lv_at hl 4 rfl) ?_
                        refine lv_iconst (v := 1) hx hb dL_law_916 (by decide) ?_
                        refine lv_iadd hx hb dL_law_917 ?_
                        obtain ⟨v120, hg, hf⟩ := scI_inv hf
                        refine r_sld hC hw h9 hg dL_law_918 ?_
                        refine lv_aload_n hx hb dL_law_919 rfl (lv_at hl 0 rfl) ?_
                        refine lv_iload hx hb dL_law_920 (lv_at hl 4 rfl) ?_
                        refine lv_iconst (v := 2) hx hb dL_law_922 (by decide) ?_
                        refine lv_iadd hx hb dL_law_923 ?_
                        obtain ⟨v121, hg, hf⟩ := scI_inv hf
                        refine r_sld hC hw h9 hg dL_law_924 ?_
                        refine lv_aload_n hx hb dL_law_925 rfl (lv_at hl 3 rfl) ?_
                        obtain ⟨r123, σ122, hk, hf⟩ := bnd_inv hf
                        refine z_callSW (As := [.ref x1, .int v120, .int v121, .ref x3]) (rest := []) (m_L_total hC.2.2.2.2.2.2.2.2 hk) hC hw wd_L_total lkM_L_139 rfl ⟨rfl, rfl⟩ ⟨(Nat.le_of_ble_eq_true rfl), (Nat.le_of_ble_eq_true rfl)⟩ hl.1 rfl (Nat.le_of_ble_eq_true rfl) dL_law_926 ⟨(by show _ ≤ (601024 : Nat); omega), (by show _ ≤ (7293034 : Nat); omega)⟩ (fun H locs hw => ?_)
                        refine lv_istore (lv' := [(5, .int r123), (0, .ref x0), (1, .ref x1), (2, .ref x2), (3, .ref x3), (4, .int x4)]) hx hb dL_law_929 hl (Nat.le_of_ble_eq_true rfl) rfl (fun ls hl => ?_)
                        refine lv_aload_n hx hb dL_law_931 rfl (lv_at hl 3 rfl) ?_
                        refine lv_aload_n hx hb dL_law_932 rfl (lv_at hl 1 rfl) ?_
                        refine lv_iload hx hb dL_law_933 (lv_at hl 5 rfl) ?_
                        refine lv_iconst (v := 1) hx hb dL_law_935 (by decide) ?_
                        refine lv_iadd hx hb dL_law_936 ?_
                        obtain ⟨v124, hg, hf⟩ := scI_inv hf
                        refine r_sld hC hw h9 hg dL_law_937 ?_
                        refine lv_aload_n hx hb dL_law_938 rfl (lv_at hl 1 rfl) ?_
                        refine lv_iload hx hb dL_law_939 (lv_at hl 5 rfl) ?_
                        refine lv_iconst (v := 2) hx hb dL_law_941 (by decide) ?_
                        refine lv_iadd hx hb dL_law_942 ?_
                        obtain ⟨v125, hg, hf⟩ := scI_inv hf
                        refine r_sld hC hw h9 hg dL_law_943 ?_
                        obtain ⟨ho, hf⟩ := chk_inv hf
                        obtain ⟨r127, σ126, hk, hf⟩ := bnd_inv hf
                        refine z_callV (As := [.int v124, .int v125]) (rest := []) (m_X7_total hC.2.2.2.2.2.2.2.2 hk) hC hw wd_X7_total lkM_L_141 (isO_sh ho) rfl rfl ⟨rfl, rfl⟩ ⟨(Nat.le_of_ble_eq_true rfl), (Nat.le_of_ble_eq_true rfl)⟩ hl.1 rfl (Nat.le_of_ble_eq_true rfl) dL_law_944 ⟨(by show _ ≤ (601024 : Nat); omega), (by show _ ≤ (7293034 : Nat); omega)⟩ (fun H locs hw => ?_)
                        refine lv_istore (lv' := [(6, .int r127), (5, .int r123), (0, .ref x0), (1, .ref x1), (2, .ref x2), (3, .ref x3), (4, .int x4)]) hx hb dL_law_947 hl (Nat.le_of_ble_eq_true rfl) rfl (fun ls hl => ?_)
                        refine lv_aload_n hx hb dL_law_949 rfl (lv_at hl 4 rfl) ?_
                        obtain ⟨ho, hf⟩ := chk_inv hf
                        obtain ⟨r129, σ128, hk, hf⟩ := bnd_inv hf
                        refine z_callV (As := []) (rest := []) (m_X7_thrown hC.2.2.2.2.2.2.2.2 hk) hC hw wd_X7_thrown lkM_L_106 (isO_sh ho) rfl rfl ⟨rfl, rfl⟩ ⟨(Nat.le_of_ble_eq_true rfl), (Nat.le_of_ble_eq_true rfl)⟩ hl.1 rfl (Nat.le_of_ble_eq_true rfl) dL_law_950 ⟨(by show _ ≤ (601024 : Nat); omega), (by show _ ≤ (7293034 : Nat); omega)⟩ (fun H locs hw => ?_)
                        refine lv_iload hx hb dL_law_953 (lv_at hl 1 rfl) ?_
                        refine lv_icmp_eq (tgt := 960) hx hb dL_law_955 (by decide) (fun hc => ?_) (fun hc => ?_)
                        · rw [if_pos hc] at hf
                          refine lv_iload hx hb dL_law_960 (lv_at hl 1 rfl) ?_
                          refine lv_if_ne (tgt := 977) hx hb dL_law_962 (by decide) (fun hc => ?_) (fun hc => ?_)
                          · rw [if_neg hc] at hf
                            refine W.widen (k := C0 + 8) (n := S0 + 48) (by omega) (by omega) ?_
                            exact t_L_law_B23_L977 hC h0 h9 hf hw (lv_sub hl [2, 3, 4, 5, 6] rfl) kI kE kR
                          · rw [if_pos hc] at hf
                            refine lv_aload_n hx hb dL_law_965 rfl (lv_at hl 5 rfl) ?_
                            refine lv_iconst (v := 0) hx hb dL_law_966 (by decide) ?_
                            obtain ⟨v130, hg, hf⟩ := ldL_inv hf
                            refine r_ldL hC hw hg dL_law_967 ?_
                            refine lv_iload hx hb dL_law_968 (lv_at hl 0 rfl) ?_
                            refine lv_i2l hx hb dL_law_970 rfl ?_
                            refine W.lcmp hx hb dL_law_971 ?_
                            refine lv_if_eq (tgt := 977) hx hb dL_law_972 (by decide) (fun hc => ?_) (fun hc => ?_)
                            · rw [if_pos hc] at hf
                              refine W.widen (k := C0 + 8) (n := S0 + 48) (by omega) (by omega) ?_
                              exact t_L_law_B23_L977 hC h0 h9 hf hw (lv_sub hl [2, 3, 4, 5, 6] rfl) kI kE kR
                            · rw [if_neg hc] at hf
                              refine lv_iconst (v := 0) hx hb dL_law_975 (by decide) ?_
                              obtain ⟨hz, hf⟩ := chk_inv hf
                              refine W.widen (k := C0 + 8) (n := S0 + 48) (by omega) (by omega) ?_
                              exact kR 0 σ128 (Option.some.inj hf).symm hz _ _ _ 976 hw dL_law_976
                        · rw [if_neg hc] at hf
                          refine lv_iconst (v := 0) hx hb dL_law_958 (by decide) ?_
                          obtain ⟨hz, hf⟩ := chk_inv hf
                          refine W.widen (k := C0 + 8) (n := S0 + 48) (by omega) (by omega) ?_
                          exact kR 0 σ128 (Option.some.inj hf).symm hz _ _ _ 959 hw dL_law_959
                      · rw [if_neg h40_9] at hf
                        by_cases h40_10 : (v2 &&& 31) = 10
                        · rw [if_pos h40_10] at hf
                          refine lv_tableIn (tgt := 980) hx hb dL_law_40 (by rw [h40_10]; decide) (by rw [h40_10]; decide) (by rw [h40_10]; rfl) (by decide) ?_
                          refine lv_aload_n hx hb dL_law_980 rfl (lv_at hl 1 rfl) ?_
                          refine lv_aload_n hx hb dL_law_981 rfl (lv_at hl 0 rfl) ?_
                          refine lv_iload hx hb dL_law_982 (lv_at hl 4 rfl) ?_
                          refine lv_iconst (v := 1) hx hb dL_law_984 (by decide) ?_
                          refine lv_iadd hx hb dL_law_985 ?_
                          obtain ⟨v131, hg, hf⟩ := scI_inv hf
                          refine r_sld hC hw h9 hg dL_law_986 ?_
                          refine lv_aload_n hx hb dL_law_987 rfl (lv_at hl 0 rfl) ?_
                          refine lv_iload hx hb dL_law_988 (lv_at hl 4 rfl) ?_
                          refine lv_iconst (v := 2) hx hb dL_law_990 (by decide) ?_
                          refine lv_iadd hx hb dL_law_991 ?_
                          obtain ⟨v132, hg, hf⟩ := scI_inv hf
                          refine r_sld hC hw h9 hg dL_law_992 ?_
                          refine lv_aload_n hx hb dL_law_993 rfl (lv_at hl 3 rfl) ?_
                          obtain ⟨r134, σ133, hk, hf⟩ := bnd_inv hf
                          refine z_callSW (As := [.ref x1, .int v131, .int v132, .ref x3]) (rest := []) (m_L_support hC.2.2.2.2.2.2.2.2 hk) hC hw wd_L_support lkM_L_142 rfl ⟨rfl, rfl⟩ ⟨(Nat.le_of_ble_eq_true rfl), (Nat.le_of_ble_eq_true rfl)⟩ hl.1 rfl (Nat.le_of_ble_eq_true rfl) dL_law_994 ⟨(by show _ ≤ (601024 : Nat); omega), (by show _ ≤ (7293034 : Nat); omega)⟩ (fun H locs hw => ?_)
                          refine lv_istore (lv' := [(5, .int r134), (0, .ref x0), (1, .ref x1), (2, .ref x2), (3, .ref x3), (4, .int x4)]) hx hb dL_law_997 hl (Nat.le_of_ble_eq_true rfl) rfl (fun ls hl => ?_)
                          refine lv_aload_n hx hb dL_law_999 rfl (lv_at hl 3 rfl) ?_
                          refine lv_aload_n hx hb dL_law_1000 rfl (lv_at hl 1 rfl) ?_
                          refine lv_iload hx hb dL_law_1001 (lv_at hl 5 rfl) ?_
                          refine lv_iconst (v := 1) hx hb dL_law_1003 (by decide) ?_
                          refine lv_iadd hx hb dL_law_1004 ?_
                          obtain ⟨v135, hg, hf⟩ := scI_inv hf
                          refine r_sld hC hw h9 hg dL_law_1005 ?_
                          refine lv_aload_n hx hb dL_law_1006 rfl (lv_at hl 1 rfl) ?_
                          refine lv_iload hx hb dL_law_1007 (lv_at hl 5 rfl) ?_
                          refine lv_iconst (v := 2) hx hb dL_law_1009 (by decide) ?_
                          refine lv_iadd hx hb dL_law_1010 ?_
                          obtain ⟨v136, hg, hf⟩ := scI_inv hf
                          refine r_sld hC hw h9 hg dL_law_1011 ?_
                          obtain ⟨ho, hf⟩ := chk_inv hf
                          obtain ⟨r138, σ137, hk, hf⟩ := bnd_inv hf
                          refine z_callV (As := [.int v135, .int v136]) (rest := []) (m_X7_support hC.2.2.2.2.2.2.2.2 hk) hC hw wd_X7_support lkM_L_144 (isO_sh ho) rfl rfl ⟨rfl, rfl⟩ ⟨(Nat.le_of_ble_eq_true rfl), (Nat.le_of_ble_eq_true rfl)⟩ hl.1 rfl (Nat.le_of_ble_eq_true rfl) dL_law_1012 ⟨(by show _ ≤ (601024 : Nat); omega), (by show _ ≤ (7293034 : Nat); omega)⟩ (fun H locs hw => ?_)
                          refine lv_istore (lv' := [(6, .int r138), (5, .int r134), (0, .ref x0), (1, .ref x1), (2, .ref x2), (3, .ref x3), (4, .int x4)]) hx hb dL_law_1015 hl (Nat.le_of_ble_eq_true rfl) rfl (fun ls hl => ?_)
                          refine lv_aload_n hx hb dL_law_1017 rfl (lv_at hl 4 rfl) ?_
                          obtain ⟨ho, hf⟩ := chk_inv hf
                          obtain ⟨r140, σ139, hk, hf⟩ := bnd_inv hf
                          refine z_callV (As := []) (rest := []) (m_X7_thrown hC.2.2.2.2.2.2.2.2 hk) hC hw wd_X7_thrown lkM_L_106 (isO_sh ho) rfl rfl ⟨rfl, rfl⟩ ⟨(Nat.le_of_ble_eq_true rfl), (Nat.le_of_ble_eq_true rfl)⟩ hl.1 rfl (Nat.le_of_ble_eq_true rfl) dL_law_1018 ⟨(by show _ ≤ (601024 : Nat); omega), (by show _ ≤ (7293034 : Nat); omega)⟩ (fun H locs hw => ?_)
                          refine lv_iload hx hb dL_law_1021 (lv_at hl 1 rfl) ?_
                          refine lv_icmp_eq (tgt := 1028) hx hb dL_law_1023 (by decide) (fun hc => ?_) (fun hc => ?_)
                          · rw [if_pos hc] at hf
                            refine lv_iload hx hb dL_law_1028 (lv_at hl 1 rfl) ?_
                            refine lv_if_ne (tgt := 1045) hx hb dL_law_1030 (by decide) (fun hc => ?_) (fun hc => ?_)
                            · rw [if_neg hc] at hf
                              refine W.widen (k := C0 + 8) (n := S0 + 48) (by omega) (by omega) ?_
                              exact t_L_law_B23_L1045 hC h0 h9 hf hw (lv_sub hl [2, 3, 4, 5, 6] rfl) kI kE kR
                            · rw [if_pos hc] at hf
                              refine lv_aload_n hx hb dL_law_1033 rfl (lv_at hl 5 rfl) ?_
                              refine lv_iconst (v := 0) hx hb dL_law_1034 (by decide) ?_
                              obtain ⟨v141, hg, hf⟩ := ldL_inv hf
                              refine r_ldL hC hw hg dL_law_1035 ?_
                              refine lv_iload hx hb dL_law_1036 (lv_at hl 0 rfl) ?_
                              refine lv_i2l hx hb dL_law_1038 rfl ?_
                              refine W.lcmp hx hb dL_law_1039 ?_
                              refine lv_if_eq (tgt := 1045) hx hb dL_law_1040 (by decide) (fun hc => ?_) (fun hc => ?_)
                              · rw [if_pos hc] at hf
                                refine W.widen (k := C0 + 8) (n := S0 + 48) (by omega) (by omega) ?_
                                exact t_L_law_B23_L1045 hC h0 h9 hf hw (lv_sub hl [2, 3, 4, 5, 6] rfl) kI kE kR
                              · rw [if_neg hc] at hf
                                refine lv_iconst (v := 0) hx hb dL_law_1043 (by decide) ?_
                                obtain ⟨hz, hf⟩ := chk_inv hf
                                refine W.widen (k := C0 + 8) (n := S0 + 48) (by omega) (by omega) ?_
                                exact kR 0 σ139 (Option.some.inj hf).symm hz _ _ _ 1044 hw dL_law_1044
                          · rw [if_neg hc] at hf
                            refine lv_iconst (v := 0) hx hb dL_law_1026 (by decide) ?_
                            obtain ⟨hz, hf⟩ := chk_inv hf
                            refine W.widen (k := C0 + 8) (n := S0 + 48) (by omega) (by omega) ?_
                            exact kR 0 σ139 (Option.some.inj hf).symm hz _ _ _ 1027 hw dL_law_1027
                        · rw [if_neg h40_10] at hf
                          by_cases h40_11 : (v2 &&& 31) = 11
                          · rw [if_pos h40_11] at hf
                            refine lv_tableIn (tgt := 1048) hx hb dL_law_40 (by rw [h40_11]; decide) (by rw [h40_11]; decide) (by rw [h40_11]; rfl) (by decide) ?_
                            refine lv_aload_n hx hb dL_law_1048 rfl (lv_at hl 1 rfl) ?_
                            refine lv_aload_n hx hb dL_law_1049 rfl (lv_at hl 0 rfl) ?_
                            refine lv_iload hx hb dL_law_1050 (lv_at hl 4 rfl) ?_
                            refine lv_iconst (v := 1) hx hb dL_law_1052 (by decide) ?_
                            refine lv_iadd hx hb dL_law_1053 ?_
                            obtain ⟨v142, hg, hf⟩ := scI_inv hf
                            refine r_sld hC hw h9 hg dL_law_1054 ?_
                            refine lv_aload_n hx hb dL_law_1055 rfl (lv_at hl 3 rfl) ?_
                            obtain ⟨r144, σ143, hk, hf⟩ := bnd_inv hf
                            refine z_callSW (As := [.ref x1, .int v142, .ref x3]) (rest := []) (m_L_first hC.2.2.2.2.2.2.2.2 hk) hC hw wd_L_first lkM_L_145 rfl ⟨rfl, rfl⟩ ⟨(Nat.le_of_ble_eq_true rfl), (Nat.le_of_ble_eq_true rfl)⟩ hl.1 rfl (Nat.le_of_ble_eq_true rfl) dL_law_1056 ⟨(by show _ ≤ (601024 : Nat); omega), (by show _ ≤ (7293034 : Nat); omega)⟩ (fun H locs hw => ?_)
                            refine lv_istore (lv' := [(5, .int r144), (0, .ref x0), (1, .ref x1), (2, .ref x2), (3, .ref x3), (4, .int x4)]) hx hb dL_law_1059 hl (Nat.le_of_ble_eq_true rfl) rfl (fun ls hl => ?_)
                            refine lv_aload_n hx hb dL_law_1061 rfl (lv_at hl 3 rfl) ?_
                            refine lv_aload_n hx hb dL_law_1062 rfl (lv_at hl 1 rfl) ?_
                            refine lv_iload hx hb dL_law_1063 (lv_at hl 5 rfl) ?_
                            refine lv_iconst (v := 1) hx hb dL_law_1065 (by decide) ?_
                            refine lv_iadd hx hb dL_law_1066 ?_
                            obtain ⟨v145, hg, hf⟩ := scI_inv hf
                            refine r_sld hC hw h9 hg dL_law_1067 ?_
                            obtain ⟨ho, hf⟩ := chk_inv hf
                            obtain ⟨r147, σ146, hk, hf⟩ := bnd_inv hf
                            refine z_callV (As := [.int v145]) (rest := []) (m_X7_first hC.2.2.2.2.2.2.2.2 hk) hC hw wd_X7_first lkM_L_147 (isO_sh ho) rfl rfl ⟨rfl, rfl⟩ ⟨(Nat.le_of_ble_eq_true rfl), (Nat.le_of_ble_eq_true rfl)⟩ hl.1 rfl (Nat.le_of_ble_eq_true rfl) dL_law_1068 ⟨(by show _ ≤ (601024 : Nat); omega), (by show _ ≤ (7293034 : Nat); omega)⟩ (fun H locs hw => ?_)
                            refine lv_istore (lv' := [(6, .int r147), (5, .int r144), (0, .ref x0), (1, .ref x1), (2, .ref x2), (3, .ref x3), (4, .int x4)]) hx hb dL_law_1071 hl (Nat.le_of_ble_eq_true rfl) rfl (fun ls hl => ?_)
                            refine lv_aload_n hx hb dL_law_1073 rfl (lv_at hl 4 rfl) ?_
                            obtain ⟨ho, hf⟩ := chk_inv hf
                            obtain ⟨r149, σ148, hk, hf⟩ := bnd_inv hf
                            refine z_callV (As := []) (rest := []) (m_X7_thrown hC.2.2.2.2.2.2.2.2 hk) hC hw wd_X7_thrown lkM_L_106 (isO_sh ho) rfl rfl ⟨rfl, rfl⟩ ⟨(Nat.le_of_ble_eq_true rfl), (Nat.le_of_ble_eq_true rfl)⟩ hl.1 rfl (Nat.le_of_ble_eq_true rfl) dL_law_1074 ⟨(by show _ ≤ (601024 : Nat); omega), (by show _ ≤ (7293034 : Nat); omega)⟩ (fun H locs hw => ?_)
                            refine lv_iload hx hb dL_law_1077 (lv_at hl 1 rfl) ?_
                            refine lv_icmp_eq (tgt := 1084) hx hb dL_law_1079 (by decide) (fun hc => ?_) (fun hc => ?_)
                            · rw [if_pos hc] at hf
                              refine lv_iload hx hb dL_law_1084 (lv_at hl 1 rfl) ?_
                              refine lv_if_ne (tgt := 1101) hx hb dL_law_1086 (by decide) (fun hc => ?_) (fun hc => ?_)
                              · rw [if_neg hc] at hf
                                refine W.widen (k := C0 + 8) (n := S0 + 48) (by omega) (by omega) ?_
                                exact t_L_law_B23_L1101 hC h0 h9 hf hw (lv_sub hl [2, 3, 4, 5, 6] rfl) kI kE kR
                              · rw [if_pos hc] at hf
                                refine lv_aload_n hx hb dL_law_1089 rfl (lv_at hl 5 rfl) ?_
                                refine lv_iconst (v := 0) hx hb dL_law_1090 (by decide) ?_
                                obtain ⟨v150, hg, hf⟩ := ldL_inv hf
                                refine r_ldL hC hw hg dL_law_1091 ?_
                                refine lv_iload hx hb dL_law_1092 (lv_at hl 0 rfl) ?_
                                refine lv_i2l hx hb dL_law_1094 rfl ?_
                                refine W.lcmp hx hb dL_law_1095 ?_
                                refine lv_if_eq (tgt := 1101) hx hb dL_law_1096 (by decide) (fun hc => ?_) (fun hc => ?_)
                                · rw [if_pos hc] at hf
                                  refine W.widen (k := C0 + 8) (n := S0 + 48) (by omega) (by omega) ?_
                                  exact t_L_law_B23_L1101 hC h0 h9 hf hw (lv_sub hl [2, 3, 4, 5, 6] rfl) kI kE kR
                                · rw [if_neg hc] at hf
                                  refine lv_iconst (v := 0) hx hb dL_law_1099 (by decide) ?_
                                  obtain ⟨hz, hf⟩ := chk_inv hf
                                  refine W.widen (k := C0 + 8) (n := S0 + 48) (by omega) (by omega) ?_
                                  exact kR 0 σ148 (Option.some.inj hf).symm hz _ _ _ 1100 hw dL_law_1100
                            · rw [if_neg hc] at hf
                              refine lv_iconst (v := 0) hx hb dL_law_1082 (by decide) ?_
                              obtain ⟨hz, hf⟩ := chk_inv hf
                              refine W.widen (k := C0 + 8) (n := S0 + 48) (by omega) (by omega) ?_
                              exact kR 0 σ148 (Option.some.inj hf).symm hz _ _ _ 1083 hw dL_law_1083
                          · rw [if_neg h40_11] at hf
                            by_cases h40_12 : (v2 &&& 31) = 12
                            · rw [if_pos h40_12] at hf
                              refine lv_tableIn (tgt := 1104) hx hb dL_law_40 (by rw [h40_12]; decide) (by rw [h40_12]; decide) (by rw [h40_12]; rfl) (by decide) ?_
                              refine lv_aload_n hx hb dL_law_1104 rfl (lv_at hl 1 rfl) ?_
                              refine lv_aload_n hx hb dL_law_1105 rfl (lv_at hl 0 rfl) ?_
                              refine lv_iload hx hb dL_law_1106 (lv_at hl 4 rfl) ?_
                              refine lv_iconst (v := 1) hx hb dL_law_1108 (by decide) ?_
                              refine lv_iadd hx hb dL_law_1109 ?_
                              obtain ⟨v151, hg, hf⟩ := scI_inv hf
                              refine r_sld hC hw h9 hg dL_law_1110 ?_
                              refine lv_aload_n hx hb dL_law_1111 rfl (lv_at hl 0 rfl) ?_
                              refine lv_iload hx hb dL_law_1112 (lv_at hl 4 rfl) ?_
                              refine lv_iconst (v := 2) hx hb dL_law_1114 (by decide) ?_
                              refine lv_iadd hx hb dL_law_1115 ?_
                              obtain ⟨v152, hg, hf⟩ := scI_inv hf
                              refine r_sld hC hw h9 hg dL_law_1116 ?_
                              refine lv_aload_n hx hb dL_law_1117 rfl (lv_at hl 0 rfl) ?_
                              refine lv_iload hx hb dL_law_1118 (lv_at hl 4 rfl) ?_
                              refine lv_iconst (v := 3) hx hb dL_law_1120 (by decide) ?_
                              refine lv_iadd hx hb dL_law_1121 ?_
                              obtain ⟨v153, hg, hf⟩ := scI_inv hf
                              refine r_sld hC hw h9 hg dL_law_1122 ?_
                              refine lv_aload_n hx hb dL_law_1123 rfl (lv_at hl 0 rfl) ?_
                              refine lv_iload hx hb dL_law_1124 (lv_at hl 4 rfl) ?_
                              refine lv_iconst (v := 4) hx hb dL_law_1126 (by decide) ?_
                              refine lv_iadd hx hb dL_law_1127 ?_
                              obtain ⟨v154, hg, hf⟩ := scI_inv hf
                              refine r_sld hC hw h9 hg dL_law_1128 ?_
                              refine lv_aload_n hx hb dL_law_1129 rfl (lv_at hl 3 rfl) ?_
                              obtain ⟨r156, σ155, hk, hf⟩ := bnd_inv hf
                              refine z_callSW (As := [.ref x1, .int v151, .int v152, .int v153, .int v154, .ref x3]) (rest := []) (m_L_combine hC.2.2.2.2.2.2.2.2 hk) hC hw wd_L_combine lkM_L_148 rfl ⟨rfl, rfl⟩ ⟨(Nat.le_of_ble_eq_true rfl), (Nat.le_of_ble_eq_true rfl)⟩ hl.1 rfl (Nat.le_of_ble_eq_true rfl) dL_law_1130 ⟨(by show _ ≤ (601024 : Nat); omega), (by show _ ≤ (7293034 : Nat); omega)⟩ (fun H locs hw => ?_)
                              refine lv_istore (lv' := [(5, .int r156), (0, .ref x0), (1, .ref x1), (2, .ref x2), (3, .ref x3), (4, .int x4)]) hx hb dL_law_1133 hl (Nat.le_of_ble_eq_true rfl) rfl (fun ls hl => ?_)
                              refine lv_aload_n hx hb dL_law_1135 rfl (lv_at hl 3 rfl) ?_
                              refine lv_aload_n hx hb dL_law_1136 rfl (lv_at hl 1 rfl) ?_
                              refine lv_iload hx hb dL_law_1137 (lv_at hl 5 rfl) ?_
                              refine lv_iconst (v := 1) hx hb dL_law_1139 (by decide) ?_
                              refine lv_iadd hx hb dL_law_1140 ?_
                              obtain ⟨v157, hg, hf⟩ := scI_inv hf
                              refine r_sld hC hw h9 hg dL_law_1141 ?_
                              refine lv_aload_n hx hb dL_law_1142 rfl (lv_at hl 1 rfl) ?_
                              refine lv_iload hx hb dL_law_1143 (lv_at hl 5 rfl) ?_
                              refine lv_iconst (v := 2) hx hb dL_law_1145 (by decide) ?_
                              refine lv_iadd hx hb dL_law_1146 ?_
                              obtain ⟨v158, hg, hf⟩ := scI_inv hf
                              refine r_sld hC hw h9 hg dL_law_1147 ?_
                              refine lv_aload_n hx hb dL_law_1148 rfl (lv_at hl 1 rfl) ?_
                              refine lv_iload hx hb dL_law_1149 (lv_at hl 5 rfl) ?_
                              refine lv_iconst (v := 3) hx hb dL_law_1151 (by decide) ?_
                              refine lv_iadd hx hb dL_law_1152 ?_
                              obtain ⟨v159, hg, hf⟩ := scI_inv hf
                              refine r_sld hC hw h9 hg dL_law_1153 ?_
                              refine lv_aload_n hx hb dL_law_1154 rfl (lv_at hl 1 rfl) ?_
                              refine lv_iload hx hb dL_law_1155 (lv_at hl 5 rfl) ?_
                              refine lv_iconst (v := 4) hx hb dL_law_1157 (by decide) ?_
                              refine lv_iadd hx hb dL_law_1158 ?_
                              obtain ⟨v160, hg, hf⟩ := scI_inv hf
                              refine r_sld hC hw h9 hg dL_law_1159 ?_
                              obtain ⟨ho, hf⟩ := chk_inv hf
                              obtain ⟨r162, σ161, hk, hf⟩ := bnd_inv hf
                              refine z_callV (As := [.int v157, .int v158, .int v159, .int v160]) (rest := []) (m_X7_combine hC.2.2.2.2.2.2.2.2 hk) hC hw wd_X7_combine lkM_L_150 (isO_sh ho) rfl rfl ⟨rfl, rfl⟩ ⟨(Nat.le_of_ble_eq_true rfl), (Nat.le_of_ble_eq_true rfl)⟩ hl.1 rfl (Nat.le_of_ble_eq_true rfl) dL_law_1160 ⟨(by show _ ≤ (601024 : Nat); omega), (by show _ ≤ (7293034 : Nat); omega)⟩ (fun H locs hw => ?_)
                              refine lv_istore (lv' := [(6, .int r162), (5, .int r156), (0, .ref x0), (1, .ref x1), (2, .ref x2), (3, .ref x3), (4, .int x4)]) hx hb dL_law_1163 hl (Nat.le_of_ble_eq_true rfl) rfl (fun ls hl => ?_)
                              refine lv_aload_n hx hb dL_law_1165 rfl (lv_at hl 4 rfl) ?_
                              obtain ⟨ho, hf⟩ := chk_inv hf
                              obtain ⟨r164, σ163, hk, hf⟩ := bnd_inv hf
                              refine z_callV (As := []) (rest := []) (m_X7_thrown hC.2.2.2.2.2.2.2.2 hk) hC hw wd_X7_thrown lkM_L_106 (isO_sh ho) rfl rfl ⟨rfl, rfl⟩ ⟨(Nat.le_of_ble_eq_true rfl), (Nat.le_of_ble_eq_true rfl)⟩ hl.1 rfl (Nat.le_of_ble_eq_true rfl) dL_law_1166 ⟨(by show _ ≤ (601024 : Nat); omega), (by show _ ≤ (7293034 : Nat); omega)⟩ (fun H locs hw => ?_)
                              refine lv_iload hx hb dL_law_1169 (lv_at hl 1 rfl) ?_
                              refine lv_icmp_eq (tgt := 1176) hx hb dL_law_1171 (by decide) (fun hc => ?_) (fun hc => ?_)
                              · rw [if_pos hc] at hf
                                refine lv_iload hx hb dL_law_1176 (lv_at hl 1 rfl) ?_
                                refine lv_if_ne (tgt := 1193) hx hb dL_law_1178 (by decide) (fun hc => ?_) (fun hc => ?_)
                                · rw [if_neg hc] at hf
                                  refine W.widen (k := C0 + 8) (n := S0 + 48) (by omega) (by omega) ?_
                                  exact t_L_law_B23_L1193 hC h0 h9 hf hw (lv_sub hl [2, 3, 4, 5, 6] rfl) kI kE kR
                                · rw [if_pos hc] at hf
                                  refine lv_aload_n hx hb dL_law_1181 rfl (lv_at hl 5 rfl) ?_
                                  refine lv_iconst (v := 0) hx hb dL_law_1182 (by decide) ?_
                                  obtain ⟨v165, hg, hf⟩ := ldL_inv hf
                                  refine r_ldL hC hw hg dL_law_1183 ?_
                                  refine lv_iload hx hb dL_law_1184 (lv_at hl 0 rfl) ?_
                                  refine lv_i2l hx hb dL_law_1186 rfl ?_
                                  refine W.lcmp hx hb dL_law_1187 ?_
                                  refine lv_if_eq (tgt := 1193) hx hb dL_law_1188 (by decide) (fun hc => ?_) (fun hc => ?_)
                                  · rw [if_pos hc] at hf
                                    refine W.widen (k := C0 + 8) (n := S0 + 48) (by omega) (by omega) ?_
                                    exact t_L_law_B23_L1193 hC h0 h9 hf hw (lv_sub hl [2, 3, 4, 5, 6] rfl) kI kE kR
                                  · rw [if_neg hc] at hf
                                    refine lv_iconst (v := 0) hx hb dL_law_1191 (by decide) ?_
                                    obtain ⟨hz, hf⟩ := chk_inv hf
                                    refine W.widen (k := C0 + 8) (n := S0 + 48) (by omega) (by omega) ?_
                                    exact kR 0 σ163 (Option.some.inj hf).symm hz _ _ _ 1192 hw dL_law_1192
                              · rw [if_neg hc] at hf
                                refine lv_iconst (v := 0) hx hb dL_law_1174 (by decide) ?_
                                obtain ⟨hz, hf⟩ := chk_inv hf
                                refine W.widen (k := C0 + 8) (n := S0 + 48) (by omega) (by omega) ?_
                                exact kR 0 σ163 (Option.some.inj hf).symm hz _ _ _ 1175 hw dL_law_1175
                            · rw [if_neg h40_12] at hf
                              by_cases h40_13 : (v2 &&& 31) = 13
                              · rw [if_pos h40_13] at hf
                                refine lv_tableIn (tgt := 1196) hx hb dL_law_40 (by rw [h40_13]; decide) (by rw [h40_13]; decide) (by rw [h40_13]; rfl) (by decide) ?_
                                refine lv_aload_n hx hb dL_law_1196 rfl (lv_at hl 1 rfl) ?_
                                refine lv_aload_n hx hb dL_law_1197 rfl (lv_at hl 0 rfl) ?_
                                refine lv_iload hx hb dL_law_1198 (lv_at hl 4 rfl) ?_
                                refine lv_iconst (v := 1) hx hb dL_law_1200 (by decide) ?_
                                refine lv_iadd hx hb dL_law_1201 ?_
                                obtain ⟨v166, hg, hf⟩ := scI_inv hf
                                refine r_sld hC hw h9 hg dL_law_1202 ?_
                                refine lv_aload_n hx hb dL_law_1203 rfl (lv_at hl 0 rfl) ?_
                                refine lv_iload hx hb dL_law_1204 (lv_at hl 4 rfl) ?_
                                refine lv_iconst (v := 2) hx hb dL_law_1206 (by decide) ?_
                                refine lv_iadd hx hb dL_law_1207 ?_
                                obtain ⟨v167, hg, hf⟩ := scI_inv hf
                                refine r_sld hC hw h9 hg dL_law_1208 ?_
                                refine lv_aload_n hx hb dL_law_1209 rfl (lv_at hl 0 rfl) ?_
                                refine lv_iload hx hb dL_law_1210 (lv_at hl 4 rfl) ?_
                                refine lv_iconst (v := 3) hx hb dL_law_1212 (by decide) ?_
                                refine lv_iadd hx hb dL_law_1213 ?_
                                obtain ⟨v168, hg, hf⟩ := scI_inv hf
                                refine r_sld hC hw h9 hg dL_law_1214 ?_
                                refine lv_aload_n hx hb dL_law_1215 rfl (lv_at hl 3 rfl) ?_
                                obtain ⟨r170, σ169, hk, hf⟩ := bnd_inv hf
                                refine z_callSW (As := [.ref x1, .int v166, .int v167, .int v168, .ref x3]) (rest := []) (m_L_derive hC.2.2.2.2.2.2.2.2 hk) hC hw wd_L_derive lkM_L_151 rfl ⟨rfl, rfl⟩ ⟨(Nat.le_of_ble_eq_true rfl), (Nat.le_of_ble_eq_true rfl)⟩ hl.1 rfl (Nat.le_of_ble_eq_true rfl) dL_law_1216 ⟨(by show _ ≤ (601024 : Nat); omega), (by show _ ≤ (7293034 : Nat); omega)⟩ (fun H locs hw => ?_)
                                refine lv_istore (lv' := [(5, .int r170), (0, .ref x0), (1, .ref x1), (2, .ref x2), (3, .ref x3), (4, .int x4)]) hx hb dL_law_1219 hl (Nat.le_of_ble_eq_true rfl) rfl (fun ls hl => ?_)
                                refine lv_aload_n hx hb dL_law_1221 rfl (lv_at hl 3 rfl) ?_
                                refine lv_aload_n hx hb dL_law_1222 rfl (lv_at hl 1 rfl) ?_
                                refine lv_iload hx hb dL_law_1223 (lv_at hl 5 rfl) ?_
                                refine lv_iconst (v := 1) hx hb dL_law_1225 (by decide) ?_
                                refine lv_iadd hx hb dL_law_1226 ?_
                                obtain ⟨v171, hg, hf⟩ := scI_inv hf
                                refine r_sld hC hw h9 hg dL_law_1227 ?_
                                refine lv_aload_n hx hb dL_law_1228 rfl (lv_at hl 1 rfl) ?_
                                refine lv_iload hx hb dL_law_1229 (lv_at hl 5 rfl) ?_
                                refine lv_iconst (v := 2) hx hb dL_law_1231 (by decide) ?_
                                refine lv_iadd hx hb dL_law_1232 ?_
                                obtain ⟨v172, hg, hf⟩ := scI_inv hf
                                refine r_sld hC hw h9 hg dL_law_1233 ?_
                                refine lv_aload_n hx hb dL_law_1234 rfl (lv_at hl 1 rfl) ?_
                                refine lv_iload hx hb dL_law_1235 (lv_at hl 5 rfl) ?_
                                refine lv_iconst (v := 3) hx hb dL_law_1237 (by decide) ?_
                                refine lv_iadd hx hb dL_law_1238 ?_
                                obtain ⟨v173, hg, hf⟩ := scI_inv hf
                                refine r_sld hC hw h9 hg dL_law_1239 ?_
                                obtain ⟨ho, hf⟩ := chk_inv hf
                                obtain ⟨r175, σ174, hk, hf⟩ := bnd_inv hf
                                refine z_callV (As := [.int v171, .int v172, .int v173]) (rest := []) (m_X7_derive hC.2.2.2.2.2.2.2.2 hk) hC hw wd_X7_derive lkM_L_153 (isO_sh ho) rfl rfl ⟨rfl, rfl⟩ ⟨(Nat.le_of_ble_eq_true rfl), (Nat.le_of_ble_eq_true rfl)⟩ hl.1 rfl (Nat.le_of_ble_eq_true rfl) dL_law_1240 ⟨(by show _ ≤ (601024 : Nat); omega), (by show _ ≤ (7293034 : Nat); omega)⟩ (fun H locs hw => ?_)
                                refine lv_istore (lv' := [(6, .int r175), (5, .int r170), (0, .ref x0), (1, .ref x1), (2, .ref x2), (3, .ref x3), (4, .int x4)]) hx hb dL_law_1243 hl (Nat.le_of_ble_eq_true rfl) rfl (fun ls hl => ?_)
                                refine lv_aload_n hx hb dL_law_1245 rfl (lv_at hl 4 rfl) ?_
                                obtain ⟨ho, hf⟩ := chk_inv hf
                                obtain ⟨r177, σ176, hk, hf⟩ := bnd_inv hf
                                refine z_callV (As := []) (rest := []) (m_X7_thrown hC.2.2.2.2.2.2.2.2 hk) hC hw wd_X7_thrown lkM_L_106 (isO_sh ho) rfl rfl ⟨rfl, rfl⟩ ⟨(Nat.le_of_ble_eq_true rfl), (Nat.le_of_ble_eq_true rfl)⟩ hl.1 rfl (Nat.le_of_ble_eq_true rfl) dL_law_1246 ⟨(by show _ ≤ (601024 : Nat); omega), (by show _ ≤ (7293034 : Nat); omega)⟩ (fun H locs hw => ?_)
                                refine lv_iload hx hb dL_law_1249 (lv_at hl 1 rfl) ?_
                                refine lv_icmp_eq (tgt := 1256) hx hb dL_law_1251 (by decide) (fun hc => ?_) (fun hc => ?_)
                                · rw [if_pos hc] at hf
                                  refine lv_iload hx hb dL_law_1256 (lv_at hl 1 rfl) ?_
                                  refine lv_if_ne (tgt := 1273) hx hb dL_law_1258 (by decide) (fun hc => ?_) (fun hc => ?_)
                                  · rw [if_neg hc] at hf
                                    refine W.widen (k := C0 + 8) (n := S0 + 48) (by omega) (by omega) ?_
                                    exact t_L_law_B23_L1273 hC h0 h9 hf hw (lv_sub hl [2, 3, 4, 5, 6] rfl) kI kE kR
                                  · rw [if_pos hc] at hf
                                    refine lv_aload_n hx hb dL_law_1261 rfl (lv_at hl 5 rfl) ?_
                                    refine lv_iconst (v := 0) hx hb dL_law_1262 (by decide) ?_
                                    obtain ⟨v178, hg, hf⟩ := ldL_inv hf
                                    refine r_ldL hC hw hg dL_law_1263 ?_
                                    refine lv_iload hx hb dL_law_1264 (lv_at hl 0 rfl) ?_
                                    refine lv_i2l hx hb dL_law_1266 rfl ?_
                                    refine W.lcmp hx hb dL_law_1267 ?_
                                    refine lv_if_eq (tgt := 1273) hx hb dL_law_1268 (by decide) (fun hc => ?_) (fun hc => ?_)
                                    · rw [if_pos hc] at hf
                                      refine W.widen (k := C0 + 8) (n := S0 + 48) (by omega) (by omega) ?_
                                      exact t_L_law_B23_L1273 hC h0 h9 hf hw (lv_sub hl [2, 3, 4, 5, 6] rfl) kI kE kR
                                    · rw [if_neg hc] at hf
                                      refine lv_iconst (v := 0) hx hb dL_law_1271 (by decide) ?_
                                      obtain ⟨hz, hf⟩ := chk_inv hf
                                      refine W.widen (k := C0 + 8) (n := S0 + 48) (by omega) (by omega) ?_
                                      exact kR 0 σ176 (Option.some.inj hf).symm hz _ _ _ 1272 hw dL_law_1272
                                · rw [if_neg hc] at hf
                                  refine lv_iconst (v := 0) hx hb dL_law_1254 (by decide) ?_
                                  obtain ⟨hz, hf⟩ := chk_inv hf
                                  refine W.widen (k := C0 + 8) (n := S0 + 48) (by omega) (by omega) ?_
                                  exact kR 0 σ176 (Option.some.inj hf).symm hz _ _ _ 1255 hw dL_law_1255
                              · rw [if_neg h40_13] at hf
                                by_cases h40_14 : (v2 &&& 31) = 14
                                · rw [if_pos h40_14] at hf
                                  refine lv_tableIn (tgt := 1276) hx hb dL_law_40 (by rw [h40_14]; decide) (by rw [h40_14]; decide) (by rw [h40_14]; rfl) (by decide) ?_
                                  refine lv_aload_n hx hb dL_law_1276 rfl (lv_at hl 1 rfl) ?_
                                  refine lv_aload_n hx hb dL_law_1277 rfl (lv_at hl 0 rfl) ?_
                                  refine lv_iload hx hb dL_law_1278 (lv_at hl 4 rfl) ?_
                                  refine lv_iconst (v := 1) hx hb dL_law_1280 (by decide) ?_
                                  refine lv_iadd hx hb dL_law_1281 ?_
                                  obtain ⟨v179, hg, hf⟩ := scI_inv hf
                                  refine r_sld hC hw h9 hg dL_law_1282 ?_
                                  refine lv_aload_n hx hb dL_law_1283 rfl (lv_at hl 0 rfl) ?_
                                  refine lv_iload hx hb dL_law_1284 (lv_at hl 4 rfl) ?_
                                  refine lv_iconst (v := 2) hx hb dL_law_1286 (by decide) ?_
                                  refine lv_iadd hx hb dL_law_1287 ?_
                                  obtain ⟨v180, hg, hf⟩ := scI_inv hf
                                  refine r_sld hC hw h9 hg dL_law_1288 ?_
                                  refine lv_aload_n hx hb dL_law_1289 rfl (lv_at hl 3 rfl) ?_
                                  obtain ⟨r182, σ181, hk, hf⟩ := bnd_inv hf
                                  refine z_callSW (As := [.ref x1, .int v179, .int v180, .ref x3]) (rest := []) (m_L_scale hC.2.2.2.2.2.2.2.2 hk) hC hw wd_L_scale lkM_L_154 rfl ⟨rfl, rfl⟩ ⟨(Nat.le_of_ble_eq_true rfl), (Nat.le_of_ble_eq_true rfl)⟩ hl.1 rfl (Nat.le_of_ble_eq_true rfl) dL_law_1290 ⟨(by show _ ≤ (601024 : Nat); omega), (by show _ ≤ (7293034 : Nat); omega)⟩ (fun H locs hw => ?_)
                                  refine lv_istore (lv' := [(5, .int r182), (0, .ref x0), (1, .ref x1), (2, .ref x2), (3, .ref x3), (4, .int x4)]) hx hb dL_law_1293 hl (Nat.le_of_ble_eq_true rfl) rfl (fun ls hl => ?_)
                                  refine lv_aload_n hx hb dL_law_1295 rfl (lv_at hl 3 rfl) ?_
                                  refine lv_aload_n hx hb dL_law_1296 rfl (lv_at hl 1 rfl) ?_
                                  refine lv_iload hx hb dL_law_1297 (lv_at hl 5 rfl) ?_
                                  refine lv_iconst (v := 1) hx hb dL_law_1299 (by decide) ?_
                                  refine lv_iadd hx hb dL_law_1300 ?_
                                  obtain ⟨v183, hg, hf⟩ := scI_inv hf
                                  refine r_sld hC hw h9 hg dL_law_1301 ?_
                                  refine lv_aload_n hx hb dL_law_1302 rfl (lv_at hl 1 rfl) ?_
                                  refine lv_iload hx hb dL_law_1303 (lv_at hl 5 rfl) ?_
                                  refine lv_iconst (v := 2) hx hb dL_law_1305 (by decide) ?_
                                  refine lv_iadd hx hb dL_law_1306 ?_
                                  obtain ⟨v184, hg, hf⟩ := scI_inv hf
                                  refine r_sld hC hw h9 hg dL_law_1307 ?_
                                  obtain ⟨ho, hf⟩ := chk_inv hf
                                  obtain ⟨r186, σ185, hk, hf⟩ := bnd_inv hf
                                  refine z_callV (As := [.int v183, .int v184]) (rest := []) (m_X7_scale hC.2.2.2.2.2.2.2.2 hk) hC hw wd_X7_scale lkM_L_156 (isO_sh ho) rfl rfl ⟨rfl, rfl⟩ ⟨(Nat.le_of_ble_eq_true rfl), (Nat.le_of_ble_eq_true rfl)⟩ hl.1 rfl (Nat.le_of_ble_eq_true rfl) dL_law_1308 ⟨(by show _ ≤ (601024 : Nat); omega), (by show _ ≤ (7293034 : Nat); omega)⟩ (fun H locs hw => ?_)
                                  refine lv_istore (lv' := [(6, .int r186), (5, .int r182), (0, .ref x0), (1, .ref x1), (2, .ref x2), (3, .ref x3), (4, .int x4)]) hx hb dL_law_1311 hl (Nat.le_of_ble_eq_true rfl) rfl (fun ls hl => ?_)
                                  refine lv_aload_n hx hb dL_law_1313 rfl (lv_at hl 4 rfl) ?_
                                  obtain ⟨ho, hf⟩ := chk_inv hf
                                  obtain ⟨r188, σ187, hk, hf⟩ := bnd_inv hf
                                  refine z_callV (As := []) (rest := []) (m_X7_thrown hC.2.2.2.2.2.2.2.2 hk) hC hw wd_X7_thrown lkM_L_106 (isO_sh ho) rfl rfl ⟨rfl, rfl⟩ ⟨(Nat.le_of_ble_eq_true rfl), (Nat.le_of_ble_eq_true rfl)⟩ hl.1 rfl (Nat.le_of_ble_eq_true rfl) dL_law_1314 ⟨(by show _ ≤ (601024 : Nat); omega), (by show _ ≤ (7293034 : Nat); omega)⟩ (fun H locs hw => ?_)
                                  refine lv_iload hx hb dL_law_1317 (lv_at hl 1 rfl) ?_
                                  refine lv_icmp_eq (tgt := 1324) hx hb dL_law_1319 (by decide) (fun hc => ?_) (fun hc => ?_)
                                  · rw [if_pos hc] at hf
                                    refine lv_iload hx hb dL_law_1324 (lv_at hl 1 rfl) ?_
                                    refine lv_if_ne (tgt := 1341) hx hb dL_law_1326 (by decide) (fun hc => ?_) (fun hc => ?_)
                                    · rw [if_neg hc] at hf
                                      refine W.widen (k := C0 + 8) (n := S0 + 48) (by omega) (by omega) ?_
                                      exact t_L_law_B23_L1341 hC h0 h9 hf hw (lv_sub hl [2, 3, 4, 5, 6] rfl) kI kE kR
                                    · rw [if_pos hc] at hf
                                      refine lv_aload_n hx hb dL_law_1329 rfl (lv_at hl 5 rfl) ?_
                                      refine lv_iconst (v := 0) hx hb dL_law_1330 (by decide) ?_
                                      obtain ⟨v189, hg, hf⟩ := ldL_inv hf
                                      refine r_ldL hC hw hg dL_law_1331 ?_
                                      refine lv_iload hx hb dL_law_1332 (lv_at hl 0 rfl) ?_
                                      refine lv_i2l hx hb dL_law_1334 rfl ?_
                                      refine W.lcmp hx hb dL_law_1335 ?_
                                      refine lv_if_eq (tgt := 1341) hx hb dL_law_1336 (by decide) (fun hc => ?_) (fun hc => ?_)
                                      · rw [if_pos hc] at hf
                                        refine W.widen (k := C0 + 8) (n := S0 + 48) (by omega) (by omega) ?_
                                        exact t_L_law_B23_L1341 hC h0 h9 hf hw (lv_sub hl [2, 3, 4, 5, 6] rfl) kI kE kR
                                      · rw [if_neg hc] at hf
                                        refine lv_iconst (v := 0) hx hb dL_law_1339 (by decide) ?_
                                        obtain ⟨hz, hf⟩ := chk_inv hf
                                        refine W.widen (k := C0 + 8) (n := S0 + 48) (by omega) (by omega) ?_
                                        exact kR 0 σ187 (Option.some.inj hf).symm hz _ _ _ 1340 hw dL_law_1340
                                  · rw [if_neg hc] at hf
                                    refine lv_iconst (v := 0) hx hb dL_law_1322 (by decide) ?_
                                    obtain ⟨hz, hf⟩ := chk_inv hf
                                    refine W.widen (k := C0 + 8) (n := S0 + 48) (by omega) (by omega) ?_
                                    exact kR 0 σ187 (Option.some.inj hf).symm hz _ _ _ 1323 hw dL_law_1323
                                · rw [if_neg h40_14] at hf
                                  by_cases h40_15 : (v2 &&& 31) = 15
                                  · rw [if_pos h40_15] at hf
                                    refine lv_tableIn (tgt := 1344) hx hb dL_law_40 (by rw [h40_15]; decide) (by rw [h40_15]; decide) (by rw [h40_15]; rfl) (by decide) ?_
                                    refine lv_aload_n hx hb dL_law_1344 rfl (lv_at hl 1 rfl) ?_
                                    refine lv_aload_n hx hb dL_law_1345 rfl (lv_at hl 0 rfl) ?_
                                    refine lv_iload hx hb dL_law_1346 (lv_at hl 4 rfl) ?_
                                    refine lv_iconst (v := 1) hx hb dL_law_1348 (by decide) ?_
                                    refine lv_iadd hx hb dL_law_1349 ?_
                                    obtain ⟨v190, hg, hf⟩ := scI_inv hf
                                    refine r_sld hC hw h9 hg dL_law_1350 ?_
                                    refine lv_aload_n hx hb dL_law_1351 rfl (lv_at hl 0 rfl) ?_
                                    refine lv_iload hx hb dL_law_1352 (lv_at hl 4 rfl) ?_
                                    refine lv_iconst (v := 2) hx hb dL_law_1354 (by decide) ?_
                                    refine lv_iadd hx hb dL_law_1355 ?_
                                    obtain ⟨v191, hg, hf⟩ := scI_inv hf
                                    refine r_sld hC hw h9 hg dL_law_1356 ?_
                                    refine lv_aload_n hx hb dL_law_1357 rfl (lv_at hl 3 rfl) ?_
                                    obtain ⟨r193, σ192, hk, hf⟩ := bnd_inv hf
                                    refine z_callSW (As := [.ref x1, .int v190, .int v191, .ref x3]) (rest := []) (m_L_dimension hC.2.2.2.2.2.2.2.2 hk) hC hw wd_L_dimension lkM_L_157 rfl ⟨rfl, rfl⟩ ⟨(Nat.le_of_ble_eq_true rfl), (Nat.le_of_ble_eq_true rfl)⟩ hl.1 rfl (Nat.le_of_ble_eq_true rfl) dL_law_1358 ⟨(by show _ ≤ (601024 : Nat); omega), (by show _ ≤ (7293034 : Nat); omega)⟩ (fun H locs hw => ?_)
                                    refine lv_istore (lv' := [(5, .int r193), (0, .ref x0), (1, .ref x1), (2, .ref x2), (3, .ref x3), (4, .int x4)]) hx hb dL_law_1361 hl (Nat.le_of_ble_eq_true rfl) rfl (fun ls hl => ?_)
                                    refine lv_aload_n hx hb dL_law_1363 rfl (lv_at hl 3 rfl) ?_
                                    refine lv_aload_n hx hb dL_law_1364 rfl (lv_at hl 1 rfl) ?_
                                    refine lv_iload hx hb dL_law_1365 (lv_at hl 5 rfl) ?_
                                    refine lv_iconst (v := 1) hx hb dL_law_1367 (by decide) ?_
                                    refine lv_iadd hx hb dL_law_1368 ?_
                                    obtain ⟨v194, hg, hf⟩ := scI_inv hf
                                    refine r_sld hC hw h9 hg dL_law_1369 ?_
                                    refine lv_aload_n hx hb dL_law_1370 rfl (lv_at hl 1 rfl) ?_
                                    refine lv_iload hx hb dL_law_1371 (lv_at hl 5 rfl) ?_
                                    refine lv_iconst (v := 2) hx hb dL_law_1373 (by decide) ?_
                                    refine lv_iadd hx hb dL_law_1374 ?_
                                    obtain ⟨v195, hg, hf⟩ := scI_inv hf
                                    refine r_sld hC hw h9 hg dL_law_1375 ?_
                                    obtain ⟨ho, hf⟩ := chk_inv hf
                                    obtain ⟨r197, σ196, hk, hf⟩ := bnd_inv hf
                                    refine z_callV (As := [.int v194, .int v195]) (rest := []) (m_X7_dimension hC.2.2.2.2.2.2.2.2 hk) hC hw wd_X7_dimension lkM_L_159 (isO_sh ho) rfl rfl ⟨rfl, rfl⟩ ⟨(Nat.le_of_ble_eq_true rfl), (Nat.le_of_ble_eq_true rfl)⟩ hl.1 rfl (Nat.le_of_ble_eq_true rfl) dL_law_1376 ⟨(by show _ ≤ (601024 : Nat); omega), (by show _ ≤ (7293034 : Nat); omega)⟩ (fun H locs hw => ?_)
                                    refine lv_istore (lv' := [(6, .int r197), (5, .int r193), (0, .ref x0), (1, .ref x1), (2, .ref x2), (3, .ref x3), (4, .int x4)]) hx hb dL_law_1379 hl (Nat.le_of_ble_eq_true rfl) rfl (fun ls hl => ?_)
                                    refine lv_aload_n hx hb dL_law_1381 rfl (lv_at hl 4 rfl) ?_
                                    obtain ⟨ho, hf⟩ := chk_inv hf
                                    obtain ⟨r199, σ198, hk, hf⟩ := bnd_inv hf
                                    refine z_callV (As := []) (rest := []) (m_X7_thrown hC.2.2.2.2.2.2.2.2 hk) hC hw wd_X7_thrown lkM_L_106 (isO_sh ho) rfl rfl ⟨rfl, rfl⟩ ⟨(Nat.le_of_ble_eq_true rfl), (Nat.le_of_ble_eq_true rfl)⟩ hl.1 rfl (Nat.le_of_ble_eq_true rfl) dL_law_1382 ⟨(by show _ ≤ (601024 : Nat); omega), (by show _ ≤ (7293034 : Nat); omega)⟩ (fun H locs hw => ?_)
                                    refine lv_iload hx hb dL_law_1385 (lv_at hl 1 rfl) ?_
                                    refine lv_icmp_eq (tgt := 1392) hx hb dL_law_1387 (by decide) (fun hc => ?_) (fun hc => ?_)
                                    · rw [if_pos hc] at hf
                                      refine lv_iload hx hb dL_law_1392 (lv_at hl 1 rfl) ?_
                                      refine lv_if_ne (tgt := 1409) hx hb dL_law_1394 (by decide) (fun hc => ?_) (fun hc => ?_)
                                      · rw [if_neg hc] at hf
                                        refine W.widen (k := C0 + 8) (n := S0 + 48) (by omega) (by omega) ?_
                                        exact t_L_law_B23_L1409 hC h0 h9 hf hw (lv_sub hl [2, 3, 4, 5, 6] rfl) kI kE kR
                                      · rw [if_pos hc] at hf
                                        refine lv_aload_n hx hb dL_law_1397 rfl (lv_at hl 5 rfl) ?_
                                        refine lv_iconst (v := 0) hx hb dL_law_1398 (by decide) ?_
                                        obtain ⟨v200, hg, hf⟩ := ldL_inv hf
                                        refine r_ldL hC hw hg dL_law_1399 ?_
                                        refine lv_iload hx hb dL_law_1400 (lv_at hl 0 rfl) ?_
                                        refine lv_i2l hx hb dL_law_1402 rfl ?_
                                        refine W.lcmp hx hb dL_law_1403 ?_
                                        refine lv_if_eq (tgt := 1409) hx hb dL_law_1404 (by decide) (fun hc => ?_) (fun hc => ?_)
                                        · rw [if_pos hc] at hf
                                          refine W.widen (k := C0 + 8) (n := S0 + 48) (by omega) (by omega) ?_
                                          exact t_L_law_B23_L1409 hC h0 h9 hf hw (lv_sub hl [2, 3, 4, 5, 6] rfl) kI kE kR
                                        · rw [if_neg hc] at hf
                                          refine lv_iconst (v := 0) hx hb dL_law_1407 (by decide) ?_
                                          obtain ⟨hz, hf⟩ := chk_inv hf
                                          refine W.widen (k := C0 + 8) (n := S0 + 48) (by omega) (by omega) ?_
                                          exact kR 0 σ198 (Option.some.inj hf).symm hz _ _ _ 1408 hw dL_law_1408
                                    · rw [if_neg hc] at hf
                                      refine lv_iconst (v := 0) hx hb dL_law_1390 (by decide) ?_
                                      obtain ⟨hz, hf⟩ := chk_inv hf
                                      refine W.widen (k := C0 + 8) (n := S0 + 48) (by omega) (by omega) ?_
                                      exact kR 0 σ198 (Option.some.inj hf).symm hz _ _ _ 1391 hw dL_law_1391
                                  · rw [if_neg h40_15] at hf
                                    by_cases h40_16 : (v2 &&& 31) = 16
                                    · rw [if_pos h40_16] at hf
                                      refine lv_tableIn (tgt := 1412) hx hb dL_law_40 (by rw [h40_16]; decide) (by rw [h40_16]; decide) (by rw [h40_16]; rfl) (by decide) ?_
                                      refine lv_aload_n hx hb dL_law_1412 rfl (lv_at hl 1 rfl) ?_
                                      refine lv_aload_n hx hb dL_law_1413 rfl (lv_at hl 0 rfl) ?_
                                      refine lv_iload hx hb dL_law_1414 (lv_at hl 4 rfl) ?_
                                      refine lv_iconst (v := 1) hx hb dL_law_1416 (by decide) ?_
                                      refine lv_iadd hx hb dL_law_1417 ?_
                                      obtain ⟨v201, hg, hf⟩ := scI_inv hf
                                      refine r_sld hC hw h9 hg dL_law_1418 ?_
                                      refine lv_aload_n hx hb dL_law_1419 rfl (lv_at hl 0 rfl) ?_
                                      refine lv_iload hx hb dL_law_1420 (lv_at hl 4 rfl) ?_
                                      refine lv_iconst (v := 2) hx hb dL_law_1422 (by decide) ?_
                                      refine lv_iadd hx hb dL_law_1423 ?_
                                      obtain ⟨v202, hg, hf⟩ := scI_inv hf
                                      refine r_sld hC hw h9 hg dL_law_1424 ?_
                                      refine lv_aload_n hx hb dL_law_1425 rfl (lv_at hl 3 rfl) ?_
                                      obtain ⟨r204, σ203, hk, hf⟩ := bnd_inv hf
                                      refine z_callSW (As := [.ref x1, .int v201, .int v202, .ref x3]) (rest := []) (m_L_basisWord hC.2.2.2.2.2.2.2.2 hk) hC hw wd_L_basisWord lkM_L_160 rfl ⟨rfl, rfl⟩ ⟨(Nat.le_of_ble_eq_true rfl), (Nat.le_of_ble_eq_true rfl)⟩ hl.1 rfl (Nat.le_of_ble_eq_true rfl) dL_law_1426 ⟨(by show _ ≤ (601024 : Nat); omega), (by show _ ≤ (7293034 : Nat); omega)⟩ (fun H locs hw => ?_)
                                      refine lv_istore (lv' := [(5, .int r204), (0, .ref x0), (1, .ref x1), (2, .ref x2), (3, .ref x3), (4, .int x4)]) hx hb dL_law_1429 hl (Nat.le_of_ble_eq_true rfl) rfl (fun ls hl => ?_)
                                      refine lv_aload_n hx hb dL_law_1431 rfl (lv_at hl 3 rfl) ?_
                                      refine lv_aload_n hx hb dL_law_1432 rfl (lv_at hl 1 rfl) ?_
                                      refine lv_iload hx hb dL_law_1433 (lv_at hl 5 rfl) ?_
                                      refine lv_iconst (v := 1) hx hb dL_law_1435 (by decide) ?_
                                      refine lv_iadd hx hb dL_law_1436 ?_
                                      obtain ⟨v205, hg, hf⟩ := scI_inv hf
                                      refine r_sld hC hw h9 hg dL_law_1437 ?_
                                      refine lv_aload_n hx hb dL_law_1438 rfl (lv_at hl 1 rfl) ?_
                                      refine lv_iload hx hb dL_law_1439 (lv_at hl 5 rfl) ?_
                                      refine lv_iconst (v := 2) hx hb dL_law_1441 (by decide) ?_
                                      refine lv_iadd hx hb dL_law_1442 ?_
                                      obtain ⟨v206, hg, hf⟩ := scI_inv hf
                                      refine r_sld hC hw h9 hg dL_law_1443 ?_
                                      obtain ⟨ho, hf⟩ := chk_inv hf
                                      obtain ⟨r208, σ207, hk, hf⟩ := bnd_inv hf
                                      refine z_callV (As := [.int v205, .int v206]) (rest := []) (m_X7_basisWord hC.2.2.2.2.2.2.2.2 hk) hC hw wd_X7_basisWord lkM_L_162 (isO_sh ho) rfl rfl ⟨rfl, rfl⟩ ⟨(Nat.le_of_ble_eq_true rfl), (Nat.le_of_ble_eq_true rfl)⟩ hl.1 rfl (Nat.le_of_ble_eq_true rfl) dL_law_1444 ⟨(by show _ ≤ (601024 : Nat); omega), (by show _ ≤ (7293034 : Nat); omega)⟩ (fun H locs hw => ?_)
                                      refine lv_istore (lv' := [(6, .int r208), (5, .int r204), (0, .ref x0), (1, .ref x1), (2, .ref x2), (3, .ref x3), (4, .int x4)]) hx hb dL_law_1447 hl (Nat.le_of_ble_eq_true rfl) rfl (fun ls hl => ?_)
                                      refine lv_aload_n hx hb dL_law_1449 rfl (lv_at hl 4 rfl) ?_
                                      obtain ⟨ho, hf⟩ := chk_inv hf
                                      obtain ⟨r210, σ209, hk, hf⟩ := bnd_inv hf
                                      refine z_callV (As := []) (rest := []) (m_X7_thrown hC.2.2.2.2.2.2.2.2 hk) hC hw wd_X7_thrown lkM_L_106 (isO_sh ho) rfl rfl ⟨rfl, rfl⟩ ⟨(Nat.le_of_ble_eq_true rfl), (Nat.le_of_ble_eq_true rfl)⟩ hl.1 rfl (Nat.le_of_ble_eq_true rfl) dL_law_1450 ⟨(by show _ ≤ (601024 : Nat); omega), (by show _ ≤ (7293034 : Nat); omega)⟩ (fun H locs hw => ?_)
                                      refine lv_iload hx hb dL_law_1453 (lv_at hl 1 rfl) ?_
                                      refine lv_icmp_eq (tgt := 1460) hx hb dL_law_1455 (by decide) (fun hc => ?_) (fun hc => ?_)
                                      · rw [if_pos hc] at hf
                                        refine lv_iload hx hb dL_law_1460 (lv_at hl 1 rfl) ?_
                                        refine lv_if_ne (tgt := 1477) hx hb dL_law_1462 (by decide) (fun hc => ?_) (fun hc => ?_)
                                        · rw [if_neg hc] at hf
                                          refine W.widen (k := C0 + 8) (n := S0 + 48) (by omega) (by omega) ?_
                                          exact t_L_law_B23_L1477 hC h0 h9 hf hw (lv_sub hl [2, 3, 4, 5, 6] rfl) kI kE kR
                                        · rw [if_pos hc] at hf
                                          refine lv_aload_n hx hb dL_law_1465 rfl (lv_at hl 5 rfl) ?_
                                          refine lv_iconst (v := 0) hx hb dL_law_1466 (by decide) ?_
                                          obtain ⟨v211, hg, hf⟩ := ldL_inv hf
                                          refine r_ldL hC hw hg dL_law_1467 ?_
                                          refine lv_iload hx hb dL_law_1468 (lv_at hl 0 rfl) ?_
                                          refine lv_i2l hx hb dL_law_1470 rfl ?_
                                          refine W.lcmp hx hb dL_law_1471 ?_
                                          refine lv_if_eq (tgt := 1477) hx hb dL_law_1472 (by decide) (fun hc => ?_) (fun hc => ?_)
                                          · rw [if_pos hc] at hf
                                            refine W.widen (k := C0 + 8) (n := S0 + 48) (by omega) (by omega) ?_
                                            exact t_L_law_B23_L1477 hC h0 h9 hf hw (lv_sub hl [2, 3, 4, 5, 6] rfl) kI kE kR
                                          · rw [if_neg hc] at hf
                                            refine lv_iconst (v := 0) hx hb dL_law_1475 (by decide) ?_
                                            obtain ⟨hz, hf⟩ := chk_inv hf
                                            refine W.widen (k := C0 + 8) (n := S0 + 48) (by omega) (by omega) ?_
                                            exact kR 0 σ209 (Option.some.inj hf).symm hz _ _ _ 1476 hw dL_law_1476
                                      · rw [if_neg hc] at hf
                                        refine lv_iconst (v := 0) hx hb dL_law_1458 (by decide) ?_
                                        obtain ⟨hz, hf⟩ := chk_inv hf
                                        refine W.widen (k := C0 + 8) (n := S0 + 48) (by omega) (by omega) ?_
                                        exact kR 0 σ209 (Option.some.inj hf).symm hz _ _ _ 1459 hw dL_law_1459
                                    · rw [if_neg h40_16] at hf
                                      by_cases h40_17 : (v2 &&& 31) = 17
                                      · rw [if_pos h40_17] at hf
                                        refine lv_tableIn (tgt := 1480) hx hb dL_law_40 (by rw [h40_17]; decide) (by rw [h40_17]; decide) (by rw [h40_17]; rfl) (by decide) ?_
                                        refine lv_aload_n hx hb dL_law_1480 rfl (lv_at hl 1 rfl) ?_
                                        refine lv_aload_n hx hb dL_law_1481 rfl (lv_at hl 0 rfl) ?_
                                        refine lv_iload hx hb dL_law_1482 (lv_at hl 4 rfl) ?_
                                        refine lv_iconst (v := 1) hx hb dL_law_1484 (by decide) ?_
                                        refine lv_iadd hx hb dL_law_1485 ?_
                                        obtain ⟨v212, hg, hf⟩ := scI_inv hf
                                        refine r_sld hC hw h9 hg dL_law_1486 ?_
                                        refine lv_aload_n hx hb dL_law_1487 rfl (lv_at hl 0 rfl) ?_
                                        refine lv_iload hx hb dL_law_1488 (lv_at hl 4 rfl) ?_
                                        refine lv_iconst (v := 2) hx hb dL_law_1490 (by decide) ?_
                                        refine lv_iadd hx hb dL_law_1491 ?_
                                        obtain ⟨v213, hg, hf⟩ := scI_inv hf
                                        refine r_sld hC hw h9 hg dL_law_1492 ?_
                                        refine lv_aload_n hx hb dL_law_1493 rfl (lv_at hl 3 rfl) ?_
                                        obtain ⟨r215, σ214, hk, hf⟩ := bnd_inv hf
                                        refine z_callSW (As := [.ref x1, .int v212, .int v213, .ref x3]) (rest := []) (m_L_differing hC.2.2.2.2.2.2.2.2 hk) hC hw wd_L_differing lkM_L_163 rfl ⟨rfl, rfl⟩ ⟨(Nat.le_of_ble_eq_true rfl), (Nat.le_of_ble_eq_true rfl)⟩ hl.1 rfl (Nat.le_of_ble_eq_true rfl) dL_law_1494 ⟨(by show _ ≤ (601024 : Nat); omega), (by show _ ≤ (7293034 : Nat); omega)⟩ (fun H locs hw => ?_)
                                        refine lv_istore (lv' := [(5, .int r215), (0, .ref x0), (1, .ref x1), (2, .ref x2), (3, .ref x3), (4, .int x4)]) hx hb dL_law_1497 hl (Nat.le_of_ble_eq_true rfl) rfl (fun ls hl => ?_)
                                        refine lv_aload_n hx hb dL_law_1499 rfl (lv_at hl 3 rfl) ?_
                                        refine lv_aload_n hx hb dL_law_1500 rfl (lv_at hl 1 rfl) ?_
                                        refine lv_iload hx hb dL_law_1501 (lv_at hl 5 rfl) ?_
                                        refine lv_iconst (v := 1) hx hb dL_law_1503 (by decide) ?_
                                        refine lv_iadd hx hb dL_law_1504 ?_
                                        obtain ⟨v216, hg, hf⟩ := scI_inv hf
                                        refine r_sld hC hw h9 hg dL_law_1505 ?_
                                        refine lv_aload_n hx hb dL_law_1506 rfl (lv_at hl 1 rfl) ?_
                                        refine lv_iload hx hb dL_law_1507 (lv_at hl 5 rfl) ?_
                                        refine lv_iconst (v := 2) hx hb dL_law_1509 (by decide) ?_
                                        refine lv_iadd hx hb dL_law_1510 ?_
                                        obtain ⟨v217, hg, hf⟩ := scI_inv hf
                                        refine r_sld hC hw h9 hg dL_law_1511 ?_
                                        obtain ⟨ho, hf⟩ := chk_inv hf
                                        obtain ⟨r219, σ218, hk, hf⟩ := bnd_inv hf
                                        refine z_callV (As := [.int v216, .int v217]) (rest := []) (m_X7_differing hC.2.2.2.2.2.2.2.2 hk) hC hw wd_X7_differing lkM_L_165 (isO_sh ho) rfl rfl ⟨rfl, rfl⟩ ⟨(Nat.le_of_ble_eq_true rfl), (Nat.le_of_ble_eq_true rfl)⟩ hl.1 rfl (Nat.le_of_ble_eq_true rfl) dL_law_1512 ⟨(by show _ ≤ (601024 : Nat); omega), (by show _ ≤ (7293034 : Nat); omega)⟩ (fun H locs hw => ?_)
                                        refine lv_istore (lv' := [(6, .int r219), (5, .int r215), (0, .ref x0), (1, .ref x1), (2, .ref x2), (3, .ref x3), (4, .int x4)]) hx hb dL_law_1515 hl (Nat.le_of_ble_eq_true rfl) rfl (fun ls hl => ?_)
                                        refine lv_aload_n hx hb dL_law_1517 rfl (lv_at hl 4 rfl) ?_
                                        obtain ⟨ho, hf⟩ := chk_inv hf
                                        obtain ⟨r221, σ220, hk, hf⟩ := bnd_inv hf
                                        refine z_callV (As := []) (rest := []) (m_X7_thrown hC.2.2.2.2.2.2.2.2 hk) hC hw wd_X7_thrown lkM_L_106 (isO_sh ho) rfl rfl ⟨rfl, rfl⟩ ⟨(Nat.le_of_ble_eq_true rfl), (Nat.le_of_ble_eq_true rfl)⟩ hl.1 rfl (Nat.le_of_ble_eq_true rfl) dL_law_1518 ⟨(by show _ ≤ (601024 : Nat); omega), (by show _ ≤ (7293034 : Nat); omega)⟩ (fun H locs hw => ?_)
                                        refine lv_iload hx hb dL_law_1521 (lv_at hl 1 rfl) ?_
                                        refine lv_icmp_eq (tgt := 1528) hx hb dL_law_1523 (by decide) (fun hc => ?_) (fun hc => ?_)
                                        · rw [if_pos hc] at hf
                                          refine lv_iload hx hb dL_law_1528 (lv_at hl 1 rfl) ?_
                                          refine lv_if_ne (tgt := 1545) hx hb dL_law_1530 (by decide) (fun hc => ?_) (fun hc => ?_)
                                          · rw [if_neg hc] at hf
                                            refine W.widen (k := C0 + 8) (n := S0 + 48) (by omega) (by omega) ?_
                                            exact t_L_law_B23_L1545 hC h0 h9 hf hw (lv_sub hl [2, 3, 4, 5, 6] rfl) kI kE kR
                                          · rw [if_pos hc] at hf
                                            refine lv_aload_n hx hb dL_law_1533 rfl (lv_at hl 5 rfl) ?_
                                            refine lv_iconst (v := 0) hx hb dL_law_1534 (by decide) ?_
                                            obtain ⟨v222, hg, hf⟩ := ldL_inv hf
                                            refine r_ldL hC hw hg dL_law_1535 ?_
                                            refine lv_iload hx hb dL_law_1536 (lv_at hl 0 rfl) ?_
                                            refine lv_i2l hx hb dL_law_1538 rfl ?_
                                            refine W.lcmp hx hb dL_law_1539 ?_
                                            refine lv_if_eq (tgt := 1545) hx hb dL_law_1540 (by decide) (fun hc => ?_) (fun hc => ?_)
                                            · rw [if_pos hc] at hf
                                              refine W.widen (k := C0 + 8) (n := S0 + 48) (by omega) (by omega) ?_
                                              exact t_L_law_B23_L1545 hC h0 h9 hf hw (lv_sub hl [2, 3, 4, 5, 6] rfl) kI kE kR
                                            · rw [if_neg hc] at hf
                                              refine lv_iconst (v := 0) hx hb dL_law_1543 (by decide) ?_
                                              obtain ⟨hz, hf⟩ := chk_inv hf
                                              refine W.widen (k := C0 + 8) (n := S0 + 48) (by omega) (by omega) ?_
                                              exact kR 0 σ220 (Option.some.inj hf).symm hz _ _ _ 1544 hw dL_law_1544
                                        · rw [if_neg hc] at hf
                                          refine lv_iconst (v := 0) hx hb dL_law_1526 (by decide) ?_
                                          obtain ⟨hz, hf⟩ := chk_inv hf
                                          refine W.widen (k := C0 + 8) (n := S0 + 48) (by omega) (by omega) ?_
                                          exact kR 0 σ220 (Option.some.inj hf).symm hz _ _ _ 1527 hw dL_law_1527
                                      · rw [if_neg h40_17] at hf
                                        by_cases h40_18 : (v2 &&& 31) = 18
                                        · rw [if_pos h40_18] at hf
                                          refine lv_tableIn (tgt := 1548) hx hb dL_law_40 (by rw [h40_18]; decide) (by rw [h40_18]; decide) (by rw [h40_18]; rfl) (by decide) ?_
                                          refine lv_aload_n hx hb dL_law_1548 rfl (lv_at hl 1 rfl) ?_
                                          refine lv_aload_n hx hb dL_law_1549 rfl (lv_at hl 0 rfl) ?_
                                          refine lv_iload hx hb dL_law_1550 (lv_at hl 4 rfl) ?_
                                          refine lv_iconst (v := 1) hx hb dL_law_1552 (by decide) ?_
                                          refine lv_iadd hx hb dL_law_1553 ?_
                                          obtain ⟨v223, hg, hf⟩ := scI_inv hf
                                          refine r_sld hC hw h9 hg dL_law_1554 ?_
                                          refine lv_aload_n hx hb dL_law_1555 rfl (lv_at hl 0 rfl) ?_
                                          refine lv_iload hx hb dL_law_1556 (lv_at hl 4 rfl) ?_
                                          refine lv_iconst (v := 2) hx hb dL_law_1558 (by decide) ?_
                                          refine lv_iadd hx hb dL_law_1559 ?_
                                          obtain ⟨v224, hg, hf⟩ := scI_inv hf
                                          refine r_sld hC hw h9 hg dL_law_1560 ?_
                                          refine lv_aload_n hx hb dL_law_1561 rfl (lv_at hl 3 rfl) ?_
                                          obtain ⟨r226, σ225, hk, hf⟩ := bnd_inv hf
                                          refine z_callSW (As := [.ref x1, .int v223, .int v224, .ref x3]) (rest := []) (m_L_hankelRank hC.2.2.2.2.2.2.2.2 hk) hC hw wd_L_hankelRank lkM_L_166 rfl ⟨rfl, rfl⟩ ⟨(Nat.le_of_ble_eq_true rfl), (Nat.le_of_ble_eq_true rfl)⟩ hl.1 rfl (Nat.le_of_ble_eq_true rfl) dL_law_1562 ⟨(by show _ ≤ (601024 : Nat); omega), (by show _ ≤ (7293034 : Nat); omega)⟩ (fun H locs hw => ?_)
                                          refine lv_istore (lv' := [(5, .int r226), (0, .ref x0), (1, .ref x1), (2, .ref x2), (3, .ref x3), (4, .int x4)]) hx hb dL_law_1565 hl (Nat.le_of_ble_eq_true rfl) rfl (fun ls hl => ?_)
                                          refine lv_aload_n hx hb dL_law_1567 rfl (lv_at hl 3 rfl) ?_
                                          refine lv_aload_n hx hb dL_law_1568 rfl (lv_at hl 1 rfl) ?_
                                          refine lv_iload hx hb dL_law_1569 (lv_at hl 5 rfl) ?_
                                          refine lv_iconst (v := 1) hx hb dL_law_1571 (by decide) ?_
                                          refine lv_iadd hx hb dL_law_1572 ?_
                                          obtain ⟨v227, hg, hf⟩ := scI_inv hf
                                          refine r_sld hC hw h9 hg dL_law_1573 ?_
                                          refine lv_aload_n hx hb dL_law_1574 rfl (lv_at hl 1 rfl) ?_
                                          refine lv_iload hx hb dL_law_1575 (lv_at hl 5 rfl) ?_
                                          refine lv_iconst (v := 2) hx hb dL_law_1577 (by decide) ?_
                                          refine lv_iadd hx hb dL_law_1578 ?_
                                          obtain ⟨v228, hg, hf⟩ := scI_inv hf
                                          refine r_sld hC hw h9 hg dL_law_1579 ?_
                                          obtain ⟨ho, hf⟩ := chk_inv hf
                                          obtain ⟨r230, σ229, hk, hf⟩ := bnd_inv hf
                                          refine z_callV (As := [.int v227, .int v228]) (rest := []) (m_X7_hankelRank hC.2.2.2.2.2.2.2.2 hk) hC hw wd_X7_hankelRank lkM_L_168 (isO_sh ho) rfl rfl ⟨rfl, rfl⟩ ⟨(Nat.le_of_ble_eq_true rfl), (Nat.le_of_ble_eq_true rfl)⟩ hl.1 rfl (Nat.le_of_ble_eq_true rfl) dL_law_1580 ⟨(by show _ ≤ (601024 : Nat); omega), (by show _ ≤ (7293034 : Nat); omega)⟩ (fun H locs hw => ?_)
                                          refine lv_istore (lv' := [(6, .int r230), (5, .int r226), (0, .ref x0), (1, .ref x1), (2, .ref x2), (3, .ref x3), (4, .int x4)]) hx hb dL_law_1583 hl (Nat.le_of_ble_eq_true rfl) rfl (fun ls hl => ?_)
                                          refine lv_aload_n hx hb dL_law_1585 rfl (lv_at hl 4 rfl) ?_
                                          obtain ⟨ho, hf⟩ := chk_inv hf
                                          obtain ⟨r232, σ231, hk, hf⟩ := bnd_inv hf
                                          refine z_callV (As := []) (rest := []) (m_X7_thrown hC.2.2.2.2.2.2.2.2 hk) hC hw wd_X7_thrown lkM_L_106 (isO_sh ho) rfl rfl ⟨rfl, rfl⟩ ⟨(Nat.le_of_ble_eq_true rfl), (Nat.le_of_ble_eq_true rfl)⟩ hl.1 rfl (Nat.le_of_ble_eq_true rfl) dL_law_1586 ⟨(by show _ ≤ (601024 : Nat); omega), (by show _ ≤ (7293034 : Nat); omega)⟩ (fun H locs hw => ?_)
                                          refine lv_iload hx hb dL_law_1589 (lv_at hl 1 rfl) ?_
                                          refine lv_icmp_eq (tgt := 1596) hx hb dL_law_1591 (by decide) (fun hc => ?_) (fun hc => ?_)
                                          · rw [if_pos hc] at hf
                                            refine lv_iload hx hb dL_law_1596 (lv_at hl 1 rfl) ?_
                                            refine lv_if_ne (tgt := 1613) hx hb dL_law_1598 (by decide) (fun hc => ?_) (fun hc => ?_)
                                            · rw [if_neg hc] at hf
                                              refine W.widen (k := C0 + 8) (n := S0 + 48) (by omega) (by omega) ?_
                                              exact t_L_law_B23_L1613 hC h0 h9 hf hw (lv_sub hl [2, 3, 4, 5, 6] rfl) kI kE kR
                                            · rw [if_pos hc] at hf
                                              refine lv_aload_n hx hb dL_law_1601 rfl (lv_at hl 5 rfl) ?_
                                              refine lv_iconst (v := 0) hx hb dL_law_1602 (by decide) ?_
                                              obtain ⟨v233, hg, hf⟩ := ldL_inv hf
                                              refine r_ldL hC hw hg dL_law_1603 ?_
                                              refine lv_iload hx hb dL_law_1604 (lv_at hl 0 rfl) ?_
                                              refine lv_i2l hx hb dL_law_1606 rfl ?_
                                              refine W.lcmp hx hb dL_law_1607 ?_
                                              refine lv_if_eq (tgt := 1613) hx hb dL_law_1608 (by decide) (fun hc => ?_) (fun hc => ?_)
                                              · rw [if_pos hc] at hf
                                                refine W.widen (k := C0 + 8) (n := S0 + 48) (by omega) (by omega) ?_
                                                exact t_L_law_B23_L1613 hC h0 h9 hf hw (lv_sub hl [2, 3, 4, 5, 6] rfl) kI kE kR
                                              · rw [if_neg hc] at hf
                                                refine lv_iconst (v := 0) hx hb dL_law_1611 (by decide) ?_
                                                obtain ⟨hz, hf⟩ := chk_inv hf
                                                refine W.widen (k := C0 + 8) (n := S0 + 48) (by omega) (by omega) ?_
                                                exact kR 0 σ231 (Option.some.inj hf).symm hz _ _ _ 1612 hw dL_law_1612
                                          · rw [if_neg hc] at hf
                                            refine lv_iconst (v := 0) hx hb dL_law_1594 (by decide) ?_
                                            obtain ⟨hz, hf⟩ := chk_inv hf
                                            refine W.widen (k := C0 + 8) (n := S0 + 48) (by omega) (by omega) ?_
                                            exact kR 0 σ231 (Option.some.inj hf).symm hz _ _ _ 1595 hw dL_law_1595
                                        · rw [if_neg h40_18] at hf
                                          by_cases h40_19 : (v2 &&& 31) = 19
                                          · rw [if_pos h40_19] at hf
                                            refine lv_tableIn (tgt := 1616) hx hb dL_law_40 (by rw [h40_19]; decide) (by rw [h40_19]; decide) (by rw [h40_19]; rfl) (by decide) ?_
                                            refine lv_aload_n hx hb dL_law_1616 rfl (lv_at hl 1 rfl) ?_
                                            refine lv_aload_n hx hb dL_law_1617 rfl (lv_at hl 0 rfl) ?_
                                            refine lv_iload hx hb dL_law_1618 (lv_at hl 4 rfl) ?_
                                            refine lv_iconst (v := 1) hx hb dL_law_1620 (by decide) ?_
                                            refine lv_iadd hx hb dL_law_1621 ?_
                                            obtain ⟨v234, hg, hf⟩ := scI_inv hf
                                            refine r_sld hC hw h9 hg dL_law_1622 ?_
                                            refine lv_aload_n hx hb dL_law_1623 rfl (lv_at hl 0 rfl) ?_
                                            refine lv_iload hx hb dL_law_1624 (lv_at hl 4 rfl) ?_
                                            refine lv_iconst (v := 2) hx hb dL_law_1626 (by decide) ?_
                                            refine lv_iadd hx hb dL_law_1627 ?_
                                            obtain ⟨v235, hg, hf⟩ := scI_inv hf
                                            refine r_sld hC hw h9 hg dL_law_1628 ?_
                                            refine lv_aload_n hx hb dL_law_1629 rfl (lv_at hl 3 rfl) ?_
                                            obtain ⟨r237, σ236, hk, hf⟩ := bnd_inv hf
                                            refine z_callSW (As := [.ref x1, .int v234, .int v235, .ref x3]) (rest := []) (m_L_recurs hC.2.2.2.2.2.2.2.2 hk) hC hw wd_L_recurs lkM_L_169 rfl ⟨rfl, rfl⟩ ⟨(Nat.le_of_ble_eq_true rfl), (Nat.le_of_ble_eq_true rfl)⟩ hl.1 rfl (Nat.le_of_ble_eq_true rfl) dL_law_1630 ⟨(by show _ ≤ (601024 : Nat); omega), (by show _ ≤ (7293034 : Nat); omega)⟩ (fun H locs hw => ?_)
                                            refine lv_istore (lv' := [(5, .int r237), (0, .ref x0), (1, .ref x1), (2, .ref x2), (3, .ref x3), (4, .int x4)]) hx hb dL_law_1633 hl (Nat.le_of_ble_eq_true rfl) rfl (fun ls hl => ?_)
                                            refine lv_aload_n hx hb dL_law_1635 rfl (lv_at hl 3 rfl) ?_
                                            refine lv_aload_n hx hb dL_law_1636 rfl (lv_at hl 1 rfl) ?_
                                            refine lv_iload hx hb dL_law_1637 (lv_at hl 5 rfl) ?_
                                            refine lv_iconst (v := 1) hx hb dL_law_1639 (by decide) ?_
                                            refine lv_iadd hx hb dL_law_1640 ?_
                                            obtain ⟨v238, hg, hf⟩ := scI_inv hf
                                            refine r_sld hC hw h9 hg dL_law_1641 ?_
                                            refine lv_aload_n hx hb dL_law_1642 rfl (lv_at hl 1 rfl) ?_
                                            refine lv_iload hx hb dL_law_1643 (lv_at hl 5 rfl) ?_
                                            refine lv_iconst (v := 2) hx hb dL_law_1645 (by decide) ?_
                                            refine lv_iadd hx hb dL_law_1646 ?_
                                            obtain ⟨v239, hg, hf⟩ := scI_inv hf
                                            refine r_sld hC hw h9 hg dL_law_1647 ?_
                                            obtain ⟨ho, hf⟩ := chk_inv hf
                                            obtain ⟨r241, σ240, hk, hf⟩ := bnd_inv hf
                                            refine z_callV (As := [.int v238, .int v239]) (rest := []) (m_X7_recurs hC.2.2.2.2.2.2.2.2 hk) hC hw wd_X7_recurs lkM_L_171 (isO_sh ho) rfl rfl ⟨rfl, rfl⟩ ⟨(Nat.le_of_ble_eq_true rfl), (Nat.le_of_ble_eq_true rfl)⟩ hl.1 rfl (Nat.le_of_ble_eq_true rfl) dL_law_1648 ⟨(by show _ ≤ (601024 : Nat); omega), (by show _ ≤ (7293034 : Nat); omega)⟩ (fun H locs hw => ?_)
                                            refine lv_istore (lv' := [(6, .int r241), (5, .int r237), (0, .ref x0), (1, .ref x1), (2, .ref x2), (3, .ref x3), (4, .int x4)]) hx hb dL_law_1651 hl (Nat.le_of_ble_eq_true rfl) rfl (fun ls hl => ?_)
                                            refine lv_aload_n hx hb dL_law_1653 rfl (lv_at hl 4 rfl) ?_
                                            obtain ⟨ho, hf⟩ := chk_inv hf
                                            obtain ⟨r243, σ242, hk, hf⟩ := bnd_inv hf
                                            refine z_callV (As := []) (rest := []) (m_X7_thrown hC.2.2.2.2.2.2.2.2 hk) hC hw wd_X7_thrown lkM_L_106 (isO_sh ho) rfl rfl ⟨rfl, rfl⟩ ⟨(Nat.le_of_ble_eq_true rfl), (Nat.le_of_ble_eq_true rfl)⟩ hl.1 rfl (Nat.le_of_ble_eq_true rfl) dL_law_1654 ⟨(by show _ ≤ (601024 : Nat); omega), (by show _ ≤ (7293034 : Nat); omega)⟩ (fun H locs hw => ?_)
                                            refine lv_iload hx hb dL_law_1657 (lv_at hl 1 rfl) ?_
                                            refine lv_icmp_eq (tgt := 1664) hx hb dL_law_1659 (by decide) (fun hc => ?_) (fun hc => ?_)
                                            · rw [if_pos hc] at hf
                                              refine lv_iload hx hb dL_law_1664 (lv_at hl 1 rfl) ?_
                                              refine lv_if_ne (tgt := 1688) hx hb dL_law_1666 (by decide) (fun hc => ?_) (fun hc => ?_)
                                              · rw [if_neg hc] at hf
                                                refine W.widen (k := C0 + 8) (n := S0 + 48) (by omega) (by omega) ?_
                                                exact t_L_law_B23_L1688 hC h0 h9 hf hw (lv_sub hl [2, 3, 4, 5, 6] rfl) kI kE kR
                                              · rw [if_pos hc] at hf
                                                refine lv_aload_n hx hb dL_law_1669 rfl (lv_at hl 5 rfl) ?_
                                                refine lv_iconst (v := 0) hx hb dL_law_1670 (by decide) ?_
                                                obtain ⟨v244, hg, hf⟩ := ldL_inv hf
                                                refine r_ldL hC hw hg dL_law_1671 ?_
                                                refine lv_iload hx hb dL_law_1672 (lv_at hl 0 rfl) ?_
                                                refine lv_if_eq (tgt := 1681) hx hb dL_law_1674 (by decide) (fun hc => ?_) (fun hc => ?_)
                                                · rw [if_pos hc] at hf
                                                  refine lv_lconst (v := 0) hx hb dL_law_1681 (by decide) ?_
                                                  refine W.widen (k := C0 + 8) (n := S0 + 48) (by omega) (by omega) ?_
                                                  exact t_L_law_B23_L1682 hC h0 h9 hf hw (lv_sub hl [2, 3, 4, 5, 6] rfl) kI kE kR
                                                · rw [if_neg hc] at hf
                                                  refine lv_lconst (v := 1) hx hb dL_law_1677 (by decide) ?_
                                                  refine lv_goto (tgt := 1682) hx hb dL_law_1678 (by decide) ?_
                                                  refine W.widen (k := C0 + 8) (n := S0 + 48) (by omega) (by omega) ?_
                                                  exact t_L_law_B23_L1682 hC h0 h9 hf hw (lv_sub hl [2, 3, 4, 5, 6] rfl) kI kE kR
                                            · rw [if_neg hc] at hf
                                              refine lv_iconst (v := 0) hx hb dL_law_1662 (by decide) ?_
                                              obtain ⟨hz, hf⟩ := chk_inv hf
                                              refine W.widen (k := C0 + 8) (n := S0 + 48) (by omega) (by omega) ?_
                                              exact kR 0 σ242 (Option.some.inj hf).symm hz _ _ _ 1663 hw dL_law_1663
                                          · rw [if_neg h40_19] at hf
                                            by_cases h40_20 : (v2 &&& 31) = 20
                                            · rw [if_pos h40_20] at hf
                                              refine lv_tableIn (tgt := 1691) hx hb dL_law_40 (by rw [h40_20]; decide) (by rw [h40_20]; decide) (by rw [h40_20]; rfl) (by decide) ?_
                                              refine lv_aload_n hx hb dL_law_1691 rfl (lv_at hl 1 rfl) ?_
                                              refine lv_aload_n hx hb dL_law_1692 rfl (lv_at hl 0 rfl) ?_
                                              refine lv_iload hx hb dL_law_1693 (lv_at hl 4 rfl) ?_
                                              refine lv_iconst (v := 1) hx hb dL_law_1695 (by decide) ?_
                                              refine lv_iadd hx hb dL_law_1696 ?_
                                              obtain ⟨v245, hg, hf⟩ := scI_inv hf
                                              refine r_sld hC hw h9 hg dL_law_1697 ?_
                                              refine lv_aload_n hx hb dL_law_1698 rfl (lv_at hl 3 rfl) ?_
                                              obtain ⟨r247, σ246, hk, hf⟩ := bnd_inv hf
                                              refine z_callSW (As := [.ref x1, .int v245, .ref x3]) (rest := []) (m_L_inverse hC.2.2.2.2.2.2.2.2 hk) hC hw wd_L_inverse lkM_L_172 rfl ⟨rfl, rfl⟩ ⟨(Nat.le_of_ble_eq_true rfl), (Nat.le_of_ble_eq_true rfl)⟩ hl.1 rfl (Nat.le_of_ble_eq_true rfl) dL_law_1699 ⟨(by show _ ≤ (601024 : Nat); omega), (by show _ ≤ (7293034 : Nat); omega)⟩ (fun H locs hw => ?_)
                                              refine lv_istore (lv' := [(5, .int r247), (0, .ref x0), (1, .ref x1), (2, .ref x2), (3, .ref x3), (4, .int x4)]) hx hb dL_law_1702 hl (Nat.le_of_ble_eq_true rfl) rfl (fun ls hl => ?_)
                                              refine lv_aload_n hx hb dL_law_1704 rfl (lv_at hl 3 rfl) ?_
                                              refine lv_aload_n hx hb dL_law_1705 rfl (lv_at hl 1 rfl) ?_
                                              refine lv_iload hx hb dL_law_1706 (lv_at hl 5 rfl) ?_
                                              refine lv_iconst (v := 1) hx hb dL_law_1708 (by decide) ?_
                                              refine lv_iadd hx hb dL_law_1709 ?_
                                              obtain ⟨v248, hg, hf⟩ := scI_inv hf
                                              refine r_sld hC hw h9 hg dL_law_1710 ?_
                                              obtain ⟨ho, hf⟩ := chk_inv hf
                                              obtain ⟨r250, σ249, hk, hf⟩ := bnd_inv hf
                                              refine z_callV (As := [.int v248]) (rest := []) (m_X7_inverse hC.2.2.2.2.2.2.2.2 hk) hC hw wd_X7_inverse lkM_L_174 (isO_sh ho) rfl rfl ⟨rfl, rfl⟩ ⟨(Nat.le_of_ble_eq_true rfl), (Nat.le_of_ble_eq_true rfl)⟩ hl.1 rfl (Nat.le_of_ble_eq_true rfl) dL_law_1711 ⟨(by show _ ≤ (601024 : Nat); omega), (by show _ ≤ (7293034 : Nat); omega)⟩ (fun H locs hw => ?_)
                                              refine lv_istore (lv' := [(6, .int r250), (5, .int r247), (0, .ref x0), (1, .ref x1), (2, .ref x2), (3, .ref x3), (4, .int x4)]) hx hb dL_law_1714 hl (Nat.le_of_ble_eq_true rfl) rfl (fun ls hl => ?_)
                                              refine lv_aload_n hx hb dL_law_1716 rfl (lv_at hl 4 rfl) ?_
                                              obtain ⟨ho, hf⟩ := chk_inv hf
                                              obtain ⟨r252, σ251, hk, hf⟩ := bnd_inv hf
                                              refine z_callV (As := []) (rest := []) (m_X7_thrown hC.2.2.2.2.2.2.2.2 hk) hC hw wd_X7_thrown lkM_L_106 (isO_sh ho) rfl rfl ⟨rfl, rfl⟩ ⟨(Nat.le_of_ble_eq_true rfl), (Nat.le_of_ble_eq_true rfl)⟩ hl.1 rfl (Nat.le_of_ble_eq_true rfl) dL_law_1717 ⟨(by show _ ≤ (601024 : Nat); omega), (by show _ ≤ (7293034 : Nat); omega)⟩ (fun H locs hw => ?_)
                                              refine lv_iload hx hb dL_law_1720 (lv_at hl 1 rfl) ?_
                                              refine lv_icmp_eq (tgt := 1727) hx hb dL_law_1722 (by decide) (fun hc => ?_) (fun hc => ?_)
                                              · rw [if_pos hc] at hf
                                                refine lv_iload hx hb dL_law_1727 (lv_at hl 1 rfl) ?_
                                                refine lv_if_ne (tgt := 1744) hx hb dL_law_1729 (by decide) (fun hc => ?_) (fun hc => ?_)
                                                · rw [if_neg hc] at hf
                                                  refine W.widen (k := C0 + 8) (n := S0 + 48) (by omega) (by omega) ?_
                                                  exact t_L_law_B23_L1744 hC h0 h9 hf hw (lv_sub hl [2, 3, 4, 5, 6] rfl) kI kE kR
                                                · rw [if_pos hc] at hf
                                                  refine lv_aload_n hx hb dL_law_1732 rfl (lv_at hl 5 rfl) ?_
                                                  refine lv_iconst (v := 0) hx hb dL_law_1733 (by decide) ?_
                                                  obtain ⟨v253, hg, hf⟩ := ldL_inv hf
                                                  refine r_ldL hC hw hg dL_law_1734 ?_
                                                  refine lv_iload hx hb dL_law_1735 (lv_at hl 0 rfl) ?_
                                                  refine lv_i2l hx hb dL_law_1737 rfl ?_
                                                  refine W.lcmp hx hb dL_law_1738 ?_
                                                  refine lv_if_eq (tgt := 1744) hx hb dL_law_1739 (by decide) (fun hc => ?_) (fun hc => ?_)
                                                  · rw [if_pos hc] at hf
                                                    refine W.widen (k := C0 + 8) (n := S0 + 48) (by omega) (by omega) ?_
                                                    exact t_L_law_B23_L1744 hC h0 h9 hf hw (lv_sub hl [2, 3, 4, 5, 6] rfl) kI kE kR
                                                  · rw [if_neg hc] at hf
                                                    refine lv_iconst (v := 0) hx hb dL_law_1742 (by decide) ?_
                                                    obtain ⟨hz, hf⟩ := chk_inv hf
                                                    refine W.widen (k := C0 + 8) (n := S0 + 48) (by omega) (by omega) ?_
                                                    exact kR 0 σ251 (Option.some.inj hf).symm hz _ _ _ 1743 hw dL_law_1743
                                              · rw [if_neg hc] at hf
                                                refine lv_iconst (v := 0) hx hb dL_law_1725 (by decide) ?_
                                                obtain ⟨hz, hf⟩ := chk_inv hf
                                                refine W.widen (k := C0 + 8) (n := S0 + 48) (by omega) (by omega) ?_
                                                exact kR 0 σ251 (Option.some.inj hf).symm hz _ _ _ 1726 hw dL_law_1726
                                            · rw [if_neg h40_20] at hf
                                              by_cases h40_21 : (v2 &&& 31) = 21
                                              · rw [if_pos h40_21] at hf
                                                refine lv_tableIn (tgt := 1747) hx hb dL_law_40 (by rw [h40_21]; decide) (by rw [h40_21]; decide) (by rw [h40_21]; rfl) (by decide) ?_
                                                refine lv_aload_n hx hb dL_law_1747 rfl (lv_at hl 1 rfl) ?_
                                                refine lv_aload_n hx hb dL_law_1748 rfl (lv_at hl 0 rfl) ?_
                                                refine lv_iload hx hb dL_law_1749 (lv_at hl 4 rfl) ?_
                                                refine lv_iconst (v := 1) hx hb dL_law_1751 (by decide) ?_
                                                refine lv_iadd hx hb dL_law_1752 ?_
                                                obtain ⟨v254, hg, hf⟩ := scI_inv hf
                                                refine r_sld hC hw h9 hg dL_law_1753 ?_
                                                refine lv_aload_n hx hb dL_law_1754 rfl (lv_at hl 3 rfl) ?_
                                                obtain ⟨r256, σ255, hk, hf⟩ := bnd_inv hf
                                                refine z_callSW (As := [.ref x1, .int v254, .ref x3]) (rest := []) (m_L_append hC.2.2.2.2.2.2.2.2 hk) hC hw wd_L_append lkM_L_175 rfl ⟨rfl, rfl⟩ ⟨(Nat.le_of_ble_eq_true rfl), (Nat.le_of_ble_eq_true rfl)⟩ hl.1 rfl (Nat.le_of_ble_eq_true rfl) dL_law_1755 ⟨(by show _ ≤ (601024 : Nat); omega), (by show _ ≤ (7293034 : Nat); omega)⟩ (fun H locs hw => ?_)
                                                refine lv_istore (lv' := [(5, .int r256), (0, .ref x0), (1, .ref x1), (2, .ref x2), (3, .ref x3), (4, .int x4)]) hx hb dL_law_1758 hl (Nat.le_of_ble_eq_true rfl) rfl (fun ls hl => ?_)
                                                refine lv_aload_n hx hb dL_law_1760 rfl (lv_at hl 3 rfl) ?_
                                                refine lv_aload_n hx hb dL_law_1761 rfl (lv_at hl 1 rfl) ?_
                                                refine lv_iload hx hb dL_law_1762 (lv_at hl 5 rfl) ?_
                                                refine lv_iconst (v := 1) hx hb dL_law_1764 (by decide) ?_
                                                refine lv_iadd hx hb dL_law_1765 ?_
                                                obtain ⟨v257, hg, hf⟩ := scI_inv hf
                                                refine r_sld hC hw h9 hg dL_law_1766 ?_
                                                obtain ⟨ho, hf⟩ := chk_inv hf
                                                obtain ⟨r259, σ258, hk, hf⟩ := bnd_inv hf
                                                refine z_callV (As := [.int v257]) (rest := []) (m_X7_append hC.2.2.2.2.2.2.2.2 hk) hC hw wd_X7_append lkM_L_177 (isO_sh ho) rfl rfl ⟨rfl, rfl⟩ ⟨(Nat.le_of_ble_eq_true rfl), (Nat.le_of_ble_eq_true rfl)⟩ hl.1 rfl (Nat.le_of_ble_eq_true rfl) dL_law_1767 ⟨(by show _ ≤ (601024 : Nat); omega), (by show _ ≤ (7293034 : Nat); omega)⟩ (fun H locs hw => ?_)
                                                refine lv_istore (lv' := [(6, .int r259), (5, .int r256), (0, .ref x0), (1, .ref x1), (2, .ref x2), (3, .ref x3), (4, .int x4)]) hx hb dL_law_1770 hl (Nat.le_of_ble_eq_true rfl) rfl (fun ls hl => ?_)
                                                refine lv_aload_n hx hb dL_law_1772 rfl (lv_at hl 4 rfl) ?_
                                                obtain ⟨ho, hf⟩ := chk_inv hf
                                                obtain ⟨r261, σ260, hk, hf⟩ := bnd_inv hf
                                                refine z_callV (As := []) (rest := []) (m_X7_thrown hC.2.2.2.2.2.2.2.2 hk) hC hw wd_X7_thrown lkM_L_106 (isO_sh ho) rfl rfl ⟨rfl, rfl⟩ ⟨(Nat.le_of_ble_eq_true rfl), (Nat.le_of_ble_eq_true rfl)⟩ hl.1 rfl (Nat.le_of_ble_eq_true rfl) dL_law_1773 ⟨(by show _ ≤ (601024 : Nat); omega), (by show _ ≤ (7293034 : Nat); omega)⟩ (fun H locs hw => ?_)
                                                refine lv_iload hx hb dL_law_1776 (lv_at hl 1 rfl) ?_
                                                refine lv_icmp_eq (tgt := 1783) hx hb dL_law_1778 (by decide) (fun hc => ?_) (fun hc => ?_)
                                                · rw [if_pos hc] at hf
                                                  refine lv_iload hx hb dL_law_1783 (lv_at hl 1 rfl) ?_
                                                  refine lv_if_ne (tgt := 1800) hx hb dL_law_1785 (by decide) (fun hc => ?_) (fun hc => ?_)
                                                  · rw [if_neg hc] at hf
                                                    refine W.widen (k := C0 + 8) (n := S0 + 48) (by omega) (by omega) ?_
                                                    exact t_L_law_B23_L1800 hC h0 h9 hf hw (lv_sub hl [2, 3, 4, 5, 6] rfl) kI kE kR
                                                  · rw [if_pos hc] at hf
                                                    refine lv_aload_n hx hb dL_law_1788 rfl (lv_at hl 5 rfl) ?_
                                                    refine lv_iconst (v := 0) hx hb dL_law_1789 (by decide) ?_
                                                    obtain ⟨v262, hg, hf⟩ := ldL_inv hf
                                                    refine r_ldL hC hw hg dL_law_1790 ?_
                                                    refine lv_iload hx hb dL_law_1791 (lv_at hl 0 rfl) ?_
                                                    refine lv_i2l hx hb dL_law_1793 rfl ?_
                                                    refine W.lcmp hx hb dL_law_1794 ?_
                                                    refine lv_if_eq (tgt := 1800) hx hb dL_law_1795 (by decide) (fun hc => ?_) (fun hc => ?_)
                                                    · rw [if_pos hc] at hf
                                                      refine W.widen (k := C0 + 8) (n := S0 + 48) (by omega) (by omega) ?_
                                                      exact t_L_law_B23_L1800 hC h0 h9 hf hw (lv_sub hl [2, 3, 4, 5, 6] rfl) kI kE kR
                                                    · rw [if_neg hc] at hf
                                                      refine lv_iconst (v := 0) hx hb dL_law_1798 (by decide) ?_
                                                      obtain ⟨hz, hf⟩ := chk_inv hf
                                                      refine W.widen (k := C0 + 8) (n := S0 + 48) (by omega) (by omega) ?_
                                                      exact kR 0 σ260 (Option.some.inj hf).symm hz _ _ _ 1799 hw dL_law_1799
                                                · rw [if_neg hc] at hf
                                                  refine lv_iconst (v := 0) hx hb dL_law_1781 (by decide) ?_
                                                  obtain ⟨hz, hf⟩ := chk_inv hf
                                                  refine W.widen (k := C0 + 8) (n := S0 + 48) (by omega) (by omega) ?_
                                                  exact kR 0 σ260 (Option.some.inj hf).symm hz _ _ _ 1782 hw dL_law_1782
                                              · rw [if_neg h40_21] at hf
                                                by_cases h40_22 : (v2 &&& 31) = 22
                                                · rw [if_pos h40_22] at hf
                                                  refine lv_tableIn (tgt := 1803) hx hb dL_law_40 (by rw [h40_22]; decide) (by rw [h40_22]; decide) (by rw [h40_22]; rfl) (by decide) ?_
                                                  refine lv_aload_n hx hb dL_law_1803 rfl (lv_at hl 1 rfl) ?_
                                                  obtain ⟨ho, hf⟩ := chk_inv hf
                                                  obtain ⟨r264, σ263, hk, hf⟩ := bnd_inv hf
                                                  refine z_callV (As := []) (rest := []) (m_X6_clearText hC.2.2.2.2.2.2.2.2 hk) hC hw wd_X6_clearText lkM_L_178 (isO_sh ho) rfl rfl ⟨rfl, rfl⟩ ⟨(Nat.le_of_ble_eq_true rfl), (Nat.le_of_ble_eq_true rfl)⟩ hl.1 rfl (Nat.le_of_ble_eq_true rfl) dL_law_1804 ⟨(by show _ ≤ (601024 : Nat); omega), (by show _ ≤ (7293034 : Nat); omega)⟩ (fun H locs hw => ?_)
                                                  refine lv_aload_n hx hb dL_law_1807 rfl (lv_at hl 2 rfl) ?_
                                                  obtain ⟨ho, hf⟩ := chk_inv hf
                                                  obtain ⟨r266, σ265, hk, hf⟩ := bnd_inv hf
                                                  refine z_callV (As := []) (rest := [.int r264]) (m_X7_clearText hC.2.2.2.2.2.2.2.2 hk) hC hw wd_X7_clearText lkM_L_181 (isO_sh ho) rfl rfl ⟨rfl, rfl⟩ ⟨(Nat.le_of_ble_eq_true rfl), (Nat.le_of_ble_eq_true rfl)⟩ hl.1 rfl (Nat.le_of_ble_eq_true rfl) dL_law_1808 ⟨(by show _ ≤ (601024 : Nat); omega), (by show _ ≤ (7293034 : Nat); omega)⟩ (fun H locs hw => ?_)
                                                  refine lv_icmp_eq (tgt := 1930) hx hb dL_law_1811 (by decide) (fun hc => ?_) (fun hc => ?_)
                                                  · rw [if_pos hc] at hf
                                                    refine W.widen (k := C0 + 8) (n := S0 + 48) (by omega) (by omega) ?_
                                                    exact t_L_law_B23_L1930 hC h0 h9 hf hw (lv_sub hl [0, 1, 2, 3, 4] rfl) kI kE kR
                                                  · rw [if_neg hc] at hf
                                                    refine lv_iconst (v := 0) hx hb dL_law_1814 (by decide) ?_
                                                    obtain ⟨hz, hf⟩ := chk_inv hf
                                                    refine W.widen (k := C0 + 8) (n := S0 + 48) (by omega) (by omega) ?_
                                                    exact kR 0 σ265 (Option.some.inj hf).symm hz _ _ _ 1815 hw dL_law_1815
                                                · rw [if_neg h40_22] at hf
                                                  by_cases h40_23 : (v2 &&& 31) = 23
                                                  · rw [if_pos h40_23] at hf
                                                    refine lv_tableIn (tgt := 1816) hx hb dL_law_40 (by rw [h40_23]; decide) (by rw [h40_23]; decide) (by rw [h40_23]; rfl) (by decide) ?_
                                                    refine lv_aload_n hx hb dL_law_1816 rfl (lv_at hl 1 rfl) ?_
                                                    refine lv_aload_n hx hb dL_law_1817 rfl (lv_at hl 0 rfl) ?_
                                                    refine lv_iload hx hb dL_law_1818 (lv_at hl 4 rfl) ?_
                                                    refine lv_iconst (v := 1) hx hb dL_law_1820 (by decide) ?_
                                                    refine lv_iadd hx hb dL_law_1821 ?_
                                                    obtain ⟨v267, hg, hf⟩ := scI_inv hf
                                                    refine r_sld hC hw h9 hg dL_law_1822 ?_
                                                    refine lv_aload_n hx hb dL_law_1823 rfl (lv_at hl 3 rfl) ?_
                                                    obtain ⟨r269, σ268, hk, hf⟩ := bnd_inv hf
                                                    refine z_callSW (As := [.ref x1, .int v267, .ref x3]) (rest := []) (m_L_parse hC.2.2.2.2.2.2.2.2 hk) hC hw wd_L_parse lkM_L_182 rfl ⟨rfl, rfl⟩ ⟨(Nat.le_of_ble_eq_true rfl), (Nat.le_of_ble_eq_true rfl)⟩ hl.1 rfl (Nat.le_of_ble_eq_true rfl) dL_law_1824 ⟨(by show _ ≤ (601024 : Nat); omega), (by show _ ≤ (7293034 : Nat); omega)⟩ (fun H locs hw => ?_)
                                                    refine lv_istore (lv' := [(5, .int r269), (0, .ref x0), (1, .ref x1), (2, .ref x2), (3, .ref x3), (4, .int x4)]) hx hb dL_law_1827 hl (Nat.le_of_ble_eq_true rfl) rfl (fun ls hl => ?_)
                                                    refine lv_aload_n hx hb dL_law_1829 rfl (lv_at hl 3 rfl) ?_
                                                    refine lv_aload_n hx hb dL_law_1830 rfl (lv_at hl 1 rfl) ?_
                                                    refine lv_iload hx hb dL_law_1831 (lv_at hl 5 rfl) ?_
                                                    refine lv_iconst (v := 1) hx hb dL_law_1833 (by decide) ?_
                                                    refine lv_iadd hx hb dL_law_1834 ?_
                                                    obtain ⟨v270, hg, hf⟩ := scI_inv hf
                                                    refine r_sld hC hw h9 hg dL_law_1835 ?_
                                                    obtain ⟨ho, hf⟩ := chk_inv hf
                                                    obtain ⟨r272, σ271, hk, hf⟩ := bnd_inv hf
                                                    refine z_callV (As := [.int v270]) (rest := []) (m_X7_parse hC.2.2.2.2.2.2.2.2 hk) hC hw wd_X7_parse lkM_L_184 (isO_sh ho) rfl rfl ⟨rfl, rfl⟩ ⟨(Nat.le_of_ble_eq_true rfl), (Nat.le_of_ble_eq_true rfl)⟩ hl.1 rfl (Nat.le_of_ble_eq_true rfl) dL_law_1836 ⟨(by show _ ≤ (601024 : Nat); omega), (by show _ ≤ (7293034 : Nat); omega)⟩ (fun H locs hw => ?_)
                                                    refine lv_istore (lv' := [(6, .int r272), (5, .int r269), (0, .ref x0), (1, .ref x1), (2, .ref x2), (3, .ref x3), (4, .int x4)]) hx hb dL_law_1839 hl (Nat.le_of_ble_eq_true rfl) rfl (fun ls hl => ?_)
                                                    refine lv_aload_n hx hb dL_law_1841 rfl (lv_at hl 4 rfl) ?_
                                                    obtain ⟨ho, hf⟩ := chk_inv hf
                                                    obtain ⟨r274, σ273, hk, hf⟩ := bnd_inv hf
                                                    refine z_callV (As := []) (rest := []) (m_X7_thrown hC.2.2.2.2.2.2.2.2 hk) hC hw wd_X7_thrown lkM_L_106 (isO_sh ho) rfl rfl ⟨rfl, rfl⟩ ⟨(Nat.le_of_ble_eq_true rfl), (Nat.le_of_ble_eq_true rfl)⟩ hl.1 rfl (Nat.le_of_ble_eq_true rfl) dL_law_1842 ⟨(by show _ ≤ (601024 : Nat); omega), (by show _ ≤ (7293034 : Nat); omega)⟩ (fun H locs hw => ?_)
                                                    refine lv_iload hx hb dL_law_1845 (lv_at hl 1 rfl) ?_
                                                    refine lv_icmp_eq (tgt := 1852) hx hb dL_law_1847 (by decide) (fun hc => ?_) (fun hc => ?_)
                                                    · rw [if_pos hc] at hf
                                                      refine lv_iload hx hb dL_law_1852 (lv_at hl 1 rfl) ?_
                                                      refine lv_if_ne (tgt := 1869) hx hb dL_law_1854 (by decide) (fun hc => ?_) (fun hc => ?_)
                                                      · rw [if_neg hc] at hf
                                                        refine W.widen (k := C0 + 8) (n := S0 + 48) (by omega) (by omega) ?_
                                                        exact t_L_law_B23_L1869 hC h0 h9 hf hw (lv_sub hl [2, 3, 4, 5, 6] rfl) kI kE kR
                                                      · rw [if_pos hc] at hf
                                                        refine lv_aload_n hx hb dL_law_1857 rfl (lv_at hl 5 rfl) ?_
                                                        refine lv_iconst (v := 0) hx hb dL_law_1858 (by decide) ?_
                                                        obtain ⟨v275, hg, hf⟩ := ldL_inv hf
                                                        refine r_ldL hC hw hg dL_law_1859 ?_
                                                        refine lv_iload hx hb dL_law_1860 (lv_at hl 0 rfl) ?_
                                                        refine lv_i2l hx hb dL_law_1862 rfl ?_
                                                        refine W.lcmp hx hb dL_law_1863 ?_
                                                        refine lv_if_eq (tgt := 1869) hx hb dL_law_1864 (by decide) (fun hc => ?_) (fun hc => ?_)
                                                        · rw [if_pos hc] at hf
                                                          refine W.widen (k := C0 + 8) (n := S0 + 48) (by omega) (by omega) ?_
                                                          exact t_L_law_B23_L1869 hC h0 h9 hf hw (lv_sub hl [2, 3, 4, 5, 6] rfl) kI kE kR
                                                        · rw [if_neg hc] at hf
                                                          refine lv_iconst (v := 0) hx hb dL_law_1867 (by decide) ?_
                                                          obtain ⟨hz, hf⟩ := chk_inv hf
                                                          refine W.widen (k := C0 + 8) (n := S0 + 48) (by omega) (by omega) ?_
                                                          exact kR 0 σ273 (Option.some.inj hf).symm hz _ _ _ 1868 hw dL_law_1868
                                                    · rw [if_neg hc] at hf
                                                      refine lv_iconst (v := 0) hx hb dL_law_1850 (by decide) ?_
                                                      obtain ⟨hz, hf⟩ := chk_inv hf
                                                      refine W.widen (k := C0 + 8) (n := S0 + 48) (by omega) (by omega) ?_
                                                      exact kR 0 σ273 (Option.some.inj hf).symm hz _ _ _ 1851 hw dL_law_1851
                                                  · rw [if_neg h40_23] at hf
                                                    by_cases h40_24 : (v2 &&& 31) = 24
                                                    · rw [if_pos h40_24] at hf
                                                      refine lv_tableIn (tgt := 1872) hx hb dL_law_40 (by rw [h40_24]; decide) (by rw [h40_24]; decide) (by rw [h40_24]; rfl) (by decide) ?_
                                                      refine lv_aload_n hx hb dL_law_1872 rfl (lv_at hl 1 rfl) ?_
                                                      refine lv_aload_n hx hb dL_law_1873 rfl (lv_at hl 3 rfl) ?_
                                                      obtain ⟨r277, σ276, hk, hf⟩ := bnd_inv hf
                                                      refine z_callSW (As := [.ref x1, .ref x3]) (rest := []) (m_L_undo hC.2.2.2.2.2.2.2.2 hk) hC hw wd_L_undo lkM_L_185 rfl ⟨rfl, rfl⟩ ⟨(Nat.le_of_ble_eq_true rfl), (Nat.le_of_ble_eq_true rfl)⟩ hl.1 rfl (Nat.le_of_ble_eq_true rfl) dL_law_1874 ⟨(by show _ ≤ (601024 : Nat); omega), (by show _ ≤ (7293034 : Nat); omega)⟩ (fun H locs hw => ?_)
                                                      refine lv_istore (lv' := [(5, .int r277), (0, .ref x0), (1, .ref x1), (2, .ref x2), (3, .ref x3), (4, .int x4)]) hx hb dL_law_1877 hl (Nat.le_of_ble_eq_true rfl) rfl (fun ls hl => ?_)
                                                      refine lv_aload_n hx hb dL_law_1879 rfl (lv_at hl 3 rfl) ?_
                                                      obtain ⟨ho, hf⟩ := chk_inv hf
                                                      obtain ⟨r279, σ278, hk, hf⟩ := bnd_inv hf
                                                      refine z_callV (As := []) (rest := []) (m_X7_undo hC.2.2.2.2.2.2.2.2 hk) hC hw wd_X7_undo lkM_L_188 (isO_sh ho) rfl rfl ⟨rfl, rfl⟩ ⟨(Nat.le_of_ble_eq_true rfl), (Nat.le_of_ble_eq_true rfl)⟩ hl.1 rfl (Nat.le_of_ble_eq_true rfl) dL_law_1880 ⟨(by show _ ≤ (601024 : Nat); omega), (by show _ ≤ (7293034 : Nat); omega)⟩ (fun H locs hw => ?_)
                                                      refine lv_istore (lv' := [(6, .int r279), (5, .int r277), (0, .ref x0), (1, .ref x1), (2, .ref x2), (3, .ref x3), (4, .int x4)]) hx hb dL_law_1883 hl (Nat.le_of_ble_eq_true rfl) rfl (fun ls hl => ?_)
                                                      refine lv_aload_n hx hb dL_law_1885 rfl (lv_at hl 4 rfl) ?_
                                                      obtain ⟨ho, hf⟩ := chk_inv hf
                                                      obtain ⟨r281, σ280, hk, hf⟩ := bnd_inv hf
                                                      refine z_callV (As := []) (rest := []) (m_X7_thrown hC.2.2.2.2.2.2.2.2 hk) hC hw wd_X7_thrown lkM_L_106 (isO_sh ho) rfl rfl ⟨rfl, rfl⟩ ⟨(Nat.le_of_ble_eq_true rfl), (Nat.le_of_ble_eq_true rfl)⟩ hl.1 rfl (Nat.le_of_ble_eq_true rfl) dL_law_1886 ⟨(by show _ ≤ (601024 : Nat); omega), (by show _ ≤ (7293034 : Nat); omega)⟩ (fun H locs hw => ?_)
                                                      refine lv_iload hx hb dL_law_1889 (lv_at hl 1 rfl) ?_
                                                      refine lv_icmp_eq (tgt := 1896) hx hb dL_law_1891 (by decide) (fun hc => ?_) (fun hc => ?_)
                                                      · rw [if_pos hc] at hf
                                                        refine lv_iload hx hb dL_law_1896 (lv_at hl 1 rfl) ?_
                                                        refine lv_if_ne (tgt := 1913) hx hb dL_law_1898 (by decide) (fun hc => ?_) (fun hc => ?_)
                                                        · rw [if_neg hc] at hf
                                                          refine W.widen (k := C0 + 8) (n := S0 + 48) (by omega) (by omega) ?_
                                                          exact t_L_law_B23_L1913 hC h0 h9 hf hw (lv_sub hl [2, 3, 4, 5, 6] rfl) kI kE kR
                                                        · rw [if_pos hc] at hf
                                                          refine lv_aload_n hx hb dL_law_1901 rfl (lv_at hl 5 rfl) ?_
                                                          refine lv_iconst (v := 0) hx hb dL_law_1902 (by decide) ?_
                                                          obtain ⟨v282, hg, hf⟩ := ldL_inv hf
                                                          refine r_ldL hC hw hg dL_law_1903 ?_
                                                          refine lv_iload hx hb dL_law_1904 (lv_at hl 0 rfl) ?_
                                                          refine lv_i2l hx hb dL_law_1906 rfl ?_
                                                          refine W.lcmp hx hb dL_law_1907 ?_
                                                          refine lv_if_eq (tgt := 1913) hx hb dL_law_1908 (by decide) (fun hc => ?_) (fun hc => ?_)
                                                          · rw [if_pos hc] at hf
                                                            refine W.widen (k := C0 + 8) (n := S0 + 48) (by omega) (by omega) ?_
                                                            exact t_L_law_B23_L1913 hC h0 h9 hf hw (lv_sub hl [2, 3, 4, 5, 6] rfl) kI kE kR
                                                          · rw [if_neg hc] at hf
                                                            refine lv_iconst (v := 0) hx hb dL_law_1911 (by decide) ?_
                                                            obtain ⟨hz, hf⟩ := chk_inv hf
                                                            refine W.widen (k := C0 + 8) (n := S0 + 48) (by omega) (by omega) ?_
                                                            exact kR 0 σ280 (Option.some.inj hf).symm hz _ _ _ 1912 hw dL_law_1912
                                                      · rw [if_neg hc] at hf
                                                        refine lv_iconst (v := 0) hx hb dL_law_1894 (by decide) ?_
                                                        obtain ⟨hz, hf⟩ := chk_inv hf
                                                        refine W.widen (k := C0 + 8) (n := S0 + 48) (by omega) (by omega) ?_
                                                        exact kR 0 σ280 (Option.some.inj hf).symm hz _ _ _ 1895 hw dL_law_1895
                                                    · rw [if_neg h40_24] at hf
                                                      by_cases h40_25 : (v2 &&& 31) = 25
                                                      · rw [if_pos h40_25] at hf
                                                        refine lv_tableIn (tgt := 1916) hx hb dL_law_40 (by rw [h40_25]; decide) (by rw [h40_25]; decide) (by rw [h40_25]; rfl) (by decide) ?_
                                                        refine lv_aload_n hx hb dL_law_1916 rfl (lv_at hl 1 rfl) ?_
                                                        obtain ⟨ho, hf⟩ := chk_inv hf
                                                        obtain ⟨r284, σ283, hk, hf⟩ := bnd_inv hf
                                                        refine z_callV (As := []) (rest := []) (m_X6_digest hC.2.2.2.2.2.2.2.2 hk) hC hw wd_X6_digest lkM_L_189 (isO_sh ho) rfl rfl ⟨rfl, rfl⟩ ⟨(Nat.le_of_ble_eq_true rfl), (Nat.le_of_ble_eq_true rfl)⟩ hl.1 rfl (Nat.le_of_ble_eq_true rfl) dL_law_1917 ⟨(by show _ ≤ (601024 : Nat); omega), (by show _ ≤ (7293034 : Nat); omega)⟩ (fun H locs hw => ?_)
                                                        refine lv_aload_n hx hb dL_law_1920 rfl (lv_at hl 2 rfl) ?_
                                                        obtain ⟨ho, hf⟩ := chk_inv hf
                                                        obtain ⟨r286, σ285, hk, hf⟩ := bnd_inv hf
                                                        refine z_callV (As := []) (rest := [.long r284]) (m_X7_digest hC.2.2.2.2.2.2.2.2 hk) hC hw wd_X7_digest lkM_L_193 (isO_sh ho) rfl rfl ⟨rfl, rfl⟩ ⟨(Nat.le_of_ble_eq_true rfl), (Nat.le_of_ble_eq_true rfl)⟩ hl.1 rfl (Nat.le_of_ble_eq_true rfl) dL_law_1921 ⟨(by show _ ≤ (601024 : Nat); omega), (by show _ ≤ (7293034 : Nat); omega)⟩ (fun H locs hw => ?_)
                                                        refine W.lcmp hx hb dL_law_1924 ?_
                                                        refine lv_if_eq (tgt := 1930) hx hb dL_law_1925 (by decide) (fun hc => ?_) (fun hc => ?_)
                                                        · rw [if_pos hc] at hf
                                                          refine W.widen (k := C0 + 8) (n := S0 + 48) (by omega) (by omega) ?_
                                                          exact t_L_law_B23_L1930 hC h0 h9 hf hw (lv_sub hl [0, 1, 2, 3, 4] rfl) kI kE kR
                                                        · rw [if_neg hc] at hf
                                                          refine lv_iconst (v := 0) hx hb dL_law_1928 (by decide) ?_
                                                          obtain ⟨hz, hf⟩ := chk_inv hf
                                                          refine W.widen (k := C0 + 8) (n := S0 + 48) (by omega) (by omega) ?_
                                                          exact kR 0 σ285 (Option.some.inj hf).symm hz _ _ _ 1929 hw dL_law_1929
                                                      · rw [if_neg h40_25] at hf
                                                        refine lv_tableOut (tgt := 1930) hx hb dL_law_40 (by have := tsw0_25 h40_0 h40_1 h40_2 h40_3 h40_4 h40_5 h40_6 h40_7 h40_8 h40_9 h40_10 h40_11 h40_12 h40_13 h40_14 h40_15 h40_16 h40_17 h40_18 h40_19 h40_20 h40_21 h40_22 h40_23 h40_24 h40_25; omega) (by decide) ?_
                                                        refine W.widen (k := C0 + 8) (n := S0 + 48) (by omega) (by omega) ?_
                                                        exact t_L_law_B23_L1930 hC h0 h9 hf hw (lv_sub hl [0, 1, 2, 3, 4] rfl) kI kE kR
end
