section
variable {p : Program} {l : Launch} {e : Env} {s : State} {m : MethodId} {args : Array Value} {below : List Frame} {meth : Method} {c : Code} {Q : State → Prop} {D : va_G} {cA : Nat → ClassId} {B0 : Nat} {Z : Nat → Prop}
set_option maxHeartbeats 4000000 in
set_option maxRecDepth 100000 in
theorem t_L_law_L183 (hC : zC p l s m args meth c cL_law 6 RL D cA B0) {b9 L : Nat} {xs : Nat → Int32} (hX9 : va_X b9 L xs s s.heap ∧ b9 < s.heap.size ∧ ¬ FR B0 b9) {Γ : zSh} {s0 : Int32} {σ : zSt} {out : (Int32 × zSt)} (hf : f_L_law_L183 xs L b9 Γ s0 σ = some out) {H : Heap} {locs : List Loc} {ls : Array Slot} (hw : zO D cA B0 Γ σ (ZB B0) s.heap H locs) (hl : lv_has ls 6 [])
    (kR : ∀ (v : Int32) (σ2 : zSt), out = (v, σ2) → ∀ (H : Heap) (locs : List Loc) (ls : Array Slot), zO D cA B0 Γ σ2 (ZB B0) s.heap H locs → W p l e room_1 s m args below meth c H locs 600086 7301442 Q (F0 m 185 ls [.int v])) :
    W p l e room_1 s m args below meth c H locs 1621 119422 Q (F0 m 183 ls [.int s0]) := by
  have hx := hC.1
  have hb := hC.2.1
  unfold f_L_law_L183 at hf
  refine lv_istore_n (lv' := [(3, .int s0)]) hx hb dL_law_183 rfl hl (Nat.le_of_ble_eq_true rfl) rfl (fun ls hl => ?_)
  refine lv_iload_n hx hb dL_law_184 rfl (lv_at hl 0 rfl) ?_
  obtain ⟨hz, hf⟩ := chk_inv hf
  obtain ⟨rfl, rfl⟩ := sp_inv hf
  refine W.widen (k := 600086) (n := 7301442) (Nat.le_of_ble_eq_true rfl) (Nat.le_of_ble_eq_true rfl) ?_
  exact kR _ _ rfl _ _ _ hw
set_option maxHeartbeats 4000000 in
set_option maxRecDepth 100000 in
theorem t_L_law_L182 (hC : zC p l s m args meth c cL_law 6 RL D cA B0) {b9 L : Nat} {xs : Nat → Int32} (hX9 : va_X b9 L xs s s.heap ∧ b9 < s.heap.size ∧ ¬ FR B0 b9) {Γ : zSh}  {σ : zSt} {out : (Int32 × zSt)} (hf : f_L_law_L182 xs L b9 Γ  σ = some out) {H : Heap} {locs : List Loc} {ls : Array Slot} (hw : zO D cA B0 Γ σ (ZB B0) s.heap H locs) (hl : lv_has ls 6 [])
    (kR : ∀ (v : Int32) (σ2 : zSt), out = (v, σ2) → ∀ (H : Heap) (locs : List Loc) (ls : Array Slot), zO D cA B0 Γ σ2 (ZB B0) s.heap H locs → W p l e room_1 s m args below meth c H locs 600086 7301442 Q (F0 m 185 ls [.int v])) :
    W p l e room_1 s m args below meth c H locs 1621 119422 Q (F0 m 182 ls []) := by
  have hx := hC.1
  have hb := hC.2.1
  unfold f_L_law_L182 at hf
  refine lv_iconst (v := 0) hx hb dL_law_182 (by decide) ?_
  exact t_L_law_L183 hC hX9 hf hw (lv_sub hl [] rfl) kR
set_option maxHeartbeats 4000000 in
set_option maxRecDepth 100000 in
theorem t_L_law_L119 (hC : zC p l s m args meth c cL_law 6 RL D cA B0) {b9 L : Nat} {xs : Nat → Int32} (hX9 : va_X b9 L xs s s.heap ∧ b9 < s.heap.size ∧ ¬ FR B0 b9) {Γ : zSh} {x0 : Nat} {x1 : Nat} {s0 : Int32} {σ : zSt} {out : (Int32 × zSt)} (hf : f_L_law_L119 xs L b9 Γ x0 x1 s0 σ = some out) {H : Heap} {locs : List Loc} {ls : Array Slot} (hw : zO D cA B0 Γ σ (ZB B0) s.heap H locs) (hl : lv_has ls 6 [(0, .ref x0), (1, .ref x1)])
    (kR : ∀ (v : Int32) (σ2 : zSt), out = (v, σ2) → ∀ (H : Heap) (locs : List Loc) (ls : Array Slot), zO D cA B0 Γ σ2 (ZB B0) s.heap H locs → W p l e room_1 s m args below meth c H locs 600086 7301442 Q (F0 m 185 ls [.int v])) :
    W p l e room_1 s m args below meth c H locs 1618 119404 Q (F0 m 119 ls [.int s0]) := by
  have hx := hC.1
  have hb := hC.2.1
  unfold f_L_law_L119 at hf
  refine lv_istore_n (lv' := [(3, .int s0), (0, .ref x0), (1, .ref x1)]) hx hb dL_law_119 rfl hl (Nat.le_of_ble_eq_true rfl) rfl (fun ls hl => ?_)
  refine lv_aload_n hx hb dL_law_120 rfl (lv_at hl 2 rfl) ?_
  obtain ⟨ho, hf⟩ := chk_inv hf
  obtain ⟨r4, σ3, hk, hf⟩ := bnd_inv hf
  refine z_callV (As := []) (rest := []) (m_X6_digest hC.2.2.2.2.2.2.2.2 hk) hC hw wd_X6_digest lkM_L_101 (isO_sh ho) rfl rfl ⟨rfl, rfl⟩ ⟨(Nat.le_of_ble_eq_true rfl), (Nat.le_of_ble_eq_true rfl)⟩ hl.1 rfl (Nat.le_of_ble_eq_true rfl) dL_law_121 ⟨(Nat.le_of_ble_eq_true rfl), (Nat.le_of_ble_eq_true rfl)⟩ (fun H locs hw => ?_)
  refine lv_lstore (lv' := [(4, .long r4), (3, .int s0), (0, .ref x0), (1, .ref x1)]) hx hb dL_law_124 hl (Nat.le_of_ble_eq_true rfl) rfl (fun ls hl => ?_)
  refine lv_iload_n hx hb dL_law_126 rfl (lv_at hl 1 rfl) ?_
  refine lv_if_eq (tgt := 182) hx hb dL_law_127 (by decide) (fun hc => ?_) (fun hc => ?_)
  · rw [if_pos hc] at hf
    refine W.widen (k := 1621) (n := 119422) (Nat.le_of_ble_eq_true rfl) (Nat.le_of_ble_eq_true rfl) ?_
    exact t_L_law_L182 hC hX9 hf hw (lv_sub hl [] rfl) kR
  · rw [if_neg hc] at hf
    refine lv_aload_n hx hb dL_law_130 rfl (lv_at hl 3 rfl) ?_
    refine lv_aload_n hx hb dL_law_131 rfl (lv_at hl 2 rfl) ?_
    refine lv_bipush (v := 8) hx hb dL_law_132 (by decide) ?_
    obtain ⟨r6, σ5, hk, hf⟩ := bnd_inv hf
    refine z_callSS (As := [.ref x0, .int 8]) (rest := [.ref x1]) (m_L_cell hC.2.2.2.2.2.2.2.2 hk) hC hw hX9 wd_L_cell lkM_L_9 rfl ⟨rfl, rfl⟩ ⟨(Nat.le_of_ble_eq_true rfl), (Nat.le_of_ble_eq_true rfl)⟩ hl.1 rfl (Nat.le_of_ble_eq_true rfl) dL_law_134 ⟨(Nat.le_of_ble_eq_true rfl), (Nat.le_of_ble_eq_true rfl)⟩ (fun H locs hw => ?_)
    refine lv_iconst (v := 4) hx hb dL_law_137 (by decide) ?_
    obtain ⟨r8, σ7, hk, hf⟩ := bnd_inv hf
    refine z_callS (As := [.int r6, .int 4]) (rest := [.ref x1]) (m_L_up hC.2.2.2.2.2.2.2.2 hk) hC hw wd_L_up lkM_L_15 rfl ⟨rfl, rfl⟩ ⟨(Nat.le_of_ble_eq_true rfl), (Nat.le_of_ble_eq_true rfl)⟩ hl.1 rfl (Nat.le_of_ble_eq_true rfl) dL_law_138 ⟨(Nat.le_of_ble_eq_true rfl), (Nat.le_of_ble_eq_true rfl)⟩ (fun H locs hw => ?_)
    refine lv_aload_n hx hb dL_law_141 rfl (lv_at hl 2 rfl) ?_
    refine lv_bipush (v := 9) hx hb dL_law_142 (by decide) ?_
    obtain ⟨r10, σ9, hk, hf⟩ := bnd_inv hf
    refine z_callSS (As := [.ref x0, .int 9]) (rest := [.int r8, .ref x1]) (m_L_cell hC.2.2.2.2.2.2.2.2 hk) hC hw hX9 wd_L_cell lkM_L_9 rfl ⟨rfl, rfl⟩ ⟨(Nat.le_of_ble_eq_true rfl), (Nat.le_of_ble_eq_true rfl)⟩ hl.1 rfl (Nat.le_of_ble_eq_true rfl) dL_law_144 ⟨(Nat.le_of_ble_eq_true rfl), (Nat.le_of_ble_eq_true rfl)⟩ (fun H locs hw => ?_)
    refine lv_bipush (v := 13) hx hb dL_law_147 (by decide) ?_
    obtain ⟨r12, σ11, hk, hf⟩ := bnd_inv hf
    refine z_callS (As := [.int r10, .int 13]) (rest := [.int r8, .ref x1]) (m_L_up hC.2.2.2.2.2.2.2.2 hk) hC hw wd_L_up lkM_L_15 rfl ⟨rfl, rfl⟩ ⟨(Nat.le_of_ble_eq_true rfl), (Nat.le_of_ble_eq_true rfl)⟩ hl.1 rfl (Nat.le_of_ble_eq_true rfl) dL_law_149 ⟨(Nat.le_of_ble_eq_true rfl), (Nat.le_of_ble_eq_true rfl)⟩ (fun H locs hw => ?_)
    obtain ⟨ho, hf⟩ := chk_inv hf
    obtain ⟨r14, σ13, hk, hf⟩ := xonly_inv hf
    refine z_ocallV (As := [.int r8, .int r12]) (rest := []) (m_X6_begin hC.2.2.2.2.2.2.2.2 hk) hC hw wd_X6_begin lkM_L_105 (isO_sh ho) rfl rfl ⟨rfl, rfl⟩ ⟨(Nat.le_of_ble_eq_true rfl), (Nat.le_of_ble_eq_true rfl)⟩ hl.1 rfl (Nat.le_of_ble_eq_true rfl) dL_law_152 ⟨(Nat.le_of_ble_eq_true rfl), (Nat.le_of_ble_eq_true rfl)⟩ (fun H locs hw => ?_)
    refine lv_if_lt (tgt := 182) hx hb dL_law_155 (by decide) (fun hc => ?_) (fun hc => ?_)
    · rw [if_pos hc] at hf
      refine W.widen (k := 1621) (n := 119422) (Nat.le_of_ble_eq_true rfl) (Nat.le_of_ble_eq_true rfl) ?_
      exact t_L_law_L182 hC hX9 hf hw (lv_sub hl [] rfl) kR
    · rw [if_neg hc] at hf
      refine lv_aload_n hx hb dL_law_158 rfl (lv_at hl 3 rfl) ?_
      obtain ⟨ho, hf⟩ := chk_inv hf
      obtain ⟨r16, σ15, hk, hf⟩ := xonly_inv hf
      refine z_ocallV (As := []) (rest := []) (m_X6_undo hC.2.2.2.2.2.2.2.2 hk) hC hw wd_X6_undo lkM_L_46 (isO_sh ho) rfl rfl ⟨rfl, rfl⟩ ⟨(Nat.le_of_ble_eq_true rfl), (Nat.le_of_ble_eq_true rfl)⟩ hl.1 rfl (Nat.le_of_ble_eq_true rfl) dL_law_159 ⟨(Nat.le_of_ble_eq_true rfl), (Nat.le_of_ble_eq_true rfl)⟩ (fun H locs hw => ?_)
      refine lv_iconst (v := 3) hx hb dL_law_162 (by decide) ?_
      refine lv_icmp_ne (tgt := 182) hx hb dL_law_163 (by decide) (fun hc => ?_) (fun hc => ?_)
      · rw [if_neg hc] at hf
        exact t_L_law_L182 hC hX9 hf hw (lv_sub hl [] rfl) kR
      · rw [if_pos hc] at hf
        refine lv_aload_n hx hb dL_law_166 rfl (lv_at hl 3 rfl) ?_
        obtain ⟨ho, hf⟩ := chk_inv hf
        obtain ⟨r18, σ17, hk, hf⟩ := bnd_inv hf
        refine z_callV (As := []) (rest := []) (m_X6_digest hC.2.2.2.2.2.2.2.2 hk) hC hw wd_X6_digest lkM_L_101 (isO_sh ho) rfl rfl ⟨rfl, rfl⟩ ⟨(Nat.le_of_ble_eq_true rfl), (Nat.le_of_ble_eq_true rfl)⟩ hl.1 rfl (Nat.le_of_ble_eq_true rfl) dL_law_167 ⟨(Nat.le_of_ble_eq_true rfl), (Nat.le_of_ble_eq_true rfl)⟩ (fun H locs hw => ?_)
        refine lv_lload hx hb dL_law_170 (lv_at hl 0 rfl) ?_
        refine lv_lconst (v := 1) hx hb dL_law_172 (by decide) ?_
        refine lv_lsub hx hb dL_law_173 ?_
        refine W.lcmp hx hb dL_law_174 ?_
        refine lv_if_ne (tgt := 182) hx hb dL_law_175 (by decide) (fun hc => ?_) (fun hc => ?_)
        · rw [if_neg hc] at hf
          exact t_L_law_L182 hC hX9 hf hw (lv_sub hl [] rfl) kR
        · rw [if_pos hc] at hf
          refine lv_iconst (v := 1) hx hb dL_law_178 (by decide) ?_
          refine lv_goto (tgt := 183) hx hb dL_law_179 (by decide) ?_
          exact t_L_law_L183 hC hX9 hf hw (lv_sub hl [] rfl) kR
set_option maxHeartbeats 4000000 in
set_option maxRecDepth 100000 in
theorem t_L_law_L118 (hC : zC p l s m args meth c cL_law 6 RL D cA B0) {b9 L : Nat} {xs : Nat → Int32} (hX9 : va_X b9 L xs s s.heap ∧ b9 < s.heap.size ∧ ¬ FR B0 b9) {Γ : zSh} {x0 : Nat} {x1 : Nat} {σ : zSt} {out : (Int32 × zSt)} (hf : f_L_law_L118 xs L b9 Γ x0 x1 σ = some out) {H : Heap} {locs : List Loc} {ls : Array Slot} (hw : zO D cA B0 Γ σ (ZB B0) s.heap H locs) (hl : lv_has ls 6 [(0, .ref x0), (1, .ref x1)])
    (kR : ∀ (v : Int32) (σ2 : zSt), out = (v, σ2) → ∀ (H : Heap) (locs : List Loc) (ls : Array Slot), zO D cA B0 Γ σ2 (ZB B0) s.heap H locs → W p l e room_1 s m args below meth c H locs 600086 7301442 Q (F0 m 185 ls [.int v])) :
    W p l e room_1 s m args below meth c H locs 1618 119404 Q (F0 m 118 ls []) := by
  have hx := hC.1
  have hb := hC.2.1
  unfold f_L_law_L118 at hf
  refine lv_iconst (v := 0) hx hb dL_law_118 (by decide) ?_
  exact t_L_law_L119 hC hX9 hf hw (lv_sub hl [0, 1] rfl) kR
set_option maxHeartbeats 4000000 in
set_option maxRecDepth 100000 in
theorem t_L_law_L55 (hC : zC p l s m args meth c cL_law 6 RL D cA B0) {b9 L : Nat} {xs : Nat → Int32} (hX9 : va_X b9 L xs s s.heap ∧ b9 < s.heap.size ∧ ¬ FR B0 b9) {Γ : zSh} {x0 : Nat} {x1 : Nat} {s0 : Int32} {σ : zSt} {out : (Int32 × zSt)} (hf : f_L_law_L55 xs L b9 Γ x0 x1 s0 σ = some out) {H : Heap} {locs : List Loc} {ls : Array Slot} (hw : zO D cA B0 Γ σ (ZB B0) s.heap H locs) (hl : lv_has ls 6 [(0, .ref x0), (1, .ref x1)])
    (kR : ∀ (v : Int32) (σ2 : zSt), out = (v, σ2) → ∀ (H : Heap) (locs : List Loc) (ls : Array Slot), zO D cA B0 Γ σ2 (ZB B0) s.heap H locs → W p l e room_1 s m args below meth c H locs 600086 7301442 Q (F0 m 185 ls [.int v])) :
    W p l e room_1 s m args below meth c H locs 1226 117052 Q (F0 m 55 ls [.int s0]) := by
  have hx := hC.1
  have hb := hC.2.1
  unfold f_L_law_L55 at hf
  refine lv_istore_n (lv' := [(3, .int s0), (0, .ref x0), (1, .ref x1)]) hx hb dL_law_55 rfl hl (Nat.le_of_ble_eq_true rfl) rfl (fun ls hl => ?_)
  refine lv_iload_n hx hb dL_law_56 rfl (lv_at hl 0 rfl) ?_
  refine lv_if_eq (tgt := 118) hx hb dL_law_57 (by decide) (fun hc => ?_) (fun hc => ?_)
  · rw [if_pos hc] at hf
    refine W.widen (k := 1618) (n := 119404) (Nat.le_of_ble_eq_true rfl) (Nat.le_of_ble_eq_true rfl) ?_
    exact t_L_law_L118 hC hX9 hf hw (lv_sub hl [1, 2] rfl) kR
  · rw [if_neg hc] at hf
    refine lv_aload_n hx hb dL_law_60 rfl (lv_at hl 2 rfl) ?_
    obtain ⟨r20, σ19, hk, hf⟩ := bnd_inv hf
    refine z_callS (As := [.ref x1]) (rest := []) (m_L_isTurned hC.2.2.2.2.2.2.2.2 hk) hC hw wd_L_isTurned lkM_L_90 rfl ⟨rfl, rfl⟩ ⟨(Nat.le_of_ble_eq_true rfl), (Nat.le_of_ble_eq_true rfl)⟩ hl.1 rfl (Nat.le_of_ble_eq_true rfl) dL_law_61 ⟨(Nat.le_of_ble_eq_true rfl), (Nat.le_of_ble_eq_true rfl)⟩ (fun H locs hw => ?_)
    refine lv_if_eq (tgt := 118) hx hb dL_law_64 (by decide) (fun hc => ?_) (fun hc => ?_)
    · rw [if_pos hc] at hf
      refine W.widen (k := 1618) (n := 119404) (Nat.le_of_ble_eq_true rfl) (Nat.le_of_ble_eq_true rfl) ?_
      exact t_L_law_L118 hC hX9 hf hw (lv_sub hl [1, 2] rfl) kR
    · rw [if_neg hc] at hf
      refine lv_aload_n hx hb dL_law_67 rfl (lv_at hl 2 rfl) ?_
      refine lv_iconst (v := 0) hx hb dL_law_68 (by decide) ?_
      obtain ⟨r22, σ21, hk, hf⟩ := bnd_inv hf
      refine z_callS (As := [.ref x1, .int 0]) (rest := []) (m_L_isReduced hC.2.2.2.2.2.2.2.2 hk) hC hw wd_L_isReduced lkM_L_94 rfl ⟨rfl, rfl⟩ ⟨(Nat.le_of_ble_eq_true rfl), (Nat.le_of_ble_eq_true rfl)⟩ hl.1 rfl (Nat.le_of_ble_eq_true rfl) dL_law_69 ⟨(Nat.le_of_ble_eq_true rfl), (Nat.le_of_ble_eq_true rfl)⟩ (fun H locs hw => ?_)
      refine lv_if_eq (tgt := 118) hx hb dL_law_72 (by decide) (fun hc => ?_) (fun hc => ?_)
      · rw [if_pos hc] at hf
        refine W.widen (k := 1618) (n := 119404) (Nat.le_of_ble_eq_true rfl) (Nat.le_of_ble_eq_true rfl) ?_
        exact t_L_law_L118 hC hX9 hf hw (lv_sub hl [1, 2] rfl) kR
      · rw [if_neg hc] at hf
        refine lv_aload_n hx hb dL_law_75 rfl (lv_at hl 2 rfl) ?_
        refine lv_iconst (v := 1) hx hb dL_law_76 (by decide) ?_
        obtain ⟨r24, σ23, hk, hf⟩ := bnd_inv hf
        refine z_callS (As := [.ref x1, .int 1]) (rest := []) (m_L_isReduced hC.2.2.2.2.2.2.2.2 hk) hC hw wd_L_isReduced lkM_L_94 rfl ⟨rfl, rfl⟩ ⟨(Nat.le_of_ble_eq_true rfl), (Nat.le_of_ble_eq_true rfl)⟩ hl.1 rfl (Nat.le_of_ble_eq_true rfl) dL_law_77 ⟨(Nat.le_of_ble_eq_true rfl), (Nat.le_of_ble_eq_true rfl)⟩ (fun H locs hw => ?_)
        refine lv_if_eq (tgt := 118) hx hb dL_law_80 (by decide) (fun hc => ?_) (fun hc => ?_)
        · rw [if_pos hc] at hf
          refine W.widen (k := 1618) (n := 119404) (Nat.le_of_ble_eq_true rfl) (Nat.le_of_ble_eq_true rfl) ?_
          exact t_L_law_L118 hC hX9 hf hw (lv_sub hl [1, 2] rfl) kR
        · rw [if_neg hc] at hf
          refine lv_aload_n hx hb dL_law_83 rfl (lv_at hl 2 rfl) ?_
          refine lv_aload_n hx hb dL_law_84 rfl (lv_at hl 1 rfl) ?_
          refine lv_bipush (v := 6) hx hb dL_law_85 (by decide) ?_
          obtain ⟨r26, σ25, hk, hf⟩ := bnd_inv hf
          refine z_callSS (As := [.ref x0, .int 6]) (rest := [.ref x1]) (m_L_cell hC.2.2.2.2.2.2.2.2 hk) hC hw hX9 wd_L_cell lkM_L_9 rfl ⟨rfl, rfl⟩ ⟨(Nat.le_of_ble_eq_true rfl), (Nat.le_of_ble_eq_true rfl)⟩ hl.1 rfl (Nat.le_of_ble_eq_true rfl) dL_law_87 ⟨(Nat.le_of_ble_eq_true rfl), (Nat.le_of_ble_eq_true rfl)⟩ (fun H locs hw => ?_)
          refine lv_sipush (v := 10007) hx hb dL_law_90 (by decide) ?_
          obtain ⟨r28, σ27, hk, hf⟩ := bnd_inv hf
          refine z_callS (As := [.int r26, .int 10007]) (rest := [.ref x1]) (m_L_up hC.2.2.2.2.2.2.2.2 hk) hC hw wd_L_up lkM_L_15 rfl ⟨rfl, rfl⟩ ⟨(Nat.le_of_ble_eq_true rfl), (Nat.le_of_ble_eq_true rfl)⟩ hl.1 rfl (Nat.le_of_ble_eq_true rfl) dL_law_93 ⟨(Nat.le_of_ble_eq_true rfl), (Nat.le_of_ble_eq_true rfl)⟩ (fun H locs hw => ?_)
          refine lv_aload_n hx hb dL_law_96 rfl (lv_at hl 1 rfl) ?_
          refine lv_bipush (v := 7) hx hb dL_law_97 (by decide) ?_
          obtain ⟨r30, σ29, hk, hf⟩ := bnd_inv hf
          refine z_callSS (As := [.ref x0, .int 7]) (rest := [.int r28, .ref x1]) (m_L_cell hC.2.2.2.2.2.2.2.2 hk) hC hw hX9 wd_L_cell lkM_L_9 rfl ⟨rfl, rfl⟩ ⟨(Nat.le_of_ble_eq_true rfl), (Nat.le_of_ble_eq_true rfl)⟩ hl.1 rfl (Nat.le_of_ble_eq_true rfl) dL_law_99 ⟨(Nat.le_of_ble_eq_true rfl), (Nat.le_of_ble_eq_true rfl)⟩ (fun H locs hw => ?_)
          refine lv_sipush (v := 5000) hx hb dL_law_102 (by decide) ?_
          obtain ⟨r32, σ31, hk, hf⟩ := bnd_inv hf
          refine z_callS (As := [.int r30, .int 5000]) (rest := [.int r28, .ref x1]) (m_L_up hC.2.2.2.2.2.2.2.2 hk) hC hw wd_L_up lkM_L_15 rfl ⟨rfl, rfl⟩ ⟨(Nat.le_of_ble_eq_true rfl), (Nat.le_of_ble_eq_true rfl)⟩ hl.1 rfl (Nat.le_of_ble_eq_true rfl) dL_law_105 ⟨(Nat.le_of_ble_eq_true rfl), (Nat.le_of_ble_eq_true rfl)⟩ (fun H locs hw => ?_)
          obtain ⟨r34, σ33, hk, hf⟩ := bnd_inv hf
          refine z_callS (As := [.ref x1, .int r28, .int r32]) (rest := []) (m_L_isScaled hC.2.2.2.2.2.2.2.2 hk) hC hw wd_L_isScaled lkM_L_97 rfl ⟨rfl, rfl⟩ ⟨(Nat.le_of_ble_eq_true rfl), (Nat.le_of_ble_eq_true rfl)⟩ hl.1 rfl (Nat.le_of_ble_eq_true rfl) dL_law_108 ⟨(Nat.le_of_ble_eq_true rfl), (Nat.le_of_ble_eq_true rfl)⟩ (fun H locs hw => ?_)
          refine lv_if_eq (tgt := 118) hx hb dL_law_111 (by decide) (fun hc => ?_) (fun hc => ?_)
          · rw [if_pos hc] at hf
            exact t_L_law_L118 hC hX9 hf hw (lv_sub hl [1, 2] rfl) kR
          · rw [if_neg hc] at hf
            refine lv_iconst (v := 1) hx hb dL_law_114 (by decide) ?_
            refine lv_goto (tgt := 119) hx hb dL_law_115 (by decide) ?_
            exact t_L_law_L119 hC hX9 hf hw (lv_sub hl [1, 2] rfl) kR
set_option maxHeartbeats 4000000 in
set_option maxRecDepth 100000 in
theorem t_L_law_L54 (hC : zC p l s m args meth c cL_law 6 RL D cA B0) {b9 L : Nat} {xs : Nat → Int32} (hX9 : va_X b9 L xs s s.heap ∧ b9 < s.heap.size ∧ ¬ FR B0 b9) {Γ : zSh} {x0 : Nat} {x1 : Nat} {σ : zSt} {out : (Int32 × zSt)} (hf : f_L_law_L54 xs L b9 Γ x0 x1 σ = some out) {H : Heap} {locs : List Loc} {ls : Array Slot} (hw : zO D cA B0 Γ σ (ZB B0) s.heap H locs) (hl : lv_has ls 6 [(0, .ref x0), (1, .ref x1)])
    (kR : ∀ (v : Int32) (σ2 : zSt), out = (v, σ2) → ∀ (H : Heap) (locs : List Loc) (ls : Array Slot), zO D cA B0 Γ σ2 (ZB B0) s.heap H locs → W p l e room_1 s m args below meth c H locs 600086 7301442 Q (F0 m 185 ls [.int v])) :
    W p l e room_1 s m args below meth c H locs 1226 117052 Q (F0 m 54 ls []) := by
  have hx := hC.1
  have hb := hC.2.1
  unfold f_L_law_L54 at hf
  refine lv_iconst (v := 0) hx hb dL_law_54 (by decide) ?_
  exact t_L_law_L55 hC hX9 hf hw (lv_sub hl [0, 1] rfl) kR
set_option maxHeartbeats 8000000 in
set_option maxRecDepth 100000 in
theorem t_L_law_R16 (hC : zC p l s m args meth c cL_law 6 RL D cA B0) {b9 L : Nat} {xs : Nat → Int32} (hX9 : va_X b9 L xs s s.heap ∧ b9 < s.heap.size ∧ ¬ FR B0 b9) {Γ : zSh} {x0 x1 x2 : Nat} {σ : zSt} {out : Int32 × zSt} (hf : f_L_law_R16 xs L b9 Γ x0 x1 x2 σ = some out) {H : Heap} {locs : List Loc} {ls : Array Slot} (hw : zO D cA B0 Γ σ (ZB B0) s.heap H locs) (hl : lv_has ls 6 [(0, .ref x0), (1, .ref x1), (2, .ref x2)])
    (kR : ∀ (v : Int32) (σ2 : zSt), out = (v, σ2) → ∀ (H : Heap) (locs : List Loc) (ls : Array Slot), zO D cA B0 Γ σ2 (ZB B0) s.heap H locs → W p l e room_1 s m args below meth c H locs 600086 7301442 Q (F0 m 185 ls [.int v])) :
    W p l e room_1 s m args below meth c H locs 914 115180 Q (F0 m 16 ls []) := by
  have hx := hC.1
  have hb := hC.2.1
  unfold f_L_law_R16 at hf
  refine lv_aload_n hx hb dL_law_16 rfl (lv_at hl 1 rfl) ?_
  refine lv_aload_n hx hb dL_law_17 rfl (lv_at hl 0 rfl) ?_
  obtain ⟨r2, σ1, hk, hf⟩ := bnd_inv hf
  refine z_callSS (As := [.ref x1, .ref x0]) (rest := []) (m_L_draws hC.2.2.2.2.2.2.2.2 hk) hC hw hX9 wd_L_draws lkM_L_82 rfl ⟨rfl, rfl⟩ ⟨(Nat.le_of_ble_eq_true rfl), (Nat.le_of_ble_eq_true rfl)⟩ hl.1 rfl (Nat.le_of_ble_eq_true rfl) dL_law_18 ⟨(Nat.le_of_ble_eq_true rfl), (Nat.le_of_ble_eq_true rfl)⟩ (fun H locs hw => ?_)
  refine lv_if_eq (tgt := 54) hx hb dL_law_21 (by decide) (fun hc => ?_) (fun hc => ?_)
  · rw [if_pos hc] at hf
    refine W.widen (k := 1226) (n := 117052) (Nat.le_of_ble_eq_true rfl) (Nat.le_of_ble_eq_true rfl) ?_
    exact t_L_law_L54 hC hX9 hf hw (lv_sub hl [0, 1] rfl) kR
  · rw [if_neg hc] at hf
    refine lv_aload_n hx hb dL_law_24 rfl (lv_at hl 2 rfl) ?_
    refine lv_aload_n hx hb dL_law_25 rfl (lv_at hl 0 rfl) ?_
    obtain ⟨r36, σ35, hk, hf⟩ := bnd_inv hf
    refine z_callSS (As := [.ref x2, .ref x0]) (rest := []) (m_L_draws hC.2.2.2.2.2.2.2.2 hk) hC hw hX9 wd_L_draws lkM_L_82 rfl ⟨rfl, rfl⟩ ⟨(Nat.le_of_ble_eq_true rfl), (Nat.le_of_ble_eq_true rfl)⟩ hl.1 rfl (Nat.le_of_ble_eq_true rfl) dL_law_26 ⟨(Nat.le_of_ble_eq_true rfl), (Nat.le_of_ble_eq_true rfl)⟩ (fun H locs hw => ?_)
    refine lv_if_eq (tgt := 54) hx hb dL_law_29 (by decide) (fun hc => ?_) (fun hc => ?_)
    · rw [if_pos hc] at hf
      refine W.widen (k := 1226) (n := 117052) (Nat.le_of_ble_eq_true rfl) (Nat.le_of_ble_eq_true rfl) ?_
      exact t_L_law_L54 hC hX9 hf hw (lv_sub hl [0, 1] rfl) kR
    · rw [if_neg hc] at hf
      refine lv_aload_n hx hb dL_law_32 rfl (lv_at hl 1 rfl) ?_
      refine lv_aload_n hx hb dL_law_33 rfl (lv_at hl 2 rfl) ?_
      refine lv_iconst (v := 1) hx hb dL_law_34 (by decide) ?_
      obtain ⟨r38, σ37, hk, hf⟩ := bnd_inv hf
      refine z_callS (As := [.ref x1, .ref x2, .int 1]) (rest := []) (m_L_isSpread hC.2.2.2.2.2.2.2.2 hk) hC hw wd_L_isSpread lkM_L_86 rfl ⟨rfl, rfl⟩ ⟨(Nat.le_of_ble_eq_true rfl), (Nat.le_of_ble_eq_true rfl)⟩ hl.1 rfl (Nat.le_of_ble_eq_true rfl) dL_law_35 ⟨(Nat.le_of_ble_eq_true rfl), (Nat.le_of_ble_eq_true rfl)⟩ (fun H locs hw => ?_)
      refine lv_if_eq (tgt := 54) hx hb dL_law_38 (by decide) (fun hc => ?_) (fun hc => ?_)
      · rw [if_pos hc] at hf
        refine W.widen (k := 1226) (n := 117052) (Nat.le_of_ble_eq_true rfl) (Nat.le_of_ble_eq_true rfl) ?_
        exact t_L_law_L54 hC hX9 hf hw (lv_sub hl [0, 1] rfl) kR
      · rw [if_neg hc] at hf
        refine lv_aload_n hx hb dL_law_41 rfl (lv_at hl 1 rfl) ?_
        refine lv_aload_n hx hb dL_law_42 rfl (lv_at hl 2 rfl) ?_
        refine lv_iconst (v := 2) hx hb dL_law_43 (by decide) ?_
        obtain ⟨r40, σ39, hk, hf⟩ := bnd_inv hf
        refine z_callS (As := [.ref x1, .ref x2, .int 2]) (rest := []) (m_L_isSpread hC.2.2.2.2.2.2.2.2 hk) hC hw wd_L_isSpread lkM_L_86 rfl ⟨rfl, rfl⟩ ⟨(Nat.le_of_ble_eq_true rfl), (Nat.le_of_ble_eq_true rfl)⟩ hl.1 rfl (Nat.le_of_ble_eq_true rfl) dL_law_44 ⟨(Nat.le_of_ble_eq_true rfl), (Nat.le_of_ble_eq_true rfl)⟩ (fun H locs hw => ?_)
        refine lv_if_eq (tgt := 54) hx hb dL_law_47 (by decide) (fun hc => ?_) (fun hc => ?_)
        · rw [if_pos hc] at hf
          exact t_L_law_L54 hC hX9 hf hw (lv_sub hl [0, 1] rfl) kR
        · rw [if_neg hc] at hf
          refine lv_iconst (v := 1) hx hb dL_law_50 (by decide) ?_
          refine lv_goto (tgt := 55) hx hb dL_law_51 (by decide) ?_
          exact t_L_law_L55 hC hX9 hf hw (lv_sub hl [0, 1] rfl) kR
end
