section
variable {p : Program} {l : Launch} {e : Env} {s : State} {m : MethodId} {args : Array Value} {below : List Frame} {meth : Method} {c : Code} {Q : State → Prop} {D : va_G} {cA : Nat → ClassId} {B0 : Nat} {Z : Nat → Prop}
set_option maxHeartbeats 4000000 in
set_option maxRecDepth 100000 in
theorem m_L_begin (h9 : l.stackTraces = false) {Γ : zSh} {a0 : Nat} {a1 : Int32} {a2 : Int32} {a3 : Nat} {σ : zSt} {r : Int32} {σ2 : zSt} (hf : f_L_begin Γ a0 a1 a2 a3 σ = some (r, σ2)) : Met l yL_begin (wqT yL_begin cL_begin 5 (Option.some FieldType.int) [((0 : Nat), (10 : Nat), (13 : Nat), (13 : Nat)), ((0 : Nat), (10 : Nat), (17 : Nat), (15 : Nat))]) rm_L_begin (zQ0 D cA B0 [.ref a0, .int a1, .int a2, .ref a3] Γ σ (ZB B0)) (zQ1 D cA B0 (some (.int r)) Γ σ2 (ZB B0)) 2 12 (FR B0) := by
  refine z_ofWT h9 (by decide) (Nat.le_of_ble_eq_true rfl) ?_
  intro p e s m args below meth c ls hC hr hT hw hl
  have hx := hC.1
  have hb := hC.2.1
  have hl : lv_has ls 5 [(0, .ref a0), (1, .int a1), (2, .int a2), (3, .ref a3)] := hl
  unfold f_L_begin at hf
  refine lv_aload_n hx hb dL_begin_0 rfl (lv_at hl 3 rfl) ?_
  refine lv_iconst (v := 0) hx hb dL_begin_1 (by decide) ?_
  refine lv_aload_n hx hb dL_begin_2 rfl (lv_at hl 0 rfl) ?_
  refine lv_iload_n hx hb dL_begin_3 rfl (lv_at hl 1 rfl) ?_
  refine lv_iload_n hx hb dL_begin_4 rfl (lv_at hl 2 rfl) ?_
  obtain ⟨ho, hf⟩ := chk_inv hf
  obtain ⟨q, hk, hn, hxx⟩ := xcat_inv hf
  refine z_xcallV (As := [.int a1, .int a2]) (rest := [.int 0, .ref a3]) (m_X6_begin hC.2.2.2.2.2.2.2.2 hk) hC hw wd_X6_begin lkM_L_7 (isO_sh ho) rfl rfl ⟨rfl, rfl⟩ ⟨(Nat.le_of_ble_eq_true rfl), (Nat.le_of_ble_eq_true rfl)⟩ hl.1 rfl (Nat.le_of_ble_eq_true rfl) dL_begin_5 ⟨(Nat.le_of_ble_eq_true rfl), (Nat.le_of_ble_eq_true rfl)⟩ (fun r2 σ1 eq H locs hw => ?_) (fun k9 s9 eq H locs q9 ce9 hw e1 e2 e3 => ?_)
  · have hf := hn _ _ eq
    refine lv_i2l hx hb dL_begin_8 rfl ?_
    obtain ⟨σ3, hg, hf⟩ := stL_inv hf
    refine r_stL hC hw hg dL_begin_9 (fun H locs hw => ?_)
    refine lv_goto (tgt := 21) hx hb dL_begin_10 (by decide) ?_
    refine lv_iconst (v := 0) hx hb dL_begin_21 (by decide) ?_
    first | (obtain ⟨rfl, rfl⟩ := sp_inv hf) | (obtain rfl := Option.some.inj hf)
    refine W.widen (k := 2) (n := 12) (Nat.le_of_ble_eq_true rfl) (Nat.le_of_ble_eq_true rfl) ?_
    exact W.iret hx hb hr (z_ret hw rfl) hw.2.2.2.2.2 dL_begin_22 hC.2.2.2.2.2.1
  · have hf := hxx _ _ eq
    by_cases hk0 : k9 = 0
    · rw [if_pos hk0] at hf
      subst hk0
      refine vx_catch (name := exN 0) hC.2.2.2.1 [] ⟨0, 10, 13, 13⟩ [⟨0, 10, 17, 15⟩] (hT.trans rfl) (fun z hz => nomatch hz) (by decide) (by decide) (hC.2.2.2.2.1 _ lkC_L_13) (va_Nw.use rfl (hC.2.2.2.2.2.2.1.2.2.2.1 _ cast_0)) e1 e2 e3 ?_
      refine lv_astore (lv' := [(4, .ref q9), (0, .ref a0), (1, .int a1), (2, .int a2), (3, .ref a3)]) hx hb dL_begin_13 hl (Nat.le_of_ble_eq_true rfl) rfl (fun ls hl => ?_)
      refine lv_iconst (v := 1) hx hb dL_begin_15 (by decide) ?_
      first | (obtain ⟨rfl, rfl⟩ := sp_inv hf) | (obtain rfl := Option.some.inj hf)
      refine W.widen (k := 2) (n := 12) (Nat.le_of_ble_eq_true rfl) (Nat.le_of_ble_eq_true rfl) ?_
      exact W.iret hx hb hr (z_ret hw rfl) hw.2.2.2.2.2 dL_begin_16 hC.2.2.2.2.2.1
    · rw [if_neg hk0] at hf
      by_cases hk1 : k9 = 1
      · rw [if_pos hk1] at hf
        subst hk1
        refine vx_catch (name := exN 1) hC.2.2.2.1 [⟨0, 10, 13, 13⟩] ⟨0, 10, 17, 15⟩ [] (hT.trans rfl) (catch1 (hC.2.2.2.2.1 _ lkC_L_13) hC.2.2.2.2.2.2.1.2.2.2.2.2.2.1) (by decide) (by decide) (hC.2.2.2.2.1 _ lkC_L_15) (va_Nw.use rfl (hC.2.2.2.2.2.2.1.2.2.2.1 _ cast_1)) e1 e2 e3 ?_
        refine lv_astore (lv' := [(4, .ref q9), (0, .ref a0), (1, .int a1), (2, .int a2), (3, .ref a3)]) hx hb dL_begin_17 hl (Nat.le_of_ble_eq_true rfl) rfl (fun ls hl => ?_)
        refine lv_iconst (v := 2) hx hb dL_begin_19 (by decide) ?_
        first | (obtain ⟨rfl, rfl⟩ := sp_inv hf) | (obtain rfl := Option.some.inj hf)
        refine W.widen (k := 2) (n := 12) (Nat.le_of_ble_eq_true rfl) (Nat.le_of_ble_eq_true rfl) ?_
        exact W.iret hx hb hr (z_ret hw rfl) hw.2.2.2.2.2 dL_begin_20 hC.2.2.2.2.2.1
      · rw [if_neg hk1] at hf
        cases hf
set_option maxHeartbeats 4000000 in
set_option maxRecDepth 100000 in
theorem m_L_setEnd (h9 : l.stackTraces = false) {Γ : zSh} {a0 : Nat} {a1 : Int32} {a2 : Int32} {a3 : Int32} {a4 : Int32} {a5 : Nat} {σ : zSt} {r : Int32} {σ2 : zSt} (hf : f_L_setEnd Γ a0 a1 a2 a3 a4 a5 σ = some (r, σ2)) : Met l yL_setEnd (wqT yL_setEnd cL_setEnd 7 (Option.some FieldType.int) [((0 : Nat), (14 : Nat), (17 : Nat), (13 : Nat)), ((0 : Nat), (14 : Nat), (21 : Nat), (15 : Nat))]) rm_L_setEnd (zQ0 D cA B0 [.ref a0, .int a1, .int a2, .int a3, .int a4, .ref a5] Γ σ (ZB B0)) (zQ1 D cA B0 (some (.int r)) Γ σ2 (ZB B0)) 3 18 (FR B0) := by
  refine z_ofWT h9 (by decide) (Nat.le_of_ble_eq_true rfl) ?_
  intro p e s m args below meth c ls hC hr hT hw hl
  have hx := hC.1
  have hb := hC.2.1
  have hl : lv_has ls 7 [(0, .ref a0), (1, .int a1), (2, .int a2), (3, .int a3), (4, .int a4), (5, .ref a5)] := hl
  unfold f_L_setEnd at hf
  refine lv_aload hx hb dL_setEnd_0 (lv_at hl 5 rfl) ?_
  refine lv_iconst (v := 0) hx hb dL_setEnd_2 (by decide) ?_
  refine lv_aload_n hx hb dL_setEnd_3 rfl (lv_at hl 0 rfl) ?_
  refine lv_iload_n hx hb dL_setEnd_4 rfl (lv_at hl 1 rfl) ?_
  refine lv_iload_n hx hb dL_setEnd_5 rfl (lv_at hl 2 rfl) ?_
  refine lv_iload_n hx hb dL_setEnd_6 rfl (lv_at hl 3 rfl) ?_
  refine lv_iload hx hb dL_setEnd_7 (lv_at hl 4 rfl) ?_
  obtain ⟨ho, hf⟩ := chk_inv hf
  obtain ⟨q, hk, hn, hxx⟩ := xcat_inv hf
  refine z_xcallV (As := [.int a1, .int a2, .int a3, .int a4]) (rest := [.int 0, .ref a5]) (m_X6_setEnd hC.2.2.2.2.2.2.2.2 hk) hC hw wd_X6_setEnd lkM_L_17 (isO_sh ho) rfl rfl ⟨rfl, rfl⟩ ⟨(Nat.le_of_ble_eq_true rfl), (Nat.le_of_ble_eq_true rfl)⟩ hl.1 rfl (Nat.le_of_ble_eq_true rfl) dL_setEnd_9 ⟨(Nat.le_of_ble_eq_true rfl), (Nat.le_of_ble_eq_true rfl)⟩ (fun r2 σ1 eq H locs hw => ?_) (fun k9 s9 eq H locs q9 ce9 hw e1 e2 e3 => ?_)
  · have hf := hn _ _ eq
    refine lv_i2l hx hb dL_setEnd_12 rfl ?_
    obtain ⟨σ3, hg, hf⟩ := stL_inv hf
    refine r_stL hC hw hg dL_setEnd_13 (fun H locs hw => ?_)
    refine lv_goto (tgt := 25) hx hb dL_setEnd_14 (by decide) ?_
    refine lv_iconst (v := 0) hx hb dL_setEnd_25 (by decide) ?_
    first | (obtain ⟨rfl, rfl⟩ := sp_inv hf) | (obtain rfl := Option.some.inj hf)
    refine W.widen (k := 3) (n := 18) (Nat.le_of_ble_eq_true rfl) (Nat.le_of_ble_eq_true rfl) ?_
    exact W.iret hx hb hr (z_ret hw rfl) hw.2.2.2.2.2 dL_setEnd_26 hC.2.2.2.2.2.1
  · have hf := hxx _ _ eq
    by_cases hk0 : k9 = 0
    · rw [if_pos hk0] at hf
      subst hk0
      refine vx_catch (name := exN 0) hC.2.2.2.1 [] ⟨0, 14, 17, 13⟩ [⟨0, 14, 21, 15⟩] (hT.trans rfl) (fun z hz => nomatch hz) (by decide) (by decide) (hC.2.2.2.2.1 _ lkC_L_13) (va_Nw.use rfl (hC.2.2.2.2.2.2.1.2.2.2.1 _ cast_0)) e1 e2 e3 ?_
      refine lv_astore (lv' := [(6, .ref q9), (0, .ref a0), (1, .int a1), (2, .int a2), (3, .int a3), (4, .int a4), (5, .ref a5)]) hx hb dL_setEnd_17 hl (Nat.le_of_ble_eq_true rfl) rfl (fun ls hl => ?_)
      refine lv_iconst (v := 1) hx hb dL_setEnd_19 (by decide) ?_
      first | (obtain ⟨rfl, rfl⟩ := sp_inv hf) | (obtain rfl := Option.some.inj hf)
      refine W.widen (k := 3) (n := 18) (Nat.le_of_ble_eq_true rfl) (Nat.le_of_ble_eq_true rfl) ?_
      exact W.iret hx hb hr (z_ret hw rfl) hw.2.2.2.2.2 dL_setEnd_20 hC.2.2.2.2.2.1
    · rw [if_neg hk0] at hf
      by_cases hk1 : k9 = 1
      · rw [if_pos hk1] at hf
        subst hk1
        refine vx_catch (name := exN 1) hC.2.2.2.1 [⟨0, 14, 17, 13⟩] ⟨0, 14, 21, 15⟩ [] (hT.trans rfl) (catch1 (hC.2.2.2.2.1 _ lkC_L_13) hC.2.2.2.2.2.2.1.2.2.2.2.2.2.1) (by decide) (by decide) (hC.2.2.2.2.1 _ lkC_L_15) (va_Nw.use rfl (hC.2.2.2.2.2.2.1.2.2.2.1 _ cast_1)) e1 e2 e3 ?_
        refine lv_astore (lv' := [(6, .ref q9), (0, .ref a0), (1, .int a1), (2, .int a2), (3, .int a3), (4, .int a4), (5, .ref a5)]) hx hb dL_setEnd_21 hl (Nat.le_of_ble_eq_true rfl) rfl (fun ls hl => ?_)
        refine lv_iconst (v := 2) hx hb dL_setEnd_23 (by decide) ?_
        first | (obtain ⟨rfl, rfl⟩ := sp_inv hf) | (obtain rfl := Option.some.inj hf)
        refine W.widen (k := 3) (n := 18) (Nat.le_of_ble_eq_true rfl) (Nat.le_of_ble_eq_true rfl) ?_
        exact W.iret hx hb hr (z_ret hw rfl) hw.2.2.2.2.2 dL_setEnd_24 hC.2.2.2.2.2.1
      · rw [if_neg hk1] at hf
        cases hf
set_option maxHeartbeats 4000000 in
set_option maxRecDepth 100000 in
theorem m_L_setStep (h9 : l.stackTraces = false) {Γ : zSh} {a0 : Nat} {a1 : Int32} {a2 : Int32} {a3 : Int32} {a4 : Int32} {a5 : Int32} {a6 : Nat} {σ : zSt} {r : Int32} {σ2 : zSt} (hf : f_L_setStep Γ a0 a1 a2 a3 a4 a5 a6 σ = some (r, σ2)) : Met l yL_setStep (wqT yL_setStep cL_setStep 8 (Option.some FieldType.int) [((0 : Nat), (16 : Nat), (19 : Nat), (13 : Nat)), ((0 : Nat), (16 : Nat), (23 : Nat), (15 : Nat))]) rm_L_setStep (zQ0 D cA B0 [.ref a0, .int a1, .int a2, .int a3, .int a4, .int a5, .ref a6] Γ σ (ZB B0)) (zQ1 D cA B0 (some (.int r)) Γ σ2 (ZB B0)) 4 24 (FR B0) := by
  refine z_ofWT h9 (by decide) (Nat.le_of_ble_eq_true rfl) ?_
  intro p e s m args below meth c ls hC hr hT hw hl
  have hx := hC.1
  have hb := hC.2.1
  have hl : lv_has ls 8 [(0, .ref a0), (1, .int a1), (2, .int a2), (3, .int a3), (4, .int a4), (5, .int a5), (6, .ref a6)] := hl
  unfold f_L_setStep at hf
  refine lv_aload hx hb dL_setStep_0 (lv_at hl 6 rfl) ?_
  refine lv_iconst (v := 0) hx hb dL_setStep_2 (by decide) ?_
  refine lv_aload_n hx hb dL_setStep_3 rfl (lv_at hl 0 rfl) ?_
  refine lv_iload_n hx hb dL_setStep_4 rfl (lv_at hl 1 rfl) ?_
  refine lv_iload_n hx hb dL_setStep_5 rfl (lv_at hl 2 rfl) ?_
  refine lv_iload_n hx hb dL_setStep_6 rfl (lv_at hl 3 rfl) ?_
  refine lv_iload hx hb dL_setStep_7 (lv_at hl 4 rfl) ?_
  refine lv_iload hx hb dL_setStep_9 (lv_at hl 5 rfl) ?_
  obtain ⟨ho, hf⟩ := chk_inv hf
  obtain ⟨q, hk, hn, hxx⟩ := xcat_inv hf
  refine z_xcallV (As := [.int a1, .int a2, .int a3, .int a4, .int a5]) (rest := [.int 0, .ref a6]) (m_X6_setStep hC.2.2.2.2.2.2.2.2 hk) hC hw wd_X6_setStep lkM_L_21 (isO_sh ho) rfl rfl ⟨rfl, rfl⟩ ⟨(Nat.le_of_ble_eq_true rfl), (Nat.le_of_ble_eq_true rfl)⟩ hl.1 rfl (Nat.le_of_ble_eq_true rfl) dL_setStep_11 ⟨(Nat.le_of_ble_eq_true rfl), (Nat.le_of_ble_eq_true rfl)⟩ (fun r2 σ1 eq H locs hw => ?_) (fun k9 s9 eq H locs q9 ce9 hw e1 e2 e3 => ?_)
  · have hf := hn _ _ eq
    refine lv_i2l hx hb dL_setStep_14 rfl ?_
    obtain ⟨σ3, hg, hf⟩ := stL_inv hf
    refine r_stL hC hw hg dL_setStep_15 (fun H locs hw => ?_)
    refine lv_goto (tgt := 27) hx hb dL_setStep_16 (by decide) ?_
    refine lv_iconst (v := 0) hx hb dL_setStep_27 (by decide) ?_
    first | (obtain ⟨rfl, rfl⟩ := sp_inv hf) | (obtain rfl := Option.some.inj hf)
    refine W.widen (k := 4) (n := 24) (Nat.le_of_ble_eq_true rfl) (Nat.le_of_ble_eq_true rfl) ?_
    exact W.iret hx hb hr (z_ret hw rfl) hw.2.2.2.2.2 dL_setStep_28 hC.2.2.2.2.2.1
  · have hf := hxx _ _ eq
    by_cases hk0 : k9 = 0
    · rw [if_pos hk0] at hf
      subst hk0
      refine vx_catch (name := exN 0) hC.2.2.2.1 [] ⟨0, 16, 19, 13⟩ [⟨0, 16, 23, 15⟩] (hT.trans rfl) (fun z hz => nomatch hz) (by decide) (by decide) (hC.2.2.2.2.1 _ lkC_L_13) (va_Nw.use rfl (hC.2.2.2.2.2.2.1.2.2.2.1 _ cast_0)) e1 e2 e3 ?_
      refine lv_astore (lv' := [(7, .ref q9), (0, .ref a0), (1, .int a1), (2, .int a2), (3, .int a3), (4, .int a4), (5, .int a5), (6, .ref a6)]) hx hb dL_setStep_19 hl (Nat.le_of_ble_eq_true rfl) rfl (fun ls hl => ?_)
      refine lv_iconst (v := 1) hx hb dL_setStep_21 (by decide) ?_
      first | (obtain ⟨rfl, rfl⟩ := sp_inv hf) | (obtain rfl := Option.some.inj hf)
      refine W.widen (k := 4) (n := 24) (Nat.le_of_ble_eq_true rfl) (Nat.le_of_ble_eq_true rfl) ?_
      exact W.iret hx hb hr (z_ret hw rfl) hw.2.2.2.2.2 dL_setStep_22 hC.2.2.2.2.2.1
    · rw [if_neg hk0] at hf
      by_cases hk1 : k9 = 1
      · rw [if_pos hk1] at hf
        subst hk1
        refine vx_catch (name := exN 1) hC.2.2.2.1 [⟨0, 16, 19, 13⟩] ⟨0, 16, 23, 15⟩ [] (hT.trans rfl) (catch1 (hC.2.2.2.2.1 _ lkC_L_13) hC.2.2.2.2.2.2.1.2.2.2.2.2.2.1) (by decide) (by decide) (hC.2.2.2.2.1 _ lkC_L_15) (va_Nw.use rfl (hC.2.2.2.2.2.2.1.2.2.2.1 _ cast_1)) e1 e2 e3 ?_
        refine lv_astore (lv' := [(7, .ref q9), (0, .ref a0), (1, .int a1), (2, .int a2), (3, .int a3), (4, .int a4), (5, .int a5), (6, .ref a6)]) hx hb dL_setStep_23 hl (Nat.le_of_ble_eq_true rfl) rfl (fun ls hl => ?_)
        refine lv_iconst (v := 2) hx hb dL_setStep_25 (by decide) ?_
        first | (obtain ⟨rfl, rfl⟩ := sp_inv hf) | (obtain rfl := Option.some.inj hf)
        refine W.widen (k := 4) (n := 24) (Nat.le_of_ble_eq_true rfl) (Nat.le_of_ble_eq_true rfl) ?_
        exact W.iret hx hb hr (z_ret hw rfl) hw.2.2.2.2.2 dL_setStep_26 hC.2.2.2.2.2.1
      · rw [if_neg hk1] at hf
        cases hf
set_option maxHeartbeats 4000000 in
set_option maxRecDepth 100000 in
theorem m_L_random (h9 : l.stackTraces = false) {Γ : zSh} {a0 : Nat} {a1 : Int32} {a2 : Int32} {a3 : Int32} {a4 : Nat} {σ : zSt} {r : Int32} {σ2 : zSt} (hf : f_L_random Γ a0 a1 a2 a3 a4 σ = some (r, σ2)) : Met l yL_random (wqT yL_random cL_random 6 (Option.some FieldType.int) [((0 : Nat), (12 : Nat), (15 : Nat), (13 : Nat)), ((0 : Nat), (12 : Nat), (19 : Nat), (15 : Nat))]) rm_L_random (zQ0 D cA B0 [.ref a0, .int a1, .int a2, .int a3, .ref a4] Γ σ (ZB B0)) (zQ1 D cA B0 (some (.int r)) Γ σ2 (ZB B0)) 3 18 (FR B0) := by
  refine z_ofWT h9 (by decide) (Nat.le_of_ble_eq_true rfl) ?_
  intro p e s m args below meth c ls hC hr hT hw hl
  have hx := hC.1
  have hb := hC.2.1
  have hl : lv_has ls 6 [(0, .ref a0), (1, .int a1), (2, .int a2), (3, .int a3), (4, .ref a4)] := hl
  unfold f_L_random at hf
  refine lv_aload hx hb dL_random_0 (lv_at hl 4 rfl) ?_
  refine lv_iconst (v := 0) hx hb dL_random_2 (by decide) ?_
  refine lv_aload_n hx hb dL_random_3 rfl (lv_at hl 0 rfl) ?_
  refine lv_iload_n hx hb dL_random_4 rfl (lv_at hl 1 rfl) ?_
  refine lv_iload_n hx hb dL_random_5 rfl (lv_at hl 2 rfl) ?_
  refine lv_iload_n hx hb dL_random_6 rfl (lv_at hl 3 rfl) ?_
  obtain ⟨ho, hf⟩ := chk_inv hf
  obtain ⟨q, hk, hn, hxx⟩ := xcat_inv hf
  refine z_xcallV (As := [.int a1, .int a2, .int a3]) (rest := [.int 0, .ref a4]) (m_X6_random hC.2.2.2.2.2.2.2.2 hk) hC hw wd_X6_random lkM_L_25 (isO_sh ho) rfl rfl ⟨rfl, rfl⟩ ⟨(Nat.le_of_ble_eq_true rfl), (Nat.le_of_ble_eq_true rfl)⟩ hl.1 rfl (Nat.le_of_ble_eq_true rfl) dL_random_7 ⟨(Nat.le_of_ble_eq_true rfl), (Nat.le_of_ble_eq_true rfl)⟩ (fun r2 σ1 eq H locs hw => ?_) (fun k9 s9 eq H locs q9 ce9 hw e1 e2 e3 => ?_)
  · have hf := hn _ _ eq
    refine lv_i2l hx hb dL_random_10 rfl ?_
    obtain ⟨σ3, hg, hf⟩ := stL_inv hf
    refine r_stL hC hw hg dL_random_11 (fun H locs hw => ?_)
    refine lv_goto (tgt := 23) hx hb dL_random_12 (by decide) ?_
    refine lv_iconst (v := 0) hx hb dL_random_23 (by decide) ?_
    first | (obtain ⟨rfl, rfl⟩ := sp_inv hf) | (obtain rfl := Option.some.inj hf)
    refine W.widen (k := 3) (n := 18) (Nat.le_of_ble_eq_true rfl) (Nat.le_of_ble_eq_true rfl) ?_
    exact W.iret hx hb hr (z_ret hw rfl) hw.2.2.2.2.2 dL_random_24 hC.2.2.2.2.2.1
  · have hf := hxx _ _ eq
    by_cases hk0 : k9 = 0
    · rw [if_pos hk0] at hf
      subst hk0
      refine vx_catch (name := exN 0) hC.2.2.2.1 [] ⟨0, 12, 15, 13⟩ [⟨0, 12, 19, 15⟩] (hT.trans rfl) (fun z hz => nomatch hz) (by decide) (by decide) (hC.2.2.2.2.1 _ lkC_L_13) (va_Nw.use rfl (hC.2.2.2.2.2.2.1.2.2.2.1 _ cast_0)) e1 e2 e3 ?_
      refine lv_astore (lv' := [(5, .ref q9), (0, .ref a0), (1, .int a1), (2, .int a2), (3, .int a3), (4, .ref a4)]) hx hb dL_random_15 hl (Nat.le_of_ble_eq_true rfl) rfl (fun ls hl => ?_)
      refine lv_iconst (v := 1) hx hb dL_random_17 (by decide) ?_
      first | (obtain ⟨rfl, rfl⟩ := sp_inv hf) | (obtain rfl := Option.some.inj hf)
      refine W.widen (k := 3) (n := 18) (Nat.le_of_ble_eq_true rfl) (Nat.le_of_ble_eq_true rfl) ?_
      exact W.iret hx hb hr (z_ret hw rfl) hw.2.2.2.2.2 dL_random_18 hC.2.2.2.2.2.1
    · rw [if_neg hk0] at hf
      by_cases hk1 : k9 = 1
      · rw [if_pos hk1] at hf
        subst hk1
        refine vx_catch (name := exN 1) hC.2.2.2.1 [⟨0, 12, 15, 13⟩] ⟨0, 12, 19, 15⟩ [] (hT.trans rfl) (catch1 (hC.2.2.2.2.1 _ lkC_L_13) hC.2.2.2.2.2.2.1.2.2.2.2.2.2.1) (by decide) (by decide) (hC.2.2.2.2.1 _ lkC_L_15) (va_Nw.use rfl (hC.2.2.2.2.2.2.1.2.2.2.1 _ cast_1)) e1 e2 e3 ?_
        refine lv_astore (lv' := [(5, .ref q9), (0, .ref a0), (1, .int a1), (2, .int a2), (3, .int a3), (4, .ref a4)]) hx hb dL_random_19 hl (Nat.le_of_ble_eq_true rfl) rfl (fun ls hl => ?_)
        refine lv_iconst (v := 2) hx hb dL_random_21 (by decide) ?_
        first | (obtain ⟨rfl, rfl⟩ := sp_inv hf) | (obtain rfl := Option.some.inj hf)
        refine W.widen (k := 3) (n := 18) (Nat.le_of_ble_eq_true rfl) (Nat.le_of_ble_eq_true rfl) ?_
        exact W.iret hx hb hr (z_ret hw rfl) hw.2.2.2.2.2 dL_random_22 hC.2.2.2.2.2.1
      · rw [if_neg hk1] at hf
        cases hf
set_option maxHeartbeats 4000000 in
set_option maxRecDepth 100000 in
theorem m_L_states (h9 : l.stackTraces = false) {Γ : zSh} {a0 : Nat} {a1 : Int32} {a2 : Nat} {σ : zSt} {r : Int32} {σ2 : zSt} (hf : f_L_states Γ a0 a1 a2 σ = some (r, σ2)) : Met l yL_states (wqT yL_states cL_states 4 (Option.some FieldType.int) [((0 : Nat), (9 : Nat), (12 : Nat), (13 : Nat))]) rm_L_states (zQ0 D cA B0 [.ref a0, .int a1, .ref a2] Γ σ (ZB B0)) (zQ1 D cA B0 (some (.int r)) Γ σ2 (ZB B0)) 1 6 (FR B0) := by
  refine z_ofWT h9 (by decide) (Nat.le_of_ble_eq_true rfl) ?_
  intro p e s m args below meth c ls hC hr hT hw hl
  have hx := hC.1
  have hb := hC.2.1
  have hl : lv_has ls 4 [(0, .ref a0), (1, .int a1), (2, .ref a2)] := hl
  unfold f_L_states at hf
  refine lv_aload_n hx hb dL_states_0 rfl (lv_at hl 2 rfl) ?_
  refine lv_iconst (v := 0) hx hb dL_states_1 (by decide) ?_
  refine lv_aload_n hx hb dL_states_2 rfl (lv_at hl 0 rfl) ?_
  refine lv_iload_n hx hb dL_states_3 rfl (lv_at hl 1 rfl) ?_
  obtain ⟨ho, hf⟩ := chk_inv hf
  obtain ⟨q, hk, hn, hxx⟩ := xcat_inv hf
  refine z_xcallV (As := [.int a1]) (rest := [.int 0, .ref a2]) (m_X6_states hC.2.2.2.2.2.2.2.2 hk) hC hw wd_X6_states lkM_L_29 (isO_sh ho) rfl rfl ⟨rfl, rfl⟩ ⟨(Nat.le_of_ble_eq_true rfl), (Nat.le_of_ble_eq_true rfl)⟩ hl.1 rfl (Nat.le_of_ble_eq_true rfl) dL_states_4 ⟨(Nat.le_of_ble_eq_true rfl), (Nat.le_of_ble_eq_true rfl)⟩ (fun r2 σ1 eq H locs hw => ?_) (fun k9 s9 eq H locs q9 ce9 hw e1 e2 e3 => ?_)
  · have hf := hn _ _ eq
    refine lv_i2l hx hb dL_states_7 rfl ?_
    obtain ⟨σ3, hg, hf⟩ := stL_inv hf
    refine r_stL hC hw hg dL_states_8 (fun H locs hw => ?_)
    refine lv_goto (tgt := 15) hx hb dL_states_9 (by decide) ?_
    refine lv_iconst (v := 0) hx hb dL_states_15 (by decide) ?_
    first | (obtain ⟨rfl, rfl⟩ := sp_inv hf) | (obtain rfl := Option.some.inj hf)
    refine W.widen (k := 1) (n := 6) (Nat.le_of_ble_eq_true rfl) (Nat.le_of_ble_eq_true rfl) ?_
    exact W.iret hx hb hr (z_ret hw rfl) hw.2.2.2.2.2 dL_states_16 hC.2.2.2.2.2.1
  · have hf := hxx _ _ eq
    by_cases hk0 : k9 = 0
    · rw [if_pos hk0] at hf
      subst hk0
      refine vx_catch (name := exN 0) hC.2.2.2.1 [] ⟨0, 9, 12, 13⟩ [] (hT.trans rfl) (fun z hz => nomatch hz) (by decide) (by decide) (hC.2.2.2.2.1 _ lkC_L_13) (va_Nw.use rfl (hC.2.2.2.2.2.2.1.2.2.2.1 _ cast_0)) e1 e2 e3 ?_
      refine lv_astore_n (lv' := [(3, .ref q9), (0, .ref a0), (1, .int a1), (2, .ref a2)]) hx hb dL_states_12 rfl hl (Nat.le_of_ble_eq_true rfl) rfl (fun ls hl => ?_)
      refine lv_iconst (v := 1) hx hb dL_states_13 (by decide) ?_
      first | (obtain ⟨rfl, rfl⟩ := sp_inv hf) | (obtain rfl := Option.some.inj hf)
      refine W.widen (k := 1) (n := 6) (Nat.le_of_ble_eq_true rfl) (Nat.le_of_ble_eq_true rfl) ?_
      exact W.iret hx hb hr (z_ret hw rfl) hw.2.2.2.2.2 dL_states_14 hC.2.2.2.2.2.1
    · rw [if_neg hk0] at hf
      cases hf
set_option maxHeartbeats 4000000 in
set_option maxRecDepth 100000 in
theorem m_L_end (h9 : l.stackTraces = false) {Γ : zSh} {a0 : Nat} {a1 : Int32} {a2 : Int32} {a3 : Int32} {a4 : Nat} {σ : zSt} {r : Int32} {σ2 : zSt} (hf : f_L_end Γ a0 a1 a2 a3 a4 σ = some (r, σ2)) : Met l yL_end (wqT yL_end cL_end 6 (Option.some FieldType.int) [((0 : Nat), (12 : Nat), (15 : Nat), (13 : Nat))]) rm_L_end (zQ0 D cA B0 [.ref a0, .int a1, .int a2, .int a3, .ref a4] Γ σ (ZB B0)) (zQ1 D cA B0 (some (.int r)) Γ σ2 (ZB B0)) 2 12 (FR B0) := by
  refine z_ofWT h9 (by decide) (Nat.le_of_ble_eq_true rfl) ?_
  intro p e s m args below meth c ls hC hr hT hw hl
  have hx := hC.1
  have hb := hC.2.1
  have hl : lv_has ls 6 [(0, .ref a0), (1, .int a1), (2, .int a2), (3, .int a3), (4, .ref a4)] := hl
  unfold f_L_end at hf
  refine lv_aload hx hb dL_end_0 (lv_at hl 4 rfl) ?_
  refine lv_iconst (v := 0) hx hb dL_end_2 (by decide) ?_
  refine lv_aload_n hx hb dL_end_3 rfl (lv_at hl 0 rfl) ?_
  refine lv_iload_n hx hb dL_end_4 rfl (lv_at hl 1 rfl) ?_
  refine lv_iload_n hx hb dL_end_5 rfl (lv_at hl 2 rfl) ?_
  refine lv_iload_n hx hb dL_end_6 rfl (lv_at hl 3 rfl) ?_
  obtain ⟨ho, hf⟩ := chk_inv hf
  obtain ⟨q, hk, hn, hxx⟩ := xcat_inv hf
  refine z_xcallV (As := [.int a1, .int a2, .int a3]) (rest := [.int 0, .ref a4]) (m_X6_end hC.2.2.2.2.2.2.2.2 hk) hC hw wd_X6_end lkM_L_33 (isO_sh ho) rfl rfl ⟨rfl, rfl⟩ ⟨(Nat.le_of_ble_eq_true rfl), (Nat.le_of_ble_eq_true rfl)⟩ hl.1 rfl (Nat.le_of_ble_eq_true rfl) dL_end_7 ⟨(Nat.le_of_ble_eq_true rfl), (Nat.le_of_ble_eq_true rfl)⟩ (fun r2 σ1 eq H locs hw => ?_) (fun k9 s9 eq H locs q9 ce9 hw e1 e2 e3 => ?_)
  · have hf := hn _ _ eq
    refine lv_i2l hx hb dL_end_10 rfl ?_
    obtain ⟨σ3, hg, hf⟩ := stL_inv hf
    refine r_stL hC hw hg dL_end_11 (fun H locs hw => ?_)
    refine lv_goto (tgt := 19) hx hb dL_end_12 (by decide) ?_
    refine lv_iconst (v := 0) hx hb dL_end_19 (by decide) ?_
    first | (obtain ⟨rfl, rfl⟩ := sp_inv hf) | (obtain rfl := Option.some.inj hf)
    refine W.widen (k := 2) (n := 12) (Nat.le_of_ble_eq_true rfl) (Nat.le_of_ble_eq_true rfl) ?_
    exact W.iret hx hb hr (z_ret hw rfl) hw.2.2.2.2.2 dL_end_20 hC.2.2.2.2.2.1
  · have hf := hxx _ _ eq
    by_cases hk0 : k9 = 0
    · rw [if_pos hk0] at hf
      subst hk0
      refine vx_catch (name := exN 0) hC.2.2.2.1 [] ⟨0, 12, 15, 13⟩ [] (hT.trans rfl) (fun z hz => nomatch hz) (by decide) (by decide) (hC.2.2.2.2.1 _ lkC_L_13) (va_Nw.use rfl (hC.2.2.2.2.2.2.1.2.2.2.1 _ cast_0)) e1 e2 e3 ?_
      refine lv_astore (lv' := [(5, .ref q9), (0, .ref a0), (1, .int a1), (2, .int a2), (3, .int a3), (4, .ref a4)]) hx hb dL_end_15 hl (Nat.le_of_ble_eq_true rfl) rfl (fun ls hl => ?_)
      refine lv_iconst (v := 1) hx hb dL_end_17 (by decide) ?_
      first | (obtain ⟨rfl, rfl⟩ := sp_inv hf) | (obtain rfl := Option.some.inj hf)
      refine W.widen (k := 2) (n := 12) (Nat.le_of_ble_eq_true rfl) (Nat.le_of_ble_eq_true rfl) ?_
      exact W.iret hx hb hr (z_ret hw rfl) hw.2.2.2.2.2 dL_end_18 hC.2.2.2.2.2.1
    · rw [if_neg hk0] at hf
      cases hf
set_option maxHeartbeats 4000000 in
set_option maxRecDepth 100000 in
theorem m_L_step (h9 : l.stackTraces = false) {Γ : zSh} {a0 : Nat} {a1 : Int32} {a2 : Int32} {a3 : Int32} {a4 : Int32} {a5 : Nat} {σ : zSt} {r : Int32} {σ2 : zSt} (hf : f_L_step Γ a0 a1 a2 a3 a4 a5 σ = some (r, σ2)) : Met l yL_step (wqT yL_step cL_step 7 (Option.some FieldType.int) [((0 : Nat), (14 : Nat), (17 : Nat), (13 : Nat))]) rm_L_step (zQ0 D cA B0 [.ref a0, .int a1, .int a2, .int a3, .int a4, .ref a5] Γ σ (ZB B0)) (zQ1 D cA B0 (some (.int r)) Γ σ2 (ZB B0)) 3 18 (FR B0) := by
  refine z_ofWT h9 (by decide) (Nat.le_of_ble_eq_true rfl) ?_
  intro p e s m args below meth c ls hC hr hT hw hl
  have hx := hC.1
  have hb := hC.2.1
  have hl : lv_has ls 7 [(0, .ref a0), (1, .int a1), (2, .int a2), (3, .int a3), (4, .int a4), (5, .ref a5)] := hl
  unfold f_L_step at hf
  refine lv_aload hx hb dL_step_0 (lv_at hl 5 rfl) ?_
  refine lv_iconst (v := 0) hx hb dL_step_2 (by decide) ?_
  refine lv_aload_n hx hb dL_step_3 rfl (lv_at hl 0 rfl) ?_
  refine lv_iload_n hx hb dL_step_4 rfl (lv_at hl 1 rfl) ?_
  refine lv_iload_n hx hb dL_step_5 rfl (lv_at hl 2 rfl) ?_
  refine lv_iload_n hx hb dL_step_6 rfl (lv_at hl 3 rfl) ?_
  refine lv_iload hx hb dL_step_7 (lv_at hl 4 rfl) ?_
  obtain ⟨ho, hf⟩ := chk_inv hf
  obtain ⟨q, hk, hn, hxx⟩ := xcat_inv hf
  refine z_xcallV (As := [.int a1, .int a2, .int a3, .int a4]) (rest := [.int 0, .ref a5]) (m_X6_step hC.2.2.2.2.2.2.2.2 hk) hC hw wd_X6_step lkM_L_37 (isO_sh ho) rfl rfl ⟨rfl, rfl⟩ ⟨(Nat.le_of_ble_eq_true rfl), (Nat.le_of_ble_eq_true rfl)⟩ hl.1 rfl (Nat.le_of_ble_eq_true rfl) dL_step_9 ⟨(Nat.le_of_ble_eq_true rfl), (Nat.le_of_ble_eq_true rfl)⟩ (fun r2 σ1 eq H locs hw => ?_) (fun k9 s9 eq H locs q9 ce9 hw e1 e2 e3 => ?_)
  · have hf := hn _ _ eq
    refine lv_i2l hx hb dL_step_12 rfl ?_
    obtain ⟨σ3, hg, hf⟩ := stL_inv hf
    refine r_stL hC hw hg dL_step_13 (fun H locs hw => ?_)
    refine lv_goto (tgt := 21) hx hb dL_step_14 (by decide) ?_
    refine lv_iconst (v := 0) hx hb dL_step_21 (by decide) ?_
    first | (obtain ⟨rfl, rfl⟩ := sp_inv hf) | (obtain rfl := Option.some.inj hf)
    refine W.widen (k := 3) (n := 18) (Nat.le_of_ble_eq_true rfl) (Nat.le_of_ble_eq_true rfl) ?_
    exact W.iret hx hb hr (z_ret hw rfl) hw.2.2.2.2.2 dL_step_22 hC.2.2.2.2.2.1
  · have hf := hxx _ _ eq
    by_cases hk0 : k9 = 0
    · rw [if_pos hk0] at hf
      subst hk0
      refine vx_catch (name := exN 0) hC.2.2.2.1 [] ⟨0, 14, 17, 13⟩ [] (hT.trans rfl) (fun z hz => nomatch hz) (by decide) (by decide) (hC.2.2.2.2.1 _ lkC_L_13) (va_Nw.use rfl (hC.2.2.2.2.2.2.1.2.2.2.1 _ cast_0)) e1 e2 e3 ?_
      refine lv_astore (lv' := [(6, .ref q9), (0, .ref a0), (1, .int a1), (2, .int a2), (3, .int a3), (4, .int a4), (5, .ref a5)]) hx hb dL_step_17 hl (Nat.le_of_ble_eq_true rfl) rfl (fun ls hl => ?_)
      refine lv_iconst (v := 1) hx hb dL_step_19 (by decide) ?_
      first | (obtain ⟨rfl, rfl⟩ := sp_inv hf) | (obtain rfl := Option.some.inj hf)
      refine W.widen (k := 3) (n := 18) (Nat.le_of_ble_eq_true rfl) (Nat.le_of_ble_eq_true rfl) ?_
      exact W.iret hx hb hr (z_ret hw rfl) hw.2.2.2.2.2 dL_step_20 hC.2.2.2.2.2.1
    · rw [if_neg hk0] at hf
      cases hf
set_option maxHeartbeats 4000000 in
set_option maxRecDepth 100000 in
theorem m_L_weight (h9 : l.stackTraces = false) {Γ : zSh} {a0 : Nat} {a1 : Int32} {a2 : Int32} {a3 : Nat} {σ : zSt} {r : Int32} {σ2 : zSt} (hf : f_L_weight Γ a0 a1 a2 a3 σ = some (r, σ2)) : Met l yL_weight (wqT yL_weight cL_weight 5 (Option.some FieldType.int) [((0 : Nat), (10 : Nat), (13 : Nat), (13 : Nat)), ((0 : Nat), (10 : Nat), (17 : Nat), (15 : Nat))]) rm_L_weight (zQ0 D cA B0 [.ref a0, .int a1, .int a2, .ref a3] Γ σ (ZB B0)) (zQ1 D cA B0 (some (.int r)) Γ σ2 (ZB B0)) 2 12 (FR B0) := by
  refine z_ofWT h9 (by decide) (Nat.le_of_ble_eq_true rfl) ?_
  intro p e s m args below meth c ls hC hr hT hw hl
  have hx := hC.1
  have hb := hC.2.1
  have hl : lv_has ls 5 [(0, .ref a0), (1, .int a1), (2, .int a2), (3, .ref a3)] := hl
  unfold f_L_weight at hf
  refine lv_aload_n hx hb dL_weight_0 rfl (lv_at hl 3 rfl) ?_
  refine lv_iconst (v := 0) hx hb dL_weight_1 (by decide) ?_
  refine lv_aload_n hx hb dL_weight_2 rfl (lv_at hl 0 rfl) ?_
  refine lv_iload_n hx hb dL_weight_3 rfl (lv_at hl 1 rfl) ?_
  refine lv_iload_n hx hb dL_weight_4 rfl (lv_at hl 2 rfl) ?_
  obtain ⟨ho, hf⟩ := chk_inv hf
  obtain ⟨q, hk, hn, hxx⟩ := xcat_inv hf
  refine z_xcallV (As := [.int a1, .int a2]) (rest := [.int 0, .ref a3]) (m_X6_weight hC.2.2.2.2.2.2.2.2 hk) hC hw wd_X6_weight lkM_L_41 (isO_sh ho) rfl rfl ⟨rfl, rfl⟩ ⟨(Nat.le_of_ble_eq_true rfl), (Nat.le_of_ble_eq_true rfl)⟩ hl.1 rfl (Nat.le_of_ble_eq_true rfl) dL_weight_5 ⟨(Nat.le_of_ble_eq_true rfl), (Nat.le_of_ble_eq_true rfl)⟩ (fun r2 σ1 eq H locs hw => ?_) (fun k9 s9 eq H locs q9 ce9 hw e1 e2 e3 => ?_)
  · have hf := hn _ _ eq
    refine lv_i2l hx hb dL_weight_8 rfl ?_
    obtain ⟨σ3, hg, hf⟩ := stL_inv hf
    refine r_stL hC hw hg dL_weight_9 (fun H locs hw => ?_)
    refine lv_goto (tgt := 21) hx hb dL_weight_10 (by decide) ?_
    refine lv_iconst (v := 0) hx hb dL_weight_21 (by decide) ?_
    first | (obtain ⟨rfl, rfl⟩ := sp_inv hf) | (obtain rfl := Option.some.inj hf)
    refine W.widen (k := 2) (n := 12) (Nat.le_of_ble_eq_true rfl) (Nat.le_of_ble_eq_true rfl) ?_
    exact W.iret hx hb hr (z_ret hw rfl) hw.2.2.2.2.2 dL_weight_22 hC.2.2.2.2.2.1
  · have hf := hxx _ _ eq
    by_cases hk0 : k9 = 0
    · rw [if_pos hk0] at hf
      subst hk0
      refine vx_catch (name := exN 0) hC.2.2.2.1 [] ⟨0, 10, 13, 13⟩ [⟨0, 10, 17, 15⟩] (hT.trans rfl) (fun z hz => nomatch hz) (by decide) (by decide) (hC.2.2.2.2.1 _ lkC_L_13) (va_Nw.use rfl (hC.2.2.2.2.2.2.1.2.2.2.1 _ cast_0)) e1 e2 e3 ?_
      refine lv_astore (lv' := [(4, .ref q9), (0, .ref a0), (1, .int a1), (2, .int a2), (3, .ref a3)]) hx hb dL_weight_13 hl (Nat.le_of_ble_eq_true rfl) rfl (fun ls hl => ?_)
      refine lv_iconst (v := 1) hx hb dL_weight_15 (by decide) ?_
      first | (obtain ⟨rfl, rfl⟩ := sp_inv hf) | (obtain rfl := Option.some.inj hf)
      refine W.widen (k := 2) (n := 12) (Nat.le_of_ble_eq_true rfl) (Nat.le_of_ble_eq_true rfl) ?_
      exact W.iret hx hb hr (z_ret hw rfl) hw.2.2.2.2.2 dL_weight_16 hC.2.2.2.2.2.1
    · rw [if_neg hk0] at hf
      by_cases hk1 : k9 = 1
      · rw [if_pos hk1] at hf
        subst hk1
        refine vx_catch (name := exN 1) hC.2.2.2.1 [⟨0, 10, 13, 13⟩] ⟨0, 10, 17, 15⟩ [] (hT.trans rfl) (catch1 (hC.2.2.2.2.1 _ lkC_L_13) hC.2.2.2.2.2.2.1.2.2.2.2.2.2.1) (by decide) (by decide) (hC.2.2.2.2.1 _ lkC_L_15) (va_Nw.use rfl (hC.2.2.2.2.2.2.1.2.2.2.1 _ cast_1)) e1 e2 e3 ?_
        refine lv_astore (lv' := [(4, .ref q9), (0, .ref a0), (1, .int a1), (2, .int a2), (3, .ref a3)]) hx hb dL_weight_17 hl (Nat.le_of_ble_eq_true rfl) rfl (fun ls hl => ?_)
        refine lv_iconst (v := 2) hx hb dL_weight_19 (by decide) ?_
        first | (obtain ⟨rfl, rfl⟩ := sp_inv hf) | (obtain rfl := Option.some.inj hf)
        refine W.widen (k := 2) (n := 12) (Nat.le_of_ble_eq_true rfl) (Nat.le_of_ble_eq_true rfl) ?_
        exact W.iret hx hb hr (z_ret hw rfl) hw.2.2.2.2.2 dL_weight_20 hC.2.2.2.2.2.1
      · rw [if_neg hk1] at hf
        cases hf
set_option maxHeartbeats 4000000 in
set_option maxRecDepth 100000 in
theorem m_L_powerWeight (h9 : l.stackTraces = false) {Γ : zSh} {a0 : Nat} {a1 : Int32} {a2 : Int32} {a3 : Int32} {a4 : Nat} {σ : zSt} {r : Int32} {σ2 : zSt} (hf : f_L_powerWeight Γ a0 a1 a2 a3 a4 σ = some (r, σ2)) : Met l yL_powerWeight (wqT yL_powerWeight cL_powerWeight 6 (Option.some FieldType.int) [((0 : Nat), (12 : Nat), (15 : Nat), (13 : Nat)), ((0 : Nat), (12 : Nat), (19 : Nat), (15 : Nat))]) rm_L_powerWeight (zQ0 D cA B0 [.ref a0, .int a1, .int a2, .int a3, .ref a4] Γ σ (ZB B0)) (zQ1 D cA B0 (some (.int r)) Γ σ2 (ZB B0)) 3 18 (FR B0) := by
  refine z_ofWT h9 (by decide) (Nat.le_of_ble_eq_true rfl) ?_
  intro p e s m args below meth c ls hC hr hT hw hl
  have hx := hC.1
  have hb := hC.2.1
  have hl : lv_has ls 6 [(0, .ref a0), (1, .int a1), (2, .int a2), (3, .int a3), (4, .ref a4)] := hl
  unfold f_L_powerWeight at hf
  refine lv_aload hx hb dL_powerWeight_0 (lv_at hl 4 rfl) ?_
  refine lv_iconst (v := 0) hx hb dL_powerWeight_2 (by decide) ?_
  refine lv_aload_n hx hb dL_powerWeight_3 rfl (lv_at hl 0 rfl) ?_
  refine lv_iload_n hx hb dL_powerWeight_4 rfl (lv_at hl 1 rfl) ?_
  refine lv_iload_n hx hb dL_powerWeight_5 rfl (lv_at hl 2 rfl) ?_
  refine lv_iload_n hx hb dL_powerWeight_6 rfl (lv_at hl 3 rfl) ?_
  obtain ⟨ho, hf⟩ := chk_inv hf
  obtain ⟨q, hk, hn, hxx⟩ := xcat_inv hf
  refine z_xcallV (As := [.int a1, .int a2, .int a3]) (rest := [.int 0, .ref a4]) (m_X6_powerWeight hC.2.2.2.2.2.2.2.2 hk) hC hw wd_X6_powerWeight lkM_L_44 (isO_sh ho) rfl rfl ⟨rfl, rfl⟩ ⟨(Nat.le_of_ble_eq_true rfl), (Nat.le_of_ble_eq_true rfl)⟩ hl.1 rfl (Nat.le_of_ble_eq_true rfl) dL_powerWeight_7 ⟨(Nat.le_of_ble_eq_true rfl), (Nat.le_of_ble_eq_true rfl)⟩ (fun r2 σ1 eq H locs hw => ?_) (fun k9 s9 eq H locs q9 ce9 hw e1 e2 e3 => ?_)
  · have hf := hn _ _ eq
    refine lv_i2l hx hb dL_powerWeight_10 rfl ?_
    obtain ⟨σ3, hg, hf⟩ := stL_inv hf
    refine r_stL hC hw hg dL_powerWeight_11 (fun H locs hw => ?_)
    refine lv_goto (tgt := 23) hx hb dL_powerWeight_12 (by decide) ?_
    refine lv_iconst (v := 0) hx hb dL_powerWeight_23 (by decide) ?_
    first | (obtain ⟨rfl, rfl⟩ := sp_inv hf) | (obtain rfl := Option.some.inj hf)
    refine W.widen (k := 3) (n := 18) (Nat.le_of_ble_eq_true rfl) (Nat.le_of_ble_eq_true rfl) ?_
    exact W.iret hx hb hr (z_ret hw rfl) hw.2.2.2.2.2 dL_powerWeight_24 hC.2.2.2.2.2.1
  · have hf := hxx _ _ eq
    by_cases hk0 : k9 = 0
    · rw [if_pos hk0] at hf
      subst hk0
      refine vx_catch (name := exN 0) hC.2.2.2.1 [] ⟨0, 12, 15, 13⟩ [⟨0, 12, 19, 15⟩] (hT.trans rfl) (fun z hz => nomatch hz) (by decide) (by decide) (hC.2.2.2.2.1 _ lkC_L_13) (va_Nw.use rfl (hC.2.2.2.2.2.2.1.2.2.2.1 _ cast_0)) e1 e2 e3 ?_
      refine lv_astore (lv' := [(5, .ref q9), (0, .ref a0), (1, .int a1), (2, .int a2), (3, .int a3), (4, .ref a4)]) hx hb dL_powerWeight_15 hl (Nat.le_of_ble_eq_true rfl) rfl (fun ls hl => ?_)
      refine lv_iconst (v := 1) hx hb dL_powerWeight_17 (by decide) ?_
      first | (obtain ⟨rfl, rfl⟩ := sp_inv hf) | (obtain rfl := Option.some.inj hf)
      refine W.widen (k := 3) (n := 18) (Nat.le_of_ble_eq_true rfl) (Nat.le_of_ble_eq_true rfl) ?_
      exact W.iret hx hb hr (z_ret hw rfl) hw.2.2.2.2.2 dL_powerWeight_18 hC.2.2.2.2.2.1
    · rw [if_neg hk0] at hf
      by_cases hk1 : k9 = 1
      · rw [if_pos hk1] at hf
        subst hk1
        refine vx_catch (name := exN 1) hC.2.2.2.1 [⟨0, 12, 15, 13⟩] ⟨0, 12, 19, 15⟩ [] (hT.trans rfl) (catch1 (hC.2.2.2.2.1 _ lkC_L_13) hC.2.2.2.2.2.2.1.2.2.2.2.2.2.1) (by decide) (by decide) (hC.2.2.2.2.1 _ lkC_L_15) (va_Nw.use rfl (hC.2.2.2.2.2.2.1.2.2.2.1 _ cast_1)) e1 e2 e3 ?_
        refine lv_astore (lv' := [(5, .ref q9), (0, .ref a0), (1, .int a1), (2, .int a2), (3, .int a3), (4, .ref a4)]) hx hb dL_powerWeight_19 hl (Nat.le_of_ble_eq_true rfl) rfl (fun ls hl => ?_)
        refine lv_iconst (v := 2) hx hb dL_powerWeight_21 (by decide) ?_
        first | (obtain ⟨rfl, rfl⟩ := sp_inv hf) | (obtain rfl := Option.some.inj hf)
        refine W.widen (k := 3) (n := 18) (Nat.le_of_ble_eq_true rfl) (Nat.le_of_ble_eq_true rfl) ?_
        exact W.iret hx hb hr (z_ret hw rfl) hw.2.2.2.2.2 dL_powerWeight_22 hC.2.2.2.2.2.1
      · rw [if_neg hk1] at hf
        cases hf
set_option maxHeartbeats 4000000 in
set_option maxRecDepth 100000 in
theorem m_L_total (h9 : l.stackTraces = false) {Γ : zSh} {a0 : Nat} {a1 : Int32} {a2 : Int32} {a3 : Nat} {σ : zSt} {r : Int32} {σ2 : zSt} (hf : f_L_total Γ a0 a1 a2 a3 σ = some (r, σ2)) : Met l yL_total (wqT yL_total cL_total 5 (Option.some FieldType.int) [((0 : Nat), (10 : Nat), (13 : Nat), (13 : Nat)), ((0 : Nat), (10 : Nat), (17 : Nat), (15 : Nat))]) rm_L_total (zQ0 D cA B0 [.ref a0, .int a1, .int a2, .ref a3] Γ σ (ZB B0)) (zQ1 D cA B0 (some (.int r)) Γ σ2 (ZB B0)) 2 12 (FR B0) := by
  refine z_ofWT h9 (by decide) (Nat.le_of_ble_eq_true rfl) ?_
  intro p e s m args below meth c ls hC hr hT hw hl
  have hx := hC.1
  have hb := hC.2.1
  have hl : lv_has ls 5 [(0, .ref a0), (1, .int a1), (2, .int a2), (3, .ref a3)] := hl
  unfold f_L_total at hf
  refine lv_aload_n hx hb dL_total_0 rfl (lv_at hl 3 rfl) ?_
  refine lv_iconst (v := 0) hx hb dL_total_1 (by decide) ?_
  refine lv_aload_n hx hb dL_total_2 rfl (lv_at hl 0 rfl) ?_
  refine lv_iload_n hx hb dL_total_3 rfl (lv_at hl 1 rfl) ?_
  refine lv_iload_n hx hb dL_total_4 rfl (lv_at hl 2 rfl) ?_
  obtain ⟨ho, hf⟩ := chk_inv hf
  obtain ⟨q, hk, hn, hxx⟩ := xcat_inv hf
  refine z_xcallV (As := [.int a1, .int a2]) (rest := [.int 0, .ref a3]) (m_X6_total hC.2.2.2.2.2.2.2.2 hk) hC hw wd_X6_total lkM_L_47 (isO_sh ho) rfl rfl ⟨rfl, rfl⟩ ⟨(Nat.le_of_ble_eq_true rfl), (Nat.le_of_ble_eq_true rfl)⟩ hl.1 rfl (Nat.le_of_ble_eq_true rfl) dL_total_5 ⟨(Nat.le_of_ble_eq_true rfl), (Nat.le_of_ble_eq_true rfl)⟩ (fun r2 σ1 eq H locs hw => ?_) (fun k9 s9 eq H locs q9 ce9 hw e1 e2 e3 => ?_)
  · have hf := hn _ _ eq
    refine lv_i2l hx hb dL_total_8 rfl ?_
    obtain ⟨σ3, hg, hf⟩ := stL_inv hf
    refine r_stL hC hw hg dL_total_9 (fun H locs hw => ?_)
    refine lv_goto (tgt := 21) hx hb dL_total_10 (by decide) ?_
    refine lv_iconst (v := 0) hx hb dL_total_21 (by decide) ?_
    first | (obtain ⟨rfl, rfl⟩ := sp_inv hf) | (obtain rfl := Option.some.inj hf)
    refine W.widen (k := 2) (n := 12) (Nat.le_of_ble_eq_true rfl) (Nat.le_of_ble_eq_true rfl) ?_
    exact W.iret hx hb hr (z_ret hw rfl) hw.2.2.2.2.2 dL_total_22 hC.2.2.2.2.2.1
  · have hf := hxx _ _ eq
    by_cases hk0 : k9 = 0
    · rw [if_pos hk0] at hf
      subst hk0
      refine vx_catch (name := exN 0) hC.2.2.2.1 [] ⟨0, 10, 13, 13⟩ [⟨0, 10, 17, 15⟩] (hT.trans rfl) (fun z hz => nomatch hz) (by decide) (by decide) (hC.2.2.2.2.1 _ lkC_L_13) (va_Nw.use rfl (hC.2.2.2.2.2.2.1.2.2.2.1 _ cast_0)) e1 e2 e3 ?_
      refine lv_astore (lv' := [(4, .ref q9), (0, .ref a0), (1, .int a1), (2, .int a2), (3, .ref a3)]) hx hb dL_total_13 hl (Nat.le_of_ble_eq_true rfl) rfl (fun ls hl => ?_)
      refine lv_iconst (v := 1) hx hb dL_total_15 (by decide) ?_
      first | (obtain ⟨rfl, rfl⟩ := sp_inv hf) | (obtain rfl := Option.some.inj hf)
      refine W.widen (k := 2) (n := 12) (Nat.le_of_ble_eq_true rfl) (Nat.le_of_ble_eq_true rfl) ?_
      exact W.iret hx hb hr (z_ret hw rfl) hw.2.2.2.2.2 dL_total_16 hC.2.2.2.2.2.1
    · rw [if_neg hk0] at hf
      by_cases hk1 : k9 = 1
      · rw [if_pos hk1] at hf
        subst hk1
        refine vx_catch (name := exN 1) hC.2.2.2.1 [⟨0, 10, 13, 13⟩] ⟨0, 10, 17, 15⟩ [] (hT.trans rfl) (catch1 (hC.2.2.2.2.1 _ lkC_L_13) hC.2.2.2.2.2.2.1.2.2.2.2.2.2.1) (by decide) (by decide) (hC.2.2.2.2.1 _ lkC_L_15) (va_Nw.use rfl (hC.2.2.2.2.2.2.1.2.2.2.1 _ cast_1)) e1 e2 e3 ?_
        refine lv_astore (lv' := [(4, .ref q9), (0, .ref a0), (1, .int a1), (2, .int a2), (3, .ref a3)]) hx hb dL_total_17 hl (Nat.le_of_ble_eq_true rfl) rfl (fun ls hl => ?_)
        refine lv_iconst (v := 2) hx hb dL_total_19 (by decide) ?_
        first | (obtain ⟨rfl, rfl⟩ := sp_inv hf) | (obtain rfl := Option.some.inj hf)
        refine W.widen (k := 2) (n := 12) (Nat.le_of_ble_eq_true rfl) (Nat.le_of_ble_eq_true rfl) ?_
        exact W.iret hx hb hr (z_ret hw rfl) hw.2.2.2.2.2 dL_total_20 hC.2.2.2.2.2.1
      · rw [if_neg hk1] at hf
        cases hf
set_option maxHeartbeats 4000000 in
set_option maxRecDepth 100000 in
theorem m_L_support (h9 : l.stackTraces = false) {Γ : zSh} {a0 : Nat} {a1 : Int32} {a2 : Int32} {a3 : Nat} {σ : zSt} {r : Int32} {σ2 : zSt} (hf : f_L_support Γ a0 a1 a2 a3 σ = some (r, σ2)) : Met l yL_support (wqT yL_support cL_support 5 (Option.some FieldType.int) [((0 : Nat), (10 : Nat), (13 : Nat), (13 : Nat)), ((0 : Nat), (10 : Nat), (17 : Nat), (15 : Nat))]) rm_L_support (zQ0 D cA B0 [.ref a0, .int a1, .int a2, .ref a3] Γ σ (ZB B0)) (zQ1 D cA B0 (some (.int r)) Γ σ2 (ZB B0)) 2 12 (FR B0) := by
  refine z_ofWT h9 (by decide) (Nat.le_of_ble_eq_true rfl) ?_
  intro p e s m args below meth c ls hC hr hT hw hl
  have hx := hC.1
  have hb := hC.2.1
  have hl : lv_has ls 5 [(0, .ref a0), (1, .int a1), (2, .int a2), (3, .ref a3)] := hl
  unfold f_L_support at hf
  refine lv_aload_n hx hb dL_support_0 rfl (lv_at hl 3 rfl) ?_
  refine lv_iconst (v := 0) hx hb dL_support_1 (by decide) ?_
  refine lv_aload_n hx hb dL_support_2 rfl (lv_at hl 0 rfl) ?_
  refine lv_iload_n hx hb dL_support_3 rfl (lv_at hl 1 rfl) ?_
  refine lv_iload_n hx hb dL_support_4 rfl (lv_at hl 2 rfl) ?_
  obtain ⟨ho, hf⟩ := chk_inv hf
  obtain ⟨q, hk, hn, hxx⟩ := xcat_inv hf
  refine z_xcallV (As := [.int a1, .int a2]) (rest := [.int 0, .ref a3]) (m_X6_support hC.2.2.2.2.2.2.2.2 hk) hC hw wd_X6_support lkM_L_50 (isO_sh ho) rfl rfl ⟨rfl, rfl⟩ ⟨(Nat.le_of_ble_eq_true rfl), (Nat.le_of_ble_eq_true rfl)⟩ hl.1 rfl (Nat.le_of_ble_eq_true rfl) dL_support_5 ⟨(Nat.le_of_ble_eq_true rfl), (Nat.le_of_ble_eq_true rfl)⟩ (fun r2 σ1 eq H locs hw => ?_) (fun k9 s9 eq H locs q9 ce9 hw e1 e2 e3 => ?_)
  · have hf := hn _ _ eq
    refine lv_i2l hx hb dL_support_8 rfl ?_
    obtain ⟨σ3, hg, hf⟩ := stL_inv hf
    refine r_stL hC hw hg dL_support_9 (fun H locs hw => ?_)
    refine lv_goto (tgt := 21) hx hb dL_support_10 (by decide) ?_
    refine lv_iconst (v := 0) hx hb dL_support_21 (by decide) ?_
    first | (obtain ⟨rfl, rfl⟩ := sp_inv hf) | (obtain rfl := Option.some.inj hf)
    refine W.widen (k := 2) (n := 12) (Nat.le_of_ble_eq_true rfl) (Nat.le_of_ble_eq_true rfl) ?_
    exact W.iret hx hb hr (z_ret hw rfl) hw.2.2.2.2.2 dL_support_22 hC.2.2.2.2.2.1
  · have hf := hxx _ _ eq
    by_cases hk0 : k9 = 0
    · rw [if_pos hk0] at hf
      subst hk0
      refine vx_catch (name := exN 0) hC.2.2.2.1 [] ⟨0, 10, 13, 13⟩ [⟨0, 10, 17, 15⟩] (hT.trans rfl) (fun z hz => nomatch hz) (by decide) (by decide) (hC.2.2.2.2.1 _ lkC_L_13) (va_Nw.use rfl (hC.2.2.2.2.2.2.1.2.2.2.1 _ cast_0)) e1 e2 e3 ?_
      refine lv_astore (lv' := [(4, .ref q9), (0, .ref a0), (1, .int a1), (2, .int a2), (3, .ref a3)]) hx hb dL_support_13 hl (Nat.le_of_ble_eq_true rfl) rfl (fun ls hl => ?_)
      refine lv_iconst (v := 1) hx hb dL_support_15 (by decide) ?_
      first | (obtain ⟨rfl, rfl⟩ := sp_inv hf) | (obtain rfl := Option.some.inj hf)
      refine W.widen (k := 2) (n := 12) (Nat.le_of_ble_eq_true rfl) (Nat.le_of_ble_eq_true rfl) ?_
      exact W.iret hx hb hr (z_ret hw rfl) hw.2.2.2.2.2 dL_support_16 hC.2.2.2.2.2.1
    · rw [if_neg hk0] at hf
      by_cases hk1 : k9 = 1
      · rw [if_pos hk1] at hf
        subst hk1
        refine vx_catch (name := exN 1) hC.2.2.2.1 [⟨0, 10, 13, 13⟩] ⟨0, 10, 17, 15⟩ [] (hT.trans rfl) (catch1 (hC.2.2.2.2.1 _ lkC_L_13) hC.2.2.2.2.2.2.1.2.2.2.2.2.2.1) (by decide) (by decide) (hC.2.2.2.2.1 _ lkC_L_15) (va_Nw.use rfl (hC.2.2.2.2.2.2.1.2.2.2.1 _ cast_1)) e1 e2 e3 ?_
        refine lv_astore (lv' := [(4, .ref q9), (0, .ref a0), (1, .int a1), (2, .int a2), (3, .ref a3)]) hx hb dL_support_17 hl (Nat.le_of_ble_eq_true rfl) rfl (fun ls hl => ?_)
        refine lv_iconst (v := 2) hx hb dL_support_19 (by decide) ?_
        first | (obtain ⟨rfl, rfl⟩ := sp_inv hf) | (obtain rfl := Option.some.inj hf)
        refine W.widen (k := 2) (n := 12) (Nat.le_of_ble_eq_true rfl) (Nat.le_of_ble_eq_true rfl) ?_
        exact W.iret hx hb hr (z_ret hw rfl) hw.2.2.2.2.2 dL_support_20 hC.2.2.2.2.2.1
      · rw [if_neg hk1] at hf
        cases hf
set_option maxHeartbeats 4000000 in
set_option maxRecDepth 100000 in
theorem m_L_first (h9 : l.stackTraces = false) {Γ : zSh} {a0 : Nat} {a1 : Int32} {a2 : Nat} {σ : zSt} {r : Int32} {σ2 : zSt} (hf : f_L_first Γ a0 a1 a2 σ = some (r, σ2)) : Met l yL_first (wqT yL_first cL_first 4 (Option.some FieldType.int) [((0 : Nat), (9 : Nat), (12 : Nat), (13 : Nat))]) rm_L_first (zQ0 D cA B0 [.ref a0, .int a1, .ref a2] Γ σ (ZB B0)) (zQ1 D cA B0 (some (.int r)) Γ σ2 (ZB B0)) 1 6 (FR B0) := by
  refine z_ofWT h9 (by decide) (Nat.le_of_ble_eq_true rfl) ?_
  intro p e s m args below meth c ls hC hr hT hw hl
  have hx := hC.1
  have hb := hC.2.1
  have hl : lv_has ls 4 [(0, .ref a0), (1, .int a1), (2, .ref a2)] := hl
  unfold f_L_first at hf
  refine lv_aload_n hx hb dL_first_0 rfl (lv_at hl 2 rfl) ?_
  refine lv_iconst (v := 0) hx hb dL_first_1 (by decide) ?_
  refine lv_aload_n hx hb dL_first_2 rfl (lv_at hl 0 rfl) ?_
  refine lv_iload_n hx hb dL_first_3 rfl (lv_at hl 1 rfl) ?_
  obtain ⟨ho, hf⟩ := chk_inv hf
  obtain ⟨q, hk, hn, hxx⟩ := xcat_inv hf
  refine z_xcallV (As := [.int a1]) (rest := [.int 0, .ref a2]) (m_X6_first hC.2.2.2.2.2.2.2.2 hk) hC hw wd_X6_first lkM_L_53 (isO_sh ho) rfl rfl ⟨rfl, rfl⟩ ⟨(Nat.le_of_ble_eq_true rfl), (Nat.le_of_ble_eq_true rfl)⟩ hl.1 rfl (Nat.le_of_ble_eq_true rfl) dL_first_4 ⟨(Nat.le_of_ble_eq_true rfl), (Nat.le_of_ble_eq_true rfl)⟩ (fun r2 σ1 eq H locs hw => ?_) (fun k9 s9 eq H locs q9 ce9 hw e1 e2 e3 => ?_)
  · have hf := hn _ _ eq
    refine lv_i2l hx hb dL_first_7 rfl ?_
    obtain ⟨σ3, hg, hf⟩ := stL_inv hf
    refine r_stL hC hw hg dL_first_8 (fun H locs hw => ?_)
    refine lv_goto (tgt := 15) hx hb dL_first_9 (by decide) ?_
    refine lv_iconst (v := 0) hx hb dL_first_15 (by decide) ?_
    first | (obtain ⟨rfl, rfl⟩ := sp_inv hf) | (obtain rfl := Option.some.inj hf)
    refine W.widen (k := 1) (n := 6) (Nat.le_of_ble_eq_true rfl) (Nat.le_of_ble_eq_true rfl) ?_
    exact W.iret hx hb hr (z_ret hw rfl) hw.2.2.2.2.2 dL_first_16 hC.2.2.2.2.2.1
  · have hf := hxx _ _ eq
    by_cases hk0 : k9 = 0
    · rw [if_pos hk0] at hf
      subst hk0
      refine vx_catch (name := exN 0) hC.2.2.2.1 [] ⟨0, 9, 12, 13⟩ [] (hT.trans rfl) (fun z hz => nomatch hz) (by decide) (by decide) (hC.2.2.2.2.1 _ lkC_L_13) (va_Nw.use rfl (hC.2.2.2.2.2.2.1.2.2.2.1 _ cast_0)) e1 e2 e3 ?_
      refine lv_astore_n (lv' := [(3, .ref q9), (0, .ref a0), (1, .int a1), (2, .ref a2)]) hx hb dL_first_12 rfl hl (Nat.le_of_ble_eq_true rfl) rfl (fun ls hl => ?_)
      refine lv_iconst (v := 1) hx hb dL_first_13 (by decide) ?_
      first | (obtain ⟨rfl, rfl⟩ := sp_inv hf) | (obtain rfl := Option.some.inj hf)
      refine W.widen (k := 1) (n := 6) (Nat.le_of_ble_eq_true rfl) (Nat.le_of_ble_eq_true rfl) ?_
      exact W.iret hx hb hr (z_ret hw rfl) hw.2.2.2.2.2 dL_first_14 hC.2.2.2.2.2.1
    · rw [if_neg hk0] at hf
      cases hf
set_option maxHeartbeats 4000000 in
set_option maxRecDepth 100000 in
theorem m_L_combine (h9 : l.stackTraces = false) {Γ : zSh} {a0 : Nat} {a1 : Int32} {a2 : Int32} {a3 : Int32} {a4 : Int32} {a5 : Nat} {σ : zSt} {r : Int32} {σ2 : zSt} (hf : f_L_combine Γ a0 a1 a2 a3 a4 a5 σ = some (r, σ2)) : Met l yL_combine (wqT yL_combine cL_combine 7 (Option.some FieldType.int) [((0 : Nat), (14 : Nat), (17 : Nat), (13 : Nat)), ((0 : Nat), (14 : Nat), (21 : Nat), (15 : Nat)), ((0 : Nat), (14 : Nat), (25 : Nat), (59 : Nat))]) rm_L_combine (zQ0 D cA B0 [.ref a0, .int a1, .int a2, .int a3, .int a4, .ref a5] Γ σ (ZB B0)) (zQ1 D cA B0 (some (.int r)) Γ σ2 (ZB B0)) 5 30 (FR B0) := by
  refine z_ofWT h9 (by decide) (Nat.le_of_ble_eq_true rfl) ?_
  intro p e s m args below meth c ls hC hr hT hw hl
  have hx := hC.1
  have hb := hC.2.1
  have hl : lv_has ls 7 [(0, .ref a0), (1, .int a1), (2, .int a2), (3, .int a3), (4, .int a4), (5, .ref a5)] := hl
  unfold f_L_combine at hf
  refine lv_aload hx hb dL_combine_0 (lv_at hl 5 rfl) ?_
  refine lv_iconst (v := 0) hx hb dL_combine_2 (by decide) ?_
  refine lv_aload_n hx hb dL_combine_3 rfl (lv_at hl 0 rfl) ?_
  refine lv_iload_n hx hb dL_combine_4 rfl (lv_at hl 1 rfl) ?_
  refine lv_iload_n hx hb dL_combine_5 rfl (lv_at hl 2 rfl) ?_
  refine lv_iload_n hx hb dL_combine_6 rfl (lv_at hl 3 rfl) ?_
  refine lv_iload hx hb dL_combine_7 (lv_at hl 4 rfl) ?_
  obtain ⟨ho, hf⟩ := chk_inv hf
  obtain ⟨q, hk, hn, hxx⟩ := xcat_inv hf
  refine z_xcallV (As := [.int a1, .int a2, .int a3, .int a4]) (rest := [.int 0, .ref a5]) (m_X6_combine hC.2.2.2.2.2.2.2.2 hk) hC hw wd_X6_combine lkM_L_56 (isO_sh ho) rfl rfl ⟨rfl, rfl⟩ ⟨(Nat.le_of_ble_eq_true rfl), (Nat.le_of_ble_eq_true rfl)⟩ hl.1 rfl (Nat.le_of_ble_eq_true rfl) dL_combine_9 ⟨(Nat.le_of_ble_eq_true rfl), (Nat.le_of_ble_eq_true rfl)⟩ (fun r2 σ1 eq H locs hw => ?_) (fun k9 s9 eq H locs q9 ce9 hw e1 e2 e3 => ?_)
  · have hf := hn _ _ eq
    refine lv_i2l hx hb dL_combine_12 rfl ?_
    obtain ⟨σ3, hg, hf⟩ := stL_inv hf
    refine r_stL hC hw hg dL_combine_13 (fun H locs hw => ?_)
    refine lv_goto (tgt := 29) hx hb dL_combine_14 (by decide) ?_
    refine lv_iconst (v := 0) hx hb dL_combine_29 (by decide) ?_
    first | (obtain ⟨rfl, rfl⟩ := sp_inv hf) | (obtain rfl := Option.some.inj hf)
    refine W.widen (k := 5) (n := 30) (Nat.le_of_ble_eq_true rfl) (Nat.le_of_ble_eq_true rfl) ?_
    exact W.iret hx hb hr (z_ret hw rfl) hw.2.2.2.2.2 dL_combine_30 hC.2.2.2.2.2.1
  · have hf := hxx _ _ eq
    by_cases hk0 : k9 = 0
    · rw [if_pos hk0] at hf
      subst hk0
      refine vx_catch (name := exN 0) hC.2.2.2.1 [] ⟨0, 14, 17, 13⟩ [⟨0, 14, 21, 15⟩, ⟨0, 14, 25, 59⟩] (hT.trans rfl) (fun z hz => nomatch hz) (by decide) (by decide) (hC.2.2.2.2.1 _ lkC_L_13) (va_Nw.use rfl (hC.2.2.2.2.2.2.1.2.2.2.1 _ cast_0)) e1 e2 e3 ?_
      refine lv_astore (lv' := [(6, .ref q9), (0, .ref a0), (1, .int a1), (2, .int a2), (3, .int a3), (4, .int a4), (5, .ref a5)]) hx hb dL_combine_17 hl (Nat.le_of_ble_eq_true rfl) rfl (fun ls hl => ?_)
      refine lv_iconst (v := 1) hx hb dL_combine_19 (by decide) ?_
      first | (obtain ⟨rfl, rfl⟩ := sp_inv hf) | (obtain rfl := Option.some.inj hf)
      refine W.widen (k := 5) (n := 30) (Nat.le_of_ble_eq_true rfl) (Nat.le_of_ble_eq_true rfl) ?_
      exact W.iret hx hb hr (z_ret hw rfl) hw.2.2.2.2.2 dL_combine_20 hC.2.2.2.2.2.1
    · rw [if_neg hk0] at hf
      by_cases hk1 : k9 = 1
      · rw [if_pos hk1] at hf
        subst hk1
        refine vx_catch (name := exN 1) hC.2.2.2.1 [⟨0, 14, 17, 13⟩] ⟨0, 14, 21, 15⟩ [⟨0, 14, 25, 59⟩] (hT.trans rfl) (catch1 (hC.2.2.2.2.1 _ lkC_L_13) hC.2.2.2.2.2.2.1.2.2.2.2.2.2.1) (by decide) (by decide) (hC.2.2.2.2.1 _ lkC_L_15) (va_Nw.use rfl (hC.2.2.2.2.2.2.1.2.2.2.1 _ cast_1)) e1 e2 e3 ?_
        refine lv_astore (lv' := [(6, .ref q9), (0, .ref a0), (1, .int a1), (2, .int a2), (3, .int a3), (4, .int a4), (5, .ref a5)]) hx hb dL_combine_21 hl (Nat.le_of_ble_eq_true rfl) rfl (fun ls hl => ?_)
        refine lv_iconst (v := 2) hx hb dL_combine_23 (by decide) ?_
        first | (obtain ⟨rfl, rfl⟩ := sp_inv hf) | (obtain rfl := Option.some.inj hf)
        refine W.widen (k := 5) (n := 30) (Nat.le_of_ble_eq_true rfl) (Nat.le_of_ble_eq_true rfl) ?_
        exact W.iret hx hb hr (z_ret hw rfl) hw.2.2.2.2.2 dL_combine_24 hC.2.2.2.2.2.1
      · rw [if_neg hk1] at hf
        by_cases hk2 : k9 = 2
        · rw [if_pos hk2] at hf
          subst hk2
          refine vx_catch (name := exN 2) hC.2.2.2.1 [⟨0, 14, 17, 13⟩, ⟨0, 14, 21, 15⟩] ⟨0, 14, 25, 59⟩ [] (hT.trans rfl) (catch2 (hC.2.2.2.2.1 _ lkC_L_13) hC.2.2.2.2.2.2.1.2.2.2.2.2.2.2.1 (hC.2.2.2.2.1 _ lkC_L_15) hC.2.2.2.2.2.2.1.2.2.2.2.2.2.2.2) (by decide) (by decide) (hC.2.2.2.2.1 _ lkC_L_59) (va_Nw.use rfl (hC.2.2.2.2.2.2.1.2.2.2.1 _ cast_2)) e1 e2 e3 ?_
          refine lv_astore (lv' := [(6, .ref q9), (0, .ref a0), (1, .int a1), (2, .int a2), (3, .int a3), (4, .int a4), (5, .ref a5)]) hx hb dL_combine_25 hl (Nat.le_of_ble_eq_true rfl) rfl (fun ls hl => ?_)
          refine lv_iconst (v := 3) hx hb dL_combine_27 (by decide) ?_
          first | (obtain ⟨rfl, rfl⟩ := sp_inv hf) | (obtain rfl := Option.some.inj hf)
          refine W.widen (k := 5) (n := 30) (Nat.le_of_ble_eq_true rfl) (Nat.le_of_ble_eq_true rfl) ?_
          exact W.iret hx hb hr (z_ret hw rfl) hw.2.2.2.2.2 dL_combine_28 hC.2.2.2.2.2.1
        · rw [if_neg hk2] at hf
          cases hf
set_option maxHeartbeats 4000000 in
set_option maxRecDepth 100000 in
theorem m_L_derive (h9 : l.stackTraces = false) {Γ : zSh} {a0 : Nat} {a1 : Int32} {a2 : Int32} {a3 : Int32} {a4 : Nat} {σ : zSt} {r : Int32} {σ2 : zSt} (hf : f_L_derive Γ a0 a1 a2 a3 a4 σ = some (r, σ2)) : Met l yL_derive (wqT yL_derive cL_derive 6 (Option.some FieldType.int) [((0 : Nat), (12 : Nat), (15 : Nat), (13 : Nat)), ((0 : Nat), (12 : Nat), (19 : Nat), (15 : Nat)), ((0 : Nat), (12 : Nat), (23 : Nat), (59 : Nat))]) rm_L_derive (zQ0 D cA B0 [.ref a0, .int a1, .int a2, .int a3, .ref a4] Γ σ (ZB B0)) (zQ1 D cA B0 (some (.int r)) Γ σ2 (ZB B0)) 4 24 (FR B0) := by
  refine z_ofWT h9 (by decide) (Nat.le_of_ble_eq_true rfl) ?_
  intro p e s m args below meth c ls hC hr hT hw hl
  have hx := hC.1
  have hb := hC.2.1
  have hl : lv_has ls 6 [(0, .ref a0), (1, .int a1), (2, .int a2), (3, .int a3), (4, .ref a4)] := hl
  unfold f_L_derive at hf
  refine lv_aload hx hb dL_derive_0 (lv_at hl 4 rfl) ?_
  refine lv_iconst (v := 0) hx hb dL_derive_2 (by decide) ?_
  refine lv_aload_n hx hb dL_derive_3 rfl (lv_at hl 0 rfl) ?_
  refine lv_iload_n hx hb dL_derive_4 rfl (lv_at hl 1 rfl) ?_
  refine lv_iload_n hx hb dL_derive_5 rfl (lv_at hl 2 rfl) ?_
  refine lv_iload_n hx hb dL_derive_6 rfl (lv_at hl 3 rfl) ?_
  obtain ⟨ho, hf⟩ := chk_inv hf
  obtain ⟨q, hk, hn, hxx⟩ := xcat_inv hf
  refine z_xcallV (As := [.int a1, .int a2, .int a3]) (rest := [.int 0, .ref a4]) (m_X6_derive hC.2.2.2.2.2.2.2.2 hk) hC hw wd_X6_derive lkM_L_61 (isO_sh ho) rfl rfl ⟨rfl, rfl⟩ ⟨(Nat.le_of_ble_eq_true rfl), (Nat.le_of_ble_eq_true rfl)⟩ hl.1 rfl (Nat.le_of_ble_eq_true rfl) dL_derive_7 ⟨(Nat.le_of_ble_eq_true rfl), (Nat.le_of_ble_eq_true rfl)⟩ (fun r2 σ1 eq H locs hw => ?_) (fun k9 s9 eq H locs q9 ce9 hw e1 e2 e3 => ?_)
  · have hf := hn _ _ eq
    refine lv_i2l hx hb dL_derive_10 rfl ?_
    obtain ⟨σ3, hg, hf⟩ := stL_inv hf
    refine r_stL hC hw hg dL_derive_11 (fun H locs hw => ?_)
    refine lv_goto (tgt := 27) hx hb dL_derive_12 (by decide) ?_
    refine lv_iconst (v := 0) hx hb dL_derive_27 (by decide) ?_
    first | (obtain ⟨rfl, rfl⟩ := sp_inv hf) | (obtain rfl := Option.some.inj hf)
    refine W.widen (k := 4) (n := 24) (Nat.le_of_ble_eq_true rfl) (Nat.le_of_ble_eq_true rfl) ?_
    exact W.iret hx hb hr (z_ret hw rfl) hw.2.2.2.2.2 dL_derive_28 hC.2.2.2.2.2.1
  · have hf := hxx _ _ eq
    by_cases hk0 : k9 = 0
    · rw [if_pos hk0] at hf
      subst hk0
      refine vx_catch (name := exN 0) hC.2.2.2.1 [] ⟨0, 12, 15, 13⟩ [⟨0, 12, 19, 15⟩, ⟨0, 12, 23, 59⟩] (hT.trans rfl) (fun z hz => nomatch hz) (by decide) (by decide) (hC.2.2.2.2.1 _ lkC_L_13) (va_Nw.use rfl (hC.2.2.2.2.2.2.1.2.2.2.1 _ cast_0)) e1 e2 e3 ?_
      refine lv_astore (lv' := [(5, .ref q9), (0, .ref a0), (1, .int a1), (2, .int a2), (3, .int a3), (4, .ref a4)]) hx hb dL_derive_15 hl (Nat.le_of_ble_eq_true rfl) rfl (fun ls hl => ?_)
      refine lv_iconst (v := 1) hx hb dL_derive_17 (by decide) ?_
      first | (obtain ⟨rfl, rfl⟩ := sp_inv hf) | (obtain rfl := Option.some.inj hf)
      refine W.widen (k := 4) (n := 24) (Nat.le_of_ble_eq_true rfl) (Nat.le_of_ble_eq_true rfl) ?_
      exact W.iret hx hb hr (z_ret hw rfl) hw.2.2.2.2.2 dL_derive_18 hC.2.2.2.2.2.1
    · rw [if_neg hk0] at hf
      by_cases hk1 : k9 = 1
      · rw [if_pos hk1] at hf
        subst hk1
        refine vx_catch (name := exN 1) hC.2.2.2.1 [⟨0, 12, 15, 13⟩] ⟨0, 12, 19, 15⟩ [⟨0, 12, 23, 59⟩] (hT.trans rfl) (catch1 (hC.2.2.2.2.1 _ lkC_L_13) hC.2.2.2.2.2.2.1.2.2.2.2.2.2.1) (by decide) (by decide) (hC.2.2.2.2.1 _ lkC_L_15) (va_Nw.use rfl (hC.2.2.2.2.2.2.1.2.2.2.1 _ cast_1)) e1 e2 e3 ?_
        refine lv_astore (lv' := [(5, .ref q9), (0, .ref a0), (1, .int a1), (2, .int a2), (3, .int a3), (4, .ref a4)]) hx hb dL_derive_19 hl (Nat.le_of_ble_eq_true rfl) rfl (fun ls hl => ?_)
        refine lv_iconst (v := 2) hx hb dL_derive_21 (by decide) ?_
        first | (obtain ⟨rfl, rfl⟩ := sp_inv hf) | (obtain rfl := Option.some.inj hf)
        refine W.widen (k := 4) (n := 24) (Nat.le_of_ble_eq_true rfl) (Nat.le_of_ble_eq_true rfl) ?_
        exact W.iret hx hb hr (z_ret hw rfl) hw.2.2.2.2.2 dL_derive_22 hC.2.2.2.2.2.1
      · rw [if_neg hk1] at hf
        by_cases hk2 : k9 = 2
        · rw [if_pos hk2] at hf
          subst hk2
          refine vx_catch (name := exN 2) hC.2.2.2.1 [⟨0, 12, 15, 13⟩, ⟨0, 12, 19, 15⟩] ⟨0, 12, 23, 59⟩ [] (hT.trans rfl) (catch2 (hC.2.2.2.2.1 _ lkC_L_13) hC.2.2.2.2.2.2.1.2.2.2.2.2.2.2.1 (hC.2.2.2.2.1 _ lkC_L_15) hC.2.2.2.2.2.2.1.2.2.2.2.2.2.2.2) (by decide) (by decide) (hC.2.2.2.2.1 _ lkC_L_59) (va_Nw.use rfl (hC.2.2.2.2.2.2.1.2.2.2.1 _ cast_2)) e1 e2 e3 ?_
          refine lv_astore (lv' := [(5, .ref q9), (0, .ref a0), (1, .int a1), (2, .int a2), (3, .int a3), (4, .ref a4)]) hx hb dL_derive_23 hl (Nat.le_of_ble_eq_true rfl) rfl (fun ls hl => ?_)
          refine lv_iconst (v := 3) hx hb dL_derive_25 (by decide) ?_
          first | (obtain ⟨rfl, rfl⟩ := sp_inv hf) | (obtain rfl := Option.some.inj hf)
          refine W.widen (k := 4) (n := 24) (Nat.le_of_ble_eq_true rfl) (Nat.le_of_ble_eq_true rfl) ?_
          exact W.iret hx hb hr (z_ret hw rfl) hw.2.2.2.2.2 dL_derive_26 hC.2.2.2.2.2.1
        · rw [if_neg hk2] at hf
          cases hf
set_option maxHeartbeats 4000000 in
set_option maxRecDepth 100000 in
theorem m_L_scale (h9 : l.stackTraces = false) {Γ : zSh} {a0 : Nat} {a1 : Int32} {a2 : Int32} {a3 : Nat} {σ : zSt} {r : Int32} {σ2 : zSt} (hf : f_L_scale Γ a0 a1 a2 a3 σ = some (r, σ2)) : Met l yL_scale (wqT yL_scale cL_scale 5 (Option.some FieldType.int) [((0 : Nat), (10 : Nat), (13 : Nat), (13 : Nat)), ((0 : Nat), (10 : Nat), (17 : Nat), (15 : Nat))]) rm_L_scale (zQ0 D cA B0 [.ref a0, .int a1, .int a2, .ref a3] Γ σ (ZB B0)) (zQ1 D cA B0 (some (.int r)) Γ σ2 (ZB B0)) 2 12 (FR B0) := by
  refine z_ofWT h9 (by decide) (Nat.le_of_ble_eq_true rfl) ?_
  intro p e s m args below meth c ls hC hr hT hw hl
  have hx := hC.1
  have hb := hC.2.1
  have hl : lv_has ls 5 [(0, .ref a0), (1, .int a1), (2, .int a2), (3, .ref a3)] := hl
  unfold f_L_scale at hf
  refine lv_aload_n hx hb dL_scale_0 rfl (lv_at hl 3 rfl) ?_
  refine lv_iconst (v := 0) hx hb dL_scale_1 (by decide) ?_
  refine lv_aload_n hx hb dL_scale_2 rfl (lv_at hl 0 rfl) ?_
  refine lv_iload_n hx hb dL_scale_3 rfl (lv_at hl 1 rfl) ?_
  refine lv_iload_n hx hb dL_scale_4 rfl (lv_at hl 2 rfl) ?_
  obtain ⟨ho, hf⟩ := chk_inv hf
  obtain ⟨q, hk, hn, hxx⟩ := xcat_inv hf
  refine z_xcallV (As := [.int a1, .int a2]) (rest := [.int 0, .ref a3]) (m_X6_scale hC.2.2.2.2.2.2.2.2 hk) hC hw wd_X6_scale lkM_L_64 (isO_sh ho) rfl rfl ⟨rfl, rfl⟩ ⟨(Nat.le_of_ble_eq_true rfl), (Nat.le_of_ble_eq_true rfl)⟩ hl.1 rfl (Nat.le_of_ble_eq_true rfl) dL_scale_5 ⟨(Nat.le_of_ble_eq_true rfl), (Nat.le_of_ble_eq_true rfl)⟩ (fun r2 σ1 eq H locs hw => ?_) (fun k9 s9 eq H locs q9 ce9 hw e1 e2 e3 => ?_)
  · have hf := hn _ _ eq
    refine lv_i2l hx hb dL_scale_8 rfl ?_
    obtain ⟨σ3, hg, hf⟩ := stL_inv hf
    refine r_stL hC hw hg dL_scale_9 (fun H locs hw => ?_)
    refine lv_goto (tgt := 21) hx hb dL_scale_10 (by decide) ?_
    refine lv_iconst (v := 0) hx hb dL_scale_21 (by decide) ?_
    first | (obtain ⟨rfl, rfl⟩ := sp_inv hf) | (obtain rfl := Option.some.inj hf)
    refine W.widen (k := 2) (n := 12) (Nat.le_of_ble_eq_true rfl) (Nat.le_of_ble_eq_true rfl) ?_
    exact W.iret hx hb hr (z_ret hw rfl) hw.2.2.2.2.2 dL_scale_22 hC.2.2.2.2.2.1
  · have hf := hxx _ _ eq
    by_cases hk0 : k9 = 0
    · rw [if_pos hk0] at hf
      subst hk0
      refine vx_catch (name := exN 0) hC.2.2.2.1 [] ⟨0, 10, 13, 13⟩ [⟨0, 10, 17, 15⟩] (hT.trans rfl) (fun z hz => nomatch hz) (by decide) (by decide) (hC.2.2.2.2.1 _ lkC_L_13) (va_Nw.use rfl (hC.2.2.2.2.2.2.1.2.2.2.1 _ cast_0)) e1 e2 e3 ?_
      refine lv_astore (lv' := [(4, .ref q9), (0, .ref a0), (1, .int a1), (2, .int a2), (3, .ref a3)]) hx hb dL_scale_13 hl (Nat.le_of_ble_eq_true rfl) rfl (fun ls hl => ?_)
      refine lv_iconst (v := 1) hx hb dL_scale_15 (by decide) ?_
      first | (obtain ⟨rfl, rfl⟩ := sp_inv hf) | (obtain rfl := Option.some.inj hf)
      refine W.widen (k := 2) (n := 12) (Nat.le_of_ble_eq_true rfl) (Nat.le_of_ble_eq_true rfl) ?_
      exact W.iret hx hb hr (z_ret hw rfl) hw.2.2.2.2.2 dL_scale_16 hC.2.2.2.2.2.1
    · rw [if_neg hk0] at hf
      by_cases hk1 : k9 = 1
      · rw [if_pos hk1] at hf
        subst hk1
        refine vx_catch (name := exN 1) hC.2.2.2.1 [⟨0, 10, 13, 13⟩] ⟨0, 10, 17, 15⟩ [] (hT.trans rfl) (catch1 (hC.2.2.2.2.1 _ lkC_L_13) hC.2.2.2.2.2.2.1.2.2.2.2.2.2.1) (by decide) (by decide) (hC.2.2.2.2.1 _ lkC_L_15) (va_Nw.use rfl (hC.2.2.2.2.2.2.1.2.2.2.1 _ cast_1)) e1 e2 e3 ?_
        refine lv_astore (lv' := [(4, .ref q9), (0, .ref a0), (1, .int a1), (2, .int a2), (3, .ref a3)]) hx hb dL_scale_17 hl (Nat.le_of_ble_eq_true rfl) rfl (fun ls hl => ?_)
        refine lv_iconst (v := 2) hx hb dL_scale_19 (by decide) ?_
        first | (obtain ⟨rfl, rfl⟩ := sp_inv hf) | (obtain rfl := Option.some.inj hf)
        refine W.widen (k := 2) (n := 12) (Nat.le_of_ble_eq_true rfl) (Nat.le_of_ble_eq_true rfl) ?_
        exact W.iret hx hb hr (z_ret hw rfl) hw.2.2.2.2.2 dL_scale_20 hC.2.2.2.2.2.1
      · rw [if_neg hk1] at hf
        cases hf
set_option maxHeartbeats 4000000 in
set_option maxRecDepth 100000 in
theorem m_L_dimension (h9 : l.stackTraces = false) {Γ : zSh} {a0 : Nat} {a1 : Int32} {a2 : Int32} {a3 : Nat} {σ : zSt} {r : Int32} {σ2 : zSt} (hf : f_L_dimension Γ a0 a1 a2 a3 σ = some (r, σ2)) : Met l yL_dimension (wqT yL_dimension cL_dimension 5 (Option.some FieldType.int) [((0 : Nat), (10 : Nat), (13 : Nat), (13 : Nat)), ((0 : Nat), (10 : Nat), (17 : Nat), (15 : Nat))]) rm_L_dimension (zQ0 D cA B0 [.ref a0, .int a1, .int a2, .ref a3] Γ σ (ZB B0)) (zQ1 D cA B0 (some (.int r)) Γ σ2 (ZB B0)) 2 12 (FR B0) := by
  refine z_ofWT h9 (by decide) (Nat.le_of_ble_eq_true rfl) ?_
  intro p e s m args below meth c ls hC hr hT hw hl
  have hx := hC.1
  have hb := hC.2.1
  have hl : lv_has ls 5 [(0, .ref a0), (1, .int a1), (2, .int a2), (3, .ref a3)] := hl
  unfold f_L_dimension at hf
  refine lv_aload_n hx hb dL_dimension_0 rfl (lv_at hl 3 rfl) ?_
  refine lv_iconst (v := 0) hx hb dL_dimension_1 (by decide) ?_
  refine lv_aload_n hx hb dL_dimension_2 rfl (lv_at hl 0 rfl) ?_
  refine lv_iload_n hx hb dL_dimension_3 rfl (lv_at hl 1 rfl) ?_
  refine lv_iload_n hx hb dL_dimension_4 rfl (lv_at hl 2 rfl) ?_
  obtain ⟨ho, hf⟩ := chk_inv hf
  obtain ⟨q, hk, hn, hxx⟩ := xcat_inv hf
  refine z_xcallV (As := [.int a1, .int a2]) (rest := [.int 0, .ref a3]) (m_X6_dimension hC.2.2.2.2.2.2.2.2 hk) hC hw wd_X6_dimension lkM_L_67 (isO_sh ho) rfl rfl ⟨rfl, rfl⟩ ⟨(Nat.le_of_ble_eq_true rfl), (Nat.le_of_ble_eq_true rfl)⟩ hl.1 rfl (Nat.le_of_ble_eq_true rfl) dL_dimension_5 ⟨(Nat.le_of_ble_eq_true rfl), (Nat.le_of_ble_eq_true rfl)⟩ (fun r2 σ1 eq H locs hw => ?_) (fun k9 s9 eq H locs q9 ce9 hw e1 e2 e3 => ?_)
  · have hf := hn _ _ eq
    refine lv_i2l hx hb dL_dimension_8 rfl ?_
    obtain ⟨σ3, hg, hf⟩ := stL_inv hf
    refine r_stL hC hw hg dL_dimension_9 (fun H locs hw => ?_)
    refine lv_goto (tgt := 21) hx hb dL_dimension_10 (by decide) ?_
    refine lv_iconst (v := 0) hx hb dL_dimension_21 (by decide) ?_
    first | (obtain ⟨rfl, rfl⟩ := sp_inv hf) | (obtain rfl := Option.some.inj hf)
    refine W.widen (k := 2) (n := 12) (Nat.le_of_ble_eq_true rfl) (Nat.le_of_ble_eq_true rfl) ?_
    exact W.iret hx hb hr (z_ret hw rfl) hw.2.2.2.2.2 dL_dimension_22 hC.2.2.2.2.2.1
  · have hf := hxx _ _ eq
    by_cases hk0 : k9 = 0
    · rw [if_pos hk0] at hf
      subst hk0
      refine vx_catch (name := exN 0) hC.2.2.2.1 [] ⟨0, 10, 13, 13⟩ [⟨0, 10, 17, 15⟩] (hT.trans rfl) (fun z hz => nomatch hz) (by decide) (by decide) (hC.2.2.2.2.1 _ lkC_L_13) (va_Nw.use rfl (hC.2.2.2.2.2.2.1.2.2.2.1 _ cast_0)) e1 e2 e3 ?_
      refine lv_astore (lv' := [(4, .ref q9), (0, .ref a0), (1, .int a1), (2, .int a2), (3, .ref a3)]) hx hb dL_dimension_13 hl (Nat.le_of_ble_eq_true rfl) rfl (fun ls hl => ?_)
      refine lv_iconst (v := 1) hx hb dL_dimension_15 (by decide) ?_
      first | (obtain ⟨rfl, rfl⟩ := sp_inv hf) | (obtain rfl := Option.some.inj hf)
      refine W.widen (k := 2) (n := 12) (Nat.le_of_ble_eq_true rfl) (Nat.le_of_ble_eq_true rfl) ?_
      exact W.iret hx hb hr (z_ret hw rfl) hw.2.2.2.2.2 dL_dimension_16 hC.2.2.2.2.2.1
    · rw [if_neg hk0] at hf
      by_cases hk1 : k9 = 1
      · rw [if_pos hk1] at hf
        subst hk1
        refine vx_catch (name := exN 1) hC.2.2.2.1 [⟨0, 10, 13, 13⟩] ⟨0, 10, 17, 15⟩ [] (hT.trans rfl) (catch1 (hC.2.2.2.2.1 _ lkC_L_13) hC.2.2.2.2.2.2.1.2.2.2.2.2.2.1) (by decide) (by decide) (hC.2.2.2.2.1 _ lkC_L_15) (va_Nw.use rfl (hC.2.2.2.2.2.2.1.2.2.2.1 _ cast_1)) e1 e2 e3 ?_
        refine lv_astore (lv' := [(4, .ref q9), (0, .ref a0), (1, .int a1), (2, .int a2), (3, .ref a3)]) hx hb dL_dimension_17 hl (Nat.le_of_ble_eq_true rfl) rfl (fun ls hl => ?_)
        refine lv_iconst (v := 2) hx hb dL_dimension_19 (by decide) ?_
        first | (obtain ⟨rfl, rfl⟩ := sp_inv hf) | (obtain rfl := Option.some.inj hf)
        refine W.widen (k := 2) (n := 12) (Nat.le_of_ble_eq_true rfl) (Nat.le_of_ble_eq_true rfl) ?_
        exact W.iret hx hb hr (z_ret hw rfl) hw.2.2.2.2.2 dL_dimension_20 hC.2.2.2.2.2.1
      · rw [if_neg hk1] at hf
        cases hf
set_option maxHeartbeats 4000000 in
set_option maxRecDepth 100000 in
theorem m_L_basisWord (h9 : l.stackTraces = false) {Γ : zSh} {a0 : Nat} {a1 : Int32} {a2 : Int32} {a3 : Nat} {σ : zSt} {r : Int32} {σ2 : zSt} (hf : f_L_basisWord Γ a0 a1 a2 a3 σ = some (r, σ2)) : Met l yL_basisWord (wqT yL_basisWord cL_basisWord 5 (Option.some FieldType.int) [((0 : Nat), (10 : Nat), (13 : Nat), (13 : Nat))]) rm_L_basisWord (zQ0 D cA B0 [.ref a0, .int a1, .int a2, .ref a3] Γ σ (ZB B0)) (zQ1 D cA B0 (some (.int r)) Γ σ2 (ZB B0)) 2 12 (FR B0) := by
  refine z_ofWT h9 (by decide) (Nat.le_of_ble_eq_true rfl) ?_
  intro p e s m args below meth c ls hC hr hT hw hl
  have hx := hC.1
  have hb := hC.2.1
  have hl : lv_has ls 5 [(0, .ref a0), (1, .int a1), (2, .int a2), (3, .ref a3)] := hl
  unfold f_L_basisWord at hf
  refine lv_aload_n hx hb dL_basisWord_0 rfl (lv_at hl 3 rfl) ?_
  refine lv_iconst (v := 0) hx hb dL_basisWord_1 (by decide) ?_
  refine lv_aload_n hx hb dL_basisWord_2 rfl (lv_at hl 0 rfl) ?_
  refine lv_iload_n hx hb dL_basisWord_3 rfl (lv_at hl 1 rfl) ?_
  refine lv_iload_n hx hb dL_basisWord_4 rfl (lv_at hl 2 rfl) ?_
  obtain ⟨ho, hf⟩ := chk_inv hf
  obtain ⟨q, hk, hn, hxx⟩ := xcat_inv hf
  refine z_xcallV (As := [.int a1, .int a2]) (rest := [.int 0, .ref a3]) (m_X6_basisWord hC.2.2.2.2.2.2.2.2 hk) hC hw wd_X6_basisWord lkM_L_70 (isO_sh ho) rfl rfl ⟨rfl, rfl⟩ ⟨(Nat.le_of_ble_eq_true rfl), (Nat.le_of_ble_eq_true rfl)⟩ hl.1 rfl (Nat.le_of_ble_eq_true rfl) dL_basisWord_5 ⟨(Nat.le_of_ble_eq_true rfl), (Nat.le_of_ble_eq_true rfl)⟩ (fun r2 σ1 eq H locs hw => ?_) (fun k9 s9 eq H locs q9 ce9 hw e1 e2 e3 => ?_)
  · have hf := hn _ _ eq
    refine lv_i2l hx hb dL_basisWord_8 rfl ?_
    obtain ⟨σ3, hg, hf⟩ := stL_inv hf
    refine r_stL hC hw hg dL_basisWord_9 (fun H locs hw => ?_)
    refine lv_goto (tgt := 17) hx hb dL_basisWord_10 (by decide) ?_
    refine lv_iconst (v := 0) hx hb dL_basisWord_17 (by decide) ?_
    first | (obtain ⟨rfl, rfl⟩ := sp_inv hf) | (obtain rfl := Option.some.inj hf)
    refine W.widen (k := 2) (n := 12) (Nat.le_of_ble_eq_true rfl) (Nat.le_of_ble_eq_true rfl) ?_
    exact W.iret hx hb hr (z_ret hw rfl) hw.2.2.2.2.2 dL_basisWord_18 hC.2.2.2.2.2.1
  · have hf := hxx _ _ eq
    by_cases hk0 : k9 = 0
    · rw [if_pos hk0] at hf
      subst hk0
      refine vx_catch (name := exN 0) hC.2.2.2.1 [] ⟨0, 10, 13, 13⟩ [] (hT.trans rfl) (fun z hz => nomatch hz) (by decide) (by decide) (hC.2.2.2.2.1 _ lkC_L_13) (va_Nw.use rfl (hC.2.2.2.2.2.2.1.2.2.2.1 _ cast_0)) e1 e2 e3 ?_
      refine lv_astore (lv' := [(4, .ref q9), (0, .ref a0), (1, .int a1), (2, .int a2), (3, .ref a3)]) hx hb dL_basisWord_13 hl (Nat.le_of_ble_eq_true rfl) rfl (fun ls hl => ?_)
      refine lv_iconst (v := 1) hx hb dL_basisWord_15 (by decide) ?_
      first | (obtain ⟨rfl, rfl⟩ := sp_inv hf) | (obtain rfl := Option.some.inj hf)
      refine W.widen (k := 2) (n := 12) (Nat.le_of_ble_eq_true rfl) (Nat.le_of_ble_eq_true rfl) ?_
      exact W.iret hx hb hr (z_ret hw rfl) hw.2.2.2.2.2 dL_basisWord_16 hC.2.2.2.2.2.1
    · rw [if_neg hk0] at hf
      cases hf
set_option maxHeartbeats 4000000 in
set_option maxRecDepth 100000 in
theorem m_L_differing (h9 : l.stackTraces = false) {Γ : zSh} {a0 : Nat} {a1 : Int32} {a2 : Int32} {a3 : Nat} {σ : zSt} {r : Int32} {σ2 : zSt} (hf : f_L_differing Γ a0 a1 a2 a3 σ = some (r, σ2)) : Met l yL_differing (wqT yL_differing cL_differing 5 (Option.some FieldType.int) [((0 : Nat), (10 : Nat), (13 : Nat), (13 : Nat))]) rm_L_differing (zQ0 D cA B0 [.ref a0, .int a1, .int a2, .ref a3] Γ σ (ZB B0)) (zQ1 D cA B0 (some (.int r)) Γ σ2 (ZB B0)) 2 12 (FR B0) := by
  refine z_ofWT h9 (by decide) (Nat.le_of_ble_eq_true rfl) ?_
  intro p e s m args below meth c ls hC hr hT hw hl
  have hx := hC.1
  have hb := hC.2.1
  have hl : lv_has ls 5 [(0, .ref a0), (1, .int a1), (2, .int a2), (3, .ref a3)] := hl
  unfold f_L_differing at hf
  refine lv_aload_n hx hb dL_differing_0 rfl (lv_at hl 3 rfl) ?_
  refine lv_iconst (v := 0) hx hb dL_differing_1 (by decide) ?_
  refine lv_aload_n hx hb dL_differing_2 rfl (lv_at hl 0 rfl) ?_
  refine lv_iload_n hx hb dL_differing_3 rfl (lv_at hl 1 rfl) ?_
  refine lv_iload_n hx hb dL_differing_4 rfl (lv_at hl 2 rfl) ?_
  obtain ⟨ho, hf⟩ := chk_inv hf
  obtain ⟨q, hk, hn, hxx⟩ := xcat_inv hf
  refine z_xcallV (As := [.int a1, .int a2]) (rest := [.int 0, .ref a3]) (m_X6_differing hC.2.2.2.2.2.2.2.2 hk) hC hw wd_X6_differing lkM_L_73 (isO_sh ho) rfl rfl ⟨rfl, rfl⟩ ⟨(Nat.le_of_ble_eq_true rfl), (Nat.le_of_ble_eq_true rfl)⟩ hl.1 rfl (Nat.le_of_ble_eq_true rfl) dL_differing_5 ⟨(Nat.le_of_ble_eq_true rfl), (Nat.le_of_ble_eq_true rfl)⟩ (fun r2 σ1 eq H locs hw => ?_) (fun k9 s9 eq H locs q9 ce9 hw e1 e2 e3 => ?_)
  · have hf := hn _ _ eq
    refine lv_i2l hx hb dL_differing_8 rfl ?_
    obtain ⟨σ3, hg, hf⟩ := stL_inv hf
    refine r_stL hC hw hg dL_differing_9 (fun H locs hw => ?_)
    refine lv_goto (tgt := 17) hx hb dL_differing_10 (by decide) ?_
    refine lv_iconst (v := 0) hx hb dL_differing_17 (by decide) ?_
    first | (obtain ⟨rfl, rfl⟩ := sp_inv hf) | (obtain rfl := Option.some.inj hf)
    refine W.widen (k := 2) (n := 12) (Nat.le_of_ble_eq_true rfl) (Nat.le_of_ble_eq_true rfl) ?_
    exact W.iret hx hb hr (z_ret hw rfl) hw.2.2.2.2.2 dL_differing_18 hC.2.2.2.2.2.1
  · have hf := hxx _ _ eq
    by_cases hk0 : k9 = 0
    · rw [if_pos hk0] at hf
      subst hk0
      refine vx_catch (name := exN 0) hC.2.2.2.1 [] ⟨0, 10, 13, 13⟩ [] (hT.trans rfl) (fun z hz => nomatch hz) (by decide) (by decide) (hC.2.2.2.2.1 _ lkC_L_13) (va_Nw.use rfl (hC.2.2.2.2.2.2.1.2.2.2.1 _ cast_0)) e1 e2 e3 ?_
      refine lv_astore (lv' := [(4, .ref q9), (0, .ref a0), (1, .int a1), (2, .int a2), (3, .ref a3)]) hx hb dL_differing_13 hl (Nat.le_of_ble_eq_true rfl) rfl (fun ls hl => ?_)
      refine lv_iconst (v := 1) hx hb dL_differing_15 (by decide) ?_
      first | (obtain ⟨rfl, rfl⟩ := sp_inv hf) | (obtain rfl := Option.some.inj hf)
      refine W.widen (k := 2) (n := 12) (Nat.le_of_ble_eq_true rfl) (Nat.le_of_ble_eq_true rfl) ?_
      exact W.iret hx hb hr (z_ret hw rfl) hw.2.2.2.2.2 dL_differing_16 hC.2.2.2.2.2.1
    · rw [if_neg hk0] at hf
      cases hf
set_option maxHeartbeats 4000000 in
set_option maxRecDepth 100000 in
theorem m_L_hankelRank (h9 : l.stackTraces = false) {Γ : zSh} {a0 : Nat} {a1 : Int32} {a2 : Int32} {a3 : Nat} {σ : zSt} {r : Int32} {σ2 : zSt} (hf : f_L_hankelRank Γ a0 a1 a2 a3 σ = some (r, σ2)) : Met l yL_hankelRank (wqT yL_hankelRank cL_hankelRank 5 (Option.some FieldType.int) [((0 : Nat), (10 : Nat), (13 : Nat), (13 : Nat)), ((0 : Nat), (10 : Nat), (17 : Nat), (15 : Nat))]) rm_L_hankelRank (zQ0 D cA B0 [.ref a0, .int a1, .int a2, .ref a3] Γ σ (ZB B0)) (zQ1 D cA B0 (some (.int r)) Γ σ2 (ZB B0)) 2 12 (FR B0) := by
  refine z_ofWT h9 (by decide) (Nat.le_of_ble_eq_true rfl) ?_
  intro p e s m args below meth c ls hC hr hT hw hl
  have hx := hC.1
  have hb := hC.2.1
  have hl : lv_has ls 5 [(0, .ref a0), (1, .int a1), (2, .int a2), (3, .ref a3)] := hl
  unfold f_L_hankelRank at hf
  refine lv_aload_n hx hb dL_hankelRank_0 rfl (lv_at hl 3 rfl) ?_
  refine lv_iconst (v := 0) hx hb dL_hankelRank_1 (by decide) ?_
  refine lv_aload_n hx hb dL_hankelRank_2 rfl (lv_at hl 0 rfl) ?_
  refine lv_iload_n hx hb dL_hankelRank_3 rfl (lv_at hl 1 rfl) ?_
  refine lv_iload_n hx hb dL_hankelRank_4 rfl (lv_at hl 2 rfl) ?_
  obtain ⟨ho, hf⟩ := chk_inv hf
  obtain ⟨q, hk, hn, hxx⟩ := xcat_inv hf
  refine z_xcallV (As := [.int a1, .int a2]) (rest := [.int 0, .ref a3]) (m_X6_hankelRank hC.2.2.2.2.2.2.2.2 hk) hC hw wd_X6_hankelRank lkM_L_76 (isO_sh ho) rfl rfl ⟨rfl, rfl⟩ ⟨(Nat.le_of_ble_eq_true rfl), (Nat.le_of_ble_eq_true rfl)⟩ hl.1 rfl (Nat.le_of_ble_eq_true rfl) dL_hankelRank_5 ⟨(Nat.le_of_ble_eq_true rfl), (Nat.le_of_ble_eq_true rfl)⟩ (fun r2 σ1 eq H locs hw => ?_) (fun k9 s9 eq H locs q9 ce9 hw e1 e2 e3 => ?_)
  · have hf := hn _ _ eq
    refine lv_i2l hx hb dL_hankelRank_8 rfl ?_
    obtain ⟨σ3, hg, hf⟩ := stL_inv hf
    refine r_stL hC hw hg dL_hankelRank_9 (fun H locs hw => ?_)
    refine lv_goto (tgt := 21) hx hb dL_hankelRank_10 (by decide) ?_
    refine lv_iconst (v := 0) hx hb dL_hankelRank_21 (by decide) ?_
    first | (obtain ⟨rfl, rfl⟩ := sp_inv hf) | (obtain rfl := Option.some.inj hf)
    refine W.widen (k := 2) (n := 12) (Nat.le_of_ble_eq_true rfl) (Nat.le_of_ble_eq_true rfl) ?_
    exact W.iret hx hb hr (z_ret hw rfl) hw.2.2.2.2.2 dL_hankelRank_22 hC.2.2.2.2.2.1
  · have hf := hxx _ _ eq
    by_cases hk0 : k9 = 0
    · rw [if_pos hk0] at hf
      subst hk0
      refine vx_catch (name := exN 0) hC.2.2.2.1 [] ⟨0, 10, 13, 13⟩ [⟨0, 10, 17, 15⟩] (hT.trans rfl) (fun z hz => nomatch hz) (by decide) (by decide) (hC.2.2.2.2.1 _ lkC_L_13) (va_Nw.use rfl (hC.2.2.2.2.2.2.1.2.2.2.1 _ cast_0)) e1 e2 e3 ?_
      refine lv_astore (lv' := [(4, .ref q9), (0, .ref a0), (1, .int a1), (2, .int a2), (3, .ref a3)]) hx hb dL_hankelRank_13 hl (Nat.le_of_ble_eq_true rfl) rfl (fun ls hl => ?_)
      refine lv_iconst (v := 1) hx hb dL_hankelRank_15 (by decide) ?_
      first | (obtain ⟨rfl, rfl⟩ := sp_inv hf) | (obtain rfl := Option.some.inj hf)
      refine W.widen (k := 2) (n := 12) (Nat.le_of_ble_eq_true rfl) (Nat.le_of_ble_eq_true rfl) ?_
      exact W.iret hx hb hr (z_ret hw rfl) hw.2.2.2.2.2 dL_hankelRank_16 hC.2.2.2.2.2.1
    · rw [if_neg hk0] at hf
      by_cases hk1 : k9 = 1
      · rw [if_pos hk1] at hf
        subst hk1
        refine vx_catch (name := exN 1) hC.2.2.2.1 [⟨0, 10, 13, 13⟩] ⟨0, 10, 17, 15⟩ [] (hT.trans rfl) (catch1 (hC.2.2.2.2.1 _ lkC_L_13) hC.2.2.2.2.2.2.1.2.2.2.2.2.2.1) (by decide) (by decide) (hC.2.2.2.2.1 _ lkC_L_15) (va_Nw.use rfl (hC.2.2.2.2.2.2.1.2.2.2.1 _ cast_1)) e1 e2 e3 ?_
        refine lv_astore (lv' := [(4, .ref q9), (0, .ref a0), (1, .int a1), (2, .int a2), (3, .ref a3)]) hx hb dL_hankelRank_17 hl (Nat.le_of_ble_eq_true rfl) rfl (fun ls hl => ?_)
        refine lv_iconst (v := 2) hx hb dL_hankelRank_19 (by decide) ?_
        first | (obtain ⟨rfl, rfl⟩ := sp_inv hf) | (obtain rfl := Option.some.inj hf)
        refine W.widen (k := 2) (n := 12) (Nat.le_of_ble_eq_true rfl) (Nat.le_of_ble_eq_true rfl) ?_
        exact W.iret hx hb hr (z_ret hw rfl) hw.2.2.2.2.2 dL_hankelRank_20 hC.2.2.2.2.2.1
      · rw [if_neg hk1] at hf
        cases hf
set_option maxHeartbeats 4000000 in
set_option maxRecDepth 100000 in
theorem t_L_recurs_L16 (hC : zC p l s m args meth c cL_recurs 5 RL D cA B0) (hr : meth.sig.returnType = (Option.some FieldType.int)) {Γ : zSh} {s0 : Int64} {s1 : Int32} {s2 : Nat} {σ : zSt} {out : (Int32 × zSt)} (hf : f_L_recurs_L16 Γ s0 s1 s2 σ = some out) {H : Heap} {locs : List Loc} {ls : Array Slot} (hw : zO D cA B0 Γ σ Z s.heap H locs) (hl : lv_has ls 5 []) :
    W p l e rm_L_recurs s m args below meth c H locs 2 12 (MQ below (zQ1 D cA B0 (some (.int out.1)) Γ out.2 Z) args s 2 12 (FR B0)) (F0 m 16 ls [.long s0, .int s1, .ref s2]) := by
  have hx := hC.1
  have hb := hC.2.1
  unfold f_L_recurs_L16 at hf
  obtain ⟨σ3, hg, hf⟩ := stL_inv hf
  refine r_stL hC hw hg dL_recurs_16 (fun H locs hw => ?_)
  refine lv_goto (tgt := 28) hx hb dL_recurs_17 (by decide) ?_
  refine lv_iconst (v := 0) hx hb dL_recurs_28 (by decide) ?_
  first | (obtain ⟨rfl, rfl⟩ := sp_inv hf) | (obtain rfl := Option.some.inj hf)
  refine W.widen (k := 2) (n := 12) (Nat.le_of_ble_eq_true rfl) (Nat.le_of_ble_eq_true rfl) ?_
  exact W.iret hx hb hr (z_ret hw rfl) hw.2.2.2.2.2 dL_recurs_29 hC.2.2.2.2.2.1
set_option maxHeartbeats 4000000 in
set_option maxRecDepth 100000 in
theorem m_L_recurs (h9 : l.stackTraces = false) {Γ : zSh} {a0 : Nat} {a1 : Int32} {a2 : Int32} {a3 : Nat} {σ : zSt} {r : Int32} {σ2 : zSt} (hf : f_L_recurs Γ a0 a1 a2 a3 σ = some (r, σ2)) : Met l yL_recurs (wqT yL_recurs cL_recurs 5 (Option.some FieldType.int) [((0 : Nat), (17 : Nat), (20 : Nat), (13 : Nat)), ((0 : Nat), (17 : Nat), (24 : Nat), (15 : Nat))]) rm_L_recurs (zQ0 D cA B0 [.ref a0, .int a1, .int a2, .ref a3] Γ σ (ZB B0)) (zQ1 D cA B0 (some (.int r)) Γ σ2 (ZB B0)) 2 12 (FR B0) := by
  refine z_ofWT h9 (by decide) (Nat.le_of_ble_eq_true rfl) ?_
  intro p e s m args below meth c ls hC hr hT hw hl
  have hx := hC.1
  have hb := hC.2.1
  have hl : lv_has ls 5 [(0, .ref a0), (1, .int a1), (2, .int a2), (3, .ref a3)] := hl
  unfold f_L_recurs at hf
  refine lv_aload_n hx hb dL_recurs_0 rfl (lv_at hl 3 rfl) ?_
  refine lv_iconst (v := 0) hx hb dL_recurs_1 (by decide) ?_
  refine lv_aload_n hx hb dL_recurs_2 rfl (lv_at hl 0 rfl) ?_
  refine lv_iload_n hx hb dL_recurs_3 rfl (lv_at hl 1 rfl) ?_
  refine lv_iload_n hx hb dL_recurs_4 rfl (lv_at hl 2 rfl) ?_
  obtain ⟨ho, hf⟩ := chk_inv hf
  obtain ⟨q, hk, hn, hxx⟩ := xcat_inv hf
  refine z_xcallV (As := [.int a1, .int a2]) (rest := [.int 0, .ref a3]) (m_X6_recurs hC.2.2.2.2.2.2.2.2 hk) hC hw wd_X6_recurs lkM_L_79 (isO_sh ho) rfl rfl ⟨rfl, rfl⟩ ⟨(Nat.le_of_ble_eq_true rfl), (Nat.le_of_ble_eq_true rfl)⟩ hl.1 rfl (Nat.le_of_ble_eq_true rfl) dL_recurs_5 ⟨(Nat.le_of_ble_eq_true rfl), (Nat.le_of_ble_eq_true rfl)⟩ (fun r2 σ1 eq H locs hw => ?_) (fun k9 s9 eq H locs q9 ce9 hw e1 e2 e3 => ?_)
  · have hf := hn _ _ eq
    refine lv_if_eq (tgt := 15) hx hb dL_recurs_8 (by decide) (fun hc => ?_) (fun hc => ?_)
    · rw [if_pos hc] at hf
      refine lv_lconst (v := 0) hx hb dL_recurs_15 (by decide) ?_
      exact t_L_recurs_L16 hC hr hf hw (lv_sub hl [] rfl)
    · rw [if_neg hc] at hf
      refine lv_lconst (v := 1) hx hb dL_recurs_11 (by decide) ?_
      refine lv_goto (tgt := 16) hx hb dL_recurs_12 (by decide) ?_
      exact t_L_recurs_L16 hC hr hf hw (lv_sub hl [] rfl)
  · have hf := hxx _ _ eq
    by_cases hk0 : k9 = 0
    · rw [if_pos hk0] at hf
      subst hk0
      refine vx_catch (name := exN 0) hC.2.2.2.1 [] ⟨0, 17, 20, 13⟩ [⟨0, 17, 24, 15⟩] (hT.trans rfl) (fun z hz => nomatch hz) (by decide) (by decide) (hC.2.2.2.2.1 _ lkC_L_13) (va_Nw.use rfl (hC.2.2.2.2.2.2.1.2.2.2.1 _ cast_0)) e1 e2 e3 ?_
      refine lv_astore (lv' := [(4, .ref q9), (0, .ref a0), (1, .int a1), (2, .int a2), (3, .ref a3)]) hx hb dL_recurs_20 hl (Nat.le_of_ble_eq_true rfl) rfl (fun ls hl => ?_)
      refine lv_iconst (v := 1) hx hb dL_recurs_22 (by decide) ?_
      first | (obtain ⟨rfl, rfl⟩ := sp_inv hf) | (obtain rfl := Option.some.inj hf)
      refine W.widen (k := 2) (n := 12) (Nat.le_of_ble_eq_true rfl) (Nat.le_of_ble_eq_true rfl) ?_
      exact W.iret hx hb hr (z_ret hw rfl) hw.2.2.2.2.2 dL_recurs_23 hC.2.2.2.2.2.1
    · rw [if_neg hk0] at hf
      by_cases hk1 : k9 = 1
      · rw [if_pos hk1] at hf
        subst hk1
        refine vx_catch (name := exN 1) hC.2.2.2.1 [⟨0, 17, 20, 13⟩] ⟨0, 17, 24, 15⟩ [] (hT.trans rfl) (catch1 (hC.2.2.2.2.1 _ lkC_L_13) hC.2.2.2.2.2.2.1.2.2.2.2.2.2.1) (by decide) (by decide) (hC.2.2.2.2.1 _ lkC_L_15) (va_Nw.use rfl (hC.2.2.2.2.2.2.1.2.2.2.1 _ cast_1)) e1 e2 e3 ?_
        refine lv_astore (lv' := [(4, .ref q9), (0, .ref a0), (1, .int a1), (2, .int a2), (3, .ref a3)]) hx hb dL_recurs_24 hl (Nat.le_of_ble_eq_true rfl) rfl (fun ls hl => ?_)
        refine lv_iconst (v := 2) hx hb dL_recurs_26 (by decide) ?_
        first | (obtain ⟨rfl, rfl⟩ := sp_inv hf) | (obtain rfl := Option.some.inj hf)
        refine W.widen (k := 2) (n := 12) (Nat.le_of_ble_eq_true rfl) (Nat.le_of_ble_eq_true rfl) ?_
        exact W.iret hx hb hr (z_ret hw rfl) hw.2.2.2.2.2 dL_recurs_27 hC.2.2.2.2.2.1
      · rw [if_neg hk1] at hf
        cases hf
set_option maxHeartbeats 4000000 in
set_option maxRecDepth 100000 in
theorem m_L_inverse (h9 : l.stackTraces = false) {Γ : zSh} {a0 : Nat} {a1 : Int32} {a2 : Nat} {σ : zSt} {r : Int32} {σ2 : zSt} (hf : f_L_inverse Γ a0 a1 a2 σ = some (r, σ2)) : Met l yL_inverse (wqT yL_inverse cL_inverse 4 (Option.some FieldType.int) [((0 : Nat), (9 : Nat), (12 : Nat), (15 : Nat))]) rm_L_inverse (zQ0 D cA B0 [.ref a0, .int a1, .ref a2] Γ σ (ZB B0)) (zQ1 D cA B0 (some (.int r)) Γ σ2 (ZB B0)) 1 6 (FR B0) := by
  refine z_ofWT h9 (by decide) (Nat.le_of_ble_eq_true rfl) ?_
  intro p e s m args below meth c ls hC hr hT hw hl
  have hx := hC.1
  have hb := hC.2.1
  have hl : lv_has ls 4 [(0, .ref a0), (1, .int a1), (2, .ref a2)] := hl
  unfold f_L_inverse at hf
  refine lv_aload_n hx hb dL_inverse_0 rfl (lv_at hl 2 rfl) ?_
  refine lv_iconst (v := 0) hx hb dL_inverse_1 (by decide) ?_
  refine lv_aload_n hx hb dL_inverse_2 rfl (lv_at hl 0 rfl) ?_
  refine lv_iload_n hx hb dL_inverse_3 rfl (lv_at hl 1 rfl) ?_
  obtain ⟨ho, hf⟩ := chk_inv hf
  obtain ⟨q, hk, hn, hxx⟩ := xcat_inv hf
  refine z_xcallV (As := [.int a1]) (rest := [.int 0, .ref a2]) (m_X6_inverse hC.2.2.2.2.2.2.2.2 hk) hC hw wd_X6_inverse lkM_L_83 (isO_sh ho) rfl rfl ⟨rfl, rfl⟩ ⟨(Nat.le_of_ble_eq_true rfl), (Nat.le_of_ble_eq_true rfl)⟩ hl.1 rfl (Nat.le_of_ble_eq_true rfl) dL_inverse_4 ⟨(Nat.le_of_ble_eq_true rfl), (Nat.le_of_ble_eq_true rfl)⟩ (fun r2 σ1 eq H locs hw => ?_) (fun k9 s9 eq H locs q9 ce9 hw e1 e2 e3 => ?_)
  · have hf := hn _ _ eq
    refine lv_i2l hx hb dL_inverse_7 rfl ?_
    obtain ⟨σ3, hg, hf⟩ := stL_inv hf
    refine r_stL hC hw hg dL_inverse_8 (fun H locs hw => ?_)
    refine lv_goto (tgt := 15) hx hb dL_inverse_9 (by decide) ?_
    refine lv_iconst (v := 0) hx hb dL_inverse_15 (by decide) ?_
    first | (obtain ⟨rfl, rfl⟩ := sp_inv hf) | (obtain rfl := Option.some.inj hf)
    refine W.widen (k := 1) (n := 6) (Nat.le_of_ble_eq_true rfl) (Nat.le_of_ble_eq_true rfl) ?_
    exact W.iret hx hb hr (z_ret hw rfl) hw.2.2.2.2.2 dL_inverse_16 hC.2.2.2.2.2.1
  · have hf := hxx _ _ eq
    by_cases hk0 : k9 = 1
    · rw [if_pos hk0] at hf
      subst hk0
      refine vx_catch (name := exN 1) hC.2.2.2.1 [] ⟨0, 9, 12, 15⟩ [] (hT.trans rfl) (fun z hz => nomatch hz) (by decide) (by decide) (hC.2.2.2.2.1 _ lkC_L_15) (va_Nw.use rfl (hC.2.2.2.2.2.2.1.2.2.2.1 _ cast_1)) e1 e2 e3 ?_
      refine lv_astore_n (lv' := [(3, .ref q9), (0, .ref a0), (1, .int a1), (2, .ref a2)]) hx hb dL_inverse_12 rfl hl (Nat.le_of_ble_eq_true rfl) rfl (fun ls hl => ?_)
      refine lv_iconst (v := 1) hx hb dL_inverse_13 (by decide) ?_
      first | (obtain ⟨rfl, rfl⟩ := sp_inv hf) | (obtain rfl := Option.some.inj hf)
      refine W.widen (k := 1) (n := 6) (Nat.le_of_ble_eq_true rfl) (Nat.le_of_ble_eq_true rfl) ?_
      exact W.iret hx hb hr (z_ret hw rfl) hw.2.2.2.2.2 dL_inverse_14 hC.2.2.2.2.2.1
    · rw [if_neg hk0] at hf
      cases hf
set_option maxHeartbeats 4000000 in
set_option maxRecDepth 100000 in
theorem m_L_append (h9 : l.stackTraces = false) {Γ : zSh} {a0 : Nat} {a1 : Int32} {a2 : Nat} {σ : zSt} {r : Int32} {σ2 : zSt} (hf : f_L_append Γ a0 a1 a2 σ = some (r, σ2)) : Met l yL_append (wqT yL_append cL_append 4 (Option.some FieldType.int) [((0 : Nat), (9 : Nat), (12 : Nat), (15 : Nat)), ((0 : Nat), (9 : Nat), (15 : Nat), (59 : Nat))]) rm_L_append (zQ0 D cA B0 [.ref a0, .int a1, .ref a2] Γ σ (ZB B0)) (zQ1 D cA B0 (some (.int r)) Γ σ2 (ZB B0)) 2 12 (FR B0) := by
  refine z_ofWT h9 (by decide) (Nat.le_of_ble_eq_true rfl) ?_
  intro p e s m args below meth c ls hC hr hT hw hl
  have hx := hC.1
  have hb := hC.2.1
  have hl : lv_has ls 4 [(0, .ref a0), (1, .int a1), (2, .ref a2)] := hl
  unfold f_L_append at hf
  refine lv_aload_n hx hb dL_append_0 rfl (lv_at hl 2 rfl) ?_
  refine lv_iconst (v := 0) hx hb dL_append_1 (by decide) ?_
  refine lv_aload_n hx hb dL_append_2 rfl (lv_at hl 0 rfl) ?_
  refine lv_iload_n hx hb dL_append_3 rfl (lv_at hl 1 rfl) ?_
  obtain ⟨ho, hf⟩ := chk_inv hf
  obtain ⟨q, hk, hn, hxx⟩ := xcat_inv hf
  refine z_xcallV (As := [.int a1]) (rest := [.int 0, .ref a2]) (m_X6_append hC.2.2.2.2.2.2.2.2 hk) hC hw wd_X6_append lkM_L_86 (isO_sh ho) rfl rfl ⟨rfl, rfl⟩ ⟨(Nat.le_of_ble_eq_true rfl), (Nat.le_of_ble_eq_true rfl)⟩ hl.1 rfl (Nat.le_of_ble_eq_true rfl) dL_append_4 ⟨(Nat.le_of_ble_eq_true rfl), (Nat.le_of_ble_eq_true rfl)⟩ (fun r2 σ1 eq H locs hw => ?_) (fun k9 s9 eq H locs q9 ce9 hw e1 e2 e3 => ?_)
  · have hf := hn _ _ eq
    refine lv_i2l hx hb dL_append_7 rfl ?_
    obtain ⟨σ3, hg, hf⟩ := stL_inv hf
    refine r_stL hC hw hg dL_append_8 (fun H locs hw => ?_)
    refine lv_goto (tgt := 18) hx hb dL_append_9 (by decide) ?_
    refine lv_iconst (v := 0) hx hb dL_append_18 (by decide) ?_
    first | (obtain ⟨rfl, rfl⟩ := sp_inv hf) | (obtain rfl := Option.some.inj hf)
    refine W.widen (k := 2) (n := 12) (Nat.le_of_ble_eq_true rfl) (Nat.le_of_ble_eq_true rfl) ?_
    exact W.iret hx hb hr (z_ret hw rfl) hw.2.2.2.2.2 dL_append_19 hC.2.2.2.2.2.1
  · have hf := hxx _ _ eq
    by_cases hk0 : k9 = 1
    · rw [if_pos hk0] at hf
      subst hk0
      refine vx_catch (name := exN 1) hC.2.2.2.1 [] ⟨0, 9, 12, 15⟩ [⟨0, 9, 15, 59⟩] (hT.trans rfl) (fun z hz => nomatch hz) (by decide) (by decide) (hC.2.2.2.2.1 _ lkC_L_15) (va_Nw.use rfl (hC.2.2.2.2.2.2.1.2.2.2.1 _ cast_1)) e1 e2 e3 ?_
      refine lv_astore_n (lv' := [(3, .ref q9), (0, .ref a0), (1, .int a1), (2, .ref a2)]) hx hb dL_append_12 rfl hl (Nat.le_of_ble_eq_true rfl) rfl (fun ls hl => ?_)
      refine lv_iconst (v := 1) hx hb dL_append_13 (by decide) ?_
      first | (obtain ⟨rfl, rfl⟩ := sp_inv hf) | (obtain rfl := Option.some.inj hf)
      refine W.widen (k := 2) (n := 12) (Nat.le_of_ble_eq_true rfl) (Nat.le_of_ble_eq_true rfl) ?_
      exact W.iret hx hb hr (z_ret hw rfl) hw.2.2.2.2.2 dL_append_14 hC.2.2.2.2.2.1
    · rw [if_neg hk0] at hf
      by_cases hk1 : k9 = 2
      · rw [if_pos hk1] at hf
        subst hk1
        refine vx_catch (name := exN 2) hC.2.2.2.1 [⟨0, 9, 12, 15⟩] ⟨0, 9, 15, 59⟩ [] (hT.trans rfl) (catch1 (hC.2.2.2.2.1 _ lkC_L_15) hC.2.2.2.2.2.2.1.2.2.2.2.2.2.2.2) (by decide) (by decide) (hC.2.2.2.2.1 _ lkC_L_59) (va_Nw.use rfl (hC.2.2.2.2.2.2.1.2.2.2.1 _ cast_2)) e1 e2 e3 ?_
        refine lv_astore_n (lv' := [(3, .ref q9), (0, .ref a0), (1, .int a1), (2, .ref a2)]) hx hb dL_append_15 rfl hl (Nat.le_of_ble_eq_true rfl) rfl (fun ls hl => ?_)
        refine lv_iconst (v := 2) hx hb dL_append_16 (by decide) ?_
        first | (obtain ⟨rfl, rfl⟩ := sp_inv hf) | (obtain rfl := Option.some.inj hf)
        refine W.widen (k := 2) (n := 12) (Nat.le_of_ble_eq_true rfl) (Nat.le_of_ble_eq_true rfl) ?_
        exact W.iret hx hb hr (z_ret hw rfl) hw.2.2.2.2.2 dL_append_17 hC.2.2.2.2.2.1
      · rw [if_neg hk1] at hf
        cases hf
set_option maxHeartbeats 4000000 in
set_option maxRecDepth 100000 in
theorem m_L_parse (h9 : l.stackTraces = false) {Γ : zSh} {a0 : Nat} {a1 : Int32} {a2 : Nat} {σ : zSt} {r : Int32} {σ2 : zSt} (hf : f_L_parse Γ a0 a1 a2 σ = some (r, σ2)) : Met l yL_parse (wqT yL_parse cL_parse 4 (Option.some FieldType.int) [((0 : Nat), (9 : Nat), (12 : Nat), (13 : Nat))]) rm_L_parse (zQ0 D cA B0 [.ref a0, .int a1, .ref a2] Γ σ (ZB B0)) (zQ1 D cA B0 (some (.int r)) Γ σ2 (ZB B0)) 1 6 (FR B0) := by
  refine z_ofWT h9 (by decide) (Nat.le_of_ble_eq_true rfl) ?_
  intro p e s m args below meth c ls hC hr hT hw hl
  have hx := hC.1
  have hb := hC.2.1
  have hl : lv_has ls 4 [(0, .ref a0), (1, .int a1), (2, .ref a2)] := hl
  unfold f_L_parse at hf
  refine lv_aload_n hx hb dL_parse_0 rfl (lv_at hl 2 rfl) ?_
  refine lv_iconst (v := 0) hx hb dL_parse_1 (by decide) ?_
  refine lv_aload_n hx hb dL_parse_2 rfl (lv_at hl 0 rfl) ?_
  refine lv_iload_n hx hb dL_parse_3 rfl (lv_at hl 1 rfl) ?_
  obtain ⟨ho, hf⟩ := chk_inv hf
  obtain ⟨q, hk, hn, hxx⟩ := xcat_inv hf
  refine z_xcallV (As := [.int a1]) (rest := [.int 0, .ref a2]) (m_X6_parse hC.2.2.2.2.2.2.2.2 hk) hC hw wd_X6_parse lkM_L_89 (isO_sh ho) rfl rfl ⟨rfl, rfl⟩ ⟨(Nat.le_of_ble_eq_true rfl), (Nat.le_of_ble_eq_true rfl)⟩ hl.1 rfl (Nat.le_of_ble_eq_true rfl) dL_parse_4 ⟨(Nat.le_of_ble_eq_true rfl), (Nat.le_of_ble_eq_true rfl)⟩ (fun r2 σ1 eq H locs hw => ?_) (fun k9 s9 eq H locs q9 ce9 hw e1 e2 e3 => ?_)
  · have hf := hn _ _ eq
    refine lv_i2l hx hb dL_parse_7 rfl ?_
    obtain ⟨σ3, hg, hf⟩ := stL_inv hf
    refine r_stL hC hw hg dL_parse_8 (fun H locs hw => ?_)
    refine lv_goto (tgt := 15) hx hb dL_parse_9 (by decide) ?_
    refine lv_iconst (v := 0) hx hb dL_parse_15 (by decide) ?_
    first | (obtain ⟨rfl, rfl⟩ := sp_inv hf) | (obtain rfl := Option.some.inj hf)
    refine W.widen (k := 1) (n := 6) (Nat.le_of_ble_eq_true rfl) (Nat.le_of_ble_eq_true rfl) ?_
    exact W.iret hx hb hr (z_ret hw rfl) hw.2.2.2.2.2 dL_parse_16 hC.2.2.2.2.2.1
  · have hf := hxx _ _ eq
    by_cases hk0 : k9 = 0
    · rw [if_pos hk0] at hf
      subst hk0
      refine vx_catch (name := exN 0) hC.2.2.2.1 [] ⟨0, 9, 12, 13⟩ [] (hT.trans rfl) (fun z hz => nomatch hz) (by decide) (by decide) (hC.2.2.2.2.1 _ lkC_L_13) (va_Nw.use rfl (hC.2.2.2.2.2.2.1.2.2.2.1 _ cast_0)) e1 e2 e3 ?_
      refine lv_astore_n (lv' := [(3, .ref q9), (0, .ref a0), (1, .int a1), (2, .ref a2)]) hx hb dL_parse_12 rfl hl (Nat.le_of_ble_eq_true rfl) rfl (fun ls hl => ?_)
      refine lv_iconst (v := 1) hx hb dL_parse_13 (by decide) ?_
      first | (obtain ⟨rfl, rfl⟩ := sp_inv hf) | (obtain rfl := Option.some.inj hf)
      refine W.widen (k := 1) (n := 6) (Nat.le_of_ble_eq_true rfl) (Nat.le_of_ble_eq_true rfl) ?_
      exact W.iret hx hb hr (z_ret hw rfl) hw.2.2.2.2.2 dL_parse_14 hC.2.2.2.2.2.1
    · rw [if_neg hk0] at hf
      cases hf
set_option maxHeartbeats 4000000 in
set_option maxRecDepth 100000 in
theorem m_L_undo (h9 : l.stackTraces = false) {Γ : zSh} {a0 : Nat} {a1 : Nat} {σ : zSt} {r : Int32} {σ2 : zSt} (hf : f_L_undo Γ a0 a1 σ = some (r, σ2)) : Met l yL_undo (wqT yL_undo cL_undo 3 (Option.some FieldType.int) [((0 : Nat), (8 : Nat), (11 : Nat), (59 : Nat))]) rm_L_undo (zQ0 D cA B0 [.ref a0, .ref a1] Γ σ (ZB B0)) (zQ1 D cA B0 (some (.int r)) Γ σ2 (ZB B0)) 1 6 (FR B0) := by
  refine z_ofWT h9 (by decide) (Nat.le_of_ble_eq_true rfl) ?_
  intro p e s m args below meth c ls hC hr hT hw hl
  have hx := hC.1
  have hb := hC.2.1
  have hl : lv_has ls 3 [(0, .ref a0), (1, .ref a1)] := hl
  unfold f_L_undo at hf
  refine lv_aload_n hx hb dL_undo_0 rfl (lv_at hl 1 rfl) ?_
  refine lv_iconst (v := 0) hx hb dL_undo_1 (by decide) ?_
  refine lv_aload_n hx hb dL_undo_2 rfl (lv_at hl 0 rfl) ?_
  obtain ⟨ho, hf⟩ := chk_inv hf
  obtain ⟨q, hk, hn, hxx⟩ := xcat_inv hf
  refine z_xcallV (As := []) (rest := [.int 0, .ref a1]) (m_X6_undo hC.2.2.2.2.2.2.2.2 hk) hC hw wd_X6_undo lkM_L_92 (isO_sh ho) rfl rfl ⟨rfl, rfl⟩ ⟨(Nat.le_of_ble_eq_true rfl), (Nat.le_of_ble_eq_true rfl)⟩ hl.1 rfl (Nat.le_of_ble_eq_true rfl) dL_undo_3 ⟨(Nat.le_of_ble_eq_true rfl), (Nat.le_of_ble_eq_true rfl)⟩ (fun r2 σ1 eq H locs hw => ?_) (fun k9 s9 eq H locs q9 ce9 hw e1 e2 e3 => ?_)
  · have hf := hn _ _ eq
    refine lv_i2l hx hb dL_undo_6 rfl ?_
    obtain ⟨σ3, hg, hf⟩ := stL_inv hf
    refine r_stL hC hw hg dL_undo_7 (fun H locs hw => ?_)
    refine lv_goto (tgt := 14) hx hb dL_undo_8 (by decide) ?_
    refine lv_iconst (v := 0) hx hb dL_undo_14 (by decide) ?_
    first | (obtain ⟨rfl, rfl⟩ := sp_inv hf) | (obtain rfl := Option.some.inj hf)
    refine W.widen (k := 1) (n := 6) (Nat.le_of_ble_eq_true rfl) (Nat.le_of_ble_eq_true rfl) ?_
    exact W.iret hx hb hr (z_ret hw rfl) hw.2.2.2.2.2 dL_undo_15 hC.2.2.2.2.2.1
  · have hf := hxx _ _ eq
    by_cases hk0 : k9 = 2
    · rw [if_pos hk0] at hf
      subst hk0
      refine vx_catch (name := exN 2) hC.2.2.2.1 [] ⟨0, 8, 11, 59⟩ [] (hT.trans rfl) (fun z hz => nomatch hz) (by decide) (by decide) (hC.2.2.2.2.1 _ lkC_L_59) (va_Nw.use rfl (hC.2.2.2.2.2.2.1.2.2.2.1 _ cast_2)) e1 e2 e3 ?_
      refine lv_astore_n (lv' := [(2, .ref q9), (0, .ref a0), (1, .ref a1)]) hx hb dL_undo_11 rfl hl (Nat.le_of_ble_eq_true rfl) rfl (fun ls hl => ?_)
      refine lv_iconst (v := 1) hx hb dL_undo_12 (by decide) ?_
      first | (obtain ⟨rfl, rfl⟩ := sp_inv hf) | (obtain rfl := Option.some.inj hf)
      refine W.widen (k := 1) (n := 6) (Nat.le_of_ble_eq_true rfl) (Nat.le_of_ble_eq_true rfl) ?_
      exact W.iret hx hb hr (z_ret hw rfl) hw.2.2.2.2.2 dL_undo_13 hC.2.2.2.2.2.1
    · rw [if_neg hk0] at hf
      cases hf
end
