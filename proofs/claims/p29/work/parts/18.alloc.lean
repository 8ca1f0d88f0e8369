section
variable {p : Program} {l : Launch} {e : Env} {s : State} {m : MethodId} {args : Array Value} {below : List Frame} {meth : Method} {c : Code} {Q : State → Prop} {D : va_G} {cA : Nat → ClassId} {B0 : Nat} {Z : Nat → Prop}
set_option maxHeartbeats 8000000 in
set_option maxRecDepth 100000 in
theorem m_X0_init (h9 : l.stackTraces = false) {Γ Γ9 : zSh} {z z9 : Nat} {a0 : Nat} {a1 : Int32} {σ σ9 : zSt} {r : Unit} (hf : f_X0_init Γ z a0 a1 σ = some (r, Γ9, z9, σ9)) : Met l yX0_init (wq yX0_init cX0_init 2 none) rm_X0_init (zQ0 D cA B0 [.ref a0, .int a1] Γ σ (ZE z)) (zQ1 D cA B0 none Γ9 σ9 (ZE z9)) 5 1202 (FR B0) := by
  refine z_ofW h9 (by decide) (Nat.le_of_ble_eq_true rfl) ?_
  intro p e s m args below meth c ls hC hr hnm hw hl
  have hx := hC.1
  have hb := hC.2.1
  have hl : lv_has ls 2 [(0, .ref a0), (1, .int a1)] := hl
  have hnm : meth.name = "<init>" := hnm
  unfold f_X0_init at hf
  refine lv_aload_n hx hb dX0_init_0 rfl (lv_at hl 0 rfl) ?_
  refine r_objI hC hl.1 lkO_X0_3 dX0_init_1 (Nat.le_of_ble_eq_true rfl) (Nat.le_of_ble_eq_true rfl) ?_
  refine lv_aload_n hx hb dX0_init_4 rfl (lv_at hl 0 rfl) ?_
  refine lv_iconst (v := 0) hx hb dX0_init_5 (by decide) ?_
  obtain ⟨σ1, hg, hf⟩ := pfI_inv hf
  refine r_pfI hC hw hg clX0 (Nat.le_of_ble_eq_true rfl) lkF_X0_9 rfl rfl rfl dX0_init_6 (fun H locs hw => ?_)
  refine lv_aload_n hx hb dX0_init_9 rfl (lv_at hl 0 rfl) ?_
  refine lv_iload_n hx hb dX0_init_10 rfl (lv_at hl 1 rfl) ?_
  obtain ⟨hg, hf⟩ := nwA_inv hf
  refine r_nwI hC hw tw_arr0 hg (Nat.le_of_ble_eq_true rfl) ⟨(Nat.le_of_ble_eq_true rfl), (Nat.le_of_ble_eq_true rfl)⟩ dX0_init_11 (fun H hw => ?_)
  generalize upS Γ z (0, Int32.toNatClampNeg a1) = Γ2 at hf hw
  generalize clr σ1 z = σ3 at hf hw
  obtain ⟨σ4, hg, hf⟩ := pfR_inv hf
  refine r_pfFR hC hw hnm hg clX0 (Nat.le_of_ble_eq_true rfl) lkF_X0_15 rfl rfl rfl rfl rfl dX0_init_13 (fun H locs hw => ?_)
  refine lv_aload_n hx hb dX0_init_16 rfl (lv_at hl 0 rfl) ?_
  refine lv_iload_n hx hb dX0_init_17 rfl (lv_at hl 1 rfl) ?_
  obtain ⟨hg, hf⟩ := nwA_inv hf
  refine r_nwI hC hw tw_arr0 hg (Nat.le_of_ble_eq_true rfl) ⟨(Nat.le_of_ble_eq_true rfl), (Nat.le_of_ble_eq_true rfl)⟩ dX0_init_18 (fun H hw => ?_)
  generalize upS Γ2 (z + 1) (0, Int32.toNatClampNeg a1) = Γ5 at hf hw
  generalize clr σ4 (z + 1) = σ6 at hf hw
  obtain ⟨σ7, hg, hf⟩ := pfR_inv hf
  refine r_pfFR hC hw hnm hg clX0 (Nat.le_of_ble_eq_true rfl) lkF_X0_19 rfl rfl rfl rfl rfl dX0_init_20 (fun H locs hw => ?_)
  refine lv_aload_n hx hb dX0_init_23 rfl (lv_at hl 0 rfl) ?_
  refine lv_iconst (v := 2) hx hb dX0_init_24 (by decide) ?_
  refine lv_iload_n hx hb dX0_init_25 rfl (lv_at hl 1 rfl) ?_
  refine lv_iload_n hx hb dX0_init_26 rfl (lv_at hl 1 rfl) ?_
  refine lv_imul hx hb dX0_init_27 ?_
  obtain ⟨hg, hf⟩ := nwG_inv hf
  refine r_nwG hC hw lkG_X0_22 tw_arr0 hg (Nat.le_of_ble_eq_true rfl) (Nat.le_of_ble_eq_true rfl) ⟨(Nat.le_of_ble_eq_true rfl), (Nat.le_of_ble_eq_true rfl)⟩ dX0_init_28 (fun H hw => ?_)
  generalize upG Γ5 (z + 2) 2 (Int32.toNatClampNeg (a1 * a1)) = Γ8 at hf hw
  generalize clrG σ7 (z + 2) 2 = σ9 at hf hw
  obtain ⟨σ10, hg, hf⟩ := pfR_inv hf
  refine r_pfFR hC hw hnm hg clX0 (Nat.le_of_ble_eq_true rfl) lkF_X0_24 rfl rfl rfl rfl rfl dX0_init_32 (fun H locs hw => ?_)
  obtain ⟨rfl, rfl, rfl, rfl⟩ := sp4_inv hf
  refine W.widen (k := 5) (n := 1202) (Nat.le_of_ble_eq_true rfl) (Nat.le_of_ble_eq_true rfl) ?_
  exact W.vret hx hb hr (z_ret hw rfl) hw.2.2.2.2.2 dX0_init_35 hC.2.2.2.2.2.1
set_option maxHeartbeats 8000000 in
set_option maxRecDepth 100000 in
theorem m_X1_init (h9 : l.stackTraces = false) {Γ Γ9 : zSh} {z z9 : Nat} {a0 : Nat} {σ σ9 : zSt} {r : Unit} (hf : f_X1_init Γ z a0 σ = some (r, Γ9, z9, σ9)) : Met l yX1_init (wq yX1_init cX1_init 1 none) rm_X1_init (zQ0 D cA B0 [.ref a0] Γ σ (ZE z)) (zQ1 D cA B0 none Γ9 σ9 (ZE z9)) 130 3144 (FR B0) := by
  refine z_ofW h9 (by decide) (Nat.le_of_ble_eq_true rfl) ?_
  intro p e s m args below meth c ls hC hr hnm hw hl
  have hx := hC.1
  have hb := hC.2.1
  have hl : lv_has ls 1 [(0, .ref a0)] := hl
  have hnm : meth.name = "<init>" := hnm
  unfold f_X1_init at hf
  refine lv_aload_n hx hb dX1_init_0 rfl (lv_at hl 0 rfl) ?_
  refine r_objI hC hl.1 lkO_X1_3 dX1_init_1 (Nat.le_of_ble_eq_true rfl) (Nat.le_of_ble_eq_true rfl) ?_
  refine lv_aload_n hx hb dX1_init_4 rfl (lv_at hl 0 rfl) ?_
  refine lv_bipush (v := 24) hx hb dX1_init_5 (by decide) ?_
  obtain ⟨hg, hf⟩ := nwA_inv hf
  refine r_nwI hC hw tw_arr0 hg (Nat.le_of_ble_eq_true rfl) ⟨(Nat.le_of_ble_eq_true rfl), (Nat.le_of_ble_eq_true rfl)⟩ dX1_init_7 (fun H hw => ?_)
  generalize upS Γ z (0, Int32.toNatClampNeg 24) = Γ1 at hf hw
  generalize clr σ z = σ2 at hf hw
  obtain ⟨σ3, hg, hf⟩ := pfR_inv hf
  refine r_pfFR hC hw hnm hg clX1 (Nat.le_of_ble_eq_true rfl) lkF_X1_9 rfl rfl rfl rfl rfl dX1_init_9 (fun H locs hw => ?_)
  refine lv_aload_n hx hb dX1_init_12 rfl (lv_at hl 0 rfl) ?_
  refine lv_bipush (v := 24) hx hb dX1_init_13 (by decide) ?_
  obtain ⟨hg, hf⟩ := nwA_inv hf
  refine r_nwI hC hw tw_arr0 hg (Nat.le_of_ble_eq_true rfl) ⟨(Nat.le_of_ble_eq_true rfl), (Nat.le_of_ble_eq_true rfl)⟩ dX1_init_15 (fun H hw => ?_)
  generalize upS Γ1 (z + 1) (0, Int32.toNatClampNeg 24) = Γ4 at hf hw
  generalize clr σ3 (z + 1) = σ5 at hf hw
  obtain ⟨σ6, hg, hf⟩ := pfR_inv hf
  refine r_pfFR hC hw hnm hg clX1 (Nat.le_of_ble_eq_true rfl) lkF_X1_15 rfl rfl rfl rfl rfl dX1_init_17 (fun H locs hw => ?_)
  refine lv_aload_n hx hb dX1_init_20 rfl (lv_at hl 0 rfl) ?_
  refine lv_bipush (v := 24) hx hb dX1_init_21 (by decide) ?_
  refine lv_bipush (v := 24) hx hb dX1_init_23 (by decide) ?_
  obtain ⟨hg, hf⟩ := nwG_inv hf
  refine r_nwG hC hw lkG_X1_18 tw_arr0 hg (Nat.le_of_ble_eq_true rfl) (Nat.le_of_ble_eq_true rfl) ⟨(Nat.le_of_ble_eq_true rfl), (Nat.le_of_ble_eq_true rfl)⟩ dX1_init_25 (fun H hw => ?_)
  generalize upG Γ4 (z + 2) 24 (Int32.toNatClampNeg 24) = Γ7 at hf hw
  generalize clrG σ6 (z + 2) 24 = σ8 at hf hw
  obtain ⟨σ9, hg, hf⟩ := pfR_inv hf
  refine r_pfFR hC hw hnm hg clX1 (Nat.le_of_ble_eq_true rfl) lkF_X1_20 rfl rfl rfl rfl rfl dX1_init_29 (fun H locs hw => ?_)
  refine lv_aload_n hx hb dX1_init_32 rfl (lv_at hl 0 rfl) ?_
  refine lv_bipush (v := 24) hx hb dX1_init_33 (by decide) ?_
  refine lv_bipush (v := 24) hx hb dX1_init_35 (by decide) ?_
  obtain ⟨hg, hf⟩ := nwG_inv hf
  refine r_nwG hC hw lkG_X1_18 tw_arr0 hg (Nat.le_of_ble_eq_true rfl) (Nat.le_of_ble_eq_true rfl) ⟨(Nat.le_of_ble_eq_true rfl), (Nat.le_of_ble_eq_true rfl)⟩ dX1_init_37 (fun H hw => ?_)
  generalize upG Γ7 (z + 27) 24 (Int32.toNatClampNeg 24) = Γ10 at hf hw
  generalize clrG σ9 (z + 27) 24 = σ11 at hf hw
  obtain ⟨σ12, hg, hf⟩ := pfR_inv hf
  refine r_pfFR hC hw hnm hg clX1 (Nat.le_of_ble_eq_true rfl) lkF_X1_23 rfl rfl rfl rfl rfl dX1_init_41 (fun H locs hw => ?_)
  refine lv_aload_n hx hb dX1_init_44 rfl (lv_at hl 0 rfl) ?_
  refine lv_bipush (v := 24) hx hb dX1_init_45 (by decide) ?_
  refine lv_bipush (v := 24) hx hb dX1_init_47 (by decide) ?_
  obtain ⟨hg, hf⟩ := nwG_inv hf
  refine r_nwG hC hw lkG_X1_18 tw_arr0 hg (Nat.le_of_ble_eq_true rfl) (Nat.le_of_ble_eq_true rfl) ⟨(Nat.le_of_ble_eq_true rfl), (Nat.le_of_ble_eq_true rfl)⟩ dX1_init_49 (fun H hw => ?_)
  generalize upG Γ10 (z + 52) 24 (Int32.toNatClampNeg 24) = Γ13 at hf hw
  generalize clrG σ12 (z + 52) 24 = σ14 at hf hw
  obtain ⟨σ15, hg, hf⟩ := pfR_inv hf
  refine r_pfFR hC hw hnm hg clX1 (Nat.le_of_ble_eq_true rfl) lkF_X1_26 rfl rfl rfl rfl rfl dX1_init_53 (fun H locs hw => ?_)
  refine lv_aload_n hx hb dX1_init_56 rfl (lv_at hl 0 rfl) ?_
  refine lv_bipush (v := 24) hx hb dX1_init_57 (by decide) ?_
  obtain ⟨hg, hf⟩ := nwA_inv hf
  refine r_nwI hC hw tw_arr0 hg (Nat.le_of_ble_eq_true rfl) ⟨(Nat.le_of_ble_eq_true rfl), (Nat.le_of_ble_eq_true rfl)⟩ dX1_init_59 (fun H hw => ?_)
  generalize upS Γ13 (z + 77) (0, Int32.toNatClampNeg 24) = Γ16 at hf hw
  generalize clr σ15 (z + 77) = σ17 at hf hw
  obtain ⟨σ18, hg, hf⟩ := pfR_inv hf
  refine r_pfFR hC hw hnm hg clX1 (Nat.le_of_ble_eq_true rfl) lkF_X1_29 rfl rfl rfl rfl rfl dX1_init_61 (fun H locs hw => ?_)
  refine lv_aload_n hx hb dX1_init_64 rfl (lv_at hl 0 rfl) ?_
  refine lv_bipush (v := 48) hx hb dX1_init_65 (by decide) ?_
  refine lv_bipush (v := 24) hx hb dX1_init_67 (by decide) ?_
  obtain ⟨hg, hf⟩ := nwG_inv hf
  refine r_nwG hC hw lkG_X1_18 tw_arr0 hg (Nat.le_of_ble_eq_true rfl) (Nat.le_of_ble_eq_true rfl) ⟨(Nat.le_of_ble_eq_true rfl), (Nat.le_of_ble_eq_true rfl)⟩ dX1_init_69 (fun H hw => ?_)
  generalize upG Γ16 (z + 78) 48 (Int32.toNatClampNeg 24) = Γ19 at hf hw
  generalize clrG σ18 (z + 78) 48 = σ20 at hf hw
  obtain ⟨σ21, hg, hf⟩ := pfR_inv hf
  refine r_pfFR hC hw hnm hg clX1 (Nat.le_of_ble_eq_true rfl) lkF_X1_32 rfl rfl rfl rfl rfl dX1_init_73 (fun H locs hw => ?_)
  refine lv_aload_n hx hb dX1_init_76 rfl (lv_at hl 0 rfl) ?_
  refine lv_bipush (v := 24) hx hb dX1_init_77 (by decide) ?_
  obtain ⟨hg, hf⟩ := nwA_inv hf
  refine r_nwI hC hw tw_arr0 hg (Nat.le_of_ble_eq_true rfl) ⟨(Nat.le_of_ble_eq_true rfl), (Nat.le_of_ble_eq_true rfl)⟩ dX1_init_79 (fun H hw => ?_)
  generalize upS Γ19 (z + 127) (0, Int32.toNatClampNeg 24) = Γ22 at hf hw
  generalize clr σ21 (z + 127) = σ23 at hf hw
  obtain ⟨σ24, hg, hf⟩ := pfR_inv hf
  refine r_pfFR hC hw hnm hg clX1 (Nat.le_of_ble_eq_true rfl) lkF_X1_35 rfl rfl rfl rfl rfl dX1_init_81 (fun H locs hw => ?_)
  refine lv_aload_n hx hb dX1_init_84 rfl (lv_at hl 0 rfl) ?_
  refine lv_bipush (v := 24) hx hb dX1_init_85 (by decide) ?_
  obtain ⟨hg, hf⟩ := nwA_inv hf
  refine r_nwI hC hw tw_arr0 hg (Nat.le_of_ble_eq_true rfl) ⟨(Nat.le_of_ble_eq_true rfl), (Nat.le_of_ble_eq_true rfl)⟩ dX1_init_87 (fun H hw => ?_)
  generalize upS Γ22 (z + 128) (0, Int32.toNatClampNeg 24) = Γ25 at hf hw
  generalize clr σ24 (z + 128) = σ26 at hf hw
  obtain ⟨σ27, hg, hf⟩ := pfR_inv hf
  refine r_pfFR hC hw hnm hg clX1 (Nat.le_of_ble_eq_true rfl) lkF_X1_38 rfl rfl rfl rfl rfl dX1_init_89 (fun H locs hw => ?_)
  refine lv_aload_n hx hb dX1_init_92 rfl (lv_at hl 0 rfl) ?_
  refine lv_bipush (v := 24) hx hb dX1_init_93 (by decide) ?_
  obtain ⟨hg, hf⟩ := nwA_inv hf
  refine r_nwI hC hw tw_arr0 hg (Nat.le_of_ble_eq_true rfl) ⟨(Nat.le_of_ble_eq_true rfl), (Nat.le_of_ble_eq_true rfl)⟩ dX1_init_95 (fun H hw => ?_)
  generalize upS Γ25 (z + 129) (0, Int32.toNatClampNeg 24) = Γ28 at hf hw
  generalize clr σ27 (z + 129) = σ29 at hf hw
  obtain ⟨σ30, hg, hf⟩ := pfR_inv hf
  refine r_pfFR hC hw hnm hg clX1 (Nat.le_of_ble_eq_true rfl) lkF_X1_41 rfl rfl rfl rfl rfl dX1_init_97 (fun H locs hw => ?_)
  obtain ⟨rfl, rfl, rfl, rfl⟩ := sp4_inv hf
  refine W.widen (k := 130) (n := 3144) (Nat.le_of_ble_eq_true rfl) (Nat.le_of_ble_eq_true rfl) ?_
  exact W.vret hx hb hr (z_ret hw rfl) hw.2.2.2.2.2 dX1_init_100 hC.2.2.2.2.2.1
set_option maxHeartbeats 8000000 in
set_option maxRecDepth 100000 in
theorem m_X3_init (h9 : l.stackTraces = false) {Γ Γ9 : zSh} {z z9 : Nat} {a0 : Nat} {σ σ9 : zSt} {r : Unit} (hf : f_X3_init Γ z a0 σ = some (r, Γ9, z9, σ9)) : Met l yX3_init (wq yX3_init cX3_init 1 none) rm_X3_init (zQ0 D cA B0 [.ref a0] Γ σ (ZE z)) (zQ1 D cA B0 none Γ9 σ9 (ZE z9)) 32 992 (FR B0) := by
  refine z_ofW h9 (by decide) (Nat.le_of_ble_eq_true rfl) ?_
  intro p e s m args below meth c ls hC hr hnm hw hl
  have hx := hC.1
  have hb := hC.2.1
  have hl : lv_has ls 1 [(0, .ref a0)] := hl
  have hnm : meth.name = "<init>" := hnm
  unfold f_X3_init at hf
  refine lv_aload_n hx hb dX3_init_0 rfl (lv_at hl 0 rfl) ?_
  refine r_objI hC hl.1 lkO_X3_3 dX3_init_1 (Nat.le_of_ble_eq_true rfl) (Nat.le_of_ble_eq_true rfl) ?_
  refine lv_aload_n hx hb dX3_init_4 rfl (lv_at hl 0 rfl) ?_
  refine lv_bipush (v := 31) hx hb dX3_init_5 (by decide) ?_
  refine lv_bipush (v := 31) hx hb dX3_init_7 (by decide) ?_
  obtain ⟨hg, hf⟩ := nwG_inv hf
  refine r_nwG hC hw lkG_X3_9 tw_arr0 hg (Nat.le_of_ble_eq_true rfl) (Nat.le_of_ble_eq_true rfl) ⟨(Nat.le_of_ble_eq_true rfl), (Nat.le_of_ble_eq_true rfl)⟩ dX3_init_9 (fun H hw => ?_)
  generalize upG Γ z 31 (Int32.toNatClampNeg 31) = Γ1 at hf hw
  generalize clrG σ z 31 = σ2 at hf hw
  obtain ⟨σ3, hg, hf⟩ := pfR_inv hf
  refine r_pfFR hC hw hnm hg clX3 (Nat.le_of_ble_eq_true rfl) lkF_X3_11 rfl rfl rfl rfl rfl dX3_init_13 (fun H locs hw => ?_)
  obtain ⟨rfl, rfl, rfl, rfl⟩ := sp4_inv hf
  refine W.widen (k := 32) (n := 992) (Nat.le_of_ble_eq_true rfl) (Nat.le_of_ble_eq_true rfl) ?_
  exact W.vret hx hb hr (z_ret hw rfl) hw.2.2.2.2.2 dX3_init_16 hC.2.2.2.2.2.1
set_option maxHeartbeats 8000000 in
set_option maxRecDepth 100000 in
theorem m_X4_init (h9 : l.stackTraces = false) {Γ Γ9 : zSh} {z z9 : Nat} {a0 : Nat} {σ σ9 : zSt} {r : Unit} (hf : f_X4_init Γ z a0 σ = some (r, Γ9, z9, σ9)) : Met l yX4_init (wq yX4_init cX4_init 1 none) rm_X4_init (zQ0 D cA B0 [.ref a0] Γ σ (ZE z)) (zQ1 D cA B0 none Γ9 σ9 (ZE z9)) 14 168 (FR B0) := by
  refine z_ofW h9 (by decide) (Nat.le_of_ble_eq_true rfl) ?_
  intro p e s m args below meth c ls hC hr hnm hw hl
  have hx := hC.1
  have hb := hC.2.1
  have hl : lv_has ls 1 [(0, .ref a0)] := hl
  have hnm : meth.name = "<init>" := hnm
  unfold f_X4_init at hf
  refine lv_aload_n hx hb dX4_init_0 rfl (lv_at hl 0 rfl) ?_
  refine r_objI hC hl.1 lkO_X4_3 dX4_init_1 (Nat.le_of_ble_eq_true rfl) (Nat.le_of_ble_eq_true rfl) ?_
  refine lv_aload_n hx hb dX4_init_4 rfl (lv_at hl 0 rfl) ?_
  refine lv_bipush (v := 12) hx hb dX4_init_5 (by decide) ?_
  obtain ⟨hg, hf⟩ := nwA_inv hf
  refine r_nwI hC hw tw_arr0 hg (Nat.le_of_ble_eq_true rfl) ⟨(Nat.le_of_ble_eq_true rfl), (Nat.le_of_ble_eq_true rfl)⟩ dX4_init_7 (fun H hw => ?_)
  generalize upS Γ z (0, Int32.toNatClampNeg 12) = Γ1 at hf hw
  generalize clr σ z = σ2 at hf hw
  obtain ⟨σ3, hg, hf⟩ := pfR_inv hf
  refine r_pfFR hC hw hnm hg clX4 (Nat.le_of_ble_eq_true rfl) lkF_X4_9 rfl rfl rfl rfl rfl dX4_init_9 (fun H locs hw => ?_)
  refine lv_aload_n hx hb dX4_init_12 rfl (lv_at hl 0 rfl) ?_
  refine lv_bipush (v := 12) hx hb dX4_init_13 (by decide) ?_
  refine lv_bipush (v := 12) hx hb dX4_init_15 (by decide) ?_
  obtain ⟨hg, hf⟩ := nwG_inv hf
  refine r_nwG hC hw lkG_X4_15 tw_arr0 hg (Nat.le_of_ble_eq_true rfl) (Nat.le_of_ble_eq_true rfl) ⟨(Nat.le_of_ble_eq_true rfl), (Nat.le_of_ble_eq_true rfl)⟩ dX4_init_17 (fun H hw => ?_)
  generalize upG Γ1 (z + 1) 12 (Int32.toNatClampNeg 12) = Γ4 at hf hw
  generalize clrG σ3 (z + 1) 12 = σ5 at hf hw
  obtain ⟨σ6, hg, hf⟩ := pfR_inv hf
  refine r_pfFR hC hw hnm hg clX4 (Nat.le_of_ble_eq_true rfl) lkF_X4_17 rfl rfl rfl rfl rfl dX4_init_21 (fun H locs hw => ?_)
  obtain ⟨rfl, rfl, rfl, rfl⟩ := sp4_inv hf
  refine W.widen (k := 14) (n := 168) (Nat.le_of_ble_eq_true rfl) (Nat.le_of_ble_eq_true rfl) ?_
  exact W.vret hx hb hr (z_ret hw rfl) hw.2.2.2.2.2 dX4_init_24 hC.2.2.2.2.2.1
set_option maxHeartbeats 8000000 in
set_option maxRecDepth 100000 in
theorem m_X5_init (h9 : l.stackTraces = false) {Γ Γ9 : zSh} {z z9 : Nat} {a0 : Nat} {σ σ9 : zSt} {r : Unit} (hf : f_X5_init Γ z a0 σ = some (r, Γ9, z9, σ9)) : Met l yX5_init (wq yX5_init cX5_init 1 none) rm_X5_init (zQ0 D cA B0 [.ref a0] Γ σ (ZE z)) (zQ1 D cA B0 none Γ9 σ9 (ZE z9)) 2 24 (FR B0) := by
  refine z_ofW h9 (by decide) (Nat.le_of_ble_eq_true rfl) ?_
  intro p e s m args below meth c ls hC hr hnm hw hl
  have hx := hC.1
  have hb := hC.2.1
  have hl : lv_has ls 1 [(0, .ref a0)] := hl
  have hnm : meth.name = "<init>" := hnm
  unfold f_X5_init at hf
  refine lv_aload_n hx hb dX5_init_0 rfl (lv_at hl 0 rfl) ?_
  refine r_objI hC hl.1 lkO_X5_3 dX5_init_1 (Nat.le_of_ble_eq_true rfl) (Nat.le_of_ble_eq_true rfl) ?_
  refine lv_aload_n hx hb dX5_init_4 rfl (lv_at hl 0 rfl) ?_
  refine lv_bipush (v := 12) hx hb dX5_init_5 (by decide) ?_
  obtain ⟨hg, hf⟩ := nwA_inv hf
  refine r_nwI hC hw tw_arr0 hg (Nat.le_of_ble_eq_true rfl) ⟨(Nat.le_of_ble_eq_true rfl), (Nat.le_of_ble_eq_true rfl)⟩ dX5_init_7 (fun H hw => ?_)
  generalize upS Γ z (0, Int32.toNatClampNeg 12) = Γ1 at hf hw
  generalize clr σ z = σ2 at hf hw
  obtain ⟨σ3, hg, hf⟩ := pfR_inv hf
  refine r_pfR hC hw hg clX5 (Nat.le_of_ble_eq_true rfl) lkF_X5_9 rfl rfl rfl dX5_init_9 (fun H locs hw => ?_)
  refine lv_aload_n hx hb dX5_init_12 rfl (lv_at hl 0 rfl) ?_
  refine lv_bipush (v := 12) hx hb dX5_init_13 (by decide) ?_
  obtain ⟨hg, hf⟩ := nwA_inv hf
  refine r_nwI hC hw tw_arr0 hg (Nat.le_of_ble_eq_true rfl) ⟨(Nat.le_of_ble_eq_true rfl), (Nat.le_of_ble_eq_true rfl)⟩ dX5_init_15 (fun H hw => ?_)
  generalize upS Γ1 (z + 1) (0, Int32.toNatClampNeg 12) = Γ4 at hf hw
  generalize clr σ3 (z + 1) = σ5 at hf hw
  obtain ⟨σ6, hg, hf⟩ := pfR_inv hf
  refine r_pfR hC hw hg clX5 (Nat.le_of_ble_eq_true rfl) lkF_X5_15 rfl rfl rfl dX5_init_17 (fun H locs hw => ?_)
  obtain ⟨rfl, rfl, rfl, rfl⟩ := sp4_inv hf
  refine W.widen (k := 2) (n := 24) (Nat.le_of_ble_eq_true rfl) (Nat.le_of_ble_eq_true rfl) ?_
  exact W.vret hx hb hr (z_ret hw rfl) hw.2.2.2.2.2 dX5_init_20 hC.2.2.2.2.2.1
set_option maxHeartbeats 4000000 in
set_option maxRecDepth 100000 in
theorem l_X6_automata (hC : zC p l s m args meth c cX6_automata 3 RX6 D cA B0) {x0 : Int32} {x1 : Nat} {Γ9 : zSh} {z9 : Nat} {σ9 : zSt} (kE : ∀ (H : Heap) (locs : List Loc) (ls : Array Slot), zO D cA B0 Γ9 σ9 (ZE z9) s.heap H locs → lv_has ls 3 [(1, .ref x1)] → W p l e rm_X6_automata s m args below meth c H locs 61 12069 Q (F0 m 30 ls [])) :
    ∀ (n k : Nat), n + k = 10 → ∀ (x2 : Int32) (Γ : zSh) (z : Nat) (σ : zSt), loopM (fun q => f_X6_automata_B6 q.2.1 q.2.2.1 x0 x1 q.1 q.2.2.2) n (x2, Γ, z, σ) = some (Γ9, z9, σ9) → ∀ (H : Heap) (locs : List Loc) (ls : Array Slot), zO D cA B0 Γ σ (ZE z) s.heap H locs → lv_has ls 3 [(0, .int x0), (1, .ref x1), (2, .int x2)] → W p l e rm_X6_automata s m args below meth c H locs (1 + 6 * k) (9 + 1206 * k) Q (F0 m 7 ls []) := by
  have hx := hC.1
  have hb := hC.2.1
  intro n
  induction n with
  | zero => intro k _ x2 Γ z σ h; exact absurd h (by simp [loopM])
  | succ n ih =>
    intro k hnk x2 Γ z σ h H locs ls hw hl
    obtain ⟨r, hf, h2, h3⟩ := loopM_inv h
    dsimp only at hf
    unfold f_X6_automata_B6 at hf
    have hk9 : k ≤ 9 := by omega
    have hc0 : 1 + 6 * k + 1 ≤ rm_X6_automata.cells := by show 1 + 6 * k + 1 ≤ 61; omega
    have hs0 : 9 + 1206 * k + 4 ≤ rm_X6_automata.slots := by show 9 + 1206 * k + 4 ≤ 12069; omega
    have hc1 : 1 + 6 * k + 1 + 5 ≤ rm_X6_automata.cells := by show 1 + 6 * k + 1 + 5 ≤ 61; omega
    have hs1 : 9 + 1206 * k + 4 + 1202 ≤ rm_X6_automata.slots := by show 9 + 1206 * k + 4 + 1202 ≤ 12069; omega
    refine lv_iload_n hx hb dX6_automata_7 rfl (lv_at hl 2 rfl) ?_
    refine lv_iload_n hx hb dX6_automata_8 rfl (lv_at hl 0 rfl) ?_
    refine lv_icmp_ge (tgt := 30) hx hb dX6_automata_9 (by decide) (fun hc => ?_) (fun hc => ?_)
    · rw [if_pos hc] at hf
      have e9 := h3 _ (Option.some.inj hf).symm
      cases e9
      refine W.widen (k := 61) (n := 12069) (by omega) (by omega) ?_
      exact kE _ _ _ hw (lv_sub hl [1] rfl)
    · rw [if_neg hc] at hf
      refine lv_aload_n hx hb dX6_automata_12 rfl (lv_at hl 1 rfl) ?_
      refine lv_iload_n hx hb dX6_automata_13 rfl (lv_at hl 2 rfl) ?_
      refine r_nwO hC hw clX0 kdX0 lkC_X6_28 ⟨hc0, hs0⟩ dX6_automata_14 (fun H hw => ?_)
      have hf := nwO_inv hf
      generalize upS Γ z (0 + 5, 0) = Γ1 at hf hw
      generalize clr σ z = σ1 at hf hw
      refine lv_dup hx hb dX6_automata_17 rfl ?_
      refine lv_bipush (v := 12) hx hb dX6_automata_18 (by decide) ?_
      obtain ⟨_, Γ2, z2, σ2, hk, hf⟩ := abnd_inv hf
      refine z_callI (As := [.int 12]) (rest := [.ref z, .int x2, .ref x1]) (m_X0_init hC.2.2.2.2.2.2.2.2 hk) hC hw wd_X0_init lkM_X6_30 rfl ⟨rfl, rfl⟩ ⟨(Nat.le_of_ble_eq_true rfl), (Nat.le_of_ble_eq_true rfl)⟩ hl.1 rfl (Nat.le_of_ble_eq_true rfl) dX6_automata_20 ⟨hc1, hs1⟩ (fun H locs hw => ?_)
      obtain ⟨hz, hf⟩ := chk_inv hf
      obtain ⟨σ3, hg, hf⟩ := stA_inv hf
      refine r_stA hC hw (of_decide_eq_true hz) hg dX6_automata_23 (fun H locs hw => ?_)
      refine lv_iinc (v := (x2 + 1)) (lv' := [(2, .int (x2 + 1)), (0, .int x0), (1, .ref x1)]) hx hb dX6_automata_24 hl (k := 2) rfl rfl (Nat.le_of_ble_eq_true rfl) rfl (fun ls hl => ?_)
      refine lv_goto (tgt := 7) hx hb dX6_automata_27 (by decide) ?_
      have h9 := ih (k + 1) (by omega) (x2 + 1) Γ2 z2 σ3 (h2 _ (Option.some.inj hf).symm) _ _ ls hw (lv_sub hl [1, 2, 0] rfl)
      exact W.widen (by omega) (by omega) h9
set_option maxHeartbeats 4000000 in
set_option maxRecDepth 100000 in
theorem m_X6_automata (h9 : l.stackTraces = false) {Γ Γ9 : zSh} {z z9 : Nat} {a0 : Int32} {σ σ9 : zSt} {r : Nat} (hf : f_X6_automata Γ z a0 σ = some (r, Γ9, z9, σ9)) : Met l yX6_automata (wq yX6_automata cX6_automata 3 (Option.some (FieldType.array (FieldType.object "SeriesBench$Automaton")))) rm_X6_automata (zQ0 D cA B0 [.int a0] Γ σ (ZE z)) (zQ1 D cA B0 (some (.ref r)) Γ9 σ9 (ZE z9)) 61 12069 (FR B0) := by
  refine z_ofW h9 (by decide) (Nat.le_of_ble_eq_true rfl) ?_
  intro p e s m args below meth c ls hC hr hnm hw hl
  have hx := hC.1
  have hb := hC.2.1
  have hl : lv_has ls 3 [(0, .int a0)] := hl
  unfold f_X6_automata at hf
  obtain ⟨hg, hf⟩ := nwA_inv hf
  refine lv_iload_n hx hb dX6_automata_0 rfl (lv_at hl 0 rfl) ?_
  refine r_nwR hC hw lkC_X6_28.1 hg (Nat.le_of_ble_eq_true rfl) ⟨(Nat.le_of_ble_eq_true rfl), (Nat.le_of_ble_eq_true rfl)⟩ dX6_automata_1 (fun H hw => ?_)
  generalize upS Γ z (4, Int32.toNatClampNeg a0) = Γ1 at hf hw
  generalize clr σ z = σ1 at hf hw
  cases hq : loopM (fun q => f_X6_automata_B6 q.2.1 q.2.2.1 a0 z q.1 q.2.2.2) 10 (0, Γ1, z + 1, σ1) with
  | none => rw [hq] at hf; cases hf
  | some q =>
    rw [hq] at hf
    obtain ⟨Γ8, z8, σ8⟩ := q
    obtain ⟨hz, hf⟩ := chk_inv hf
    obtain ⟨rfl, rfl, rfl, rfl⟩ := sp4_inv hf
    refine lv_astore_n (lv' := [(1, .ref z), (0, .int a0)]) hx hb dX6_automata_4 rfl hl (Nat.le_of_ble_eq_true rfl) rfl (fun ls hl => ?_)
    refine lv_iconst (v := 0) hx hb dX6_automata_5 (by decide) ?_
    refine lv_istore_n (lv' := [(2, .int 0), (1, .ref z), (0, .int a0)]) hx hb dX6_automata_6 rfl hl (Nat.le_of_ble_eq_true rfl) rfl (fun ls hl => ?_)
    refine l_X6_automata hC (fun H locs ls hw hl => ?_) 10 0 rfl 0 Γ1 (z + 1) σ1 hq _ _ ls hw (lv_sub hl [2, 1, 0] rfl)
    refine lv_aload_n hx hb dX6_automata_30 rfl (lv_at hl 0 rfl) ?_
    exact W.aret hx hb hr (Or.inr ⟨_, rfl⟩) (Or.inr ⟨_, rfl⟩) (z_ret hw rfl) hw.2.2.2.2.2 dX6_automata_31 hC.2.2.2.2.2.1
set_option maxHeartbeats 8000000 in
set_option maxRecDepth 100000 in
theorem m_X2_init (h9 : l.stackTraces = false) {Γ Γ9 : zSh} {z z9 : Nat} {a0 : Nat} {σ σ9 : zSt} {r : Unit} (hf : f_X2_init Γ z a0 σ = some (r, Γ9, z9, σ9)) : Met l yX2_init (wq yX2_init cX2_init 1 none) rm_X2_init (zQ0 D cA B0 [.ref a0] Γ σ (ZE z)) (zQ1 D cA B0 none Γ9 σ9 (ZE z9)) 137 26628 (FR B0) := by
  refine z_ofW h9 (by decide) (Nat.le_of_ble_eq_true rfl) ?_
  intro p e s m args below meth c ls hC hr hnm hw hl
  have hx := hC.1
  have hb := hC.2.1
  have hl : lv_has ls 1 [(0, .ref a0)] := hl
  have hnm : meth.name = "<init>" := hnm
  unfold f_X2_init at hf
  refine lv_aload_n hx hb dX2_init_0 rfl (lv_at hl 0 rfl) ?_
  refine r_objI hC hl.1 lkO_X2_3 dX2_init_1 (Nat.le_of_ble_eq_true rfl) (Nat.le_of_ble_eq_true rfl) ?_
  refine lv_aload_n hx hb dX2_init_4 rfl (lv_at hl 0 rfl) ?_
  refine lv_bipush (v := 60) hx hb dX2_init_5 (by decide) ?_
  obtain ⟨hg, hf⟩ := nwA_inv hf
  refine r_nwI hC hw tw_arr0 hg (Nat.le_of_ble_eq_true rfl) ⟨(Nat.le_of_ble_eq_true rfl), (Nat.le_of_ble_eq_true rfl)⟩ dX2_init_7 (fun H hw => ?_)
  generalize upS Γ z (0, Int32.toNatClampNeg 60) = Γ1 at hf hw
  generalize clr σ z = σ2 at hf hw
  obtain ⟨σ3, hg, hf⟩ := pfR_inv hf
  refine r_pfFR hC hw hnm hg clX2 (Nat.le_of_ble_eq_true rfl) lkF_X2_9 rfl rfl rfl rfl rfl dX2_init_9 (fun H locs hw => ?_)
  refine lv_aload_n hx hb dX2_init_12 rfl (lv_at hl 0 rfl) ?_
  refine lv_bipush (v := 9) hx hb dX2_init_13 (by decide) ?_
  obtain ⟨r7, Γ4, z5, σ6, hk, hf⟩ := abnd_inv hf
  refine z_callSN (As := [.int 9]) (rest := [.ref a0]) (m_X6_automata hC.2.2.2.2.2.2.2.2 hk) hC hw wd_X6_automata lkN_X2_15 rfl ⟨rfl, rfl⟩ ⟨(Nat.le_of_ble_eq_true rfl), (Nat.le_of_ble_eq_true rfl)⟩ hl.1 rfl (Nat.le_of_ble_eq_true rfl) dX2_init_15 ⟨(Nat.le_of_ble_eq_true rfl), (Nat.le_of_ble_eq_true rfl)⟩ (fun H locs hw => ?_)
  obtain ⟨σ8, hg, hf⟩ := pfR_inv hf
  refine r_pfFR hC hw hnm hg clX2 (Nat.le_of_ble_eq_true rfl) lkF_X2_19 rfl rfl rfl rfl rfl dX2_init_18 (fun H locs hw => ?_)
  refine lv_aload_n hx hb dX2_init_21 rfl (lv_at hl 0 rfl) ?_
  refine lv_bipush (v := 9) hx hb dX2_init_22 (by decide) ?_
  obtain ⟨hg, hf⟩ := nwA_inv hf
  refine r_nwZ hC hw tw_arr1 hg (Nat.le_of_ble_eq_true rfl) ⟨(Nat.le_of_ble_eq_true rfl), (Nat.le_of_ble_eq_true rfl)⟩ dX2_init_24 (fun H hw => ?_)
  generalize upS Γ4 z5 (1, Int32.toNatClampNeg 9) = Γ9 at hf hw
  generalize clr σ8 z5 = σ10 at hf hw
  obtain ⟨σ11, hg, hf⟩ := pfR_inv hf
  refine r_pfFR hC hw hnm hg clX2 (Nat.le_of_ble_eq_true rfl) lkF_X2_23 rfl rfl rfl rfl rfl dX2_init_26 (fun H locs hw => ?_)
  refine lv_aload_n hx hb dX2_init_29 rfl (lv_at hl 0 rfl) ?_
  refine lv_bipush (v := 9) hx hb dX2_init_30 (by decide) ?_
  obtain ⟨r15, Γ12, z13, σ14, hk, hf⟩ := abnd_inv hf
  refine z_callSN (As := [.int 9]) (rest := [.ref a0]) (m_X6_automata hC.2.2.2.2.2.2.2.2 hk) hC hw wd_X6_automata lkN_X2_15 rfl ⟨rfl, rfl⟩ ⟨(Nat.le_of_ble_eq_true rfl), (Nat.le_of_ble_eq_true rfl)⟩ hl.1 rfl (Nat.le_of_ble_eq_true rfl) dX2_init_32 ⟨(Nat.le_of_ble_eq_true rfl), (Nat.le_of_ble_eq_true rfl)⟩ (fun H locs hw => ?_)
  obtain ⟨σ16, hg, hf⟩ := pfR_inv hf
  refine r_pfFR hC hw hnm hg clX2 (Nat.le_of_ble_eq_true rfl) lkF_X2_27 rfl rfl rfl rfl rfl dX2_init_35 (fun H locs hw => ?_)
  refine lv_aload_n hx hb dX2_init_38 rfl (lv_at hl 0 rfl) ?_
  refine lv_bipush (v := 9) hx hb dX2_init_39 (by decide) ?_
  obtain ⟨hg, hf⟩ := nwA_inv hf
  refine r_nwZ hC hw tw_arr1 hg (Nat.le_of_ble_eq_true rfl) ⟨(Nat.le_of_ble_eq_true rfl), (Nat.le_of_ble_eq_true rfl)⟩ dX2_init_41 (fun H hw => ?_)
  generalize upS Γ12 z13 (1, Int32.toNatClampNeg 9) = Γ17 at hf hw
  generalize clr σ16 z13 = σ18 at hf hw
  obtain ⟨σ19, hg, hf⟩ := pfR_inv hf
  refine r_pfFR hC hw hnm hg clX2 (Nat.le_of_ble_eq_true rfl) lkF_X2_30 rfl rfl rfl rfl rfl dX2_init_43 (fun H locs hw => ?_)
  refine lv_aload_n hx hb dX2_init_46 rfl (lv_at hl 0 rfl) ?_
  refine r_nwO hC hw clX0 kdX0 lkC_X2_33 ⟨(Nat.le_of_ble_eq_true rfl), (Nat.le_of_ble_eq_true rfl)⟩ dX2_init_47 (fun H hw => ?_)
  have hf := nwO_inv hf
  generalize upS Γ17 (z13 + 1) (0 + 5, 0) = Γ20 at hf hw
  generalize clr σ19 (z13 + 1) = σ21 at hf hw
  refine lv_dup hx hb dX2_init_50 rfl ?_
  refine lv_bipush (v := 12) hx hb dX2_init_51 (by decide) ?_
  obtain ⟨_, Γ22, z23, σ24, hk, hf⟩ := abnd_inv hf
  refine z_callI (As := [.int 12]) (rest := [.ref (z13 + 1), .ref a0]) (m_X0_init hC.2.2.2.2.2.2.2.2 hk) hC hw wd_X0_init lkM_X2_35 rfl ⟨rfl, rfl⟩ ⟨(Nat.le_of_ble_eq_true rfl), (Nat.le_of_ble_eq_true rfl)⟩ hl.1 rfl (Nat.le_of_ble_eq_true rfl) dX2_init_53 ⟨(Nat.le_of_ble_eq_true rfl), (Nat.le_of_ble_eq_true rfl)⟩ (fun H locs hw => ?_)
  obtain ⟨σ25, hg, hf⟩ := pfR_inv hf
  refine r_pfFR hC hw hnm hg clX2 (Nat.le_of_ble_eq_true rfl) lkF_X2_38 rfl rfl rfl rfl rfl dX2_init_56 (fun H locs hw => ?_)
  refine lv_aload_n hx hb dX2_init_59 rfl (lv_at hl 0 rfl) ?_
  refine r_nwO hC hw clX0 kdX0 lkC_X2_33 ⟨(Nat.le_of_ble_eq_true rfl), (Nat.le_of_ble_eq_true rfl)⟩ dX2_init_60 (fun H hw => ?_)
  have hf := nwO_inv hf
  generalize upS Γ22 z23 (0 + 5, 0) = Γ26 at hf hw
  generalize clr σ25 z23 = σ27 at hf hw
  refine lv_dup hx hb dX2_init_63 rfl ?_
  refine lv_bipush (v := 12) hx hb dX2_init_64 (by decide) ?_
  obtain ⟨_, Γ28, z29, σ30, hk, hf⟩ := abnd_inv hf
  refine z_callI (As := [.int 12]) (rest := [.ref z23, .ref a0]) (m_X0_init hC.2.2.2.2.2.2.2.2 hk) hC hw wd_X0_init lkM_X2_35 rfl ⟨rfl, rfl⟩ ⟨(Nat.le_of_ble_eq_true rfl), (Nat.le_of_ble_eq_true rfl)⟩ hl.1 rfl (Nat.le_of_ble_eq_true rfl) dX2_init_66 ⟨(Nat.le_of_ble_eq_true rfl), (Nat.le_of_ble_eq_true rfl)⟩ (fun H locs hw => ?_)
  obtain ⟨σ31, hg, hf⟩ := pfR_inv hf
  refine r_pfFR hC hw hnm hg clX2 (Nat.le_of_ble_eq_true rfl) lkF_X2_42 rfl rfl rfl rfl rfl dX2_init_69 (fun H locs hw => ?_)
  obtain ⟨rfl, rfl, rfl, rfl⟩ := sp4_inv hf
  refine W.widen (k := 137) (n := 26628) (Nat.le_of_ble_eq_true rfl) (Nat.le_of_ble_eq_true rfl) ?_
  exact W.vret hx hb hr (z_ret hw rfl) hw.2.2.2.2.2 dX2_init_72 hC.2.2.2.2.2.1
set_option maxHeartbeats 8000000 in
set_option maxRecDepth 100000 in
theorem m_X6_init (h9 : l.stackTraces = false) {Γ Γ9 : zSh} {z z9 : Nat} {a0 : Nat} {σ σ9 : zSt} {r : Unit} (hf : f_X6_init Γ z a0 σ = some (r, Γ9, z9, σ9)) : Met l yX6_init (wq yX6_init cX6_init 1 none) rm_X6_init (zQ0 D cA B0 [.ref a0] Γ σ (ZE z)) (zQ1 D cA B0 none Γ9 σ9 (ZE z9)) 456 57578 (FR B0) := by
  refine z_ofW h9 (by decide) (Nat.le_of_ble_eq_true rfl) ?_
  intro p e s m args below meth c ls hC hr hnm hw hl
  have hx := hC.1
  have hb := hC.2.1
  have hl : lv_has ls 1 [(0, .ref a0)] := hl
  have hnm : meth.name = "<init>" := hnm
  unfold f_X6_init at hf
  refine lv_aload_n hx hb dX6_init_0 rfl (lv_at hl 0 rfl) ?_
  refine r_objI hC hl.1 lkO_X6_3 dX6_init_1 (Nat.le_of_ble_eq_true rfl) (Nat.le_of_ble_eq_true rfl) ?_
  refine lv_aload_n hx hb dX6_init_4 rfl (lv_at hl 0 rfl) ?_
  refine lv_iconst (v := 4) hx hb dX6_init_5 (by decide) ?_
  obtain ⟨r4, Γ1, z2, σ3, hk, hf⟩ := abnd_inv hf
  refine z_callS (As := [.int 4]) (rest := [.ref a0]) (m_X6_automata hC.2.2.2.2.2.2.2.2 hk) hC hw wd_X6_automata lkM_X6_9 rfl ⟨rfl, rfl⟩ ⟨(Nat.le_of_ble_eq_true rfl), (Nat.le_of_ble_eq_true rfl)⟩ hl.1 rfl (Nat.le_of_ble_eq_true rfl) dX6_init_6 ⟨(Nat.le_of_ble_eq_true rfl), (Nat.le_of_ble_eq_true rfl)⟩ (fun H locs hw => ?_)
  obtain ⟨σ5, hg, hf⟩ := pfR_inv hf
  refine r_pfFR hC hw hnm hg clX6 (Nat.le_of_ble_eq_true rfl) lkF_X6_13 rfl rfl rfl rfl rfl dX6_init_9 (fun H locs hw => ?_)
  refine lv_aload_n hx hb dX6_init_12 rfl (lv_at hl 0 rfl) ?_
  refine lv_iconst (v := 4) hx hb dX6_init_13 (by decide) ?_
  obtain ⟨r9, Γ6, z7, σ8, hk, hf⟩ := abnd_inv hf
  refine z_callS (As := [.int 4]) (rest := [.ref a0]) (m_X6_automata hC.2.2.2.2.2.2.2.2 hk) hC hw wd_X6_automata lkM_X6_9 rfl ⟨rfl, rfl⟩ ⟨(Nat.le_of_ble_eq_true rfl), (Nat.le_of_ble_eq_true rfl)⟩ hl.1 rfl (Nat.le_of_ble_eq_true rfl) dX6_init_14 ⟨(Nat.le_of_ble_eq_true rfl), (Nat.le_of_ble_eq_true rfl)⟩ (fun H locs hw => ?_)
  obtain ⟨σ10, hg, hf⟩ := pfR_inv hf
  refine r_pfFR hC hw hnm hg clX6 (Nat.le_of_ble_eq_true rfl) lkF_X6_17 rfl rfl rfl rfl rfl dX6_init_17 (fun H locs hw => ?_)
  refine lv_aload_n hx hb dX6_init_20 rfl (lv_at hl 0 rfl) ?_
  refine lv_iconst (v := 4) hx hb dX6_init_21 (by decide) ?_
  obtain ⟨hg, hf⟩ := nwA_inv hf
  refine r_nwI hC hw tw_arr0 hg (Nat.le_of_ble_eq_true rfl) ⟨(Nat.le_of_ble_eq_true rfl), (Nat.le_of_ble_eq_true rfl)⟩ dX6_init_22 (fun H hw => ?_)
  generalize upS Γ6 z7 (0, Int32.toNatClampNeg 4) = Γ11 at hf hw
  generalize clr σ10 z7 = σ12 at hf hw
  obtain ⟨σ13, hg, hf⟩ := pfR_inv hf
  refine r_pfFR hC hw hnm hg clX6 (Nat.le_of_ble_eq_true rfl) lkF_X6_20 rfl rfl rfl rfl rfl dX6_init_24 (fun H locs hw => ?_)
  refine lv_aload_n hx hb dX6_init_27 rfl (lv_at hl 0 rfl) ?_
  refine lv_iconst (v := 0) hx hb dX6_init_28 (by decide) ?_
  obtain ⟨σ14, hg, hf⟩ := pfI_inv hf
  refine r_pfI hC hw hg clX6 (Nat.le_of_ble_eq_true rfl) lkF_X6_24 rfl rfl rfl dX6_init_29 (fun H locs hw => ?_)
  refine lv_aload_n hx hb dX6_init_32 rfl (lv_at hl 0 rfl) ?_
  refine r_nwO hC hw clX0 kdX0 lkC_X6_28 ⟨(Nat.le_of_ble_eq_true rfl), (Nat.le_of_ble_eq_true rfl)⟩ dX6_init_33 (fun H hw => ?_)
  have hf := nwO_inv hf
  generalize upS Γ11 (z7 + 1) (0 + 5, 0) = Γ15 at hf hw
  generalize clr σ14 (z7 + 1) = σ16 at hf hw
  refine lv_dup hx hb dX6_init_36 rfl ?_
  refine lv_bipush (v := 12) hx hb dX6_init_37 (by decide) ?_
  obtain ⟨_, Γ17, z18, σ19, hk, hf⟩ := abnd_inv hf
  refine z_callI (As := [.int 12]) (rest := [.ref (z7 + 1), .ref a0]) (m_X0_init hC.2.2.2.2.2.2.2.2 hk) hC hw wd_X0_init lkM_X6_30 rfl ⟨rfl, rfl⟩ ⟨(Nat.le_of_ble_eq_true rfl), (Nat.le_of_ble_eq_true rfl)⟩ hl.1 rfl (Nat.le_of_ble_eq_true rfl) dX6_init_39 ⟨(Nat.le_of_ble_eq_true rfl), (Nat.le_of_ble_eq_true rfl)⟩ (fun H locs hw => ?_)
  obtain ⟨σ20, hg, hf⟩ := pfR_inv hf
  refine r_pfFR hC hw hnm hg clX6 (Nat.le_of_ble_eq_true rfl) lkF_X6_33 rfl rfl rfl rfl rfl dX6_init_42 (fun H locs hw => ?_)
  refine lv_aload_n hx hb dX6_init_45 rfl (lv_at hl 0 rfl) ?_
  refine r_nwO hC hw clX0 kdX0 lkC_X6_28 ⟨(Nat.le_of_ble_eq_true rfl), (Nat.le_of_ble_eq_true rfl)⟩ dX6_init_46 (fun H hw => ?_)
  have hf := nwO_inv hf
  generalize upS Γ17 z18 (0 + 5, 0) = Γ21 at hf hw
  generalize clr σ20 z18 = σ22 at hf hw
  refine lv_dup hx hb dX6_init_49 rfl ?_
  refine lv_bipush (v := 24) hx hb dX6_init_50 (by decide) ?_
  obtain ⟨_, Γ23, z24, σ25, hk, hf⟩ := abnd_inv hf
  refine z_callI (As := [.int 24]) (rest := [.ref z18, .ref a0]) (m_X0_init hC.2.2.2.2.2.2.2.2 hk) hC hw wd_X0_init lkM_X6_30 rfl ⟨rfl, rfl⟩ ⟨(Nat.le_of_ble_eq_true rfl), (Nat.le_of_ble_eq_true rfl)⟩ hl.1 rfl (Nat.le_of_ble_eq_true rfl) dX6_init_52 ⟨(Nat.le_of_ble_eq_true rfl), (Nat.le_of_ble_eq_true rfl)⟩ (fun H locs hw => ?_)
  obtain ⟨σ26, hg, hf⟩ := pfR_inv hf
  refine r_pfFR hC hw hnm hg clX6 (Nat.le_of_ble_eq_true rfl) lkF_X6_37 rfl rfl rfl rfl rfl dX6_init_55 (fun H locs hw => ?_)
  refine lv_aload_n hx hb dX6_init_58 rfl (lv_at hl 0 rfl) ?_
  refine r_nwO hC hw clX5 kdX5 lkC_X6_40 ⟨(Nat.le_of_ble_eq_true rfl), (Nat.le_of_ble_eq_true rfl)⟩ dX6_init_59 (fun H hw => ?_)
  have hf := nwO_inv hf
  generalize upS Γ23 z24 (5 + 5, 0) = Γ27 at hf hw
  generalize clr σ26 z24 = σ28 at hf hw
  refine lv_dup hx hb dX6_init_62 rfl ?_
  obtain ⟨_, Γ29, z30, σ31, hk, hf⟩ := abnd_inv hf
  refine z_callIN (As := []) (rest := [.ref z24, .ref a0]) (m_X5_init hC.2.2.2.2.2.2.2.2 hk) hC hw wd_X5_init lkN_X6_42 rfl ⟨rfl, rfl⟩ ⟨(Nat.le_of_ble_eq_true rfl), (Nat.le_of_ble_eq_true rfl)⟩ hl.1 rfl (Nat.le_of_ble_eq_true rfl) dX6_init_63 ⟨(Nat.le_of_ble_eq_true rfl), (Nat.le_of_ble_eq_true rfl)⟩ (fun H locs hw => ?_)
  obtain ⟨σ32, hg, hf⟩ := pfR_inv hf
  refine r_pfFR hC hw hnm hg clX6 (Nat.le_of_ble_eq_true rfl) lkF_X6_43 rfl rfl rfl rfl rfl dX6_init_66 (fun H locs hw => ?_)
  refine lv_aload_n hx hb dX6_init_69 rfl (lv_at hl 0 rfl) ?_
  refine r_nwO hC hw clX4 kdX4 lkC_X6_47 ⟨(Nat.le_of_ble_eq_true rfl), (Nat.le_of_ble_eq_true rfl)⟩ dX6_init_70 (fun H hw => ?_)
  have hf := nwO_inv hf
  generalize upS Γ29 z30 (4 + 5, 0) = Γ33 at hf hw
  generalize clr σ32 z30 = σ34 at hf hw
  refine lv_dup hx hb dX6_init_73 rfl ?_
  obtain ⟨_, Γ35, z36, σ37, hk, hf⟩ := abnd_inv hf
  refine z_callIN (As := []) (rest := [.ref z30, .ref a0]) (m_X4_init hC.2.2.2.2.2.2.2.2 hk) hC hw wd_X4_init lkN_X6_49 rfl ⟨rfl, rfl⟩ ⟨(Nat.le_of_ble_eq_true rfl), (Nat.le_of_ble_eq_true rfl)⟩ hl.1 rfl (Nat.le_of_ble_eq_true rfl) dX6_init_74 ⟨(Nat.le_of_ble_eq_true rfl), (Nat.le_of_ble_eq_true rfl)⟩ (fun H locs hw => ?_)
  obtain ⟨σ38, hg, hf⟩ := pfR_inv hf
  refine r_pfFR hC hw hnm hg clX6 (Nat.le_of_ble_eq_true rfl) lkF_X6_50 rfl rfl rfl rfl rfl dX6_init_77 (fun H locs hw => ?_)
  refine lv_aload_n hx hb dX6_init_80 rfl (lv_at hl 0 rfl) ?_
  refine r_nwO hC hw clX1 kdX1 lkC_X6_54 ⟨(Nat.le_of_ble_eq_true rfl), (Nat.le_of_ble_eq_true rfl)⟩ dX6_init_81 (fun H hw => ?_)
  have hf := nwO_inv hf
  generalize upS Γ35 z36 (1 + 5, 0) = Γ39 at hf hw
  generalize clr σ38 z36 = σ40 at hf hw
  refine lv_dup hx hb dX6_init_84 rfl ?_
  obtain ⟨_, Γ41, z42, σ43, hk, hf⟩ := abnd_inv hf
  refine z_callIN (As := []) (rest := [.ref z36, .ref a0]) (m_X1_init hC.2.2.2.2.2.2.2.2 hk) hC hw wd_X1_init lkN_X6_56 rfl ⟨rfl, rfl⟩ ⟨(Nat.le_of_ble_eq_true rfl), (Nat.le_of_ble_eq_true rfl)⟩ hl.1 rfl (Nat.le_of_ble_eq_true rfl) dX6_init_85 ⟨(Nat.le_of_ble_eq_true rfl), (Nat.le_of_ble_eq_true rfl)⟩ (fun H locs hw => ?_)
  obtain ⟨σ44, hg, hf⟩ := pfR_inv hf
  refine r_pfFR hC hw hnm hg clX6 (Nat.le_of_ble_eq_true rfl) lkF_X6_57 rfl rfl rfl rfl rfl dX6_init_88 (fun H locs hw => ?_)
  refine lv_aload_n hx hb dX6_init_91 rfl (lv_at hl 0 rfl) ?_
  refine r_nwO hC hw clX3 kdX3 lkC_X6_61 ⟨(Nat.le_of_ble_eq_true rfl), (Nat.le_of_ble_eq_true rfl)⟩ dX6_init_92 (fun H hw => ?_)
  have hf := nwO_inv hf
  generalize upS Γ41 z42 (3 + 5, 0) = Γ45 at hf hw
  generalize clr σ44 z42 = σ46 at hf hw
  refine lv_dup hx hb dX6_init_95 rfl ?_
  obtain ⟨_, Γ47, z48, σ49, hk, hf⟩ := abnd_inv hf
  refine z_callIN (As := []) (rest := [.ref z42, .ref a0]) (m_X3_init hC.2.2.2.2.2.2.2.2 hk) hC hw wd_X3_init lkN_X6_63 rfl ⟨rfl, rfl⟩ ⟨(Nat.le_of_ble_eq_true rfl), (Nat.le_of_ble_eq_true rfl)⟩ hl.1 rfl (Nat.le_of_ble_eq_true rfl) dX6_init_96 ⟨(Nat.le_of_ble_eq_true rfl), (Nat.le_of_ble_eq_true rfl)⟩ (fun H locs hw => ?_)
  obtain ⟨σ50, hg, hf⟩ := pfR_inv hf
  refine r_pfFR hC hw hnm hg clX6 (Nat.le_of_ble_eq_true rfl) lkF_X6_64 rfl rfl rfl rfl rfl dX6_init_99 (fun H locs hw => ?_)
  refine lv_aload_n hx hb dX6_init_102 rfl (lv_at hl 0 rfl) ?_
  refine lv_bipush (v := 43) hx hb dX6_init_103 (by decide) ?_
  obtain ⟨hg, hf⟩ := nwA_inv hf
  refine r_nwI hC hw tw_arr0 hg (Nat.le_of_ble_eq_true rfl) ⟨(Nat.le_of_ble_eq_true rfl), (Nat.le_of_ble_eq_true rfl)⟩ dX6_init_105 (fun H hw => ?_)
  generalize upS Γ47 z48 (0, Int32.toNatClampNeg 43) = Γ51 at hf hw
  generalize clr σ50 z48 = σ52 at hf hw
  obtain ⟨σ53, hg, hf⟩ := pfR_inv hf
  refine r_pfFR hC hw hnm hg clX6 (Nat.le_of_ble_eq_true rfl) lkF_X6_68 rfl rfl rfl rfl rfl dX6_init_107 (fun H locs hw => ?_)
  refine lv_aload_n hx hb dX6_init_110 rfl (lv_at hl 0 rfl) ?_
  refine r_nwO hC hw clX2 kdX2 lkC_X6_71 ⟨(Nat.le_of_ble_eq_true rfl), (Nat.le_of_ble_eq_true rfl)⟩ dX6_init_111 (fun H hw => ?_)
  have hf := nwO_inv hf
  generalize upS Γ51 (z48 + 1) (2 + 5, 0) = Γ54 at hf hw
  generalize clr σ53 (z48 + 1) = σ55 at hf hw
  refine lv_dup hx hb dX6_init_114 rfl ?_
  obtain ⟨_, Γ56, z57, σ58, hk, hf⟩ := abnd_inv hf
  refine z_callIN (As := []) (rest := [.ref (z48 + 1), .ref a0]) (m_X2_init hC.2.2.2.2.2.2.2.2 hk) hC hw wd_X2_init lkN_X6_73 rfl ⟨rfl, rfl⟩ ⟨(Nat.le_of_ble_eq_true rfl), (Nat.le_of_ble_eq_true rfl)⟩ hl.1 rfl (Nat.le_of_ble_eq_true rfl) dX6_init_115 ⟨(Nat.le_of_ble_eq_true rfl), (Nat.le_of_ble_eq_true rfl)⟩ (fun H locs hw => ?_)
  obtain ⟨σ59, hg, hf⟩ := pfR_inv hf
  refine r_pfFR hC hw hnm hg clX6 (Nat.le_of_ble_eq_true rfl) lkF_X6_74 rfl rfl rfl rfl rfl dX6_init_118 (fun H locs hw => ?_)
  obtain ⟨rfl, rfl, rfl, rfl⟩ := sp4_inv hf
  refine W.widen (k := 456) (n := 57578) (Nat.le_of_ble_eq_true rfl) (Nat.le_of_ble_eq_true rfl) ?_
  exact W.vret hx hb hr (z_ret hw rfl) hw.2.2.2.2.2 dX6_init_121 hC.2.2.2.2.2.1
end
