/-! ===== the model: undo, the text ===== -/
section MTX
variable {Γ : zSh} {N N' R : Mem} {J : Nat → Nat → Int64} {p q : Nat} {S : tS} {x y z l b v w t k : Int32} {A : Au}
theorem m_undoC (h : MI Γ N R p S) (hI : tI S) : MX Γ N R J p (f_X7_undo Γ p (cS N R J)) (rUndo S) := by
  have hm := h.1
  have h2 := h.2.1.1
  have h4 := hI.1.1
  have e0 : f_X7_undo Γ p (cS N R J) = f_X7_undo_L13 Γ p (nI (b01 (0 < S.1.1))) p (cS N R J) := by
    unfold f_X7_undo
    rw [c_gfI hm.ob, h2, L0]
    by_cases e : 0 < S.1.1
    · rw [ile_f e (by omega), b01_t e]
      rfl
    · rw [ile_t (by omega) (by omega), b01_f e]
  rw [e0]
  unfold f_X7_undo_L13 rUndo
  rw [c_chkO hm.ob]
  refine mx_go1 h (fun e N1 h1 h3 f1 => ?_)
  obtain ⟨m, hm1⟩ : ∃ m, S.1.1 = m + 1 := ⟨S.1.1 - 1, by omega⟩
  have g2 := h1.2.1.1
  rw [c_gfI hm.ob, g2, hm1, L1, pk_sub (by omega), Nat.add_sub_cancel, c_pfI hm.ob, L0]
  obtain ⟨N2, t0, t1, t2, t3⟩ := m_undoLoop (J := J) (R := R) hm (N := setF N1 p (up1 (N1 p) 2 m)) (m := m) (by rw [setF_at, up1_at]) (by omega)
  rw [t0, c_lb0, c_gfI hm.ob]
  have e2 : N2 p 2 = m := by rw [t1 _ (by omega), setF_at, up1_at]
  rw [e2]
  have hm2 : (uS S).1.1 = m := by show S.1.1 - 1 = m; omega
  have sv : N2 (p + 2) = N1 (p + 2) := by rw [t1 _ (by omega), setF_ne (by omega)]
  refine ⟨N2, J, _, rfl, ⟨hm, ⟨?_, fun q hq => ?_, fun k q hk hq => ?_⟩, ?_, fun i hi => ?_⟩, f1.trans (fun x hx => by rw [t1 x (by omega), setF_ne (by omega)]), ?_, fun _ => rfl, fun _ _ => rfl⟩
  · rw [e2, hm2]
  · rw [hm2]
    show mAu N2 p q (S.1.2.1 m q)
    have h12 := (hI.1.2.1 m q (by omega) hq).2
    have := h1.2.1.2.2 m q (by omega) hq
    have mv : ∀ z, z < 1252 → N2 (p + 1) z = N1 (p + 2) (1252 * m + z) := fun z hz => by rw [t2 z hz, setF_ne (by omega)]
    refine ⟨by rw [mv _ (by omega)]; exact this.1, fun i hi => ⟨?_, ?_, fun j l hj hl => ?_⟩⟩
    · rw [mv _ (by omega)]; exact (this.2 i hi).1
    · rw [mv _ (by omega)]; exact (this.2 i hi).2.1
    · rw [mv _ (by omega)]; exact (this.2 i hi).2.2 j l hj hl
  · rw [hm2] at hk
    have := h1.2.1.2.2 k q (by omega) hq
    unfold mSn at this ⊢
    rw [sv]
    exact this
  · rw [t1 _ (by omega), setF_at, up1_ne (by omega)]; exact h1.2.2.1
  · rw [t1 _ (by omega), setF_ne (by omega)]; exact h1.2.2.2 i hi
  · rw [t1 _ (by omega), setF_at, up1_ne (by omega)]; exact h3
theorem m_append (h : MI Γ N R p S) (hI : tI S) : MX Γ N R J p (f_X7_append Γ p x (cS N R J)) (rAppend S x) := by
  have hm := h.1
  have h2 := h.2.2.1
  have h60 := hI.2.1
  have e0 : f_X7_append Γ p x (cS N R J) = f_X7_append_L24 Γ p x (nI (b01 (S.2.1 < 60))) (nI (b01 (inR x 0 127))) p (cS N R J) := by
    unfold f_X7_append
    rw [m_in (l := 0) (h := 127) (by decide) (by decide), c_bnd, c_gfI hm.ob, h2, L60]
    by_cases e : S.2.1 < 60
    · rw [ile_f e (by omega), b01_t e]
      rfl
    · rw [ile_t (by omega) (by omega), b01_f e]
      rfl
  rw [e0]
  unfold f_X7_append_L24 rAppend
  rw [c_chkO hm.ob]
  refine mx_go2 h (fun e e60 N1 h1 h3 f1 => ?_)
  obtain ⟨e1, _, e2⟩ := ix_of e (by omega) (by omega)
  generalize ix x = c at *
  clear e0
  subst e1
  have g2 := h1.2.2.1
  rw [c_gfR hm.ob hm.rtext (by omega), c_gfI hm.ob, g2, c_stI hm.gtext e60 (by omega), c_gfI hm.ob, setF_ne (by omega), g2, L1, nI_add, c_pfI hm.ob, c_gfI hm.ob, setF_at, up1_at]
  refine ⟨_, J, _, rfl, ⟨hm, ?_, ?_, fun i hi => ?_⟩, f1.trans (fun x hx => by rw [setF_ne (by omega), setF_ne (by omega)]), ?_, fun _ => rfl, fun _ _ => rfl⟩
  · obtain ⟨k1, k2, k3⟩ := h1.2.1
    refine ⟨?_, fun q hq => (k2 q hq).eq (by rw [setF_ne (by omega), setF_ne (by omega)]), fun k q hk hq => ?_⟩
    · rw [setF_at, up1_ne (by omega), setF_ne (by omega)]; exact k1
    · have := k3 k q hk hq
      unfold mSn at this ⊢
      rw [setF_ne (by omega), setF_ne (by omega)]
      exact this
  · rw [setF_at, up1_at]
  · have hi' : i < S.2.1 + 1 := hi
    show setF _ _ _ _ i = up1 S.2.2 S.2.1 c i
    rw [setF_ne (by omega), setF_at]
    unfold up1
    by_cases e5 : i = S.2.1
    · rw [if_pos e5, if_pos e5]
    · rw [if_neg e5, if_neg e5]
      exact h1.2.2.2 i (by omega)
  · rw [setF_at, up1_ne (by omega), setF_ne (by omega)]; exact h3
theorem m_clearT (h : MI Γ N R p S) : ∃ N', f_X7_clearText Γ p (cS N R J) = some (nI S.2.1, cS N' R J) ∧ MI Γ N' R p (S.1, 0, S.2.2) ∧ frA N N' p (p + 17) := by
  have hm := h.1
  obtain ⟨h1, f1, h3⟩ := mg1 (v := 0) h
  generalize hN : setF N p (up1 (N p) 3 0) = N1 at *
  unfold f_X7_clearText
  rw [L0, c_pfI hm.ob, hN, c_gfI hm.ob, h1.2.2.1, c_pfI hm.ob]
  refine ⟨_, rfl, ⟨hm, ?_, ?_, fun i hi => absurd hi (Nat.not_lt_zero i)⟩, f1.trans (fun x hx => by rw [setF_ne (by omega)])⟩
  · obtain ⟨k1, k2, k3⟩ := h1.2.1
    refine ⟨?_, fun q hq => (k2 q hq).eq (by rw [setF_ne (by omega)]), fun k q hk hq => ?_⟩
    · rw [setF_at, up1_ne (by omega)]; exact k1
    · have := k3 k q hk hq
      unfold mSn at this ⊢
      rw [setF_ne (by omega)]
      exact this
  · rw [setF_at, up1_at]
end MTX
