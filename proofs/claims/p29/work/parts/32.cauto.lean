/-! ===== the class's automata: what the calls make of them ===== -/
abbrev Mem := Nat → Nat → Nat
def Mx {β : Type} (x : Option β) (w : zSt → β) (R : Nat → Nat → Nat) (J : Nat → Nat → Int64) (Q : Mem → Prop) : Prop := ∃ N : Mem, x = some (w (cS N R J)) ∧ Q N
section MX
variable {β α γ : Type} {R : Nat → Nat → Nat} {J : Nat → Nat → Int64} {P Q : Mem → Prop} {w : zSt → β}
theorem mx_ret {N : Mem} (h : Q N) : Mx (some (w (cS N R J))) w R J Q := ⟨N, rfl, h⟩
theorem mx_mono {x : Option β} (h : Mx x w R J P) (k : ∀ N, P N → Q N) : Mx x w R J Q := by
  obtain ⟨N, e, p⟩ := h
  exact ⟨N, e, k N p⟩
theorem mx_eq {x : Option β} {N : Mem} (h : x = some (w (cS N R J))) (q : Q N) : Mx x w R J Q := ⟨N, h, q⟩
theorem mx_bnd {o : Option (α × zSt)} {x : α} {f : α → zSt → Option β} (h : Mx o (fun σ => (x, σ)) R J P) (k : ∀ N, P N → Mx (f x (cS N R J)) w R J Q) : Mx (bnd o f) w R J Q := by
  obtain ⟨N, e, p⟩ := h
  rw [e]
  exact k N p
theorem mx_lb0 {o : Option zSt} {f : zSt → Option β} (h : Mx o (fun σ => σ) R J P) (k : ∀ N, P N → Mx (f (cS N R J)) w R J Q) : Mx (lb0 o f) w R J Q := by
  obtain ⟨N, e, p⟩ := h
  rw [e]
  exact k N p
theorem mx_lb1 {o : Option (α × zSt)} {x : α} {f : α → zSt → Option β} (h : Mx o (fun σ => (x, σ)) R J P) (k : ∀ N, P N → Mx (f x (cS N R J)) w R J Q) : Mx (lb1 o f) w R J Q := by
  obtain ⟨N, e, p⟩ := h
  rw [e]
  exact k N p
/-- a loop by what holds before each pass -/
theorem loopM_q {S B : Type} {f : S → Option (S ⊕ B)} (q : Nat → S → Prop) (p : B → Prop) : ∀ (n k F : Nat) (s : S), q k s → n < F → (∀ i s, k ≤ i → i < k + n → q i s → ∃ s', f s = some (.inl s') ∧ q (i + 1) s') → (∀ s, q (k + n) s → ∃ b, f s = some (.inr b) ∧ p b) → ∃ b, loopM f F s = some b ∧ p b := by
  intro n
  induction n with
  | zero =>
    intro k F s h0 hF _ he
    obtain ⟨F, rfl⟩ : ∃ m, F = m + 1 := ⟨F - 1, by omega⟩
    obtain ⟨b, e, hb⟩ := he s h0
    unfold loopM
    rw [e]
    exact ⟨b, rfl, hb⟩
  | succ n ih =>
    intro k F s h0 hF hs he
    obtain ⟨F, rfl⟩ : ∃ m, F = m + 1 := ⟨F - 1, by omega⟩
    obtain ⟨s', e, h1⟩ := hs k s (Nat.le_refl _) (by omega) h0
    unfold loopM
    rw [e]
    refine ih (k + 1) F s' h1 (by omega) (fun i s a b => hs i s (by omega) (by omega)) (fun s h => he s ?_)
    rw [show k + 1 + n = k + (n + 1) by omega] at h
    exact h
theorem mx_for {f : Int32 × zSt → Option ((Int32 × zSt) ⊕ zSt)} {s e : Nat} {N : Mem} (q : Nat → Mem → Prop) (h1 : s ≤ e) (h2 : e ≤ 90000) (h0 : q s N) (hs : ∀ k N, s ≤ k → k < e → q k N → Mx (f (nI k, cS N R J)) (fun σ => .inl (nI (k + 1), σ)) R J (q (k + 1))) (hx : ∀ N, q e N → f (nI e, cS N R J) = some (.inr (cS N R J))) : Mx (loopM f FUEL (nI s, cS N R J)) (fun σ => σ) R J (q e) := by
  suffices hh : ∃ b, loopM f FUEL (nI s, cS N R J) = some b ∧ ∃ N, b = cS N R J ∧ q e N by
    obtain ⟨b, e1, N', e2, h⟩ := hh
    subst e2
    exact ⟨N', e1, h⟩
  refine loopM_q (f := f) (fun k s => ∃ N, s = (nI k, cS N R J) ∧ q k N) (fun b => ∃ N, b = cS N R J ∧ q e N) (e - s) s FUEL (nI s, cS N R J) ⟨N, rfl, h0⟩ (by unfold FUEL; omega) ?_ ?_
  · intro i x a b h
    obtain ⟨N1, rfl, h⟩ := h
    obtain ⟨N2, e2, h2⟩ := hs i N1 a (by omega) h
    exact ⟨_, e2, N2, rfl, h2⟩
  · intro x h
    rw [show s + (e - s) = e by omega] at h
    obtain ⟨N1, rfl, h⟩ := h
    exact ⟨_, hx N1 h, N1, rfl, h⟩
theorem mx_for1 {A : Type} {f : A × Int32 × zSt → Option ((A × Int32 × zSt) ⊕ (A × zSt))} (acc : Nat → A) {s e : Nat} {N : Mem} (q : Nat → Mem → Prop) (h1 : s ≤ e) (h2 : e ≤ 90000) (h0 : q s N) (hs : ∀ k N, s ≤ k → k < e → q k N → Mx (f (acc k, nI k, cS N R J)) (fun σ => .inl (acc (k + 1), nI (k + 1), σ)) R J (q (k + 1))) (hx : ∀ N, q e N → f (acc e, nI e, cS N R J) = some (.inr (acc e, cS N R J))) : Mx (loopM f FUEL (acc s, nI s, cS N R J)) (fun σ => (acc e, σ)) R J (q e) := by
  suffices hh : ∃ b, loopM f FUEL (acc s, nI s, cS N R J) = some b ∧ ∃ N, b = (acc e, cS N R J) ∧ q e N by
    obtain ⟨b, e1, N', e2, h⟩ := hh
    subst e2
    exact ⟨N', e1, h⟩
  refine loopM_q (f := f) (fun k s => ∃ N, s = (acc k, nI k, cS N R J) ∧ q k N) (fun b => ∃ N, b = (acc e, cS N R J) ∧ q e N) (e - s) s FUEL (acc s, nI s, cS N R J) ⟨N, rfl, h0⟩ (by unfold FUEL; omega) ?_ ?_
  · intro i x a b h
    obtain ⟨N1, rfl, h⟩ := h
    obtain ⟨N2, e2, h2⟩ := hs i N1 a (by omega) h
    exact ⟨_, e2, N2, rfl, h2⟩
  · intro x h
    rw [show s + (e - s) = e by omega] at h
    obtain ⟨N1, rfl, h⟩ := h
    exact ⟨_, hx N1 h, N1, rfl, h⟩
end MX
/-- an automaton: how many states, its first and last numbers, its letters' -/
abbrev Au := Nat × (Nat → Nat) × (Nat → Nat) × (Nat → Nat → Nat → Nat)
def okA (A : Au) : Prop := ∀ i, i < A.1 → A.2.1 i < 10007 ∧ A.2.2.1 i < 10007 ∧ ∀ j l, j < A.1 → l < 2 → A.2.2.2 l i j < 10007
def cAu (N : Mem) (a : Nat) (A : Au) : Prop := N a 0 = A.1 ∧ ∀ i, i < A.1 → N (a + 1) i = A.2.1 i ∧ N (a + 2) i = A.2.2.1 i ∧ ∀ j l, j < A.1 → l < 2 → N (a + 4 + l) (i * A.1 + j) = A.2.2.2 l i j
def frA (N N' : Mem) (lo hi : Nat) : Prop := ∀ x, x < lo ∨ hi ≤ x → N' x = N x
theorem frA.refl {N : Mem} {lo hi : Nat} : frA N N lo hi := fun _ _ => rfl
theorem frA.trans {N N1 N2 : Mem} {lo hi : Nat} (h : frA N N1 lo hi) (k : frA N1 N2 lo hi) : frA N N2 lo hi := fun x e => (k x e).trans (h x e)
theorem frA.mono {N N1 : Mem} {lo hi lo' hi' : Nat} (h : frA N N1 lo hi) (h1 : lo' ≤ lo) (h2 : hi ≤ hi') : frA N N1 lo' hi' := fun x e => h x (by omega)
theorem frA.set {N : Mem} {lo hi a : Nat} {g : Nat → Nat} (h : lo ≤ a) (h2 : a < hi) : frA N (setF N a g) lo hi := fun x e => setF_ne (by omega)
theorem cAu.fr {N N' : Mem} {a lo hi : Nat} {A : Au} (h : cAu N a A) (e : frA N N' lo hi) (d : a + 6 ≤ lo ∨ hi ≤ a) : cAu N' a A := by
  refine ⟨by rw [e a (by omega)]; exact h.1, fun i hi => ⟨?_, ?_, fun j l hj hl => ?_⟩⟩
  · rw [e (a + 1) (by omega)]; exact (h.2 i hi).1
  · rw [e (a + 2) (by omega)]; exact (h.2 i hi).2.1
  · rw [e (a + 4 + l) (by omega)]; exact (h.2 i hi).2.2 j l hj hl
section CA
variable {Γ : zSh} {N : Mem} {R : Nat → Nat → Nat} {J : Nat → Nat → Int64} {a cap n t m : Nat}
theorem auS.sq' (h : auS Γ R a cap) : cap * cap ≤ 576 := by
  have := Nat.mul_le_mul h.1.2 h.1.2
  omega
theorem auS.a0 (h : auS Γ R a cap) : a ≠ 0 := h.1.1
theorem auS.g1 (h : auS Γ R a cap) : Γ (a + 1) = some (0, cap) := h.2.1.2.1
theorem auS.g2 (h : auS Γ R a cap) : Γ (a + 2) = some (0, cap) := h.2.1.2.2.1
theorem auS.g3 (h : auS Γ R a cap) : Γ (a + 3) = some (3, 2) := h.2.1.2.2.2.1
theorem auS.gl (h : auS Γ R a cap) {l : Nat} (hl : l < 2) : Γ (a + 4 + l) = some (0, cap * cap) := by
  rcases (by omega : l = 0 ∨ l = 1) with rfl | rfl
  · exact h.2.1.2.2.2.2.1
  · exact h.2.1.2.2.2.2.2
theorem auS.r1 (h : auS Γ R a cap) : R a 1 = a + 1 := h.2.2.1
theorem auS.r2 (h : auS Γ R a cap) : R a 2 = a + 2 := h.2.2.2.1
theorem auS.r3 (h : auS Γ R a cap) : R a 3 = a + 3 := h.2.2.2.2.1
theorem auS.rl (h : auS Γ R a cap) {l : Nat} (hl : l < 2) : R (a + 3) l = a + 4 + l := by
  rcases (by omega : l = 0 ∨ l = 1) with rfl | rfl
  · exact h.2.2.2.2.2.1
  · exact h.2.2.2.2.2.2
theorem ix_inj {n i j i' j' : Nat} (h : i * n + j = i' * n + j') (hj : j < n) (hj' : j' < n) : i = i' ∧ j = j' := by
  have hn : 0 < n := by omega
  have e1 : (i * n + j) / n = i := by
    rw [Nat.mul_comm, Nat.mul_add_div hn, Nat.div_eq_of_lt hj, Nat.add_zero]
  have e2 : (i' * n + j') / n = i' := by
    rw [Nat.mul_comm, Nat.mul_add_div hn, Nat.div_eq_of_lt hj', Nat.add_zero]
  have e3 : i = i' := by rw [← e1, ← e2, h]
  subst e3
  exact ⟨rfl, by omega⟩
theorem ix_lt' {n i j : Nat} (hi : i < n) (hj : j < n) : i * n + j < n * n := ix_lt (Nat.le_refl n) hi hj
theorem s_clear (h : auS Γ R a cap) (hc : n ≤ cap) : Mx (f_X0_clear Γ a (nI n) (cS N R J)) (fun σ => ((), σ)) R J (fun N' => frA N N' a (a + 6) ∧ N' a 0 = n ∧ (∀ i, i < n → N' (a + 1) i = 0 ∧ N' (a + 2) i = 0) ∧ ∀ l z, l < 2 → z < n * n → N' (a + 4 + l) z = 0) := by
  have hc24 := h.c24
  have hsq := h.sq'
  have hnn := sq_le hc
  have ha := h.a0
  unfold f_X0_clear
  simp (disch := omega) only [c_bnd, c_chk, c_lb0, c_lb1, c_lb2, c_lb3, L0, L1, L2, L10007, nI_add, pk_mul, ile_t, ile_f, ilt_t, ilt_f, ieq_t, ieq_f, c_rmI, setF_at, setF_ne, setF_setF, true_and, up1_at, up1_ne, pk_sub, pk_cpy_in, pk_cpy_out, Nat.zero_add, Nat.add_zero, Nat.zero_mul, Nat.sub_zero, Nat.add_sub_cancel_left, c_gfI h.ob, c_pfI h.ob, c_gfR h.ob h.r1, c_gfR h.ob h.r2, c_gfR h.ob h.r3, c_ldI h.g1, c_ldI h.g2, c_stI h.g1, c_stI h.g2, c_chkO h.ob, s_fill h.g1, s_fill h.g2]
  refine mx_lb0 (mx_for (fun l N' => frA N N' a (a + 6) ∧ N' a 0 = n ∧ (∀ i, i < n → N' (a + 1) i = 0 ∧ N' (a + 2) i = 0) ∧ ∀ l' z, l' < l → z < n * n → N' (a + 4 + l') z = 0) (e := 2) (by omega) (by omega) ?_ ?_ ?_) ?_
  · refine ⟨fun x e => ?_, ?_, fun i hi => ⟨?_, ?_⟩, fun l' z e => absurd e (by omega)⟩
    · simp (disch := omega) only [c_bnd, c_chk, c_lb0, c_lb1, c_lb2, c_lb3, L0, L1, L2, L10007, nI_add, pk_mul, ile_t, ile_f, ilt_t, ilt_f, ieq_t, ieq_f, c_rmI, setF_at, setF_ne, setF_setF, true_and, up1_at, up1_ne, pk_sub, pk_cpy_in, pk_cpy_out, Nat.zero_add, Nat.add_zero, Nat.zero_mul, Nat.sub_zero, Nat.add_sub_cancel_left]
    · simp (disch := omega) only [c_bnd, c_chk, c_lb0, c_lb1, c_lb2, c_lb3, L0, L1, L2, L10007, nI_add, pk_mul, ile_t, ile_f, ilt_t, ilt_f, ieq_t, ieq_f, c_rmI, setF_at, setF_ne, setF_setF, true_and, up1_at, up1_ne, pk_sub, pk_cpy_in, pk_cpy_out, Nat.zero_add, Nat.add_zero, Nat.zero_mul, Nat.sub_zero, Nat.add_sub_cancel_left]
    · simp (disch := omega) only [c_bnd, c_chk, c_lb0, c_lb1, c_lb2, c_lb3, L0, L1, L2, L10007, nI_add, pk_mul, ile_t, ile_f, ilt_t, ilt_f, ieq_t, ieq_f, c_rmI, setF_at, setF_ne, setF_setF, true_and, up1_at, up1_ne, pk_sub, pk_cpy_in, pk_cpy_out, Nat.zero_add, Nat.add_zero, Nat.zero_mul, Nat.sub_zero, Nat.add_sub_cancel_left]
      rw [if_pos ⟨by omega, hi⟩]
    · simp (disch := omega) only [c_bnd, c_chk, c_lb0, c_lb1, c_lb2, c_lb3, L0, L1, L2, L10007, nI_add, pk_mul, ile_t, ile_f, ilt_t, ilt_f, ieq_t, ieq_f, c_rmI, setF_at, setF_ne, setF_setF, true_and, up1_at, up1_ne, pk_sub, pk_cpy_in, pk_cpy_out, Nat.zero_add, Nat.add_zero, Nat.zero_mul, Nat.sub_zero, Nat.add_sub_cancel_left]
      rw [if_pos ⟨by omega, hi⟩]
  · intro l N1 _ hl ⟨q1, q2, q3, q4⟩
    show Mx (f_X0_clear_B27 _ _ _ _ _) _ _ _ _
    unfold f_X0_clear_B27
    simp (disch := omega) only [c_bnd, c_chk, c_lb0, c_lb1, c_lb2, c_lb3, L0, L1, L2, L10007, nI_add, pk_mul, ile_t, ile_f, ilt_t, ilt_f, ieq_t, ieq_f, c_rmI, setF_at, setF_ne, setF_setF, true_and, up1_at, up1_ne, pk_sub, pk_cpy_in, pk_cpy_out, Nat.zero_add, Nat.add_zero, Nat.zero_mul, Nat.sub_zero, Nat.add_sub_cancel_left, c_gfI h.ob, c_pfI h.ob, c_gfR h.ob h.r1, c_gfR h.ob h.r2, c_gfR h.ob h.r3, c_ldI h.g1, c_ldI h.g2, c_stI h.g1, c_stI h.g2, c_chkO h.ob, c_ldG h.g3 (h.rl hl), c_ldI (h.gl hl), c_stI (h.gl hl), s_fill (h.gl hl)]
    refine mx_eq rfl ?_
    refine ⟨q1.trans (frA.set (by omega) (by omega)), ?_, fun i hi => ?_, fun l' z e1 e2 => ?_⟩
    · simp (disch := omega) only [c_bnd, c_chk, c_lb0, c_lb1, c_lb2, c_lb3, L0, L1, L2, L10007, nI_add, pk_mul, ile_t, ile_f, ilt_t, ilt_f, ieq_t, ieq_f, c_rmI, setF_at, setF_ne, setF_setF, true_and, up1_at, up1_ne, pk_sub, pk_cpy_in, pk_cpy_out, Nat.zero_add, Nat.add_zero, Nat.zero_mul, Nat.sub_zero, Nat.add_sub_cancel_left, q2]
    · simp (disch := omega) only [c_bnd, c_chk, c_lb0, c_lb1, c_lb2, c_lb3, L0, L1, L2, L10007, nI_add, pk_mul, ile_t, ile_f, ilt_t, ilt_f, ieq_t, ieq_f, c_rmI, setF_at, setF_ne, setF_setF, true_and, up1_at, up1_ne, pk_sub, pk_cpy_in, pk_cpy_out, Nat.zero_add, Nat.add_zero, Nat.zero_mul, Nat.sub_zero, Nat.add_sub_cancel_left, q3 i hi, and_self]
    · by_cases e : l' = l
      · subst e
        simp (disch := omega) only [c_bnd, c_chk, c_lb0, c_lb1, c_lb2, c_lb3, L0, L1, L2, L10007, nI_add, pk_mul, ile_t, ile_f, ilt_t, ilt_f, ieq_t, ieq_f, c_rmI, setF_at, setF_ne, setF_setF, true_and, up1_at, up1_ne, pk_sub, pk_cpy_in, pk_cpy_out, Nat.zero_add, Nat.add_zero, Nat.zero_mul, Nat.sub_zero, Nat.add_sub_cancel_left]
        rw [if_pos ⟨by omega, e2⟩]
      · simp (disch := omega) only [c_bnd, c_chk, c_lb0, c_lb1, c_lb2, c_lb3, L0, L1, L2, L10007, nI_add, pk_mul, ile_t, ile_f, ilt_t, ilt_f, ieq_t, ieq_f, c_rmI, setF_at, setF_ne, setF_setF, true_and, up1_at, up1_ne, pk_sub, pk_cpy_in, pk_cpy_out, Nat.zero_add, Nat.add_zero, Nat.zero_mul, Nat.sub_zero, Nat.add_sub_cancel_left]
        exact q4 l' z (by omega) e2
  · intro N1 _
    show f_X0_clear_B27 _ _ _ _ _ = _
    unfold f_X0_clear_B27
    simp (disch := omega) only [c_bnd, c_chk, c_lb0, c_lb1, c_lb2, c_lb3, L0, L1, L2, L10007, nI_add, pk_mul, ile_t, ile_f, ilt_t, ilt_f, ieq_t, ieq_f, c_rmI, setF_at, setF_ne, setF_setF, true_and, up1_at, up1_ne, pk_sub, pk_cpy_in, pk_cpy_out, Nat.zero_add, Nat.add_zero, Nat.zero_mul, Nat.sub_zero, Nat.add_sub_cancel_left]
  · intro N1 q
    exact mx_ret q
end CA
