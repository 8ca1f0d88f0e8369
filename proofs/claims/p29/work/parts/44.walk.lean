/-! ===== words, and the class's walk ===== -/
def vW (A : Au) (v : Nat → Nat) (c : Nat) : Nat → Nat := if c ≤ 1 then v else stpA A (c % 2) (vW A v (c / 2))
termination_by c
decreasing_by omega
theorem vW_low {A : Au} {v : Nat → Nat} {c : Nat} (h : c ≤ 1) : vW A v c = v := by
  unfold vW
  rw [if_pos h]
theorem vW_hi {A : Au} {v : Nat → Nat} {c : Nat} (h : 2 ≤ c) : vW A v c = stpA A (c % 2) (vW A v (c / 2)) := by
  rw [vW, if_neg (by omega)]
theorem vW_lt {A : Au} {v : Nat → Nat} (h : ∀ j, j < A.1 → v j < 10007) {c j : Nat} (hj : j < A.1) : vW A v c j < 10007 := by
  by_cases e : c ≤ 1
  · rw [vW_low e]; exact h j hj
  · rw [vW_hi (by omega)]; exact stpA_lt
theorem stpA_congr {A : Au} {l : Nat} {v w : Nat → Nat} (h : ∀ i, i < A.1 → v i = w i) {j : Nat} : stpA A l v j = stpA A l w j := by
  unfold stpA
  rw [nsum_congr (fun i hi => by rw [h i hi])]
theorem stpB_congr {A : Au} {l : Nat} {v w : Nat → Nat} (h : ∀ i, i < A.1 → v i = w i) {j : Nat} : stpB A l v j = stpB A l w j := by
  unfold stpB
  by_cases e : l = 2
  · rw [if_pos e, if_pos e, nsum_congr (fun i hi => by rw [h i hi])]
  · rw [if_neg e, if_neg e]; exact stpA_congr h
theorem wtA_congr {A : Au} {v w : Nat → Nat} (h : ∀ i, i < A.1 → v i = w i) : wtA A v = wtA A w := by
  unfold wtA
  rw [nsum_congr (fun i hi => by rw [h i hi])]
theorem vW_congr {A : Au} {v w : Nat → Nat} (h : ∀ i, i < A.1 → v i = w i) : ∀ (c j : Nat), j < A.1 → vW A v c j = vW A w c j := by
  intro c
  induction c using Nat.strongRecOn with
  | ind c ih =>
    intro j hj
    by_cases e : c ≤ 1
    · rw [vW_low e, vW_low e]; exact h j hj
    · rw [vW_hi (v := v) (c := c) (by omega), vW_hi (v := w) (c := c) (by omega)]
      exact stpA_congr (fun i hi => ih (c / 2) (by omega) i hi)
theorem sh_k : ∀ k : Nat, k < 32 → ((nI k).toBitVec.smod 32).toNat = k := by decide
theorem shr_n {n k : Nat} (h : n < 2147483648) (hk : k < 32) : nI n >>> (nI k &&& 31) = nI (n / 2 ^ k) := by
  rw [pk_andN (by omega) 5 (by decide), Nat.mod_eq_of_lt (by omega)]
  exact pk_shrN (by omega) _ k (sh_k k hk)
theorem and_1 {n : Nat} (h : n < 2147483648) : nI n &&& nI 1 = nI (n % 2) := pk_andN (by omega) 1 (by decide)
theorem div_s {c k : Nat} : c / 2 ^ (k + 1) = c / 2 ^ k / 2 := by
  rw [Nat.pow_succ, Nat.div_div_eq_div_mul]
def MxR {β : Type} (x : Option β) (w : zSt → β) (J : Nat → Nat → Int64) (Q : Mem → Mem → Prop) : Prop := ∃ (N : Mem) (R : Mem), x = some (w (cS N R J)) ∧ Q N R
section MR
variable {β α : Type} {J : Nat → Nat → Int64} {P Q : Mem → Mem → Prop} {w : zSt → β}
theorem mr_eq {x : Option β} {N R : Mem} (h : x = some (w (cS N R J))) (q : Q N R) : MxR x w J Q := ⟨N, R, h, q⟩
theorem mr_of {x : Option β} {R : Mem} {P : Mem → Prop} (h : Mx x w R J P) (k : ∀ N, P N → Q N R) : MxR x w J Q := by
  obtain ⟨N, e, p⟩ := h
  exact ⟨N, R, e, k N p⟩
theorem mr_mono {x : Option β} (h : MxR x w J P) (k : ∀ N R, P N R → Q N R) : MxR x w J Q := by
  obtain ⟨N, R, e, p⟩ := h
  exact ⟨N, R, e, k N R p⟩
theorem mr_bnd {o : Option (α × zSt)} {x : α} {f : α → zSt → Option β} (h : MxR o (fun σ => (x, σ)) J P) (k : ∀ N R, P N R → MxR (f x (cS N R J)) w J Q) : MxR (bnd o f) w J Q := by
  obtain ⟨N, R, e, p⟩ := h
  rw [e]
  exact k N R p
theorem mr_lb0 {o : Option zSt} {f : zSt → Option β} (h : MxR o (fun σ => σ) J P) (k : ∀ N R, P N R → MxR (f (cS N R J)) w J Q) : MxR (lb0 o f) w J Q := by
  obtain ⟨N, R, e, p⟩ := h
  rw [e]
  exact k N R p
theorem mr_lb1 {o : Option (α × zSt)} {x : α} {f : α → zSt → Option β} (h : MxR o (fun σ => (x, σ)) J P) (k : ∀ N R, P N R → MxR (f x (cS N R J)) w J Q) : MxR (lb1 o f) w J Q := by
  obtain ⟨N, R, e, p⟩ := h
  rw [e]
  exact k N R p
theorem mr_for {f : Int32 × zSt → Option ((Int32 × zSt) ⊕ zSt)} {s e : Nat} {N R : Mem} (q : Nat → Mem → Mem → Prop) (h1 : s ≤ e) (h2 : e ≤ 90000) (h0 : q s N R) (hs : ∀ k N R, s ≤ k → k < e → q k N R → MxR (f (nI k, cS N R J)) (fun σ => .inl (nI (k + 1), σ)) J (q (k + 1))) (hx : ∀ N R, q e N R → f (nI e, cS N R J) = some (.inr (cS N R J))) : MxR (loopM f FUEL (nI s, cS N R J)) (fun σ => σ) J (q e) := by
  suffices hh : ∃ b, loopM f FUEL (nI s, cS N R J) = some b ∧ ∃ N R, b = cS N R J ∧ q e N R by
    obtain ⟨b, e1, N', R', e2, h⟩ := hh
    subst e2
    exact ⟨N', R', e1, h⟩
  refine loopM_q (f := f) (fun k s => ∃ N R, s = (nI k, cS N R J) ∧ q k N R) (fun b => ∃ N R, b = cS N R J ∧ q e N R) (e - s) s FUEL (nI s, cS N R J) ⟨N, R, rfl, h0⟩ (by unfold FUEL; omega) ?_ ?_
  · intro i x a b h
    obtain ⟨N1, R1, rfl, h⟩ := h
    obtain ⟨N2, R2, e2, h2⟩ := hs i N1 R1 a (by omega) h
    exact ⟨_, e2, N2, R2, rfl, h2⟩
  · intro x h
    rw [show s + (e - s) = e by omega] at h
    obtain ⟨N1, R1, rfl, h⟩ := h
    exact ⟨_, hx N1 R1 h, N1, R1, rfl, h⟩
theorem mr_for1 {A : Type} {f : A × Int32 × zSt → Option ((A × Int32 × zSt) ⊕ (A × zSt))} (acc : Nat → A) {s e : Nat} {N R : Mem} (q : Nat → Mem → Mem → Prop) (h1 : s ≤ e) (h2 : e ≤ 90000) (h0 : q s N R) (hs : ∀ k N R, s ≤ k → k < e → q k N R → MxR (f (acc k, nI k, cS N R J)) (fun σ => .inl (acc (k + 1), nI (k + 1), σ)) J (q (k + 1))) (hx : ∀ N R, q e N R → f (acc e, nI e, cS N R J) = some (.inr (acc e, cS N R J))) : MxR (loopM f FUEL (acc s, nI s, cS N R J)) (fun σ => (acc e, σ)) J (q e) := by
  suffices hh : ∃ b, loopM f FUEL (acc s, nI s, cS N R J) = some b ∧ ∃ N R, b = (acc e, cS N R J) ∧ q e N R by
    obtain ⟨b, e1, N', R', e2, h⟩ := hh
    subst e2
    exact ⟨N', R', e1, h⟩
  refine loopM_q (f := f) (fun k s => ∃ N R, s = (acc k, nI k, cS N R J) ∧ q k N R) (fun b => ∃ N R, b = (acc e, cS N R J) ∧ q e N R) (e - s) s FUEL (acc s, nI s, cS N R J) ⟨N, R, rfl, h0⟩ (by unfold FUEL; omega) ?_ ?_
  · intro i x a b h
    obtain ⟨N1, R1, rfl, h⟩ := h
    obtain ⟨N2, R2, e2, h2⟩ := hs i N1 R1 a (by omega) h
    exact ⟨_, e2, N2, R2, rfl, h2⟩
  · intro x h
    rw [show s + (e - s) = e by omega] at h
    obtain ⟨N1, R1, rfl, h⟩ := h
    exact ⟨_, hx N1 R1 h, N1, R1, rfl, h⟩
end MR
theorem auS.frR {Γ : zSh} {R R' : Mem} {a cap : Nat} (h : auS Γ R a cap) (e : R' a = R a) (e2 : R' (a + 3) = R (a + 3)) : auS Γ R' a cap := by
  unfold auS at h ⊢
  rw [e, e2]
  exact h
def wS (Γ : zSh) (R : Mem) (w u u' : Nat) : Prop := Γ w = some (5 + 5, 0) ∧ Γ (w + 1) = some (0, 12) ∧ Γ (w + 2) = some (0, 12) ∧ R w 0 = u ∧ R w 1 = u' ∧ w ≠ 0 ∧ (u = w + 1 ∧ u' = w + 2 ∨ u = w + 2 ∧ u' = w + 1)
section WK
variable {Γ : zSh} {N : Mem} {R : Mem} {J : Nat → Nat → Int64} {a w u u' cap n : Nat} {A : Au}
theorem wS.gu (h : wS Γ R w u u') : Γ u = some (0, 12) := by
  rcases h.2.2.2.2.2.2 with ⟨rfl, _⟩ | ⟨rfl, _⟩
  · exact h.2.1
  · exact h.2.2.1
theorem wS.gu' (h : wS Γ R w u u') : Γ u' = some (0, 12) := by
  rcases h.2.2.2.2.2.2 with ⟨_, rfl⟩ | ⟨_, rfl⟩
  · exact h.2.2.1
  · exact h.2.1
theorem k_start (h : wS Γ R w u u') (k : auS Γ R a cap) (d : a + 6 ≤ w ∨ w + 3 ≤ a) (hA : cAu N a A) (hc : A.1 ≤ cap) (h12 : A.1 ≤ 12) : Mx (f_X5_start Γ w a (cS N R J)) (fun σ => ((), σ)) R J (fun N' => frA N N' (w + 1) (w + 3) ∧ ∀ j, j < A.1 → N' u j = A.2.1 j) := by
  have hc24 := k.c24
  have ha := k.a0
  have e0 := hA.1
  obtain ⟨w1, w2, w3, w4, w5, w6, w7⟩ := id h
  unfold f_X5_start
  simp (disch := omega) only [c_bnd, c_chk, c_lb0, c_lb1, c_lb2, c_lb3, L0, L1, L2, L10007, nI_add, pk_mul, ile_t, ile_f, ilt_t, ilt_f, ieq_t, ieq_f, c_rmI, setF_at, setF_ne, setF_setF, true_and, up1_at, up1_ne, pk_sub, pk_cpy_in, pk_cpy_out, Nat.zero_add, Nat.add_zero, Nat.zero_mul, Nat.sub_zero, Nat.add_sub_cancel_left, c_gfI k.ob, c_pfI k.ob, c_gfR k.ob k.r1, c_gfR k.ob k.r2, c_gfR k.ob k.r3, c_ldI k.g1, c_ldI k.g2, c_stI k.g1, c_stI k.g2, c_chkO k.ob, c_gfR w1 w4, e0, c_cpI k.g1 h.gu]
  refine mx_eq rfl ⟨frA.set (by omega) (by omega), fun j hj => ?_⟩
  simp (disch := omega) only [c_bnd, c_chk, c_lb0, c_lb1, c_lb2, c_lb3, L0, L1, L2, L10007, nI_add, pk_mul, ile_t, ile_f, ilt_t, ilt_f, ieq_t, ieq_f, c_rmI, setF_at, setF_ne, setF_setF, true_and, up1_at, up1_ne, pk_sub, pk_cpy_in, pk_cpy_out, Nat.zero_add, Nat.add_zero, Nat.zero_mul, Nat.sub_zero, Nat.add_sub_cancel_left, (hA.2 j hj).1]
theorem k_swap (h : wS Γ R w u u') : ∃ R', f_X5_swap Γ w (cS N R J) = some ((), cS N R' J) ∧ (∀ x, x ≠ w → R' x = R x) ∧ wS Γ R' w u' u := by
  obtain ⟨w1, w2, w3, w4, w5, w6, w7⟩ := id h
  unfold f_X5_swap
  simp (disch := omega) only [c_bnd, c_chk, c_lb0, c_lb1, c_lb2, c_lb3, L0, L1, L2, L10007, nI_add, pk_mul, ile_t, ile_f, ilt_t, ilt_f, ieq_t, ieq_f, c_rmI, setF_at, setF_ne, setF_setF, true_and, up1_at, up1_ne, pk_sub, pk_cpy_in, pk_cpy_out, Nat.zero_add, Nat.add_zero, Nat.zero_mul, Nat.sub_zero, Nat.add_sub_cancel_left, c_gfR w1 w4, c_gfR w1 w5, c_pfR w1]
  refine ⟨_, rfl, fun x e => ?_, w1, w2, w3, ?_, ?_, w6, ?_⟩
  · rw [up2_ne e, up2_ne e]
  · show (if w = w ∧ 0 = 1 then _ else (if w = w ∧ 0 = 0 then _ else _)) = _
    rw [if_neg (by omega), if_pos ⟨rfl, rfl⟩]
  · exact up2_at
  · rcases w7 with ⟨a, b⟩ | ⟨a, b⟩
    · exact Or.inr ⟨b, a⟩
    · exact Or.inl ⟨b, a⟩
theorem k_word (h : wS Γ R w u u') (k : auS Γ R a cap) (d : a + 6 ≤ w ∨ w + 3 ≤ a) (hA : cAu N a A) (hc : A.1 ≤ cap) (h12 : A.1 ≤ 12) (ok : okA A) {v : Nat → Nat} (hv : ∀ j, j < A.1 → N u j = v j) (hv2 : ∀ j, j < A.1 → v j < 10007) {word : Nat} (hw : word ≤ 1000000) : MxR (f_X5_takeWord Γ w a (nI word) (cS N R J)) (fun σ => ((), σ)) J (fun N' R' => frA N N' (w + 1) (w + 3) ∧ (∀ x, x ≠ w → R' x = R x) ∧ ∃ u2 u2', wS Γ R' w u2 u2' ∧ ∀ j, j < A.1 → N' u2 j = vW A v (word + 1) j) := by
  have hw6 := h.2.2.2.2.2.1
  have ha := k.a0
  unfold f_X5_takeWord
  rw [L18]
  let q : Nat → Mem → Mem → Prop := fun b N' R' => frA N N' (w + 1) (w + 3) ∧ (∀ x, x ≠ w → R' x = R x) ∧ ∃ u2 u2', wS Γ R' w u2 u2' ∧ ∀ j, j < A.1 → N' u2 j = vW A v ((word + 1) / 2 ^ b) j
  let cnt : Nat → Int32 := fun b => if b = 0 then -1 else nI (b - 1)
  suffices hh : ∃ b, loopM (fun q => f_X5_takeWord_B8 Γ w a (nI word + 1) q.1 q.2) FUEL (nI 18, cS N R J) = some b ∧ ∃ N' R', b = cS N' R' J ∧ q 0 N' R' by
    obtain ⟨b, e1, N', R', rfl, h⟩ := hh
    rw [e1]
    refine mr_eq rfl ?_
    have := h
    rw [show q 0 = fun N' R' => frA N N' (w + 1) (w + 3) ∧ (∀ x, x ≠ w → R' x = R x) ∧ ∃ u2 u2', wS Γ R' w u2 u2' ∧ ∀ j, j < A.1 → N' u2 j = vW A v ((word + 1) / 2 ^ 0) j from rfl, Nat.pow_zero, Nat.div_one] at this
    exact this
  refine loopM_q (fun k s => ∃ N' R', s = (cnt (19 - k), cS N' R' J) ∧ q (19 - k) N' R') (fun b => ∃ N' R', b = cS N' R' J ∧ q 0 N' R') 19 0 FUEL _ ⟨N, R, rfl, frA.refl, fun x _ => rfl, u, u', h, ?_⟩ (by unfold FUEL; omega) ?_ ?_
  · intro j hj
    rw [vW_low (by omega)]
    exact hv j hj
  · intro i s _ hi ⟨N1, R1, e, r1, r2, u2, u2', r3, r4⟩
    subst e
    obtain ⟨b, hb⟩ : ∃ b, 19 - i = b + 1 := ⟨18 - i, by omega⟩
    rw [show 19 - (i + 1) = b by omega]
    rw [hb] at r4 ⊢
    have hb' : b < 19 := by omega
    have hcn : cnt (b + 1) = nI b := if_neg (by omega)
    have hcn2 : nI b + (-1) = cnt b := by
      show _ = if b = 0 then (-1 : Int32) else nI (b - 1)
      cases b with
      | zero => rfl
      | succ c =>
        rw [pk_m1, if_neg (by omega)]
        rfl
    rw [hcn]
    have hds := div_s (c := word + 1) (k := b)
    have hpb : (word + 1) / 2 ^ b ≤ word + 1 := Nat.div_le_self _ _
    have hneg : ¬ nI b < (0 : Int32) := nI_pos (by omega)
    show ∃ s', f_X5_takeWord_B8 Γ w a (nI word + 1) (nI b) (cS N1 R1 J) = some (.inl s') ∧ _
    unfold f_X5_takeWord_B8
    rw [if_neg hneg]
    by_cases e : (word + 1) / 2 ^ (b + 1) = 0
    · rw [L1, nI_add, nI_add, shr_n (by omega) (by omega), e, L0, if_pos rfl]
      unfold f_X5_takeWord_B8_L44
      rw [hcn2]
      refine ⟨_, rfl, N1, R1, rfl, r1, r2, u2, u2', r3, fun j hj => ?_⟩
      rw [r4 j hj, e, vW_low (by omega), vW_low (by omega)]
    · have k1 : auS Γ R1 a cap := k.frR (r2 a (by omega)) (r2 (a + 3) (by omega))
      have hA1 : cAu N1 a A := hA.fr r1 (by omega)
      obtain ⟨w1, w2, w3, w4, w5, w6, w7⟩ := id r3
      have hl : (word + 1) / 2 ^ b % 2 < 2 := Nat.mod_lt _ (by omega)
      have hle : (word + 1) / 2 ^ (b + 1) ≤ word + 1 := Nat.div_le_self _ _
      rw [L1, nI_add, nI_add, shr_n (by omega) (by omega), L0, if_neg (fun e2 => e ((nI_eq (by omega) (by omega)).mp e2)), shr_n (by omega) (by omega), and_1 (by omega)]
      simp (disch := omega) only [c_bnd, c_chk, c_lb0, c_lb1, c_lb2, c_lb3, L0, L1, L2, L10007, nI_add, pk_mul, ile_t, ile_f, ilt_t, ilt_f, ieq_t, ieq_f, c_rmI, setF_at, setF_ne, setF_setF, true_and, up1_at, up1_ne, pk_sub, pk_cpy_in, pk_cpy_out, Nat.zero_add, Nat.add_zero, Nat.zero_mul, Nat.sub_zero, Nat.add_sub_cancel_left, c_gfI k1.ob, c_pfI k1.ob, c_gfR k1.ob k1.r1, c_gfR k1.ob k1.r2, c_gfR k1.ob k1.r3, c_ldI k1.g1, c_ldI k1.g2, c_stI k1.g1, c_stI k1.g2, c_chkO k1.ob, c_gfR w1 w4, c_gfR w1 w5]
      rw [s_take k1 hA1 hc ok hl r3.gu h12 (by omega) r3.gu' h12 (by omega) (by omega) (fun i hi => by rw [r4 i hi]; exact vW_lt hv2 hi)]
      simp (disch := omega) only [c_bnd, c_chk, c_lb0, c_lb1, c_lb2, c_lb3, L0, L1, L2, L10007, nI_add, pk_mul, ile_t, ile_f, ilt_t, ilt_f, ieq_t, ieq_f, c_rmI, setF_at, setF_ne, setF_setF, true_and, up1_at, up1_ne, pk_sub, pk_cpy_in, pk_cpy_out, Nat.zero_add, Nat.add_zero, Nat.zero_mul, Nat.sub_zero, Nat.add_sub_cancel_left, c_chkO w1]
      obtain ⟨R2, s1, s2, s3⟩ := k_swap (J := J) (N := setF N1 u2' (fun j => if j < A.1 then stpA A ((word + 1) / 2 ^ b % 2) (N1 u2) j else N1 u2' j)) r3
      rw [s1]
      simp (disch := omega) only [c_bnd, c_chk, c_lb0, c_lb1, c_lb2, c_lb3, L0, L1, L2, L10007, nI_add, pk_mul, ile_t, ile_f, ilt_t, ilt_f, ieq_t, ieq_f, c_rmI, setF_at, setF_ne, setF_setF, true_and, up1_at, up1_ne, pk_sub, pk_cpy_in, pk_cpy_out, Nat.zero_add, Nat.add_zero, Nat.zero_mul, Nat.sub_zero, Nat.add_sub_cancel_left]
      unfold f_X5_takeWord_B8_L44
      rw [hcn2]
      refine ⟨_, rfl, _, R2, rfl, r1.trans (frA.set (by omega) (by omega)), fun x e => (s2 x e).trans (r2 x e), u2', u2, s3, fun j hj => ?_⟩
      have h2 : 2 ≤ (word + 1) / 2 ^ b := by
        rw [hds] at e
        generalize (word + 1) / 2 ^ b = z at e ⊢
        omega
      rw [setF_at, if_pos hj, vW_hi h2, ← hds]
      exact stpA_congr r4
  · intro s ⟨N1, R1, e, r⟩
    subst e
    refine ⟨cS N1 R1 J, ?_, N1, R1, rfl, r⟩
    show f_X5_takeWord_B8 Γ w a (nI word + 1) (-1) (cS N1 R1 J) = _
    unfold f_X5_takeWord_B8
    rw [if_pos (by decide)]
theorem k_value (h : wS Γ R w u u') (k : auS Γ R a cap) (hA : cAu N a A) (hc : A.1 ≤ cap) (h12 : A.1 ≤ 12) (ok : okA A) (b : ∀ i, i < A.1 → N u i < 10007) : f_X5_value Γ w a (cS N R J) = some (nI (wtA A (N u)), cS N R J) := by
  obtain ⟨w1, w2, w3, w4, w5, w6, w7⟩ := id h
  unfold f_X5_value
  simp (disch := omega) only [c_bnd, c_chk, c_lb0, c_lb1, c_lb2, c_lb3, L0, L1, L2, L10007, nI_add, pk_mul, ile_t, ile_f, ilt_t, ilt_f, ieq_t, ieq_f, c_rmI, setF_at, setF_ne, setF_setF, true_and, up1_at, up1_ne, pk_sub, pk_cpy_in, pk_cpy_out, Nat.zero_add, Nat.add_zero, Nat.zero_mul, Nat.sub_zero, Nat.add_sub_cancel_left, c_gfR w1 w4, c_gfI k.ob, c_pfI k.ob, c_gfR k.ob k.r1, c_gfR k.ob k.r2, c_gfR k.ob k.r3, c_ldI k.g1, c_ldI k.g2, c_stI k.g1, c_stI k.g2, c_chkO k.ob, s_wt k hA hc ok h.gu h12 (by omega) b]
theorem k_both (h : wS Γ R w u u') (k : auS Γ R a cap) (d : a + 6 ≤ w ∨ w + 3 ≤ a) (hA : cAu N a A) (hc : A.1 ≤ cap) (h12 : A.1 ≤ 12) (ok : okA A) (b : ∀ i, i < A.1 → N u i < 10007) : MxR (f_X5_takeBoth Γ w a (cS N R J)) (fun σ => ((), σ)) J (fun N' R' => frA N N' (w + 1) (w + 3) ∧ (∀ x, x ≠ w → R' x = R x) ∧ wS Γ R' w u' u ∧ ∀ j, j < A.1 → N' u' j = stpB A 2 (N u) j) := by
  have e0 := hA.1
  have ha := k.a0
  obtain ⟨w1, w2, w3, w4, w5, w6, w7⟩ := id h
  unfold f_X5_takeBoth
  simp (disch := omega) only [c_bnd, c_chk, c_lb0, c_lb1, c_lb2, c_lb3, L0, L1, L2, L10007, nI_add, pk_mul, ile_t, ile_f, ilt_t, ilt_f, ieq_t, ieq_f, c_rmI, setF_at, setF_ne, setF_setF, true_and, up1_at, up1_ne, pk_sub, pk_cpy_in, pk_cpy_out, Nat.zero_add, Nat.add_zero, Nat.zero_mul, Nat.sub_zero, Nat.add_sub_cancel_left, c_gfI k.ob, c_pfI k.ob, c_gfR k.ob k.r1, c_gfR k.ob k.r2, c_gfR k.ob k.r3, c_ldI k.g1, c_ldI k.g2, c_stI k.g1, c_stI k.g2, c_chkO k.ob, c_gfR w1 w5, e0, s_fill h.gu']
  generalize hN1 : setF N u' _ = N1
  have q1 : frA N N1 u' (u' + 1) := by
    subst hN1
    exact frA.set (by omega) (by omega)
  have q2 : ∀ j, j < A.1 → N1 u' j = 0 := by
    intro j hj
    subst hN1
    rw [setF_at, if_pos ⟨Nat.zero_le _, hj⟩]
  refine mr_lb0 (mr_of (Q := fun N' R' => R' = R ∧ frA N N' u' (u' + 1) ∧ ∀ j, j < A.1 → N' u' j = stpB A 2 (N u) j) (mx_for (fun l N' => frA N N' u' (u' + 1) ∧ ∀ j, j < A.1 → N' u' j = (if l = 0 then 0 else if l = 1 then nsum A.1 (fun i => N u i * A.2.2.2 0 i j) % 10007 else stpB A 2 (N u) j)) (s := 0) (e := 2) (by omega) (by omega) ⟨q1, fun j hj => by rw [if_pos rfl]; exact q2 j hj⟩ ?_ ?_) ?_) ?_
  · intro l N2 _ hl ⟨r1, r2⟩
    have hA2 := hA.fr r1 (by omega)
    have f0 := hA2.1
    have f1 : N2 u = N u := r1 u (by omega)
    show Mx (f_X5_takeBoth_B15 _ _ _ _ _) _ _ _ _
    unfold f_X5_takeBoth_B15
    simp (disch := omega) only [c_bnd, c_chk, c_lb0, c_lb1, c_lb2, c_lb3, L0, L1, L2, L10007, nI_add, pk_mul, ile_t, ile_f, ilt_t, ilt_f, ieq_t, ieq_f, c_rmI, setF_at, setF_ne, setF_setF, true_and, up1_at, up1_ne, pk_sub, pk_cpy_in, pk_cpy_out, Nat.zero_add, Nat.add_zero, Nat.zero_mul, Nat.sub_zero, Nat.add_sub_cancel_left, c_gfI k.ob, c_pfI k.ob, c_gfR k.ob k.r1, c_gfR k.ob k.r2, c_gfR k.ob k.r3, c_ldI k.g1, c_ldI k.g2, c_stI k.g1, c_stI k.g2, c_chkO k.ob, c_gfR w1 w4, c_gfR w1 w5]
    rw [s_addStep k f0 hc hl h.gu h12 (by omega) h.gu' h12 (by omega) (by omega) (fun i hi => by rw [f1]; exact b i hi) (fun i j hi hj => by rw [(hA2.2 i hi).2.2 j l hj hl]; exact (ok i hi).2.2 j l hj hl) (fun j hj => by
      rw [r2 j hj]
      rcases (by omega : l = 0 ∨ l = 1) with rfl | rfl
      · rw [if_pos rfl]; omega
      · rw [if_neg (by omega), if_pos rfl]; exact mlt _)]
    simp (disch := omega) only [c_bnd, c_chk, c_lb0, c_lb1, c_lb2, c_lb3, L0, L1, L2, L10007, nI_add, pk_mul, ile_t, ile_f, ilt_t, ilt_f, ieq_t, ieq_f, c_rmI, setF_at, setF_ne, setF_setF, true_and, up1_at, up1_ne, pk_sub, pk_cpy_in, pk_cpy_out, Nat.zero_add, Nat.add_zero, Nat.zero_mul, Nat.sub_zero, Nat.add_sub_cancel_left]
    refine mx_eq rfl ⟨r1.trans (frA.set (by omega) (by omega)), fun j hj => ?_⟩
    rw [setF_at, if_pos hj, r2 j hj, f1]
    have hcol : colS (N2 (a + 4 + l)) A.1 (N u) j = nsum A.1 (fun i => N u i * A.2.2.2 l i j) := by
      unfold colS
      exact nsum_congr (fun i hi => by rw [(hA2.2 i hi).2.2 j l hj hl])
    rw [hcol]
    rcases (by omega : l = 0 ∨ l = 1) with rfl | rfl
    · rw [if_pos rfl, if_neg (by omega), if_pos rfl, Nat.zero_add]
    · rw [if_neg (by omega), if_pos rfl, if_neg (by omega), if_neg (by omega), mod_acc, ← nsum_add]
      unfold stpB
      rw [if_pos rfl]
      exact congrArg (· % 10007) (nsum_congr (fun i _ => by rw [Nat.mul_add]))
  · intro N2 _
    show f_X5_takeBoth_B15 _ _ _ _ _ = _
    unfold f_X5_takeBoth_B15
    simp (disch := omega) only [c_bnd, c_chk, c_lb0, c_lb1, c_lb2, c_lb3, L0, L1, L2, L10007, nI_add, pk_mul, ile_t, ile_f, ilt_t, ilt_f, ieq_t, ieq_f, c_rmI, setF_at, setF_ne, setF_setF, true_and, up1_at, up1_ne, pk_sub, pk_cpy_in, pk_cpy_out, Nat.zero_add, Nat.add_zero, Nat.zero_mul, Nat.sub_zero, Nat.add_sub_cancel_left]
  · intro N2 ⟨r1, r2⟩
    exact ⟨rfl, r1, fun j hj => by rw [r2 j hj, if_neg (by omega), if_neg (by omega)]⟩
  · intro N2 R2 ⟨e, r1, r2⟩
    subst e
    simp (disch := omega) only [c_bnd, c_chk, c_lb0, c_lb1, c_lb2, c_lb3, L0, L1, L2, L10007, nI_add, pk_mul, ile_t, ile_f, ilt_t, ilt_f, ieq_t, ieq_f, c_rmI, setF_at, setF_ne, setF_setF, true_and, up1_at, up1_ne, pk_sub, pk_cpy_in, pk_cpy_out, Nat.zero_add, Nat.add_zero, Nat.zero_mul, Nat.sub_zero, Nat.add_sub_cancel_left, c_chkO w1]
    obtain ⟨R3, s1, s2, s3⟩ := k_swap (J := J) (N := N2) h
    rw [s1]
    exact mr_eq rfl ⟨r1.mono (by omega) (by omega), s2, s3, r2⟩
end WK
