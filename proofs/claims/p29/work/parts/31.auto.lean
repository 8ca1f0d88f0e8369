/-! ===== the class's automata ===== -/
def auS (Γ : zSh) (R : Nat → Nat → Nat) (a cap : Nat) : Prop := (a ≠ 0 ∧ cap ≤ 24) ∧ (Γ a = some (5, 0) ∧ Γ (a + 1) = some (0, cap) ∧ Γ (a + 2) = some (0, cap) ∧ Γ (a + 3) = some (3, 2) ∧ Γ (a + 4) = some (0, cap * cap) ∧ Γ (a + 5) = some (0, cap * cap)) ∧ R a 1 = a + 1 ∧ R a 2 = a + 2 ∧ R a 3 = a + 3 ∧ R (a + 3) 0 = a + 4 ∧ R (a + 3) 1 = a + 5
section AUTO
variable {Γ : zSh} {N : Nat → Nat → Nat} {R : Nat → Nat → Nat} {J : Nat → Nat → Int64} {a cap n t m : Nat}
theorem auS.ob (h : auS Γ R a cap) : Γ a = some (0 + 5, 0) := h.2.1.1
theorem auS.sq (h : auS Γ R a cap) : cap * cap ≤ 100000 := by
  have := Nat.mul_le_mul h.1.2 h.1.2
  omega
theorem auS.c24 (h : auS Γ R a cap) : cap ≤ 24 := h.1.2
theorem sq_le {n cap : Nat} (h : n ≤ cap) : n * n ≤ cap * cap := Nat.mul_le_mul h h
theorem ix_lt {n cap i j : Nat} (h : n ≤ cap) (hi : i < n) (hj : j < n) : i * n + j < cap * cap := by
  have h1 : i * n + j < n * n := by
    have : (i + 1) * n ≤ n * n := Nat.mul_le_mul_right n hi
    rw [Nat.add_mul, Nat.one_mul] at this
    omega
  have h2 := sq_le h
  omega
theorem s_fill {a : Nat} (h : Γ a = some (0, m)) (hm : m ≤ 10000) {s e v : Nat} (h1 : s ≤ e) (h2 : e ≤ m) : f_J7_fill_fda19 Γ a (nI s) (nI e) (nI v) (cS N R J) = some ((), cS (setF N a (fun j => if s ≤ j ∧ j < e then v else N a j)) R J) := by
  have hr : f_J7_rangeCheck_23922 Γ (nI m) (nI s) (nI e) (cS N R J) = some ((), cS N R J) := by
    unfold f_J7_rangeCheck_23922
    simp (disch := omega) only [L0, ile_t]
  unfold f_J7_fill_fda19
  rw [c_alI h, hr, c_bnd]
  refine (lb0_of (loop_for (fun k => (nI (s + k), cS (setF N a (fun j => if s ≤ j ∧ j < s + k then v else N a j)) R J)) (cS (setF N a (fun j => if s ≤ j ∧ j < e then v else N a j)) R J) (e - s) ?_ (by unfold FUEL; omega) ?_ ?_)).trans rfl
  · have : (fun j => if s ≤ j ∧ j < s + 0 then v else N a j) = N a := by
      funext j
      rw [if_neg (by omega)]
    rw [this, setF_self]
    rfl
  · intro k hk
    dsimp only
    unfold f_J7_fill_fda19_B10
    simp (disch := omega) only [ile_f, c_stI h, setF_at, setF_setF, L1, nI_add]
    have : up1 (fun j => if s ≤ j ∧ j < s + k then v else N a j) (s + k) v = fun j => if s ≤ j ∧ j < s + (k + 1) then v else N a j := by
      funext j
      unfold up1
      dsimp only
      by_cases e1 : j = s + k
      · rw [if_pos e1, if_pos (by omega)]
      · rw [if_neg e1]
        by_cases e2 : s ≤ j ∧ j < s + k
        · rw [if_pos e2, if_pos (by omega)]
        · rw [if_neg e2, if_neg (by omega)]
    rw [this]
    rfl
  · dsimp only
    unfold f_J7_fill_fda19_B10
    simp (disch := omega) only [ile_t]
    rw [show s + (e - s) = e by omega]
theorem s_weightFrom (h : auS Γ R a cap) (hn : N a 0 = n) (hc : n ≤ cap) (ht : Γ t = some (0, m)) (hm : n ≤ m) (hm2 : m ≤ 10000) (b1 : ∀ i, i < n → N t i < 10007) (b2 : ∀ i, i < n → N (a + 2) i < 10007) :
    f_X0_weightFrom Γ a t (cS N R J) = some (nI (nsum n (fun i => N t i * N (a + 2) i) % 10007), cS N R J) := by
  have hc24 := h.c24
  unfold f_X0_weightFrom
  refine (lb1_of (loop_for (fun k => (nI (nsum k (fun i => N t i * N (a + 2) i) % 10007), nI k, cS N R J)) (nI (nsum n (fun i => N t i * N (a + 2) i) % 10007), cS N R J) n rfl (by unfold FUEL; omega) ?_ ?_)).trans rfl
  · intro k hk
    dsimp only
    unfold f_X0_weightFrom_B4 f_X0_weightFrom_B4_L35
    have p1 := pmul (b1 k hk) (b2 k hk)
    have p2 := b1 k hk
    have p3 := mlt (nsum k (fun i => N t i * N (a + 2) i))
    have hs : nsum (k + 1) (fun i => N t i * N (a + 2) i) = nsum k (fun i => N t i * N (a + 2) i) + N t k * N (a + 2) k := rfl
    by_cases e : N t k = 0
    · simp (disch := omega) only [c_gfI h.ob, hn, ile_f, c_ldI ht, L0, L1, ieq_t, nI_add]
      simp only [hs, e, Nat.zero_mul, Nat.add_zero]
    · simp (disch := omega) only [c_gfI h.ob, hn, ile_f, c_ldI ht, L0, L1, L10007, ieq_f, nI_add, c_gfR h.ob h.2.2.2.1, c_ldI h.2.1.2.2.1, pk_mul, c_rmI]
      rw [mod_acc, hs]
  · dsimp only
    unfold f_X0_weightFrom_B4
    rw [c_gfI h.ob, hn]
    simp (disch := omega) only [ile_t]
/-- the result of a sum over a letter's column -/
def colS (g : Nat → Nat) (n : Nat) (v : Nat → Nat) (j : Nat) : Nat := nsum n (fun i => v i * g (i * n + j))
theorem s_addStep (h : auS Γ R a cap) (hn : N a 0 = n) (hc : n ≤ cap) {l rt : Nat} (hl : l < 2) {m2 : Nat} (ht : Γ t = some (0, m)) (hm : n ≤ m) (hm2 : m ≤ 10000) (hr : Γ rt = some (0, m2)) (hr1 : n ≤ m2) (hr2 : m2 ≤ 10000) (hd : (rt < a ∨ a + 6 ≤ rt) ∧ rt ≠ t) (b1 : ∀ i, i < n → N t i < 10007) (b2 : ∀ i j, i < n → j < n → N (a + 4 + l) (i * n + j) < 10007) (b3 : ∀ j, j < n → N rt j < 10007) :
    f_X0_addStep Γ a t (nI l) rt (cS N R J) = some ((), cS (setF N rt (fun j => if j < n then (N rt j + colS (N (a + 4 + l)) n (N t) j) % 10007 else N rt j)) R J) := by
  have hc24 := h.c24
  have hsq := h.sq
  obtain ⟨hd1, hd2⟩ := hd
  have hg : Γ (a + 4 + l) = some (0, cap * cap) := by
    rcases (by omega : l = 0 ∨ l = 1) with rfl | rfl
    · exact h.2.1.2.2.2.2.1
    · exact h.2.1.2.2.2.2.2
  have hR : R (a + 3) l = a + 4 + l := by
    rcases (by omega : l = 0 ∨ l = 1) with rfl | rfl
    · exact h.2.2.2.2.2.1
    · exact h.2.2.2.2.2.2
  unfold f_X0_addStep
  simp (disch := omega) only [c_gfR h.ob h.2.2.2.2.1, c_ldG h.2.1.2.2.2.1 hR]
  let S : Nat → Nat → Nat := fun k j => nsum k (fun i => N t i * N (a + 4 + l) (i * n + j))
  refine (lb0_of (loop_for (fun k => (nI k, cS (setF N rt (fun j => if j < n then (N rt j + S k j) % 10007 else N rt j)) R J)) (cS (setF N rt (fun j => if j < n then (N rt j + S n j) % 10007 else N rt j)) R J) n ?_ (by unfold FUEL; omega) ?_ ?_)).trans rfl
  · have : (fun j => if j < n then (N rt j + S 0 j) % 10007 else N rt j) = N rt := by
      funext j
      by_cases e : j < n
      · rw [if_pos e]
        show (N rt j + 0) % 10007 = _
        rw [Nat.add_zero]
        exact Nat.mod_eq_of_lt (b3 j e)
      · rw [if_neg e]
    rw [this, setF_self]
    rfl
  · intro k hk
    dsimp only
    unfold f_X0_addStep_B11
    have hn2 : setF N rt (fun j => if j < n then (N rt j + S k j) % 10007 else N rt j) a = N a := setF_ne (by omega)
    have p2 := b1 k hk
    by_cases e : N t k = 0
    · simp (disch := omega) only [c_gfI h.ob, hn2, hn, ile_f, c_ldI ht, setF_ne, L0, ieq_t, f_X0_addStep_B11_L82, L1, nI_add]
      have : (fun j => if j < n then (N rt j + S k j) % 10007 else N rt j) = fun j => if j < n then (N rt j + S (k + 1) j) % 10007 else N rt j := by
        funext j
        show _ = if j < n then (N rt j + (S k j + N t k * N (a + 4 + l) (k * n + j))) % 10007 else N rt j
        rw [e, Nat.zero_mul, Nat.add_zero]
      rw [this]
    · simp (disch := omega) only [c_gfI h.ob, hn2, hn, ile_f, c_ldI ht, setF_ne, L0, ieq_f, pk_mul]
      refine (lb0_of (loop_for (fun i => (nI i, cS (setF N rt (fun j => if j < n then (N rt j + (if j < i then S (k + 1) j else S k j)) % 10007 else N rt j)) R J)) (cS (setF N rt (fun j => if j < n then (N rt j + S (k + 1) j) % 10007 else N rt j)) R J) n ?_ (by unfold FUEL; omega) ?_ ?_)).trans ?_
      · rfl
      · intro i hi
        dsimp only
        unfold f_X0_addStep_B43
        have hn3 : setF N rt (fun j => if j < n then (N rt j + (if j < i then S (k + 1) j else S k j)) % 10007 else N rt j) a = N a := setF_ne (by omega)
        have hix := ix_lt hc hk hi
        have p4 := pmul p2 (b2 k i hk hi)
        have p5 := mlt (N rt i + S k i)
        simp (disch := omega) only [c_gfI h.ob, hn3, hn, ile_f, c_ldI hr, setF_at, nI_add, c_ldI hg, setF_ne, pk_mul, L10007, L1]
        rw [if_pos hi, if_neg (Nat.lt_irrefl i)]
        simp (disch := omega) only [c_rmI, c_stI hr, setF_at, setF_setF, mod_acc]
        have : up1 (fun j => if j < n then (N rt j + (if j < i then S (k + 1) j else S k j)) % 10007 else N rt j) i ((N rt i + S k i + N t k * N (a + 4 + l) (k * n + i)) % 10007) = fun j => if j < n then (N rt j + (if j < i + 1 then S (k + 1) j else S k j)) % 10007 else N rt j := by
          funext j
          unfold up1
          by_cases e1 : j = i
          · subst e1
            rw [if_pos rfl, if_pos hi, if_pos (by omega), Nat.add_assoc]
            rfl
          · rw [if_neg e1]
            dsimp only
            by_cases e3 : j < n
            · rw [if_pos e3, if_pos e3]
              by_cases e2 : j < i
              · rw [if_pos e2, if_pos (by omega)]
              · rw [if_neg e2, if_neg (by omega)]
            · rw [if_neg e3, if_neg e3]
        rw [this]
      · dsimp only
        unfold f_X0_addStep_B43
        have hn3 : setF N rt (fun j => if j < n then (N rt j + (if j < n then S (k + 1) j else S k j)) % 10007 else N rt j) a = N a := setF_ne (by omega)
        simp (disch := omega) only [c_gfI h.ob, hn3, hn, ile_t]
        have : (fun j => if j < n then (N rt j + (if j < n then S (k + 1) j else S k j)) % 10007 else N rt j) = fun j => if j < n then (N rt j + S (k + 1) j) % 10007 else N rt j := by
          funext j
          by_cases e1 : j < n
          · rw [if_pos e1, if_pos e1, if_pos e1]
          · rw [if_neg e1, if_neg e1]
        rw [this]
      · unfold f_X0_addStep_B11_L82
        rw [L1, nI_add]
  · dsimp only
    unfold f_X0_addStep_B11
    have hn2 : setF N rt (fun j => if j < n then (N rt j + S n j) % 10007 else N rt j) a = N a := setF_ne (by omega)
    simp (disch := omega) only [c_gfI h.ob, hn2, hn, ile_t]
end AUTO
