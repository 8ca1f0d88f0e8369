/-! ===== what the constructors make ===== -/
def N0 : Mem := fun _ _ => 0
def J0 : Nat → Nat → Int64 := fun _ _ => 0
/-- what lies below z, but at o, is the same -/
def uQ (Γ : zSh) (R : Mem) (Γ' : zSh) (R' : Mem) (o z : Nat) : Prop := ∀ x, x < z → x ≠ o → Γ' x = Γ x ∧ R' x = R x
def uF (Γ : zSh) (R : Mem) (Γ' : zSh) (R' : Mem) (z : Nat) : Prop := ∀ x, x < z → Γ' x = Γ x ∧ R' x = R x
section MK
variable {β : Type} {Γ Γ' Γ2 : zSh} {R R' R2 : Mem} {z z' n m k t b c a o x v : Nat} {sh s : Nat × Nat}
theorem uF.trans (h : uF Γ R Γ' R' z) (k : uF Γ' R' Γ2 R2 z') (hz : z ≤ z') : uF Γ R Γ2 R2 z := fun x hx => ⟨((k x (by omega)).1).trans (h x hx).1, ((k x (by omega)).2).trans (h x hx).2⟩
theorem uQ.trans (h : uQ Γ R Γ' R' o z) (k : uQ Γ' R' Γ2 R2 o z') (hz : z ≤ z') : uQ Γ R Γ2 R2 o z := fun x hx hn => ⟨((k x (by omega) hn).1).trans (h x hx hn).1, ((k x (by omega) hn).2).trans (h x hx hn).2⟩
theorem uF.toQ (h : uF Γ R Γ' R' z) : uQ Γ R Γ' R' o z := fun x hx _ => h x hx
theorem uQ.up2 : uQ Γ R Γ (up2 R o k v) o z := fun x _ hn => ⟨rfl, up2_ne hn⟩
theorem uQ.refl : uQ Γ R Γ R o z := fun _ _ _ => ⟨rfl, rfl⟩
theorem upS_at : upS Γ z sh z = some sh := if_pos rfl
theorem upS_ne (h : a ≠ z) : upS Γ z sh a = Γ a := if_neg h
theorem upG_o : upG Γ z n k z = some (3, n) := if_pos rfl
theorem upG_row (h1 : z < a) (h2 : a ≤ z + n) : upG Γ z n k a = some (0, k) := by unfold upG; rw [if_neg (by omega), if_pos ⟨h1, h2⟩]
theorem upG_out (h : a < z ∨ z + n < a) : upG Γ z n k a = Γ a := by unfold upG; rw [if_neg (by omega), if_neg (by omega)]
theorem up2_k {i j : Nat} (h : j ≠ i) : up2 R a i v a j = R a j := if_neg (fun u => h u.2)
theorem o_upS (h : Γ a = some s) (hne : a ≠ z) : upS Γ z sh a = some s := by rw [upS_ne hne]; exact h
theorem o_upG (h : Γ a = some s) (hne : a < z) : upG Γ z n k a = some s := by rw [upG_out (Or.inl hne)]; exact h
theorem clr0 : clr (cS N0 R J0) z = cS N0 (setF R z (fun _ => 0)) J0 := by
  unfold clr cS setF N0 J0
  refine Prod.ext ?_ (Prod.ext rfl ?_)
  · funext x
    show (if x = z then fun _ => (0 : Int32) else fun _ => nI 0) = fun _ => nI 0
    by_cases e : x = z
    · rw [if_pos e]; rfl
    · rw [if_neg e]
  · funext x
    show (if x = z then fun _ => (0 : Int64) else fun _ => 0) = fun _ => 0
    by_cases e : x = z
    · rw [if_pos e]
    · rw [if_neg e]
theorem clrG0 : clrG (cS N0 R J0) z n = cS N0 (setF R z (fun j => z + 1 + j)) J0 := by
  unfold clrG cS setF N0 J0
  refine Prod.ext ?_ rfl
  funext x
  show (if z ≤ x ∧ x ≤ z + n then fun _ => (0 : Int32) else fun _ => nI 0) = fun _ => nI 0
  by_cases e : z ≤ x ∧ x ≤ z + n
  · rw [if_pos e]; rfl
  · rw [if_neg e]
theorem a_nwO {f : zSh → zSt → Option β} : nwO Γ z (cS N0 R J0) c f = f (upS Γ z (c + 5, 0)) (cS N0 (setF R z (fun _ => 0)) J0) := by
  unfold nwO
  rw [clr0]
theorem a_nwA {f : zSh → zSt → Option β} (h1 : m ≤ b) (h2 : b ≤ 100000) : nwA Γ z (cS N0 R J0) t (nI m) b f = f (upS Γ z (t, m)) (cS N0 (setF R z (fun _ => 0)) J0) := by
  unfold nwA
  rw [nI_clamp (by omega), clr0, if_pos ⟨nI_pos' (by omega), h1⟩]
theorem a_nwG {f : zSh → zSt → Option β} (h1 : m ≤ b) (h2 : b ≤ 100000) (hn : n ≤ 100000) : nwG Γ z (cS N0 R J0) (nI n) (nI m) n b f = f (upG Γ z n m) (cS N0 (setF R z (fun j => z + 1 + j)) J0) := by
  unfold nwG
  rw [nI_clamp (by omega), nI_clamp (by omega), clrG0, if_pos ⟨nI_pos' (by omega), nI_pos' (by omega), rfl, h1⟩]
theorem a_pfI {f : zSt → Option β} (h : Γ a = some (c + 5, 0)) : pfI Γ (cS N0 R J0) a c k 0 f = f (cS N0 R J0) := by
  rw [L0, c_pfI h]
  have : setF N0 a (up1 (N0 a) k 0) = N0 := by
    funext x y
    unfold setF up1 N0
    by_cases e : x = a
    · rw [if_pos e]
      by_cases e2 : y = k
      · rw [if_pos e2]
      · rw [if_neg e2]
    · rw [if_neg e]
  rw [this]
theorem a_bnd {α : Type} {x : α} {f : α → zSh → Nat → zSt → Option β} {σ : zSt} : abnd (some (x, Γ, z, σ)) f = f x Γ z σ := rfl
theorem mk_X0 {K : Unit → zSh → Nat → zSt → Option β} (hz : z ≠ 0) (hn : n ≤ 24) : ∃ Γ' R', (nwO Γ z (cS N0 R J0) 0 fun Γ1 σ1 => abnd (f_X0_init Γ1 (z + 1) z (nI n) σ1) K) = K () Γ' (z + 6) (cS N0 R' J0) ∧ uF Γ R Γ' R' z ∧ auS Γ' R' z n := by
  have hnn : n * n ≤ 24 * 24 := Nat.mul_le_mul hn hn
  unfold f_X0_init
  have h1 : upS Γ z (0 + 5, 0) z = some (0 + 5, 0) := upS_at
  have h2 := o_upS (z := z + 1) (sh := (0, n)) h1 (by omega)
  have h3 := o_upS (z := z + 1 + 1) (sh := (0, n)) h2 (by omega)
  have h4 := o_upG (z := z + 1 + 2) (n := 2) (k := n * n) h3 (by omega)
  rw [a_nwO, a_pfI h1, a_nwA (by omega) (by omega), c_pfR h2 (by omega), a_nwA (by omega) (by omega), c_pfR h3 (by omega), L2, pk_mul, a_nwG (by omega) (by omega) (by omega), c_pfR h4 (by omega), a_bnd]
  refine ⟨_, _, rfl, fun x hx => ⟨?_, ?_⟩, ⟨hz, hn⟩, ⟨?_, ?_, ?_, ?_, ?_, ?_⟩, ?_, ?_, ?_, ?_, ?_⟩ <;> simp (disch := omega) only [upS_at, upS_ne, upG_o, upG_row, upG_out, setF_at, setF_ne, up2_at, up2_ne, up2_k]
theorem mk_X3 {K : Unit → zSh → Nat → zSt → Option β} (hz : z ≠ 0) : ∃ Γ' R', (nwO Γ z (cS N0 R J0) 3 fun Γ1 σ1 => abnd (f_X3_init Γ1 (z + 1) z σ1) K) = K () Γ' (z + 33) (cS N0 R' J0) ∧ uF Γ R Γ' R' z ∧ gS Γ' R' z (fun k => k) := by
  unfold f_X3_init
  have h1 : upS Γ z (3 + 5, 0) z = some (3 + 5, 0) := upS_at
  have h2 := o_upG (z := z + 1) (n := 31) (k := 31) h1 (by omega)
  rw [a_nwO, L31, a_nwG (by omega) (by omega) (by omega), c_pfR h2 (by omega), a_bnd]
  refine ⟨_, _, rfl, fun x hx => ⟨?_, ?_⟩, ⟨?_, hz⟩, ?_, ?_, fun k hk => ⟨hk, ?_, ?_⟩, fun k k' _ _ h => h⟩ <;> simp (disch := omega) only [upS_at, upS_ne, upG_o, upG_row, upG_out, setF_at, setF_ne, up2_at, up2_ne, up2_k]
theorem mk_X4 {K : Unit → zSh → Nat → zSt → Option β} (hz : z ≠ 0) : ∃ Γ' R', (nwO Γ z (cS N0 R J0) 4 fun Γ1 σ1 => abnd (f_X4_init Γ1 (z + 1) z σ1) K) = K () Γ' (z + 15) (cS N0 R' J0) ∧ uF Γ R Γ' R' z ∧ ptS Γ' R' z := by
  unfold f_X4_init
  have h1 : upS Γ z (4 + 5, 0) z = some (4 + 5, 0) := upS_at
  have h2 := o_upS (z := z + 1) (sh := (0, 12)) h1 (by omega)
  have h3 := o_upG (z := z + 1 + 1) (n := 12) (k := 12) h2 (by omega)
  rw [a_nwO, L12, a_nwA (by omega) (by omega), c_pfR h2 (by omega), a_nwG (by omega) (by omega) (by omega), c_pfR h3 (by omega), a_bnd]
  refine ⟨_, _, rfl, fun x hx => ⟨?_, ?_⟩, ?_, ?_, ?_, ?_, ?_, hz, fun k hk => ⟨?_, ?_⟩⟩ <;> simp (disch := omega) only [upS_at, upS_ne, upG_o, upG_row, upG_out, setF_at, setF_ne, up2_at, up2_ne, up2_k]
theorem mk_X5 {K : Unit → zSh → Nat → zSt → Option β} (hz : z ≠ 0) : ∃ Γ' R', (nwO Γ z (cS N0 R J0) 5 fun Γ1 σ1 => abnd (f_X5_init Γ1 (z + 1) z σ1) K) = K () Γ' (z + 3) (cS N0 R' J0) ∧ uF Γ R Γ' R' z ∧ wS Γ' R' z (z + 1) (z + 2) := by
  unfold f_X5_init
  have h1 : upS Γ z (5 + 5, 0) z = some (5 + 5, 0) := upS_at
  have h2 := o_upS (z := z + 1) (sh := (0, 12)) h1 (by omega)
  have h3 := o_upS (z := z + 1 + 1) (sh := (0, 12)) h2 (by omega)
  rw [a_nwO, L12, a_nwA (by omega) (by omega), c_pfR h2 (by omega), a_nwA (by omega) (by omega), c_pfR h3 (by omega), a_bnd]
  refine ⟨_, _, rfl, fun x hx => ⟨?_, ?_⟩, ?_, ?_, ?_, ?_, ?_, hz, Or.inl ⟨rfl, rfl⟩⟩ <;> simp (disch := omega) only [upS_at, upS_ne, upG_o, upG_row, upG_out, setF_at, setF_ne, up2_at, up2_ne, up2_k]
end MK
