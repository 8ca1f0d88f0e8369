/-! ===== what the constructors make, the rest ===== -/
theorem l_cons {α : Type} {p : α → Prop} {a : α} {l : List α} (h : p a) (t : ∀ x, x ∈ l → p x) : ∀ x, x ∈ a :: l → p x := fun x hx => (List.mem_cons.mp hx).elim (fun e => by rw [e]; exact h) (t x)
theorem yt_cons {p : Nat → Nat → Nat → Nat → Prop} {a b c d : Nat} {l : List (Nat × Nat × Nat × Nat)} (h : p a b c d) (t : ∀ f k t n, (f, k, t, n) ∈ l → p f k t n) : ∀ f k t n, (f, k, t, n) ∈ (a, b, c, d) :: l → p f k t n := fun f k t' n hx => (List.mem_cons.mp hx).elim (fun e => by cases e; exact h) (t f k t' n)
theorem yt_nil {p : Nat → Nat → Nat → Nat → Prop} : ∀ f k t n, (f, k, t, n) ∈ ([] : List (Nat × Nat × Nat × Nat)) → p f k t n := fun f k t n hx => absurd hx List.not_mem_nil
theorem l_nil {α : Type} {p : α → Prop} : ∀ x, x ∈ ([] : List α) → p x := fun x hx => absurd hx List.not_mem_nil
section ML2
variable {Γ Γ' : zSh} {R R' : Mem} {z z' z1 n : Nat}
theorem a_K {α : Type} {x : Option (α × zSh × Nat × zSt)} : abnd x (fun a g z s => some (a, g, z, s)) = x := by
  cases x with
  | none => rfl
  | some q => rfl
theorem nx_X0 (hz : z ≠ 0) (hn : n ≤ 24) : ∃ Γ' R', f_X0_init (upS Γ z (0 + 5, 0)) (z + 1) z (nI n) (cS N0 (setF R z (fun _ => 0)) J0) = some ((), Γ', z + 6, cS N0 R' J0) ∧ uF Γ R Γ' R' z ∧ auS Γ' R' z n := by
  obtain ⟨Γ', R', e, f, g⟩ := mk_X0 (Γ := Γ) (R := R) (K := fun a g z s => some (a, g, z, s)) hz hn
  rw [a_nwO, a_K] at e
  exact ⟨Γ', R', e, f, g⟩
theorem nx_X3 (hz : z ≠ 0) : ∃ Γ' R', f_X3_init (upS Γ z (3 + 5, 0)) (z + 1) z (cS N0 (setF R z (fun _ => 0)) J0) = some ((), Γ', z + 33, cS N0 R' J0) ∧ uF Γ R Γ' R' z ∧ gS Γ' R' z (fun k => k) := by
  obtain ⟨Γ', R', e, f, g⟩ := mk_X3 (Γ := Γ) (R := R) (K := fun a g z s => some (a, g, z, s)) hz
  rw [a_nwO, a_K] at e
  exact ⟨Γ', R', e, f, g⟩
theorem nx_X4 (hz : z ≠ 0) : ∃ Γ' R', f_X4_init (upS Γ z (4 + 5, 0)) (z + 1) z (cS N0 (setF R z (fun _ => 0)) J0) = some ((), Γ', z + 15, cS N0 R' J0) ∧ uF Γ R Γ' R' z ∧ ptS Γ' R' z := by
  obtain ⟨Γ', R', e, f, g⟩ := mk_X4 (Γ := Γ) (R := R) (K := fun a g z s => some (a, g, z, s)) hz
  rw [a_nwO, a_K] at e
  exact ⟨Γ', R', e, f, g⟩
theorem nx_X5 (hz : z ≠ 0) : ∃ Γ' R', f_X5_init (upS Γ z (5 + 5, 0)) (z + 1) z (cS N0 (setF R z (fun _ => 0)) J0) = some ((), Γ', z + 3, cS N0 R' J0) ∧ uF Γ R Γ' R' z ∧ wS Γ' R' z (z + 1) (z + 2) := by
  obtain ⟨Γ', R', e, f, g⟩ := mk_X5 (Γ := Γ) (R := R) (K := fun a g z s => some (a, g, z, s)) hz
  rw [a_nwO, a_K] at e
  exact ⟨Γ', R', e, f, g⟩
theorem nx_X1 (hz : z ≠ 0) : ∃ Γ' R', f_X1_init (upS Γ z (1 + 5, 0)) (z + 1) z (cS N0 (setF R z (fun _ => 0)) J0) = some ((), Γ', z + 131, cS N0 R' J0) ∧ uF Γ R Γ' R' z ∧ bS Γ' R' z := by
  unfold f_X1_init
  have h1 : upS Γ z (1 + 5, 0) z = some (1 + 5, 0) := upS_at
  have h2 := o_upS (z := z + 1) (sh := (0, 24)) h1 (by omega)
  have h3 := o_upS (z := z + 1 + 1) (sh := (0, 24)) h2 (by omega)
  have h4 := o_upG (z := z + 1 + 2) (n := 24) (k := 24) h3 (by omega)
  have h5 := o_upG (z := z + 1 + 27) (n := 24) (k := 24) h4 (by omega)
  have h6 := o_upG (z := z + 1 + 52) (n := 24) (k := 24) h5 (by omega)
  have h7 := o_upS (z := z + 1 + 77) (sh := (0, 24)) h6 (by omega)
  have h8 := o_upG (z := z + 1 + 78) (n := 48) (k := 24) h7 (by omega)
  have h9 := o_upS (z := z + 1 + 127) (sh := (0, 24)) h8 (by omega)
  have h10 := o_upS (z := z + 1 + 128) (sh := (0, 24)) h9 (by omega)
  have h11 := o_upS (z := z + 1 + 129) (sh := (0, 24)) h10 (by omega)
  rw [L24, L48, a_nwA (by omega) (by omega), c_pfR h2 (by omega), a_nwA (by omega) (by omega), c_pfR h3 (by omega), a_nwG (by omega) (by omega) (by omega), c_pfR h4 (by omega), a_nwG (by omega) (by omega) (by omega), c_pfR h5 (by omega), a_nwG (by omega) (by omega) (by omega), c_pfR h6 (by omega), a_nwA (by omega) (by omega), c_pfR h7 (by omega), a_nwG (by omega) (by omega) (by omega), c_pfR h8 (by omega), a_nwA (by omega) (by omega), c_pfR h9 (by omega), a_nwA (by omega) (by omega), c_pfR h10 (by omega), a_nwA (by omega) (by omega), c_pfR h11 (by omega)]
  refine ⟨_, _, rfl, fun x hx => ⟨?_, ?_⟩, ⟨?_, hz⟩, (yt_cons ?_ (yt_cons ?_ (yt_cons ?_ (yt_cons ?_ (yt_cons ?_ (yt_cons ?_ (yt_cons ?_ (yt_cons ?_ (yt_cons ?_ (yt_cons ?_ yt_nil)))))))))), fun k hk => ⟨⟨?_, ?_⟩, ⟨?_, ?_⟩, ?_, ?_⟩, fun k hk => ⟨?_, ?_⟩⟩ <;> first | (refine ⟨?_, ?_⟩ <;> (simp (disch := omega) only [upS_at, upS_ne, upG_o, upG_row, upG_out, setF_at, setF_ne, up2_at, up2_ne, up2_k]; done)) | (simp (disch := omega) only [upS_at, upS_ne, upG_o, upG_row, upG_out, setF_at, setF_ne, up2_at, up2_ne, up2_k]; done)
end ML2
