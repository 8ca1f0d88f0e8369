/-! ===== what a call comes to: exception's number, answer, state ===== -/
abbrev Rs := Nat × Int32 × tS
abbrev inR (x : Int32) (lo hi : Int) : Prop := lo ≤ x.toInt ∧ x.toInt ≤ hi
def ix (x : Int32) : Nat := x.toInt.toNat
theorem ix_nI {q : Nat} (h : q < 2147483648) : ix (nI q) = q := by
  unfold ix
  rw [nI_toInt h]
  omega
theorem ix_of {x : Int32} {l h : Int} (e : inR x l h) (hl : 0 ≤ l) (hh : h < 2147483648) : x = nI (ix x) ∧ l ≤ (ix x : Int) ∧ (ix x : Int) ≤ h := by
  obtain ⟨e1, e2⟩ := e
  obtain ⟨k, hk, rfl⟩ := in_nI (x := x) (n := h.toNat) (by omega) (by omega) (by omega)
  rw [ix_nI (by omega)]
  rw [nI_toInt (by omega)] at e1 e2
  exact ⟨rfl, e1, e2⟩
def KX (Γ : zSh) (N R : Mem) (J : Nat → Nat → Int64) (o : Nat) (cd : Nat → Nat) (x : Option ((Int32 × zSt) ⊕ (Nat × zSt))) (r : Rs) : Prop := ∃ N' R', x = (if r.1 = 0 then some (.inl (r.2.1, cS N' R' J)) else some (.inr (cd r.1, cS N' R' J))) ∧ KI Γ N' R' o r.2.2 ∧ tI r.2.2 ∧ frA N N' o (o + 373) ∧ frA R R' o (o + 373)
section CX
variable {α γ : Type} {Γ : zSh} {N N' R R' : Mem} {J : Nat → Nat → Int64} {o p q : Nat} {S : tS} {cd : Nat → Nat} {x : Int32} {r1 : Rs} {A B : Au}
theorem c_xl {a : α} {s : zSt} {f : α → zSt → Option ((γ × zSt) ⊕ (Nat × zSt))} : xbnd (some (.inl (a, s))) f = f a s := rfl
theorem c_xr {q : Nat × zSt} {f : α → zSt → Option ((γ × zSt) ⊕ (Nat × zSt))} : xbnd (some (.inr q)) f = some (.inr q) := rfl
theorem kx_ok {y : Option ((Int32 × zSt) ⊕ (Nat × zSt))} {v : Int32} {S' : tS} (e : y = some (.inl (v, cS N' R' J))) (h : KI Γ N' R' o S') (hI : tI S') (f : frA N N' o (o + 373)) (g : frA R R' o (o + 373)) : KX Γ N R J o cd y (0, v, S') := ⟨N', R', e, h, hI, f, g⟩
theorem kx_ko {y : Option ((Int32 × zSt) ⊕ (Nat × zSt))} {k : Nat} {S' : tS} (hk : k ≠ 0) (e : y = some (.inr (cd k, cS N' R' J))) (h : KI Γ N' R' o S') (hI : tI S') (f : frA N N' o (o + 373)) (g : frA R R' o (o + 373)) : KX Γ N R J o cd y (k, 0, S') := ⟨N', R', by rw [e]; exact (if_neg hk).symm, h, hI, f, g⟩
theorem kx_slot {f : Unit → zSt → Option ((Int32 × zSt) ⊕ (Nat × zSt))} {r0 : Rs} (hr : r0 = (1, 0, S)) (hK : KI Γ N R o S) (hI : tI S) (hcd : cd 1 = 0) (h : inR x 0 3 → KX Γ N R J o cd (f () (cS N R J)) r1) : KX Γ N R J o cd (xbnd (f_X6_checkSlot Γ x (cS N R J)) f) (if inR x 0 3 then r1 else r0) := by
  rw [k_slot]
  by_cases e : inR x 0 3
  · rw [if_pos e, if_pos e]
    exact h e
  · rw [if_neg e, if_neg e, c_xr, hr]
    exact kx_ko (by omega) (by rw [hcd]) hK hI frA.refl frA.refl
theorem kx_range {f : Unit → zSt → Option ((Int32 × zSt) ⊕ (Nat × zSt))} {lo hi : Int32} {l h : Int} {k : Nat} {r0 : Rs} (hr : r0 = (k, 0, S)) (h1 : lo.toInt = l) (h2 : hi.toInt = h) (hK : KI Γ N R o S) (hI : tI S) (hk : k ≠ 0) (hcd : cd k = 1) (hh : inR x l h → KX Γ N R J o cd (f () (cS N R J)) r1) : KX Γ N R J o cd (xbnd (f_X6_checkRange Γ x lo hi (cS N R J)) f) (if inR x l h then r1 else r0) := by
  rw [k_range h1 h2]
  by_cases e : inR x l h
  · rw [if_pos e, if_pos e]
    exact hh e
  · rw [if_neg e, if_neg e, c_xr, hr]
    exact kx_ko hk (by rw [hcd]) hK hI frA.refl frA.refl
/-- a call that writes only where it works -/
theorem kx_read {y : Option ((Int32 × zSt) ⊕ (Nat × zSt))} {v : Int32} (hK : KI Γ N R o S) (hI : tI S) (f : frA N N' (o + 52) (o + 247)) (e : y = some (.inl (v, cS N' R J))) : KX Γ N R J o cd y (0, v, S) := kx_ok e (hK.work hI f) hI (f.mono (by omega) (by omega)) frA.refl
/-- the model: what stays -/
def mFr (N N' : Mem) (p : Nat) : Prop := (∀ z, z < 1252 → N' (p + 1) z = N (p + 1) z) ∧ N' (p + 2) = N (p + 2) ∧ (∀ i, i ≠ 12 → N' p i = N p i) ∧ N' (p + 14) = N (p + 14) ∧ frA N N' p (p + 17)
theorem mFr.refl : mFr N N p := ⟨fun _ _ => rfl, rfl, fun _ _ => rfl, rfl, frA.refl⟩
theorem mFr.trans {N1 N2 : Mem} (h : mFr N N1 p) (k : mFr N1 N2 p) : mFr N N2 p := ⟨fun z hz => (k.1 z hz).trans (h.1 z hz), k.2.1.trans h.2.1, fun i hi => (k.2.2.1 i hi).trans (h.2.2.1 i hi), k.2.2.2.1.trans h.2.2.2.1, h.2.2.2.2.trans k.2.2.2.2⟩
theorem frA.toFr {lo hi : Nat} (h : frA N N' lo hi) (h1 : p + 3 ≤ lo) (h2 : hi ≤ p + 14) : mFr N N' p := ⟨fun z _ => by rw [h (p + 1) (by omega)], h _ (by omega), fun i _ => by rw [h p (by omega)], h _ (by omega), fun x e => h x (by omega)⟩
end CX
