/-! ===== what a call comes to: exception's number, answer, state ===== -/
abbrev Rs := Nat × Int32 × tS
abbrev inR (x : Int32) (lo hi : Int) : Prop := lo ≤ x.toInt ∧ x.toInt ≤ hi
def ix (x : Int32) : Nat := x.toInt.toNat
theorem ix_nI {q : Nat} (h : q < 2147483648) : ix (nI q) = q := by
  unfold ix
  rw [nI_toInt h]
  omega
theorem ix_of {x : Int32} {l h : Int} (e : inR x l h) (hl : 0 ≤ l) (hh : h < 2147483648) : x = nI (ix x) ∧ l ≤ (ix x : Int) ∧ (ix x : Int) ≤ h := by
  obtain ⟨e1, e2⟩ := e
  obtain ⟨k, hk, rfl⟩ := in_nI (x := x) (n := h.toNat) (by omega) (by omega) (by omega)
  rw [ix_nI (by omega)]
  rw [nI_toInt (by omega)] at e1 e2
  exact ⟨rfl, e1, e2⟩
def KX (Γ : zSh) (N R : Mem) (J : Nat → Nat → Int64) (o : Nat) (cd : Nat → Nat) (x : Option ((Int32 × zSt) ⊕ (Nat × zSt))) (r : Rs) : Prop := ∃ N' R', x = (if r.1 = 0 then some (.inl (r.2.1, cS N' R' J)) else some (.inr (cd r.1, cS N' R' J))) ∧ KI Γ N' R' o r.2.2 ∧ tI r.2.2 ∧ frA N N' o (o + 373) ∧ frA R R' o (o + 373)
def MI (Γ : zSh) (N R : Mem) (p : Nat) (S : tS) : Prop := mS Γ R p ∧ MSt N p S.1 ∧ N p 18 = S.2.1 ∧ ∀ i, i < S.2.1 → N (p + 14) i = S.2.2 i
def MX (Γ : zSh) (N R : Mem) (J : Nat → Nat → Int64) (p : Nat) (x : Option (Int32 × zSt)) (r : Rs) : Prop := ∃ N' J' v, x = some (v, cS N' R J') ∧ MI Γ N' R p r.2.2 ∧ frA N N' p (p + 17) ∧ N' p 3 = r.1 ∧ (r.1 = 0 → v = r.2.1) ∧ ∀ a, a ≠ p → J' a = J a
section CX
variable {α γ : Type} {Γ : zSh} {N N' R R' : Mem} {J : Nat → Nat → Int64} {o p q : Nat} {S : tS} {cd : Nat → Nat} {x : Int32} {r1 : Rs} {A B : Au}
theorem c_xl {a : α} {s : zSt} {f : α → zSt → Option ((γ × zSt) ⊕ (Nat × zSt))} : xbnd (some (.inl (a, s))) f = f a s := rfl
theorem c_xr {q : Nat × zSt} {f : α → zSt → Option ((γ × zSt) ⊕ (Nat × zSt))} : xbnd (some (.inr q)) f = some (.inr q) := rfl
theorem kx_ok {y : Option ((Int32 × zSt) ⊕ (Nat × zSt))} {v : Int32} {S' : tS} (e : y = some (.inl (v, cS N' R' J))) (h : KI Γ N' R' o S') (hI : tI S') (f : frA N N' o (o + 373)) (g : frA R R' o (o + 373)) : KX Γ N R J o cd y (0, v, S') := ⟨N', R', e, h, hI, f, g⟩
theorem kx_ko {y : Option ((Int32 × zSt) ⊕ (Nat × zSt))} {k : Nat} {S' : tS} (hk : k ≠ 0) (e : y = some (.inr (cd k, cS N' R' J))) (h : KI Γ N' R' o S') (hI : tI S') (f : frA N N' o (o + 373)) (g : frA R R' o (o + 373)) : KX Γ N R J o cd y (k, 0, S') := ⟨N', R', by rw [e]; exact (if_neg hk).symm, h, hI, f, g⟩
theorem kx_slot {f : Unit → zSt → Option ((Int32 × zSt) ⊕ (Nat × zSt))} {r0 : Rs} (hr : r0 = (1, 0, S)) (hK : KI Γ N R o S) (hI : tI S) (hcd : cd 1 = 0) (h : inR x 0 3 → KX Γ N R J o cd (f () (cS N R J)) r1) : KX Γ N R J o cd (xbnd (f_X6_checkSlot Γ x (cS N R J)) f) (if inR x 0 3 then r1 else r0) := by
  rw [k_slot]
  by_cases e : inR x 0 3
  · rw [if_pos e, if_pos e]
    exact h e
  · rw [if_neg e, if_neg e, c_xr, hr]
    exact kx_ko (by omega) (by rw [hcd]) hK hI frA.refl frA.refl
theorem kx_range {f : Unit → zSt → Option ((Int32 × zSt) ⊕ (Nat × zSt))} {lo hi : Int32} {l h : Int} {k : Nat} {r0 : Rs} (hr : r0 = (k, 0, S)) (h1 : lo.toInt = l) (h2 : hi.toInt = h) (hK : KI Γ N R o S) (hI : tI S) (hk : k ≠ 0) (hcd : cd k = 1) (hh : inR x l h → KX Γ N R J o cd (f () (cS N R J)) r1) : KX Γ N R J o cd (xbnd (f_X6_checkRange Γ x lo hi (cS N R J)) f) (if inR x l h then r1 else r0) := by
  rw [k_range h1 h2]
  by_cases e : inR x l h
  · rw [if_pos e, if_pos e]
    exact hh e
  · rw [if_neg e, if_neg e, c_xr, hr]
    exact kx_ko hk (by rw [hcd]) hK hI frA.refl frA.refl
/-- a call that writes only where it works -/
theorem kx_read {y : Option ((Int32 × zSt) ⊕ (Nat × zSt))} {v : Int32} (hK : KI Γ N R o S) (hI : tI S) (f : frA N N' (o + 52) (o + 247)) (e : y = some (.inl (v, cS N' R J))) : KX Γ N R J o cd y (0, v, S) := kx_ok e (hK.work hI f) hI (f.mono (by omega) (by omega)) frA.refl
/-- the model: what stays -/
def mFr (N N' : Mem) (p : Nat) : Prop := (∀ z, z < 1252 → N' (p + 1) z = N (p + 1) z) ∧ N' (p + 2) = N (p + 2) ∧ (∀ i, i ≠ 12 → N' p i = N p i) ∧ N' (p + 14) = N (p + 14) ∧ frA N N' p (p + 17)
theorem mFr.refl : mFr N N p := ⟨fun _ _ => rfl, rfl, fun _ _ => rfl, rfl, frA.refl⟩
theorem mFr.trans {N1 N2 : Mem} (h : mFr N N1 p) (k : mFr N1 N2 p) : mFr N N2 p := ⟨fun z hz => (k.1 z hz).trans (h.1 z hz), k.2.1.trans h.2.1, fun i hi => (k.2.2.1 i hi).trans (h.2.2.1 i hi), k.2.2.2.1.trans h.2.2.2.1, h.2.2.2.2.trans k.2.2.2.2⟩
theorem frM.toFr (h : frM N N' p) : mFr N N' p := ⟨fun z _ => by rw [h.pool], h.1 _ (by omega) (by omega), h.2, h.1 _ (by omega) (by omega), fun x e => h.1 x (by omega) (by omega)⟩
theorem frF.toFr (h : frF N N' p) (k : ∀ z, z < 1252 → N' (p + 1) z = N (p + 1) z) : mFr N N' p := ⟨k, h.1 _ (by omega) (by omega) (by omega), h.2, h.1 _ (by omega) (by omega) (by omega), fun x e => h.1 x (by omega) (by omega) (by omega)⟩
theorem frA.toFr {lo hi : Nat} (h : frA N N' lo hi) (h1 : p + 3 ≤ lo) (h2 : hi ≤ p + 14) : mFr N N' p := ⟨fun z _ => by rw [h (p + 1) (by omega)], h _ (by omega), fun i _ => by rw [h p (by omega)], h _ (by omega), fun x e => h x (by omega)⟩
theorem frP.toFr {lo hi : Nat} (h : frP N N' p lo hi) (h1 : 1252 ≤ lo) : mFr N N' p := ⟨fun z hz => h.2 z (by omega), h.1 _ (by omega), fun i _ => by rw [h.1 p (by omega)], h.1 _ (by omega), fun x e => h.1 x (by omega)⟩
theorem MSt.fr {s : aS} (hI : aI s) (h : MSt N p s) (e : mFr N N' p) : MSt N' p s := by
  obtain ⟨e1, e2, e3, _, _⟩ := e
  refine ⟨by rw [e3 2 (by omega)]; exact h.1, fun q hq => ?_, fun k q hk hq => ?_⟩
  · have h4 := h.2.1 q hq
    have h12 := (hI.2.1 s.1 q (Nat.le_refl _) hq).2
    refine ⟨by rw [e1 _ (by omega)]; exact h4.1, fun i hi => ⟨?_, ?_, fun j l hj hl => ?_⟩⟩
    · rw [e1 _ (by omega)]; exact (h4.2 i hi).1
    · rw [e1 _ (by omega)]; exact (h4.2 i hi).2.1
    · rw [e1 _ (by omega)]; exact (h4.2 i hi).2.2 j l hj hl
  · have := h.2.2 k q hk hq
    unfold mSn at this ⊢
    rw [e2]
    exact this
theorem MI.fr (h : MI Γ N R p S) (hI : tI S) (e : mFr N N' p) : MI Γ N' R p S := ⟨h.1, h.2.1.fr hI.1 e, by rw [e.2.2.1 18 (by omega)]; exact h.2.2.1, fun i hi => by rw [e.2.2.2.1]; exact h.2.2.2 i hi⟩
theorem MI.slot (h : MI Γ N R p S) (hI : tI S) (hq : q < 4) : mAu N p q (tcur S q) ∧ okA (tcur S q) ∧ (tcur S q).1 ≤ 12 := ⟨h.2.1.2.1 q hq, (hI.1.2.1 _ q (Nat.le_refl _) hq).1, (hI.1.2.1 _ q (Nat.le_refl _) hq).2⟩
theorem mg1 {v : Nat} (h : MI Γ N R p S) : MI Γ (setF N p (up1 (N p) 3 v)) R p S ∧ frA N (setF N p (up1 (N p) 3 v)) p (p + 17) ∧ (setF N p (up1 (N p) 3 v)) p 3 = v := by
  refine ⟨⟨h.1, ⟨?_, fun q hq => ?_, fun k q hk hq => ?_⟩, ?_, fun i hi => ?_⟩, frA.set (Nat.le_refl p) (by omega), ?_⟩
  · rw [setF_at, up1_ne (by omega)]; exact h.2.1.1
  · exact (h.2.1.2.1 q hq).eq (setF_ne (by omega))
  · have := h.2.1.2.2 k q hk hq
    unfold mSn at this ⊢
    rw [setF_ne (by omega)]
    exact this
  · rw [setF_at, up1_ne (by omega)]; exact h.2.2.1
  · rw [setF_ne (by omega)]; exact h.2.2.2 i hi
  · rw [setF_at, up1_at]
theorem mx_go {K : zSt → Option (Int32 × zSt)} {P1 P2 P3 : Prop} [Decidable P1] [Decidable P2] [Decidable P3] (h : MI Γ N R p S) (k : P1 → P2 → P3 → ∀ N1, MI Γ N1 R p S → N1 p 3 = 0 → frA N N1 p (p + 17) → MX Γ N R J p (K (cS N1 R J)) r1) : MX Γ N R J p (bnd (f_X7_goes Γ p (nI (b01 P1)) (nI (b01 P2)) (nI (b01 P3)) (cS N R J)) fun r6 σ5 => if r6 = 0 then some (0, σ5) else K σ5) (if P1 then (if P2 then (if P3 then r1 else (3, 0, S)) else (2, 0, S)) else (1, 0, S)) := by
  rw [m_goes h.1.ob b01_lt b01_lt b01_lt, c_bnd, L0]
  have bad : ∀ v, v ≠ 0 → MX Γ N R J p (if nI (b01 (v = 0)) = nI 0 then some (nI 0, cS (setF N p (up1 (N p) 3 v)) R J) else K (cS (setF N p (up1 (N p) 3 v)) R J)) (v, 0, S) := by
    intro v hv
    rw [b01_f hv, ieq_t rfl]
    obtain ⟨a, b, c⟩ := mg1 (v := v) h
    exact ⟨_, J, _, rfl, a, b, c, fun e => absurd e hv, fun _ _ => rfl⟩
  by_cases e1 : P1
  · rw [if_pos e1]
    by_cases e2 : P2
    · rw [if_pos e2]
      by_cases e3 : P3
      · rw [if_pos e3]
        have : thr (b01 P1) (b01 P2) (b01 P3) = 0 := by rw [b01_t e1, b01_t e2, b01_t e3]; rfl
        rw [this, b01_t rfl, ieq_f (by omega) (by omega) (by omega)]
        obtain ⟨a, b, c⟩ := mg1 (v := 0) h
        exact k e1 e2 e3 _ a c b
      · rw [if_neg e3]
        have : thr (b01 P1) (b01 P2) (b01 P3) = 3 := by rw [b01_t e1, b01_t e2, b01_f e3]; rfl
        rw [this]
        exact bad 3 (by omega)
    · rw [if_neg e2]
      have : thr (b01 P1) (b01 P2) (b01 P3) = 2 := by rw [b01_t e1, b01_f e2]; rfl
      rw [this]
      exact bad 2 (by omega)
  · rw [if_neg e1]
    have : thr (b01 P1) (b01 P2) (b01 P3) = 1 := by rw [b01_f e1]; rfl
    rw [this]
    exact bad 1 (by omega)
theorem mx_go2 {K : zSt → Option (Int32 × zSt)} {P1 P2 : Prop} [Decidable P1] [Decidable P2] (h : MI Γ N R p S) (k : P1 → P2 → ∀ N1, MI Γ N1 R p S → N1 p 3 = 0 → frA N N1 p (p + 17) → MX Γ N R J p (K (cS N1 R J)) r1) : MX Γ N R J p (bnd (f_X7_goes Γ p (nI (b01 P1)) (nI (b01 P2)) 1 (cS N R J)) fun r6 σ5 => if r6 = 0 then some (0, σ5) else K σ5) (if P1 then (if P2 then r1 else (2, 0, S)) else (1, 0, S)) := by
  have := mx_go (J := J) (K := K) (P1 := P1) (P2 := P2) (P3 := True) (r1 := r1) h (fun a b _ => k a b)
  rw [if_pos trivial] at this
  exact this
theorem mx_go1 {K : zSt → Option (Int32 × zSt)} {P1 : Prop} [Decidable P1] (h : MI Γ N R p S) (k : P1 → ∀ N1, MI Γ N1 R p S → N1 p 3 = 0 → frA N N1 p (p + 17) → MX Γ N R J p (K (cS N1 R J)) r1) : MX Γ N R J p (bnd (f_X7_goes Γ p (nI (b01 P1)) 1 1 (cS N R J)) fun r6 σ5 => if r6 = 0 then some (0, σ5) else K σ5) (if P1 then r1 else (1, 0, S)) := by
  have := mx_go2 (J := J) (K := K) (P1 := P1) (P2 := True) (r1 := r1) h (fun a _ => k a)
  rw [if_pos trivial] at this
  exact this
/-- the model answers, its state the same -/
theorem mx_read {N1 N2 : Mem} {y : Option (Int32 × zSt)} {v : Int32} (h : MI Γ N1 R p S) (hI : tI S) (h3 : N1 p 3 = 0) (f : frA N N1 p (p + 17)) (e : mFr N1 N2 p) (hy : y = some (v, cS N2 R J)) : MX Γ N R J p y (0, v, S) := ⟨N2, J, v, hy, h.fr hI e, f.trans e.2.2.2.2, by rw [e.2.2.1 3 (by omega)]; exact h3, fun _ => rfl, fun _ _ => rfl⟩
/-- the model saves -/
theorem MI.save (h : MI Γ N R p S) (hI : tI S) (hq : q < 4) : Mx (f_X7_save Γ p (cS N R J)) (fun σ => ((), σ)) R J (fun N' => MI Γ N' R p (tsv S q (tcur S q)) ∧ frA N N' p (p + 17) ∧ N' (p + 1) = N (p + 1) ∧ ∀ i, i ≠ 2 → N' p i = N p i) := by
  refine mx_mono (m_saveS h.1 hI.1 h.2.1 hq) ?_
  intro N1 ⟨r1, r2, r3⟩
  exact ⟨⟨h.1, r1, by rw [r3 18 (by omega)]; exact h.2.2.1, fun i hi => by rw [r2 _ (by omega) (by omega)]; exact h.2.2.2 i hi⟩, fun x e => r2 x (by omega) (by omega), r2 _ (by omega) (by omega), r3⟩
theorem MI.set (h : MI Γ N R p (tsv S q B)) (hI : tI S) (hB : B.1 ≤ 12) (hq : q < 4) (h2 : ∀ i, i ≠ 12 → N' p i = N p i) (hsv : N' (p + 2) = N (p + 2)) (h14 : N' (p + 14) = N (p + 14)) (hf : ∀ z, z < 1252 → z < 313 * q ∨ 313 * q + 313 ≤ z → N' (p + 1) z = N (p + 1) z) (hA : mAu N' p q A) : MI Γ N' R p (tsv S q A) := ⟨h.1, MSt.set hI.1 hB h.2.1 hq (h2 2 (by omega)) hsv hf hA, by rw [h2 18 (by omega)]; exact h.2.2.1, fun i hi => by rw [h14]; exact h.2.2.2 i hi⟩
/-- the model answers, its slot another -/
theorem mx_write {N1 N2 : Mem} {y : Option (Int32 × zSt)} {v : Int32} {J' : Nat → Nat → Int64} (h : MI Γ N1 R p (tsv S q B)) (hI : tI S) (hB : B.1 ≤ 12) (hq : q < 4) (h3 : N1 p 3 = 0) (f : frA N N1 p (p + 17)) (h2 : ∀ i, i ≠ 12 → N2 p i = N1 p i) (hx : ∀ x, x < p ∨ p + 17 ≤ x ∨ x = p + 2 ∨ x = p + 14 → N2 x = N1 x) (hf : ∀ z, z < 1252 → z < 313 * q ∨ 313 * q + 313 ≤ z → N2 (p + 1) z = N1 (p + 1) z) (hA : mAu N2 p q A) (hy : y = some (v, cS N2 R J')) (hJ : ∀ a, a ≠ p → J' a = J a) : MX Γ N R J p y (0, v, tsv S q A) := ⟨N2, J', v, hy, h.set hI hB hq h2 (hx _ (by omega)) (hx _ (by omega)) hf hA, f.trans (fun x e => hx x (by omega)), by rw [h2 3 (by omega)]; exact h3, fun _ => rfl, hJ⟩
end CX
