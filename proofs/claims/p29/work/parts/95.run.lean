/-! ===== two objects; a call of one of them ===== -/
section UFS
variable {Γ Γ' : zSh} {R R' : Mem} {o p : Nat}
theorem cSh.uf (h : cSh Γ R o) (f : ∀ x, o ≤ x → x < o + 52 → Γ' x = Γ x ∧ R' x = R x) : cSh Γ' R' o := by
  obtain ⟨⟨h1, h0⟩, ⟨g1, g2, g3⟩, h3, h4, h5, g, k1, k2⟩ := h
  refine ⟨⟨by rw [(f o (by omega) (by omega)).1]; exact h1, h0⟩, ⟨by rw [(f (o + 1) (by omega) (by omega)).1]; exact g1, by rw [(f (o + 26) (by omega) (by omega)).1]; exact g2, by rw [(f (o + 51) (by omega) (by omega)).1]; exact g3⟩, by rw [(f o (by omega) (by omega)).2]; exact h3, fun q hq => ⟨?_, (h4 q hq).2.uf (fun x a b => f x (by omega) (by omega))⟩, fun j hj => (h5 j hj).uf (fun x a b => f x (by omega) (by omega)), g, fun k hk => ?_, k2⟩
  · rw [(f (o + 1) (by omega) (by omega)).2]
    exact (h4 q hq).1
  · rw [(f (o + 26) (by omega) (by omega)).2]
    exact k1 k hk
theorem kSh.uf (h : kSh Γ R o) (f : ∀ x, o ≤ x → x < o + 373 → Γ' x = Γ x ∧ R' x = R x) : kSh Γ' R' o := by
  obtain ⟨hc, ⟨s1, s2⟩, ⟨d1, d2⟩, ⟨w1, u, u', w2⟩, ⟨p1, p2⟩, ⟨b1, b2⟩, ⟨g1, π, g2⟩, ⟨t1, t2⟩, e1, e2⟩ := h
  have fo : R' o = R o := (f o (by omega) (by omega)).2
  rw [← fo] at s1 d1 w1 p1 b1 g1 t1 e1
  exact ⟨hc.uf (fun x a b => f x a (by omega)), ⟨s1, s2.uf (fun x a b => f x (by omega) (by omega))⟩, ⟨d1, d2.uf (fun x a b => f x (by omega) (by omega))⟩, ⟨w1, u, u', w2.uf (fun x a b => f x (by omega) (by omega))⟩, ⟨p1, p2.uf (fun x a b => f x (by omega) (by omega))⟩, ⟨b1, b2.uf (fun x a b => f x (by omega) (by omega))⟩, ⟨g1, π, g2.uf (fun x a b => f x (by omega) (by omega))⟩, ⟨t1, by rw [(f (o + 246) (by omega) (by omega)).1]; exact t2⟩, e1, e2.uf (fun x a b => f x (by omega) (by omega))⟩
end UFS
def PI (Γ : zSh) (N R : Mem) (o : Nat) (S T : tS) : Prop := KI Γ N R o S ∧ tI S ∧ KI Γ N R (o + 373) T ∧ tI T
def OkG {β : Type} (y : Option β) (P : β → Prop) : Prop := ∃ b, y = some b ∧ P b
def tq (S : tS) (q : Nat) : Au := tcur S q
def tvw (S : tS) (k q : Nat) : Au := S.1.2.1 (S.1.1 - k) q
section RUN
variable {β : Type} {Γ : zSh} {N N' R R' : Mem} {J : Nat → Nat → Int64} {o q : Nat} {S T S' T' : tS} {cd : Nat → Nat} {x : Option ((Int32 × zSt) ⊕ (Nat × zSt))} {r0 : Rs} {v : Int32} {K : Int32 → zSt → Option β} {P : β → Prop} {A X Y : Au}
theorem KI.keep (h : KI Γ N R q S) (hI : tI S) (f : ∀ x, q ≤ x → x < q + 373 → N' x = N x) (g : ∀ x, q ≤ x → x < q + 373 → R' x = R x) : KI Γ N' R' q S :=
  ⟨h.1.uf (fun x a b => ⟨rfl, g x a b⟩), h.2.1.fr h.1.1 hI.1.1 (fun x a b => f x a (by omega)) (g _ (by omega) (by omega)), by rw [f _ (by omega) (by omega)]; exact h.2.2.1, fun i hi => by rw [f _ (by omega) (by omega)]; exact h.2.2.2.1 i hi, fun k hk => by rw [f _ (by omega) (by omega)]; exact h.2.2.2.2 k hk⟩
theorem go_o (h : PI Γ N R o S T) (hx : KX Γ N R J o cd x r0) (e : r0 = (0, v, S')) (k : ∀ N' R', PI Γ N' R' o S' T → OkG (K v (cS N' R' J)) P) : OkG (chk (isO Γ o 6) <| xonly x K) P := by
  obtain ⟨N1, R1, e1, h1, h2, h3, h4⟩ := hx
  subst e
  rw [c_chkO h.1.1.1.1.1, e1, if_pos rfl]
  exact k N1 R1 ⟨h1, h2, h.2.2.1.keep h.2.2.2 (fun x a b => h3 x (by omega)) (fun x a b => h4 x (by omega)), h.2.2.2⟩
theorem go_p (h : PI Γ N R o S T) (hx : KX Γ N R J (o + 373) cd x r0) (e : r0 = (0, v, T')) (k : ∀ N' R', PI Γ N' R' o S T' → OkG (K v (cS N' R' J)) P) : OkG (chk (isO Γ (o + 373) 6) <| xonly x K) P := by
  obtain ⟨N1, R1, e1, h1, h2, h3, h4⟩ := hx
  subst e
  rw [c_chkO h.2.2.1.1.1.1.1, e1, if_pos rfl]
  exact k N1 R1 ⟨h.1.keep h.2.1 (fun x a b => h3 x (by omega)) (fun x a b => h4 x (by omega)), h.2.1, h1, h2⟩
theorem go_d {K : Int64 → zSt → Option β} (h : PI Γ N R o S T) (k : ∀ N', PI Γ N' R o S T → OkG (K (31 * dgS S 4 + (nI S.1.1).toInt64) (cS N' R J)) P) : OkG (chk (isO Γ o 6) <| bnd (f_X6_digest Γ o (cS N R J)) K) P := by
  obtain ⟨N1, e1, k1⟩ := c_digest (J := J) h.1 h.2.1
  rw [c_chkO h.1.1.1.1.1, e1, c_bnd]
  exact k N1 ⟨h.1.work h.2.1 k1, h.2.1, h.2.2.1.keep h.2.2.2 (fun x a b => k1 x (by omega)) (fun x a b => rfl), h.2.2.2⟩
theorem PI.ok (h : PI Γ N R o S T) (hq : q < 4) : okA (tq S q) ∧ (tq S q).1 ≤ 12 := h.2.1.1.2.1 _ q (Nat.le_refl _) hq
theorem PI.okT (h : PI Γ N R o S T) (hq : q < 4) : okA (tq T q) ∧ (tq T q).1 ≤ 12 := h.2.2.2.1.2.1 _ q (Nat.le_refl _) hq
theorem tq_t {t : Nat} : tq (tsv S t A) t = A := tcur_sv
theorem tq_o {t : Nat} (h : q ≠ t) : tq (tsv S t A) q = tq S q := by
  show (if aBase S.1.1 + 1 = aBase S.1.1 + 1 then (if q = t then A else S.1.2.1 S.1.1 q) else _) = _
  rw [if_pos rfl, if_neg h]
  rfl
theorem cn_s {t : Nat} : (tsv S t A).1.1 = aBase S.1.1 + 1 := rfl
theorem cn_le {t : Nat} (h : S.1.1 ≤ 4) : (tsv S t A).1.1 ≤ 4 := by
  rw [cn_s]
  unfold aBase
  by_cases e : S.1.1 = 4
  · rw [if_pos e]; omega
  · rw [if_neg e]; omega
theorem cn_up {t : Nat} {k : Nat} (h : S.1.1 ≤ 4) (hk : k ≤ S.1.1) (hk3 : k ≤ 3) : k + 1 ≤ (tsv S t A).1.1 := by
  rw [cn_s]
  unfold aBase
  by_cases e : S.1.1 = 4
  · rw [if_pos e]; omega
  · rw [if_neg e]; omega
theorem tv_0 : tvw S 0 q = tq S q := rfl
theorem tv_s {t k : Nat} (h4 : S.1.1 ≤ 4) (hk : k + 1 ≤ (tsv S t A).1.1) : tvw (tsv S t A) (k + 1) q = tvw S k q := by
  rw [cn_s] at hk
  show (if aBase S.1.1 + 1 - (k + 1) = aBase S.1.1 + 1 then _ else S.1.2.1 (aBase S.1.1 + 1 - (k + 1) + aOff S.1.1) q) = S.1.2.1 (S.1.1 - k) q
  rw [if_neg (by omega)]
  have e9 : aBase S.1.1 + 1 - (k + 1) + aOff S.1.1 = S.1.1 - k := by
    unfold aBase at hk ⊢
    unfold aOff
    by_cases e : S.1.1 = 4
    · rw [if_pos e] at hk
      rw [if_pos e, if_pos e]; omega
    · rw [if_neg e] at hk
      rw [if_neg e, if_neg e]; omega
  rw [e9]
theorem tv_u {k : Nat} : tvw (uS S) k q = tvw S (k + 1) q := by
  show S.1.2.1 (S.1.1 - 1 - k) q = S.1.2.1 (S.1.1 - (k + 1)) q
  rw [show S.1.1 - 1 - k = S.1.1 - (k + 1) by omega]
theorem cn_u : (uS S).1.1 = S.1.1 - 1 := rfl
theorem dg_c (h2 : S.2.1 = S'.2.1) (h : ∀ q, q < 4 → tq S q = tq S' q) : ∀ k, k ≤ 4 → dgS S k = dgS S' k := by
  intro k
  induction k with
  | zero => intro _; show 93589 + (nI S.2.1).toInt64 = 93589 + (nI S'.2.1).toInt64; rw [h2]
  | succ k ih =>
    intro hk
    show hD (tq S k) (dgS S k) 3 = hD (tq S' k) (dgS S' k) 3
    rw [ih (by omega), h k (by omega)]
/-! what the calls answer -/
theorem v_slot {x : Nat} (h : x < 4) : inR (nI x) 0 3 := by
  constructor
  · rw [nI_toInt (by omega)]; omega
  · rw [nI_toInt (by omega)]; omega
theorem v_in {x : Nat} {hi : Int} (h : (x : Int) ≤ hi) (h2 : hi < 2147483648) : inR (nI x) 0 hi := by
  constructor
  · rw [nI_toInt (by omega)]; omega
  · rw [nI_toInt (by omega)]; exact h
theorem v_comb {t x y k : Nat} (ht : t < 4) (hx : x < 4) (hy : y < 4) (hk : k < 3) (eX : tq S x = X) (eY : tq S y = Y) (h12 : (comA X Y k).1 ≤ 12) : rCombine S (nI t) (nI x) (nI y) (nI k) = (0, nI (comA X Y k).1, tsv S t (comA X Y k)) := by
  have e1 : tcur S x = X := eX
  have e2 : tcur S y = Y := eY
  unfold rCombine
  rw [if_pos ⟨v_slot ht, v_slot hx, v_slot hy⟩, if_pos (v_in (by omega) (by omega)), ix_nI (by omega), ix_nI (by omega), ix_nI (by omega), ix_nI (by omega), e1, e2, if_pos h12]
theorem v_der {t x k : Nat} (ht : t < 4) (hx : x < 4) (hk : k < 7) (h2 : k ≠ 2) (eX : tq S x = X) : rDerive S (nI t) (nI x) (nI k) = (0, nI (derA X k).1, tsv S t (derA X k)) := by
  have e1 : tcur S x = X := eX
  unfold rDerive
  rw [if_pos ⟨v_slot ht, v_slot hx⟩, if_pos (v_in (by omega) (by omega)), ix_nI (by omega), ix_nI (by omega), ix_nI (by omega), e1, if_pos (fun u => absurd u h2)]
theorem v_states {x : Nat} (hx : x < 4) (eX : tq S x = X) : rStates S (nI x) = (0, nI X.1, S) := by
  have e1 : tcur S x = X := eX
  unfold rStates
  rw [if_pos (v_slot hx), ix_nI (by omega), e1]
theorem v_dim {x k : Nat} (hx : x < 4) (hk : k < 3) (eX : tq S x = X) : rDim S (nI x) (nI k) = (0, nI (dimV X k), S) := by
  have e1 : tcur S x = X := eX
  unfold rDim
  rw [if_pos (v_slot hx), if_pos (v_in (by omega) (by omega)), ix_nI (by omega), ix_nI (by omega), e1]
theorem v_tot {x k : Nat} (hx : x < 4) (hk : k ≤ 2000) (eX : tq S x = X) : rTotal S (nI x) (nI k) = (0, nI (wtA X (ttV X k)), S) := by
  have e1 : tcur S x = X := eX
  unfold rTotal
  rw [if_pos (v_slot hx), if_pos (v_in (by omega) (by omega)), ix_nI (by omega), ix_nI (by omega), e1]
theorem v_wt {x k : Nat} (hx : x < 4) (hk : k ≤ 1000000) (eX : tq S x = X) : rWeight S (nI x) (nI k) = (0, nI (wtA X (vW X X.2.1 (k + 1))), S) := by
  have e1 : tcur S x = X := eX
  unfold rWeight
  rw [if_pos (v_slot hx), if_pos (v_in (by omega) (by omega)), ix_nI (by omega), ix_nI (by omega), e1]
theorem v_pow {x k : Nat} (hx : x < 4) (hk : k ≤ 1000000) (eX : tq S x = X) : rPower S (nI x) (nI k) (nI 1) = (0, nI (wtA X (vW X X.2.1 (k + 1))), S) := by
  have e1 : tcur S x = X := eX
  unfold rPower
  rw [if_pos (v_slot hx), if_pos ⟨v_in (by omega) (by omega), v_in (by omega) (by omega)⟩, ix_nI (by omega), ix_nI (by omega), ix_nI (by omega), e1]
  rfl
theorem v_first {x : Nat} (hx : x < 4) (eX : tq S x = X) : rFirst S (nI x) = (0, fW X (fun k => wtA X ((expl X).2.2.2.1 k)), S) := by
  have e1 : tcur S x = X := eX
  unfold rFirst
  rw [if_pos (v_slot hx), ix_nI (by omega), e1]
theorem v_hank {x h : Nat} (hx : x < 4) (hh : h ≤ 31) (eX : tq S x = X) : rHankel S (nI x) (nI h) = (0, nI (rkS h (hkG X) h).1, S) := by
  have e1 : tcur S x = X := eX
  unfold rHankel
  rw [if_pos (v_slot hx), if_pos (v_in (by omega) (by omega)), ix_nI (by omega), ix_nI (by omega), e1]
theorem v_diff {x y : Nat} (hx : x < 4) (hy : y < 4) (eX : tq S x = X) (eY : tq S y = Y) (okX : okA X) (okY : okA Y) (h24 : X.1 + Y.1 ≤ 24) (h : sEq X Y) : rDiff S (nI x) (nI y) = (0, -1, S) := by
  have e1 : tcur S x = X := eX
  have e2 : tcur S y = Y := eY
  unfold rDiff
  rw [if_pos ⟨v_slot hx, v_slot hy⟩, ix_nI (by omega), ix_nI (by omega), e1, e2, dif_none okX okY h24 h]
theorem v_rec {x d : Nat} (hx : x < 4) (eX : tq S x = X) (h1 : 1 ≤ X.1) (h2 : X.1 ≤ 2) (hd : X.1 ≤ d) (hd2 : d ≤ 12) : rRecurs S (nI x) (nI d) = (0, 1, S) := by
  have e1 : tcur S x = X := eX
  have hr : inR (nI d) 1 12 := by
    constructor
    · rw [nI_toInt (by omega)]; omega
    · rw [nI_toInt (by omega)]; omega
  unfold rRecurs
  rw [if_pos (v_slot hx), if_pos hr, ix_nI (by omega), ix_nI (by omega), e1, if_pos (rec_ok h1 h2 hd)]
theorem v_basis {x k : Nat} (hx : x < 4) (eX : tq S x = X) (hk : k < (expl X).1) (h9 : (expl X).1 ≤ 12) : rBasis S (nI x) (nI k) = (0, nI ((expl X).2.1 k), S) := by
  have e1 : tcur S x = X := eX
  unfold rBasis
  rw [ix_nI (by omega), ix_nI (by omega), e1, if_pos ⟨v_slot hx, v_in (by omega) (by omega)⟩]
theorem v_sca {x c : Nat} (hx : x < 4) (hc : c ≤ 10006) (eX : tq S x = X) : rScale S (nI x) (nI c) = (0, nI (wtA (scaA X c) (scaA X c).2.1), tsv S x (scaA X c)) := by
  have e1 : tcur S x = X := eX
  unfold rScale
  rw [if_pos (v_slot hx), if_pos (v_in (by omega) (by omega)), ix_nI (by omega), ix_nI (by omega), e1]
theorem v_inv {c : Nat} (h1 : 1 ≤ c) (h2 : c ≤ 10006) : rInverse S (nI c) = (0, nI (rcp c), S) := by
  have hr : inR (nI c) 1 10006 := by
    constructor
    · rw [nI_toInt (by omega)]; omega
    · rw [nI_toInt (by omega)]; omega
  unfold rInverse
  rw [if_pos hr, ix_nI (by omega)]
theorem v_undo (h : 0 < S.1.1) : rUndo S = (0, nI (S.1.1 - 1), uS S) := if_pos h
theorem v_begin {x n : Nat} (hx : x < 4) (hn : n ≤ 12) : rBegin S (nI x) (nI n) = (0, nI (tq S x).1, tsv S x (zerA n)) := by
  unfold rBegin
  rw [if_pos (v_slot hx), if_pos (v_in (by omega) (by omega)), ix_nI (by omega), ix_nI (by omega)]
  rfl
theorem v_rand {x n s : Nat} (hx : x < 4) (hn : n ≤ 12) (hs : s ≤ 999999) : rRandom S (nI x) (nI n) (nI s) = (0, nI (wtA (drwA n s) (drwA n s).2.1), tsv S x (drwA n s)) := by
  unfold rRandom
  rw [if_pos (v_slot hx), if_pos ⟨v_in (by omega) (by omega), v_in (by omega) (by omega)⟩, ix_nI (by omega), ix_nI (by omega), ix_nI (by omega)]
end RUN
