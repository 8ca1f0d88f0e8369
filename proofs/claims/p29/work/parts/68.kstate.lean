/-! ===== the class's whole shape and state ===== -/
def eS (Γ : zSh) (R : Mem) (e : Nat) : Prop := (Γ e = some (2 + 5, 0) ∧ e ≠ 0) ∧ (R e 0 = e + 1 ∧ R e 2 = e + 2 ∧ R e 3 = e + 57 ∧ R e 4 = e + 58 ∧ R e 5 = e + 113 ∧ R e 6 = e + 114 ∧ R e 8 = e + 120) ∧ (Γ (e + 1) = some (0, 60) ∧ Γ (e + 2) = some (4, 9) ∧ Γ (e + 57) = some (1, 9) ∧ Γ (e + 58) = some (4, 9) ∧ Γ (e + 113) = some (1, 9)) ∧ (∀ k, k < 9 → R (e + 2) k = e + 3 + 6 * k ∧ auS Γ R (e + 3 + 6 * k) 12 ∧ R (e + 58) k = e + 59 + 6 * k ∧ auS Γ R (e + 59 + 6 * k) 12) ∧ auS Γ R (e + 114) 12 ∧ auS Γ R (e + 120) 12
def kSh (Γ : zSh) (R : Mem) (o : Nat) : Prop := cSh Γ R o ∧ (R o 4 = o + 52 ∧ auS Γ R (o + 52) 12) ∧ (R o 5 = o + 58 ∧ auS Γ R (o + 58) 24) ∧ (R o 6 = o + 64 ∧ ∃ u u', wS Γ R (o + 64) u u') ∧ (R o 7 = o + 67 ∧ ptS Γ R (o + 67)) ∧ (R o 8 = o + 82 ∧ bS Γ R (o + 82)) ∧ (R o 9 = o + 213 ∧ ∃ π, gS Γ R (o + 213) π) ∧ (R o 10 = o + 246 ∧ Γ (o + 246) = some (0, 43)) ∧ R o 11 = o + 247 ∧ eS Γ R (o + 247)
/-- how references change -/
def rOk (R R' : Mem) (o : Nat) : Prop := ∀ x, x ≠ o + 26 → x ≠ o + 64 → x ≠ o + 214 → R' x = R x
theorem rOk.refl {R : Mem} {o : Nat} : rOk R R o := fun _ _ _ _ => rfl
theorem rOk.trans {R R1 R2 : Mem} {o : Nat} (h : rOk R R1 o) (k : rOk R1 R2 o) : rOk R R2 o := fun x a b c => (k x a b c).trans (h x a b c)
abbrev tS := aS × Nat × (Nat → Nat)
abbrev tcur (S : tS) (q : Nat) : Au := S.1.2.1 S.1.1 q
def tsv (S : tS) (q : Nat) (A : Au) : tS := (aSave S.1 q A, S.2)
def tI (S : tS) : Prop := aI S.1 ∧ S.2.1 ≤ 60 ∧ ∀ i, i < S.2.1 → S.2.2 i < 128
def KC (N R : Mem) (o : Nat) (S : tS) : Prop := CSt N R o S.1 ∧ N (o + 247) 1 = S.2.1 ∧ (∀ i, i < S.2.1 → N (o + 248) i = S.2.2 i) ∧ ∀ k, k < 9 → N (o + 250 + 6 * k) 0 ≤ 12
def KI (Γ : zSh) (N R : Mem) (o : Nat) (S : tS) : Prop := kSh Γ R o ∧ KC N R o S
section KS
variable {Γ : zSh} {N N' R R' : Mem} {J : Nat → Nat → Int64} {o : Nat} {S : tS} {q : Nat} {A : Au}
theorem eS.fr {e : Nat} (h : eS Γ R e) (f : ∀ x, e ≤ x → x < e + 126 → R' x = R x) : eS Γ R' e := by
  obtain ⟨h1, h2, h3, h4, h5, h6⟩ := h
  refine ⟨h1, by rw [f e (by omega) (by omega)]; exact h2, h3, fun k hk => ?_, h5.frR (f _ (by omega) (by omega)) (f _ (by omega) (by omega)), h6.frR (f _ (by omega) (by omega)) (f _ (by omega) (by omega))⟩
  obtain ⟨a, b, c, d⟩ := h4 k hk
  rw [f (e + 2) (by omega) (by omega), f (e + 58) (by omega) (by omega)]
  exact ⟨a, b.frR (f _ (by omega) (by omega)) (f _ (by omega) (by omega)), c, d.frR (f _ (by omega) (by omega)) (f _ (by omega) (by omega))⟩
theorem ptS.fr {pt : Nat} (h : ptS Γ R pt) (f : ∀ x, pt ≤ x → x < pt + 15 → R' x = R x) : ptS Γ R' pt := by
  obtain ⟨h1, h2, h3, h4, h5, h6, h7⟩ := h
  refine ⟨h1, h2, h3, by rw [f pt (by omega) (by omega)]; exact h4, by rw [f pt (by omega) (by omega)]; exact h5, h6, fun k hk => ?_⟩
  rw [f (pt + 2) (by omega) (by omega)]
  exact h7 k hk
theorem bS.fr {b : Nat} (h : bS Γ R b) (f : ∀ x, b ≤ x → x < b + 131 → R' x = R x) : bS Γ R' b := by
  obtain ⟨h1, h2, h3, h4⟩ := h
  refine ⟨h1, fun i k t n hm => ?_, fun k hk => ?_, fun k hk => ?_⟩
  · rw [f b (by omega) (by omega)]
    exact h2 i k t n hm
  · rw [f (b + 3) (by omega) (by omega), f (b + 28) (by omega) (by omega), f (b + 53) (by omega) (by omega)]
    exact h3 k hk
  · rw [f (b + 79) (by omega) (by omega)]
    exact h4 k hk
theorem wS.fr {w u u' : Nat} (h : wS Γ R w u u') (f : R' w = R w) : wS Γ R' w u u' := by
  unfold wS at h ⊢
  rw [f]
  exact h
theorem gS.fr {g : Nat} {π : Nat → Nat} (h : gS Γ R g π) (f : R' g = R g) (f2 : R' (g + 1) = R (g + 1)) : gS Γ R' g π := by
  unfold gS at h ⊢
  rw [f, f2]
  exact h
theorem cSh.fr (h : cSh Γ R o) (f : ∀ x, o ≤ x → x < o + 52 → R' x = R x) : cSh Γ R' o := by
  obtain ⟨h1, h2, h3, h4, h5, g, g1, g2⟩ := h
  refine ⟨h1, h2, by rw [f o (by omega) (by omega)]; exact h3, fun q hq => ?_, fun j hj => (h5 j hj).frR (f _ (by omega) (by omega)) (f _ (by omega) (by omega)), g, fun k hk => ?_, g2⟩
  · rw [f (o + 1) (by omega) (by omega)]
    exact ⟨(h4 q hq).1, (h4 q hq).2.frR (f _ (by omega) (by omega)) (f _ (by omega) (by omega))⟩
  · rw [f (o + 26) (by omega) (by omega)]
    exact g1 k hk
theorem kSh.to (h : kSh Γ R o) (e : rOk R R' o) (hc : cSh Γ R' o) (hw : ∃ u u', wS Γ R' (o + 64) u u') (hg : ∃ π, gS Γ R' (o + 213) π) : kSh Γ R' o := by
  obtain ⟨_, ⟨s1, s2⟩, ⟨d1, d2⟩, ⟨w1, _⟩, ⟨p1, p2⟩, ⟨b1, b2⟩, ⟨g1, _⟩, ⟨t1, t2⟩, e1, e2⟩ := h
  have eo : R' o = R o := e o (by omega) (by omega) (by omega)
  rw [← eo] at s1 d1 w1 p1 b1 g1 t1 e1
  exact ⟨hc, ⟨s1, s2.frR (e _ (by omega) (by omega) (by omega)) (e _ (by omega) (by omega) (by omega))⟩, ⟨d1, d2.frR (e _ (by omega) (by omega) (by omega)) (e _ (by omega) (by omega) (by omega))⟩, ⟨w1, hw⟩, ⟨p1, p2.fr (fun x a b => e x (by omega) (by omega) (by omega))⟩, ⟨b1, b2.fr (fun x a b => e x (by omega) (by omega) (by omega))⟩, ⟨g1, hg⟩, ⟨t1, t2⟩, e1, e2.fr (fun x a b => e x (by omega) (by omega) (by omega))⟩
theorem kSh.walk (h : kSh Γ R o) (e : ∀ x, x ≠ o + 64 → R' x = R x) (hw : ∃ u u', wS Γ R' (o + 64) u u') : kSh Γ R' o := by
  obtain ⟨π, hg⟩ := h.2.2.2.2.2.2.1.2
  exact h.to (fun x _ b _ => e x b) (h.1.fr (fun x a b => e x (by omega))) hw ⟨π, hg.fr (e _ (by omega)) (e _ (by omega))⟩
theorem kSh.grid (h : kSh Γ R o) (e : ∀ x, x ≠ o + 214 → R' x = R x) (hg : ∃ π, gS Γ R' (o + 213) π) : kSh Γ R' o := by
  obtain ⟨u, u', hw⟩ := h.2.2.2.1.2
  exact h.to (fun x _ _ c => e x c) (h.1.fr (fun x a b => e x (by omega))) ⟨u, u', hw.fr (e _ (by omega))⟩ hg
theorem kSh.save (h : kSh Γ R o) (e : ∀ x, x ≠ o + 26 → R' x = R x) (hc : cSh Γ R' o) : kSh Γ R' o := by
  obtain ⟨u, u', hw⟩ := h.2.2.2.1.2
  obtain ⟨π, hg⟩ := h.2.2.2.2.2.2.1.2
  exact h.to (fun x a _ _ => e x a) hc ⟨u, u', hw.fr (e _ (by omega))⟩ ⟨π, hg.fr (e _ (by omega)) (e _ (by omega))⟩
theorem CSt.fr {s : aS} (hc : cSh Γ R o) (h : CSt N R o s) (hs : s.1 ≤ 4) (e : ∀ x, o ≤ x → x < o + 52 → N' x = N x) (eR : R' (o + 26) = R (o + 26)) : CSt N' R' o s := by
  obtain ⟨_, _, _, _, _, f, f1, _⟩ := hc
  refine ⟨by rw [e o (by omega) (by omega)]; exact h.1, fun q hq => ?_, fun k hk => ?_⟩
  · have h2 := h.2.1 q hq
    refine ⟨by rw [e _ (by omega) (by omega)]; exact h2.1, fun i hi => ⟨?_, ?_, fun j l hj hl => ?_⟩⟩
    · rw [e _ (by omega) (by omega)]; exact (h2.2 i hi).1
    · rw [e _ (by omega) (by omega)]; exact (h2.2 i hi).2.1
    · rw [e _ (by omega) (by omega)]; exact (h2.2 i hi).2.2 j l hj hl
  · obtain ⟨c1, h2⟩ := h.2.2 k hk
    obtain ⟨e1, e2⟩ := f1 k (by omega)
    rw [eR]
    rw [e2] at h2 ⊢
    refine ⟨by rw [e _ (by omega) (by omega)]; exact c1, by rw [e _ (by omega) (by omega)]; exact h2.1, fun i hi => ⟨?_, ?_, fun j l hj hl => ?_⟩⟩
    · rw [e _ (by omega) (by omega)]; exact (h2.2 i hi).1
    · rw [e _ (by omega) (by omega)]; exact (h2.2 i hi).2.1
    · rw [e _ (by omega) (by omega)]; exact (h2.2 i hi).2.2 j l hj hl
theorem KC.fr (hc : cSh Γ R o) (h : KC N R o S) (hI : tI S) (e : frA N N' (o + 52) (o + 247)) (eR : R' (o + 26) = R (o + 26)) : KC N' R' o S := by
  obtain ⟨h1, h2, h3, h4⟩ := h
  refine ⟨h1.fr hc hI.1.1 (fun x a b => e x (by omega)) eR, by rw [e _ (by omega)]; exact h2, fun i hi => by rw [e _ (by omega)]; exact h3 i hi, fun k hk => by rw [e _ (by omega)]; exact h4 k hk⟩
/-- what a call finds at its slot -/
theorem KI.slot (h : KI Γ N R o S) (hI : tI S) (hq : q < 4) : (Γ o = some (6 + 5, 0) ∧ o ≠ 0 ∧ R o 0 = o + 1 ∧ Γ (o + 1) = some (4, 4) ∧ R (o + 1) q = o + 2 + 6 * q) ∧ auS Γ R (o + 2 + 6 * q) 12 ∧ cAu N (o + 2 + 6 * q) (tcur S q) ∧ okA (tcur S q) ∧ (tcur S q).1 ≤ 12 := by
  obtain ⟨⟨⟨⟨a1, a2⟩, ⟨b1, _, _⟩, ⟨c1, _, _⟩, d, _⟩, _⟩, k1, _⟩ := h
  exact ⟨⟨a1, a2, c1, b1, (d q hq).1⟩, (d q hq).2, k1.2.1 q hq, (hI.1.2.1 _ q (Nat.le_refl _) hq).1, (hI.1.2.1 _ q (Nat.le_refl _) hq).2⟩
theorem KI.work (h : KI Γ N R o S) (hI : tI S) (e : frA N N' (o + 52) (o + 247)) : KI Γ N' R o S := ⟨h.1, h.2.fr h.1.1 hI e rfl⟩
theorem tsv_I (h : tI S) (hq : q < 4) (ok : okA A) (h12 : A.1 ≤ 12) : tI (tsv S q A) := ⟨aSave_I h.1 hq ok h12, h.2⟩
/-- saving -/
theorem KI.save (h : KI Γ N R o S) (hI : tI S) (hq : q < 4) : MxR (f_X6_save Γ o (nI q) (cS N R J)) (fun σ => ((), σ)) J (fun N' R' => KI Γ N' R' o (tsv S q (tcur S q)) ∧ (∀ x, x < o ∨ o + 52 ≤ x → N' x = N x) ∧ (∀ x, x ≠ o + 26 → R' x = R x)) := by
  refine mr_mono (c_save h.1.1 hI.1 h.2.1 hq) ?_
  intro N1 R1 ⟨r1, r2, r3, r4, r5⟩
  obtain ⟨_, h2, h3, h4⟩ := h.2
  exact ⟨⟨h.1.save r5 r1, r2, by rw [r3 _ (by omega)]; exact h2, fun i hi => by rw [r3 _ (by omega)]; exact h3 i hi, fun k hk => by rw [r3 _ (by omega)]; exact h4 k hk⟩, r3, r5⟩
/-- the slot that was changed, changed again -/
theorem KI.set {B : Au} (h : KI Γ N R o (tsv S q B)) (hI : tI S) (hq : q < 4) (hf : frA N N' (o + 2 + 6 * q) (o + 2 + 6 * q + 6)) (hA : cAu N' (o + 2 + 6 * q) A) : KI Γ N' R o (tsv S q A) := by
  obtain ⟨h0, h1, h2, h3, h4⟩ := h
  exact ⟨h0, CSt.set h0.1 hI.1 h1 hq hf hA, by rw [hf _ (by omega)]; exact h2, fun i hi => by rw [hf _ (by omega)]; exact h3 i hi, fun k hk => by rw [hf _ (by omega)]; exact h4 k hk⟩
theorem tcur_sv {B : Au} : tcur (tsv S q B) q = B := by
  show (if aBase S.1.1 + 1 = aBase S.1.1 + 1 then (if q = q then B else _) else _) = B
  rw [if_pos rfl, if_pos rfl]
end KS
