/-! ===== reads and writes over the abstract memory ===== -/
def up2 {α : Type} (f : Nat → Nat → α) (a k : Nat) (v : α) : Nat → Nat → α := fun x y => if x = a ∧ y = k then v else f x y
theorem up2_at {α : Type} {f : Nat → Nat → α} {a k : Nat} {v : α} : up2 f a k v a k = v := if_pos ⟨rfl, rfl⟩
theorem up2_ne {α : Type} {f : Nat → Nat → α} {a k : Nat} {v : α} {q : Nat} (h : q ≠ a) : up2 f a k v q = f q := funext fun y => if_neg (fun e => h e.1)
def stI0 (σ : zSt) (a k : Nat) (v : Int32) : zSt := (up2 σ.1 a k v, σ.2.1, σ.2.2)
def stR0 (σ : zSt) (a k : Nat) (v : Nat) : zSt := (σ.1, up2 σ.2.1 a k v, σ.2.2)
def stL0 (σ : zSt) (a k : Nat) (v : Int64) : zSt := (σ.1, σ.2.1, up2 σ.2.2 a k v)
def inb (i : Int32) (n : Nat) : Bool := !(decide (i < 0) || decide (n ≤ i.toNatClampNeg))
theorem inb_in {i : Int32} {n : Nat} (h : inb i n = true) : vp_in i n := by
  unfold inb at h
  intro q
  simp only [Bool.not_eq_true', Bool.or_eq_false_iff, decide_eq_false_iff_not] at h
  rcases q with q | q
  · exact h.1 q
  · exact h.2 q
/-- the length of an array of a kind; 0 where there is none -/
def zln (Γ : zSh) (t a : Nat) : Nat := match Γ a with
  | some (t', n) => if t' = t then n else 0
  | none => 0
theorem zln_sh {Γ : zSh} {t a : Nat} {i : Int32} (h : inb i (zln Γ t a) = true) : Γ a = some (t, zln Γ t a) := by
  have h0 : zln Γ t a ≠ 0 := fun e => by
    rw [e] at h
    exact inb_in h (Or.inr (Nat.zero_le _))
  unfold zln at h0 ⊢
  cases hq : Γ a with
  | none => rw [hq] at h0; exact absurd rfl h0
  | some q =>
    obtain ⟨t', n⟩ := q
    rw [hq] at h0
    by_cases e : t' = t
    · subst e; simp
    · simp [e] at h0
def isO (Γ : zSh) (a c : Nat) : Bool := decide (Γ a = some (c + 5, 0))
theorem isO_sh {Γ : zSh} {a c : Nat} (h : isO Γ a c = true) : Γ a = some (c + 5, 0) := of_decide_eq_true h
def isB (x : Int32) : Bool := decide (x = 0) || decide (x = 1)
theorem isB_n {x : Int32} (h : isB x = true) : narrow .boolean (.int x) = .int x ∧ fits .boolean (.int x) = true := by
  simp only [isB, Bool.or_eq_true, decide_eq_true_eq] at h
  rcases h with rfl | rfl <;> exact ⟨by decide, by decide⟩
/-! the operations, each with what comes behind it -/

def gfI {β : Type} (Γ : zSh) (σ : zSt) (a c k : Nat) (f : Int32 → Option β) : Option β := if isO Γ a c = true then f (σ.1 a k) else none
def gfR {β : Type} (Γ : zSh) (σ : zSt) (a c k : Nat) (f : Nat → Option β) : Option β := if isO Γ a c = true ∧ σ.2.1 a k ≠ 0 then f (σ.2.1 a k) else none
def gfL {β : Type} (Γ : zSh) (σ : zSt) (a c k : Nat) (f : Int64 → Option β) : Option β := if isO Γ a c = true then f (σ.2.2 a k) else none
def pfI {β : Type} (Γ : zSh) (σ : zSt) (a c k : Nat) (v : Int32) (f : zSt → Option β) : Option β := if isO Γ a c = true then f (stI0 σ a k v) else none
def pfZ {β : Type} (Γ : zSh) (σ : zSt) (a c k : Nat) (v : Int32) (f : zSt → Option β) : Option β := if isO Γ a c = true ∧ isB v = true then f (stI0 σ a k v) else none
def pfL {β : Type} (Γ : zSh) (σ : zSt) (a c k : Nat) (v : Int64) (f : zSt → Option β) : Option β := if isO Γ a c = true then f (stL0 σ a k v) else none
def pfR {β : Type} (Γ : zSh) (σ : zSt) (a c k v : Nat) (f : zSt → Option β) : Option β := if isO Γ a c = true ∧ v ≠ 0 then f (stR0 σ a k v) else none
def ldI {β : Type} (Γ : zSh) (σ : zSt) (a : Nat) (i : Int32) (f : Int32 → Option β) : Option β := if inb i (zln Γ 0 a) = true then f (σ.1 a i.toNatClampNeg) else none
def ldZ {β : Type} (Γ : zSh) (σ : zSt) (a : Nat) (i : Int32) (f : Int32 → Option β) : Option β := if inb i (zln Γ 1 a) = true then f (σ.1 a i.toNatClampNeg) else none
def ldL {β : Type} (Γ : zSh) (σ : zSt) (a : Nat) (i : Int32) (f : Int64 → Option β) : Option β := if inb i (zln Γ 2 a) = true then f (σ.2.2 a i.toNatClampNeg) else none
def ldG {β : Type} (Γ : zSh) (σ : zSt) (a : Nat) (i : Int32) (f : Nat → Option β) : Option β := if inb i (zln Γ 3 a) = true ∧ σ.2.1 a i.toNatClampNeg ≠ 0 then f (σ.2.1 a i.toNatClampNeg) else none
def ldA {β : Type} (Γ : zSh) (σ : zSt) (a : Nat) (i : Int32) (f : Nat → Option β) : Option β := if inb i (zln Γ 4 a) = true ∧ σ.2.1 a i.toNatClampNeg ≠ 0 then f (σ.2.1 a i.toNatClampNeg) else none
def stI {β : Type} (Γ : zSh) (σ : zSt) (a : Nat) (i v : Int32) (f : zSt → Option β) : Option β := if inb i (zln Γ 0 a) = true then f (stI0 σ a i.toNatClampNeg v) else none
def stZ {β : Type} (Γ : zSh) (σ : zSt) (a : Nat) (i v : Int32) (f : zSt → Option β) : Option β := if inb i (zln Γ 1 a) = true ∧ isB v = true then f (stI0 σ a i.toNatClampNeg v) else none
def stL {β : Type} (Γ : zSh) (σ : zSt) (a : Nat) (i : Int32) (v : Int64) (f : zSt → Option β) : Option β := if inb i (zln Γ 2 a) = true then f (stL0 σ a i.toNatClampNeg v) else none
def stG {β : Type} (Γ : zSh) (σ : zSt) (a : Nat) (i : Int32) (v : Nat) (f : zSt → Option β) : Option β := if inb i (zln Γ 3 a) = true ∧ 0 < zln Γ 0 v then f (stR0 σ a i.toNatClampNeg v) else none
def stA {β : Type} (Γ : zSh) (σ : zSt) (a : Nat) (i : Int32) (v : Nat) (f : zSt → Option β) : Option β := if inb i (zln Γ 4 a) = true ∧ isO Γ v 0 = true then f (stR0 σ a i.toNatClampNeg v) else none
def cpI0 (σ : zSt) (s sp d dp n : Nat) : zSt := (fun x => if x = d then va_cpy (σ.1 s) (σ.1 d) sp dp n else σ.1 x, σ.2.1, σ.2.2)
def cpI {β : Type} (Γ : zSh) (σ : zSt) (s : Nat) (sp : Int32) (d : Nat) (dp n : Int32) (f : zSt → Option β) : Option β :=
  if (0 ≤ sp ∧ 0 ≤ dp ∧ 0 ≤ n) ∧ Γ s = some (0, zln Γ 0 s) ∧ Γ d = some (0, zln Γ 0 d) ∧ s ≠ d ∧ sp.toNatClampNeg + n.toNatClampNeg ≤ zln Γ 0 s ∧ dp.toNatClampNeg + n.toNatClampNeg ≤ zln Γ 0 d then f (cpI0 σ s sp.toNatClampNeg d dp.toNatClampNeg n.toNatClampNeg) else none
def dvI {β : Type} (x y : Int32) (f : Int32 → Option β) : Option β := if y ≠ 0 then f (x / y) else none
def rmI {β : Type} (x y : Int32) (f : Int32 → Option β) : Option β := if y ≠ 0 then f (x - x / y * y) else none
def dvL {β : Type} (x y : Int64) (f : Int64 → Option β) : Option β := if y ≠ 0 then f (x / y) else none
def rmL {β : Type} (x y : Int64) (f : Int64 → Option β) : Option β := if y ≠ 0 then f (x - x / y * y) else none
def bnd {α β : Type} (o : Option (α × zSt)) (f : α → zSt → Option β) : Option β := match o with
  | none => none
  | some q => f q.1 q.2
def xbnd {α γ : Type} (o : Option ((α × zSt) ⊕ (Nat × zSt))) (f : α → zSt → Option ((γ × zSt) ⊕ (Nat × zSt))) : Option ((γ × zSt) ⊕ (Nat × zSt)) := match o with
  | none => none
  | some (.inl q) => f q.1 q.2
  | some (.inr q) => some (.inr q)
def loopM {S B : Type} (f : S → Option (S ⊕ B)) : Nat → S → Option B
  | 0, _ => none
  | n + 1, s => match f s with
    | none => none
    | some (.inl s') => loopM f n s'
    | some (.inr b) => some b
def FUEL : Nat := 100000
theorem if_inv {β : Type} {c : Prop} [Decidable c] {x : Option β} {o : β} (h : (if c then x else none) = some o) : c ∧ x = some o := by
  by_cases hc : c
  · exact ⟨hc, by rw [if_pos hc] at h; exact h⟩
  · rw [if_neg hc] at h; cases h
theorem bnd_inv {α β : Type} {o : Option (α × zSt)} {f : α → zSt → Option β} {r : β} (h : bnd o f = some r) : ∃ (a : α) (s : zSt), o = some (a, s) ∧ f a s = some r := by
  cases o with
  | none => cases h
  | some q => exact ⟨q.1, q.2, rfl, h⟩
theorem xbnd_inv {α γ : Type} {o : Option ((α × zSt) ⊕ (Nat × zSt))} {f : α → zSt → Option ((γ × zSt) ⊕ (Nat × zSt))} {r : (γ × zSt) ⊕ (Nat × zSt)} (h : xbnd o f = some r) : ∃ q, o = some q ∧ (∀ a s, q = .inl (a, s) → f a s = some r) ∧ (∀ k s, q = .inr (k, s) → r = .inr (k, s)) := by
  cases o with
  | none => cases h
  | some q =>
    refine ⟨q, rfl, fun a s e => ?_, fun k s e => ?_⟩
    · subst e; exact h
    · subst e; exact (Option.some.inj h).symm
theorem loopM_inv {S B : Type} {f : S → Option (S ⊕ B)} {n : Nat} {s : S} {b : B} (h : loopM f (n + 1) s = some b) : ∃ r, f s = some r ∧ (∀ s', r = .inl s' → loopM f n s' = some b) ∧ (∀ b', r = .inr b' → b' = b) := by
  unfold loopM at h
  cases hr : f s with
  | none => rw [hr] at h; cases h
  | some r =>
    rw [hr] at h
    refine ⟨r, rfl, fun s' e => ?_, fun b' e => ?_⟩
    · subst e; exact h
    · subst e; exact Option.some.inj h
