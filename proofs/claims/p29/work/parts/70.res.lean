/-! ===== the calls' results, abstractly ===== -/
def zerA (n : Nat) : Au := (n, fun _ => 0, fun _ => 0, fun _ _ _ => 0)
def getE (A : Au) (i : Nat) (b : Int32) : Nat := if b = 0 then A.2.1 i else A.2.2.1 i
def putE (A : Au) (i : Nat) (b : Int32) (v : Nat) : Au := if b = 0 then (A.1, up1 A.2.1 i v, A.2.2) else (A.1, A.2.1, up1 A.2.2.1 i v, A.2.2.2)
def putS (A : Au) (l i j v : Nat) : Au := (A.1, A.2.1, A.2.2.1, fun l' i' j' => if l' = l ∧ i' = i ∧ j' = j then v else A.2.2.2 l' i' j')
abbrev isSt (S : tS) (x y : Int32) : Prop := inR x 0 3 ∧ inR y 0 (((tcur S (ix x)).1 : Int) - 1)
abbrev isTr (S : tS) (x l y z : Int32) : Prop := isSt S x y ∧ isSt S x z ∧ inR l 0 1
/-- a word taken some times -/
def pwV (A : Au) (c : Nat) : Nat → Nat → Nat
  | 0 => A.2.1
  | t + 1 => vW A (pwV A c t) c
/-- both letters taken some times -/
def ttV (A : Au) : Nat → Nat → Nat
  | 0 => A.2.1
  | t + 1 => stpB A 2 (ttV A t)
def supN (A : Au) : Nat → Nat
  | 0 => 0
  | w + 1 => supN A w + if wtA A (vW A A.2.1 (w + 1)) = 0 then 0 else 1
noncomputable def fW (A : Au) (g : Nat → Nat) : Int32 := if fnz g (expl A).1 = (expl A).1 then -1 else nI ((expl A).2.1 (fnz g (expl A).1))
def hkG (A : Au) (i j : Nat) : Nat := wtA A (vW A (vW A A.2.1 (i + 1)) (j + 1))
def rcG (A : Au) (n k : Nat) : Nat := wtA A (ttV A (n + k))
noncomputable def derA (X : Au) (k : Nat) : Au := if k = 0 then X else if k = 1 then revA X else if k = 2 then staA X else if k = 3 then quoA X 0 else if k = 4 then quoA X 1 else if k = 5 then redA X else minA X
def uS (S : tS) : tS := ((S.1.1 - 1, S.1.2), S.2)
def rStates (S : tS) (x : Int32) : Rs := if inR x 0 3 then (0, nI (tcur S (ix x)).1, S) else (1, 0, S)
def rBegin (S : tS) (x y : Int32) : Rs := if inR x 0 3 then (if inR y 0 12 then (0, nI (tcur S (ix x)).1, tsv S (ix x) (zerA (ix y))) else (2, 0, S)) else (1, 0, S)
def rSetEnd (S : tS) (x y b v : Int32) : Rs := if isSt S x y then (if inR v 0 10006 then (0, nI (getE (tcur S (ix x)) (ix y) b), tsv S (ix x) (putE (tcur S (ix x)) (ix y) b (ix v))) else (2, 0, S)) else (1, 0, S)
def rSetStep (S : tS) (x l y z v : Int32) : Rs := if isTr S x l y z then (if inR v 0 10006 then (0, nI ((tcur S (ix x)).2.2.2 (ix l) (ix y) (ix z)), tsv S (ix x) (putS (tcur S (ix x)) (ix l) (ix y) (ix z) (ix v))) else (2, 0, S)) else (1, 0, S)
def rRandom (S : tS) (x y z : Int32) : Rs := if inR x 0 3 then (if inR y 0 12 ∧ inR z 0 999999 then (0, nI (wtA (drwA (ix y) (ix z)) (drwA (ix y) (ix z)).2.1), tsv S (ix x) (drwA (ix y) (ix z))) else (2, 0, S)) else (1, 0, S)
def rEnd (S : tS) (x y b : Int32) : Rs := if isSt S x y then (0, nI (getE (tcur S (ix x)) (ix y) b), S) else (1, 0, S)
def rStep (S : tS) (x l y z : Int32) : Rs := if isTr S x l y z then (0, nI ((tcur S (ix x)).2.2.2 (ix l) (ix y) (ix z)), S) else (1, 0, S)
def rWeight (S : tS) (x w : Int32) : Rs := if inR x 0 3 then (if inR w 0 1000000 then (0, nI (wtA (tcur S (ix x)) (vW (tcur S (ix x)) (tcur S (ix x)).2.1 (ix w + 1))), S) else (2, 0, S)) else (1, 0, S)
def rPower (S : tS) (x w t : Int32) : Rs := if inR x 0 3 then (if inR w 0 1000000 ∧ inR t 0 200 then (0, nI (wtA (tcur S (ix x)) (pwV (tcur S (ix x)) (ix w + 1) (ix t))), S) else (2, 0, S)) else (1, 0, S)
def rTotal (S : tS) (x t : Int32) : Rs := if inR x 0 3 then (if inR t 0 2000 then (0, nI (wtA (tcur S (ix x)) (ttV (tcur S (ix x)) (ix t))), S) else (2, 0, S)) else (1, 0, S)
def rSupport (S : tS) (x w : Int32) : Rs := if inR x 0 3 then (if inR w 0 4095 then (0, nI (supN (tcur S (ix x)) (ix w)), S) else (2, 0, S)) else (1, 0, S)
noncomputable def rFirst (S : tS) (x : Int32) : Rs := if inR x 0 3 then (0, fW (tcur S (ix x)) (fun k => wtA (tcur S (ix x)) ((expl (tcur S (ix x))).2.2.2.1 k)), S) else (1, 0, S)
def rCombine (S : tS) (t x y k : Int32) : Rs := if inR t 0 3 ∧ inR x 0 3 ∧ inR y 0 3 then (if inR k 0 2 then (if (comA (tcur S (ix x)) (tcur S (ix y)) (ix k)).1 ≤ 12 then (0, nI (comA (tcur S (ix x)) (tcur S (ix y)) (ix k)).1, tsv S (ix t) (comA (tcur S (ix x)) (tcur S (ix y)) (ix k))) else (3, 0, S)) else (2, 0, S)) else (1, 0, S)
noncomputable def rDerive (S : tS) (t x k : Int32) : Rs := if inR t 0 3 ∧ inR x 0 3 then (if inR k 0 6 then (if ix k = 2 → (tcur S (ix x)).1 < 12 ∧ wtA (tcur S (ix x)) (tcur S (ix x)).2.1 = 0 then (0, nI (derA (tcur S (ix x)) (ix k)).1, tsv S (ix t) (derA (tcur S (ix x)) (ix k))) else (3, 0, S)) else (2, 0, S)) else (1, 0, S)
def rScale (S : tS) (x c : Int32) : Rs := if inR x 0 3 then (if inR c 0 10006 then (0, nI (wtA (scaA (tcur S (ix x)) (ix c)) (scaA (tcur S (ix x)) (ix c)).2.1), tsv S (ix x) (scaA (tcur S (ix x)) (ix c))) else (2, 0, S)) else (1, 0, S)
noncomputable def rDim (S : tS) (x k : Int32) : Rs := if inR x 0 3 then (if inR k 0 2 then (0, nI (dimV (tcur S (ix x)) (ix k)), S) else (2, 0, S)) else (1, 0, S)
noncomputable def rBasis (S : tS) (x i : Int32) : Rs := if inR x 0 3 ∧ inR i 0 (((expl (tcur S (ix x))).1 : Int) - 1) then (0, nI ((expl (tcur S (ix x))).2.1 (ix i)), S) else (1, 0, S)
noncomputable def rDiff (S : tS) (x y : Int32) : Rs := if inR x 0 3 ∧ inR y 0 3 then (0, fW (difA (tcur S (ix x)) (tcur S (ix y))) (fun k => wtA (difA (tcur S (ix x)) (tcur S (ix y))) ((expl (difA (tcur S (ix x)) (tcur S (ix y)))).2.2.2.1 k)), S) else (1, 0, S)
def rHankel (S : tS) (x h : Int32) : Rs := if inR x 0 3 then (if inR h 0 31 then (0, nI (rkS (ix h) (hkG (tcur S (ix x))) (ix h)).1, S) else (2, 0, S)) else (1, 0, S)
def rRecurs (S : tS) (x d : Int32) : Rs := if inR x 0 3 then (if inR d 1 12 then (0, (if (rkS 31 (rcG (tcur S (ix x))) (ix d + 1)).1 = (rkS 31 (rcG (tcur S (ix x))) (ix d)).1 then 1 else 0), S) else (2, 0, S)) else (1, 0, S)
def rInverse (S : tS) (x : Int32) : Rs := if inR x 1 10006 then (0, nI (rcp (ix x)), S) else (1, 0, S)
def rAppend (S : tS) (x : Int32) : Rs := if inR x 0 127 then (if S.2.1 < 60 then (0, nI (S.2.1 + 1), (S.1, S.2.1 + 1, up1 S.2.2 S.2.1 (ix x))) else (2, 0, S)) else (1, 0, S)
def rUndo (S : tS) : Rs := if 0 < S.1.1 then (0, nI (S.1.1 - 1), uS S) else (1, 0, S)
theorem zerA_ok {n : Nat} : okA (zerA n) := fun i _ => ⟨(by show 0 < 10007; omega), (by show 0 < 10007; omega), fun j l _ _ => (by show 0 < 10007; omega)⟩
theorem putE_n {A : Au} {i v : Nat} {b : Int32} : (putE A i b v).1 = A.1 := by
  unfold putE
  by_cases e : b = 0
  · rw [if_pos e]
  · rw [if_neg e]
theorem putE_ok {A : Au} {i v : Nat} {b : Int32} (h : okA A) (hv : v < 10007) : okA (putE A i b v) := by
  intro k hk
  rw [putE_n] at hk ⊢
  obtain ⟨h1, h2, h3⟩ := h k hk
  unfold putE up1
  by_cases e : b = 0
  · rw [if_pos e]
    refine ⟨?_, h2, h3⟩
    show (if k = i then v else _) < 10007
    by_cases e2 : k = i
    · rw [if_pos e2]; exact hv
    · rw [if_neg e2]; exact h1
  · rw [if_neg e]
    refine ⟨h1, ?_, h3⟩
    show (if k = i then v else _) < 10007
    by_cases e2 : k = i
    · rw [if_pos e2]; exact hv
    · rw [if_neg e2]; exact h2
theorem putS_ok {A : Au} {l i j v : Nat} (h : okA A) (hv : v < 10007) : okA (putS A l i j v) := by
  intro k hk
  obtain ⟨h1, h2, h3⟩ := h k hk
  refine ⟨h1, h2, fun j' l' hj hl => ?_⟩
  show (if l' = l ∧ k = i ∧ j' = j then v else _) < 10007
  by_cases e : l' = l ∧ k = i ∧ j' = j
  · rw [if_pos e]; exact hv
  · rw [if_neg e]; exact h3 j' l' hj hl
theorem pwV_lt {A : Au} {c : Nat} (ok : okA A) : ∀ t j, j < A.1 → pwV A c t j < 10007 := by
  intro t
  induction t with
  | zero => exact fun j hj => (ok j hj).1
  | succ t ih => exact fun j hj => vW_lt ih hj
theorem ttV_lt {A : Au} (ok : okA A) : ∀ t j, j < A.1 → ttV A t j < 10007 := by
  intro t
  cases t with
  | zero => exact fun j hj => (ok j hj).1
  | succ t => exact fun j _ => stpB_lt
theorem supN_le {A : Au} : ∀ w, supN A w ≤ w := by
  intro w
  induction w with
  | zero => exact Nat.le_refl _
  | succ w ih =>
    unfold supN
    by_cases e : wtA A (vW A A.2.1 (w + 1)) = 0
    · rw [if_pos e]; omega
    · rw [if_neg e]; omega
theorem comA_le {X Y : Au} {k : Nat} (h : (comA X Y k).1 ≤ 12) : k ≠ 1 → X.1 + Y.1 ≤ 12 := by
  intro hk
  rw [comA_n, if_neg hk] at h
  exact h
theorem derA_ok {X : Au} {k : Nat} (ok : okA X) : okA (derA X k) := by
  unfold derA
  by_cases e0 : k = 0
  · rw [if_pos e0]; exact ok
  · rw [if_neg e0]
    by_cases e1 : k = 1
    · rw [if_pos e1]; exact revA_ok ok
    · rw [if_neg e1]
      by_cases e2 : k = 2
      · rw [if_pos e2]; exact staA_ok ok
      · rw [if_neg e2]
        by_cases e3 : k = 3
        · rw [if_pos e3]; exact quoA_ok ok
        · rw [if_neg e3]
          by_cases e4 : k = 4
          · rw [if_pos e4]; exact quoA_ok ok
          · rw [if_neg e4]
            by_cases e5 : k = 5
            · rw [if_pos e5]; exact redA_ok ok
            · rw [if_neg e5]; exact minA_ok ok
theorem derA_le {X : Au} {k : Nat} (ok : okA X) (h12 : X.1 ≤ 12) (hk : k = 2 → X.1 < 12) : (derA X k).1 ≤ 12 := by
  unfold derA
  by_cases e0 : k = 0
  · rw [if_pos e0]; exact h12
  · rw [if_neg e0]
    by_cases e1 : k = 1
    · rw [if_pos e1]; exact h12
    · rw [if_neg e1]
      by_cases e2 : k = 2
      · rw [if_pos e2]
        have := hk e2
        show X.1 + 1 ≤ 12
        omega
      · rw [if_neg e2]
        by_cases e3 : k = 3
        · rw [if_pos e3]; exact h12
        · rw [if_neg e3]
          by_cases e4 : k = 4
          · rw [if_pos e4]; exact h12
          · rw [if_neg e4]
            by_cases e5 : k = 5
            · rw [if_pos e5]; exact Nat.le_trans (redA_le ok) h12
            · rw [if_neg e5]; exact Nat.le_trans (minA_le ok) h12
theorem uS_I {S : tS} (h : tI S) : tI (uS S) := by
  obtain ⟨⟨h1, h2, h3⟩, h4⟩ := h
  refine ⟨⟨(by show S.1.1 - 1 ≤ 4; omega), fun k q hk hq => h2 k q (by have : k ≤ S.1.1 - 1 := hk; omega) hq, fun k hk => h3 k (by have : k < S.1.1 - 1 := hk; omega)⟩, h4⟩
