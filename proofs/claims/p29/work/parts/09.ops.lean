/-! the operations read backwards -/
section ZINV
variable {β : Type} {Γ : zSh} {σ : zSt} {a c k : Nat} {o : β}
theorem gfI_inv {f : Int32 → Option β} (h : gfI Γ σ a c k f = some o) : ∃ v, (isO Γ a c = true ∧ v = σ.1 a k) ∧ f v = some o := ⟨_, ⟨(if_inv h).1, rfl⟩, (if_inv h).2⟩
theorem gfR_inv {f : Nat → Option β} (h : gfR Γ σ a c k f = some o) : ∃ v, (isO Γ a c = true ∧ v ≠ 0 ∧ v = σ.2.1 a k) ∧ f v = some o := ⟨_, ⟨(if_inv h).1.1, (if_inv h).1.2, rfl⟩, (if_inv h).2⟩
theorem gfL_inv {f : Int64 → Option β} (h : gfL Γ σ a c k f = some o) : ∃ v, (isO Γ a c = true ∧ v = σ.2.2 a k) ∧ f v = some o := ⟨_, ⟨(if_inv h).1, rfl⟩, (if_inv h).2⟩
theorem pfI_inv {v : Int32} {f : zSt → Option β} (h : pfI Γ σ a c k v f = some o) : ∃ s, (isO Γ a c = true ∧ s = stI0 σ a k v) ∧ f s = some o := ⟨_, ⟨(if_inv h).1, rfl⟩, (if_inv h).2⟩
theorem pfZ_inv {v : Int32} {f : zSt → Option β} (h : pfZ Γ σ a c k v f = some o) : ∃ s, ((isO Γ a c = true ∧ isB v = true) ∧ s = stI0 σ a k v) ∧ f s = some o := ⟨_, ⟨(if_inv h).1, rfl⟩, (if_inv h).2⟩
theorem pfL_inv {v : Int64} {f : zSt → Option β} (h : pfL Γ σ a c k v f = some o) : ∃ s, (isO Γ a c = true ∧ s = stL0 σ a k v) ∧ f s = some o := ⟨_, ⟨(if_inv h).1, rfl⟩, (if_inv h).2⟩
theorem pfR_inv {v : Nat} {f : zSt → Option β} (h : pfR Γ σ a c k v f = some o) : ∃ s, ((isO Γ a c = true ∧ v ≠ 0) ∧ s = stR0 σ a k v) ∧ f s = some o := ⟨_, ⟨(if_inv h).1, rfl⟩, (if_inv h).2⟩
theorem ldI_inv {i : Int32} {f : Int32 → Option β} (h : ldI Γ σ a i f = some o) : ∃ v, (inb i (zln Γ 0 a) = true ∧ v = σ.1 a i.toNatClampNeg) ∧ f v = some o := ⟨_, ⟨(if_inv h).1, rfl⟩, (if_inv h).2⟩
theorem ldZ_inv {i : Int32} {f : Int32 → Option β} (h : ldZ Γ σ a i f = some o) : ∃ v, (inb i (zln Γ 1 a) = true ∧ v = σ.1 a i.toNatClampNeg) ∧ f v = some o := ⟨_, ⟨(if_inv h).1, rfl⟩, (if_inv h).2⟩
theorem ldL_inv {i : Int32} {f : Int64 → Option β} (h : ldL Γ σ a i f = some o) : ∃ v, (inb i (zln Γ 2 a) = true ∧ v = σ.2.2 a i.toNatClampNeg) ∧ f v = some o := ⟨_, ⟨(if_inv h).1, rfl⟩, (if_inv h).2⟩
theorem ldG_inv {i : Int32} {f : Nat → Option β} (h : ldG Γ σ a i f = some o) : ∃ v, ((inb i (zln Γ 3 a) = true ∧ v ≠ 0) ∧ v = σ.2.1 a i.toNatClampNeg) ∧ f v = some o := ⟨_, ⟨(if_inv h).1, rfl⟩, (if_inv h).2⟩
theorem ldA_inv {i : Int32} {f : Nat → Option β} (h : ldA Γ σ a i f = some o) : ∃ v, ((inb i (zln Γ 4 a) = true ∧ v ≠ 0) ∧ v = σ.2.1 a i.toNatClampNeg) ∧ f v = some o := ⟨_, ⟨(if_inv h).1, rfl⟩, (if_inv h).2⟩
theorem stI_inv {i v : Int32} {f : zSt → Option β} (h : stI Γ σ a i v f = some o) : ∃ s, (inb i (zln Γ 0 a) = true ∧ s = stI0 σ a i.toNatClampNeg v) ∧ f s = some o := ⟨_, ⟨(if_inv h).1, rfl⟩, (if_inv h).2⟩
theorem stZ_inv {i v : Int32} {f : zSt → Option β} (h : stZ Γ σ a i v f = some o) : ∃ s, ((inb i (zln Γ 1 a) = true ∧ isB v = true) ∧ s = stI0 σ a i.toNatClampNeg v) ∧ f s = some o := ⟨_, ⟨(if_inv h).1, rfl⟩, (if_inv h).2⟩
theorem stL_inv {i : Int32} {v : Int64} {f : zSt → Option β} (h : stL Γ σ a i v f = some o) : ∃ s, (inb i (zln Γ 2 a) = true ∧ s = stL0 σ a i.toNatClampNeg v) ∧ f s = some o := ⟨_, ⟨(if_inv h).1, rfl⟩, (if_inv h).2⟩
theorem stG_inv {i : Int32} {v : Nat} {f : zSt → Option β} (h : stG Γ σ a i v f = some o) : ∃ s, ((inb i (zln Γ 3 a) = true ∧ 0 < zln Γ 0 v) ∧ s = stR0 σ a i.toNatClampNeg v) ∧ f s = some o := ⟨_, ⟨(if_inv h).1, rfl⟩, (if_inv h).2⟩
theorem stA_inv {i : Int32} {v : Nat} {f : zSt → Option β} (h : stA Γ σ a i v f = some o) : ∃ s, ((inb i (zln Γ 4 a) = true ∧ isO Γ v 0 = true) ∧ s = stR0 σ a i.toNatClampNeg v) ∧ f s = some o := ⟨_, ⟨(if_inv h).1, rfl⟩, (if_inv h).2⟩
def cpC (Γ : zSh) (s : Nat) (sp : Int32) (d : Nat) (dp n : Int32) : Prop := (0 ≤ sp ∧ 0 ≤ dp ∧ 0 ≤ n) ∧ Γ s = some (0, zln Γ 0 s) ∧ Γ d = some (0, zln Γ 0 d) ∧ s ≠ d ∧ sp.toNatClampNeg + n.toNatClampNeg ≤ zln Γ 0 s ∧ dp.toNatClampNeg + n.toNatClampNeg ≤ zln Γ 0 d
theorem cpI_inv {s d : Nat} {sp dp n : Int32} {f : zSt → Option β} (h : cpI Γ σ s sp d dp n f = some o) : ∃ t, (cpC Γ s sp d dp n ∧ t = cpI0 σ s sp.toNatClampNeg d dp.toNatClampNeg n.toNatClampNeg) ∧ f t = some o := ⟨_, ⟨(if_inv h).1, rfl⟩, (if_inv h).2⟩
theorem dvI_inv {x y : Int32} {f : Int32 → Option β} (h : dvI x y f = some o) : ∃ v, (y ≠ 0 ∧ v = x / y) ∧ f v = some o := ⟨_, ⟨(if_inv h).1, rfl⟩, (if_inv h).2⟩
theorem rmI_inv {x y : Int32} {f : Int32 → Option β} (h : rmI x y f = some o) : ∃ v, (y ≠ 0 ∧ v = x - x / y * y) ∧ f v = some o := ⟨_, ⟨(if_inv h).1, rfl⟩, (if_inv h).2⟩
theorem dvL_inv {x y : Int64} {f : Int64 → Option β} (h : dvL x y f = some o) : ∃ v, (y ≠ 0 ∧ v = x / y) ∧ f v = some o := ⟨_, ⟨(if_inv h).1, rfl⟩, (if_inv h).2⟩
theorem rmL_inv {x y : Int64} {f : Int64 → Option β} (h : rmL x y f = some o) : ∃ v, (y ≠ 0 ∧ v = x - x / y * y) ∧ f v = some o := ⟨_, ⟨(if_inv h).1, rfl⟩, (if_inv h).2⟩
end ZINV
def chk {β : Type} (b : Bool) (x : Option β) : Option β := if b = true then x else none
theorem chk_inv {β : Type} {b : Bool} {x : Option β} {o : β} (h : chk b x = some o) : b = true ∧ x = some o := if_inv h
/-- behind a loop, by the number of its values -/
def lb0 {β : Type} (o : Option zSt) (f : zSt → Option β) : Option β := match o with
  | none => none
  | some s => f s
def lb1 {A β : Type} (o : Option (A × zSt)) (f : A → zSt → Option β) : Option β := match o with
  | none => none
  | some q => f q.1 q.2
def lb2 {A B β : Type} (o : Option (A × B × zSt)) (f : A → B → zSt → Option β) : Option β := match o with
  | none => none
  | some q => f q.1 q.2.1 q.2.2
def lb3 {A B C β : Type} (o : Option (A × B × C × zSt)) (f : A → B → C → zSt → Option β) : Option β := match o with
  | none => none
  | some q => f q.1 q.2.1 q.2.2.1 q.2.2.2
def lb4 {A B C E β : Type} (o : Option (A × B × C × E × zSt)) (f : A → B → C → E → zSt → Option β) : Option β := match o with
  | none => none
  | some q => f q.1 q.2.1 q.2.2.1 q.2.2.2.1 q.2.2.2.2
theorem lb0_inv {β : Type} {o : Option zSt} {f : zSt → Option β} {r : β} (h : lb0 o f = some r) : ∃ s, o = some s ∧ f s = some r := by
  cases o with
  | none => cases h
  | some q => exact ⟨_, rfl, h⟩
theorem lb1_inv {A β : Type} {o : Option (A × zSt)} {f : A → zSt → Option β} {r : β} (h : lb1 o f = some r) : ∃ a s, o = some (a, s) ∧ f a s = some r := by
  cases o with
  | none => cases h
  | some q => exact ⟨_, _, rfl, h⟩
theorem lb2_inv {A B β : Type} {o : Option (A × B × zSt)} {f : A → B → zSt → Option β} {r : β} (h : lb2 o f = some r) : ∃ a b s, o = some (a, b, s) ∧ f a b s = some r := by
  cases o with
  | none => cases h
  | some q => exact ⟨_, _, _, rfl, h⟩
theorem lb3_inv {A B C β : Type} {o : Option (A × B × C × zSt)} {f : A → B → C → zSt → Option β} {r : β} (h : lb3 o f = some r) : ∃ a b c s, o = some (a, b, c, s) ∧ f a b c s = some r := by
  cases o with
  | none => cases h
  | some q => exact ⟨_, _, _, _, rfl, h⟩
theorem lb4_inv {A B C E β : Type} {o : Option (A × B × C × E × zSt)} {f : A → B → C → E → zSt → Option β} {r : β} (h : lb4 o f = some r) : ∃ a b c e s, o = some (a, b, c, e, s) ∧ f a b c e s = some r := by
  cases o with
  | none => cases h
  | some q => exact ⟨_, _, _, _, _, rfl, h⟩
/-- behind a loop that may return -/
def lbr {B ρ β : Type} (o : Option (B ⊕ (ρ × zSt))) (g : ρ → zSt → Option β) (f : Option B → Option β) : Option β := match o with
  | none => none
  | some (.inl b) => f (some b)
  | some (.inr q) => g q.1 q.2
theorem lbr_inv {B ρ β : Type} {o : Option (B ⊕ (ρ × zSt))} {g : ρ → zSt → Option β} {f : Option B → Option β} {r : β} (h : lbr o g f = some r) : ∃ q, o = some q ∧ (∀ b, q = .inl b → f (some b) = some r) ∧ (∀ v s, q = .inr (v, s) → g v s = some r) := by
  cases o with
  | none => cases h
  | some q =>
    refine ⟨q, rfl, fun b e => ?_, fun v s e => ?_⟩
    · subst e; exact h
    · subst e; exact h
/-- a class's facts -/
def zCl (ci N : Nat) (C : String) (T : u_T) (ty0 : Nat → FieldType) : Prop := (∀ w ∈ u_ws C T N, w ∈ tbG) ∧ kCl[ci]? = some (C, T, N) ∧ (∀ k, k < N → parseFieldDescriptor (T k).2.2.1 = some (ty0 k)) ∧ (∀ a, a < N → ∀ b, b < N → a ≠ b → (T a).2.1 ≠ (T b).2.1)
section ZOPS
variable {p : Program} {l : Launch} {e : Env} {R : Room} {s : State} {m : MethodId} {args : Array Value} {below : List Frame} {meth : Method} {c : Code} {H : Heap} {locs : List Loc} {cells slots : Nat} {Q : State → Prop}
variable {cc : ByteArray} {nL : Nat} {own : String} {pc : Nat} {ls : Array Slot} {rest : List Value} {D : va_G} {cA : Nat → ClassId} {B0 : Nat} {Γ Γ' : zSh} {σ σ2 : zSt} {Z Z' : Nat → Prop} {a ci k index N : Nat} {C : String} {T : u_T} {ty0 : Nat → FieldType}
theorem r_gfI {v : Int32} (hC : zC p l s m args meth c cc nL own D cA B0) (hw : zO D cA B0 Γ σ Z s.heap H locs) (hg : isO Γ a ci = true ∧ v = σ.1 a k) (hcl : zCl ci N C T ty0) (hk : k < N) (hlink : Cond.fieldLink own index (T k).1 (T k).2.1 (T k).2.2.1 ∈ tbG) (hkk : kK ci k = 0) (hdg : decode cc pc = .ok (.getfield index, 3))
    (kk : W p l e R s m args below meth c H locs cells slots Q (F0 m (pc + 3) ls (.int v :: rest))) : W p l e R s m args below meth c H locs cells slots Q (F0 m pc ls (.ref a :: rest)) := by
  obtain ⟨h1, rfl⟩ := hg
  refine z_getV hC hw hcl.1 (isO_sh h1) hcl.2.1 hk hlink hdg ?_
  rw [fldV_I hkk]
  exact kk
theorem r_gfL {v : Int64} (hC : zC p l s m args meth c cc nL own D cA B0) (hw : zO D cA B0 Γ σ Z s.heap H locs) (hg : isO Γ a ci = true ∧ v = σ.2.2 a k) (hcl : zCl ci N C T ty0) (hk : k < N) (hlink : Cond.fieldLink own index (T k).1 (T k).2.1 (T k).2.2.1 ∈ tbG) (hkk : kK ci k = 2) (hdg : decode cc pc = .ok (.getfield index, 3))
    (kk : W p l e R s m args below meth c H locs cells slots Q (F0 m (pc + 3) ls (.long v :: rest))) : W p l e R s m args below meth c H locs cells slots Q (F0 m pc ls (.ref a :: rest)) := by
  obtain ⟨h1, rfl⟩ := hg
  refine z_getV hC hw hcl.1 (isO_sh h1) hcl.2.1 hk hlink hdg ?_
  rw [fldV_L hkk]
  exact kk
theorem r_gfR {v : Nat} (hC : zC p l s m args meth c cc nL own D cA B0) (hw : zO D cA B0 Γ σ Z s.heap H locs) (hg : isO Γ a ci = true ∧ v ≠ 0 ∧ v = σ.2.1 a k) (hcl : zCl ci N C T ty0) (hk : k < N) (hlink : Cond.fieldLink own index (T k).1 (T k).2.1 (T k).2.2.1 ∈ tbG) (hkk : kK ci k = 1) (hdg : decode cc pc = .ok (.getfield index, 3))
    (kk : W p l e R s m args below meth c H locs cells slots Q (F0 m (pc + 3) ls (.ref v :: rest))) : W p l e R s m args below meth c H locs cells slots Q (F0 m pc ls (.ref a :: rest)) := by
  obtain ⟨h1, h2, rfl⟩ := hg
  refine z_getV hC hw hcl.1 (isO_sh h1) hcl.2.1 hk hlink hdg ?_
  rw [fldV_R hkk, rfv_ne h2]
  exact kk
theorem r_pfI {v : Int32} (hC : zC p l s m args meth c cc nL own D cA B0) (hw : zO D cA B0 Γ σ Z s.heap H locs) (hg : isO Γ a ci = true ∧ σ2 = stI0 σ a k v) (hcl : zCl ci N C T ty0) (hk : k < N) (hlink : Cond.fieldLink own index (T k).1 (T k).2.1 (T k).2.2.1 ∈ tbG) (hkk : kK ci k = 0) (hfin : (T k).2.2.2 = false) (hty : ty0 k = .int) (hdg : decode cc pc = .ok (.putfield index, 3))
    (kk : ∀ H1 locs1, zO D cA B0 Γ σ2 Z s.heap H1 locs1 → W p l e R s m args below meth c H1 locs1 cells slots Q (F0 m (pc + 3) ls rest)) : W p l e R s m args below meth c H locs cells slots Q (F0 m pc ls (.int v :: .ref a :: rest)) := by
  obtain ⟨h1, rfl⟩ := hg
  exact z_putV (σ' := stI0 σ a k v) hC hw hcl.1 ty0 hcl.2.2.1 hcl.2.2.2 (isO_sh h1) hcl.2.1 hk hlink hfin (by rw [hcl.2.2.1 k hk, hty]) rfl rfl (fun q h => up2_ne h) (fun q h => rfl) (fun q h => rfl) (fld_stI hkk) hdg kk
theorem r_pfZ {v : Int32} (hC : zC p l s m args meth c cc nL own D cA B0) (hw : zO D cA B0 Γ σ Z s.heap H locs) (hg : (isO Γ a ci = true ∧ isB v = true) ∧ σ2 = stI0 σ a k v) (hcl : zCl ci N C T ty0) (hk : k < N) (hlink : Cond.fieldLink own index (T k).1 (T k).2.1 (T k).2.2.1 ∈ tbG) (hkk : kK ci k = 0) (hfin : (T k).2.2.2 = false) (hty : ty0 k = .boolean) (hdg : decode cc pc = .ok (.putfield index, 3))
    (kk : ∀ H1 locs1, zO D cA B0 Γ σ2 Z s.heap H1 locs1 → W p l e R s m args below meth c H1 locs1 cells slots Q (F0 m (pc + 3) ls rest)) : W p l e R s m args below meth c H locs cells slots Q (F0 m pc ls (.int v :: .ref a :: rest)) := by
  obtain ⟨h1, rfl⟩ := hg
  exact z_putV (σ' := stI0 σ a k v) hC hw hcl.1 ty0 hcl.2.2.1 hcl.2.2.2 (isO_sh h1.1) hcl.2.1 hk hlink hfin (by rw [hcl.2.2.1 k hk, hty]) (isB_n h1.2).1 (isB_n h1.2).2 (fun q h => up2_ne h) (fun q h => rfl) (fun q h => rfl) (fld_stI hkk) hdg kk
theorem r_pfL {v : Int64} (hC : zC p l s m args meth c cc nL own D cA B0) (hw : zO D cA B0 Γ σ Z s.heap H locs) (hg : isO Γ a ci = true ∧ σ2 = stL0 σ a k v) (hcl : zCl ci N C T ty0) (hk : k < N) (hlink : Cond.fieldLink own index (T k).1 (T k).2.1 (T k).2.2.1 ∈ tbG) (hkk : kK ci k = 2) (hfin : (T k).2.2.2 = false) (hty : ty0 k = .long) (hdg : decode cc pc = .ok (.putfield index, 3))
    (kk : ∀ H1 locs1, zO D cA B0 Γ σ2 Z s.heap H1 locs1 → W p l e R s m args below meth c H1 locs1 cells slots Q (F0 m (pc + 3) ls rest)) : W p l e R s m args below meth c H locs cells slots Q (F0 m pc ls (.long v :: .ref a :: rest)) := by
  obtain ⟨h1, rfl⟩ := hg
  exact z_putV (σ' := stL0 σ a k v) hC hw hcl.1 ty0 hcl.2.2.1 hcl.2.2.2 (isO_sh h1) hcl.2.1 hk hlink hfin (by rw [hcl.2.2.1 k hk, hty]) rfl rfl (fun q h => rfl) (fun q h => rfl) (fun q h => up2_ne h) (fld_stL hkk) hdg kk
theorem r_pfR {v : Nat} {t : FieldType} (hC : zC p l s m args meth c cc nL own D cA B0) (hw : zO D cA B0 Γ σ Z s.heap H locs) (hg : (isO Γ a ci = true ∧ v ≠ 0) ∧ σ2 = stR0 σ a k v) (hcl : zCl ci N C T ty0) (hk : k < N) (hlink : Cond.fieldLink own index (T k).1 (T k).2.1 (T k).2.2.1 ∈ tbG) (hkk : kK ci k = 1) (hfin : (T k).2.2.2 = false) (hty : ty0 k = .array t) (hdg : decode cc pc = .ok (.putfield index, 3))
    (kk : ∀ H1 locs1, zO D cA B0 Γ σ2 Z s.heap H1 locs1 → W p l e R s m args below meth c H1 locs1 cells slots Q (F0 m (pc + 3) ls rest)) : W p l e R s m args below meth c H locs cells slots Q (F0 m pc ls (.ref v :: .ref a :: rest)) := by
  obtain ⟨h1, rfl⟩ := hg
  exact z_putV (σ' := stR0 σ a k v) hC hw hcl.1 ty0 hcl.2.2.1 hcl.2.2.2 (isO_sh h1.1) hcl.2.1 hk hlink hfin (by rw [hcl.2.2.1 k hk, hty]) rfl rfl (fun q h => rfl) (fun q h => up2_ne h) (fun q h => rfl) (fld_stR hkk h1.2) hdg kk
variable {i : Int32}
theorem r_ldI {v : Int32} (hC : zC p l s m args meth c cc nL own D cA B0) (hw : zO D cA B0 Γ σ Z s.heap H locs) (hg : inb i (zln Γ 0 a) = true ∧ v = σ.1 a i.toNatClampNeg) (hdg : decode cc pc = .ok (.iaload, 1))
    (kk : W p l e R s m args below meth c H locs cells slots Q (F0 m (pc + 1) ls (.int v :: rest))) : W p l e R s m args below meth c H locs cells slots Q (F0 m pc ls (.int i :: .ref a :: rest)) := by
  obtain ⟨h1, rfl⟩ := hg
  exact z_iald hC hw h1 hdg kk
theorem r_ldZ {v : Int32} (hC : zC p l s m args meth c cc nL own D cA B0) (hw : zO D cA B0 Γ σ Z s.heap H locs) (hg : inb i (zln Γ 1 a) = true ∧ v = σ.1 a i.toNatClampNeg) (hdg : decode cc pc = .ok (.baload, 1))
    (kk : W p l e R s m args below meth c H locs cells slots Q (F0 m (pc + 1) ls (.int v :: rest))) : W p l e R s m args below meth c H locs cells slots Q (F0 m pc ls (.int i :: .ref a :: rest)) := by
  obtain ⟨h1, rfl⟩ := hg
  exact z_zald hC hw h1 hdg kk
theorem r_ldG {v : Nat} (hC : zC p l s m args meth c cc nL own D cA B0) (hw : zO D cA B0 Γ σ Z s.heap H locs) (hg : (inb i (zln Γ 3 a) = true ∧ v ≠ 0) ∧ v = σ.2.1 a i.toNatClampNeg) (hdg : decode cc pc = .ok (.aaload, 1))
    (kk : W p l e R s m args below meth c H locs cells slots Q (F0 m (pc + 1) ls (.ref v :: rest))) : W p l e R s m args below meth c H locs cells slots Q (F0 m pc ls (.int i :: .ref a :: rest)) := by
  obtain ⟨h1, rfl⟩ := hg
  exact z_gald hC hw h1 hdg kk
theorem r_ldA {v : Nat} (hC : zC p l s m args meth c cc nL own D cA B0) (hw : zO D cA B0 Γ σ Z s.heap H locs) (hg : (inb i (zln Γ 4 a) = true ∧ v ≠ 0) ∧ v = σ.2.1 a i.toNatClampNeg) (hdg : decode cc pc = .ok (.aaload, 1))
    (kk : W p l e R s m args below meth c H locs cells slots Q (F0 m (pc + 1) ls (.ref v :: rest))) : W p l e R s m args below meth c H locs cells slots Q (F0 m pc ls (.int i :: .ref a :: rest)) := by
  obtain ⟨h1, rfl⟩ := hg
  exact z_aald hC hw h1 hdg kk
theorem r_stI {v : Int32} (hC : zC p l s m args meth c cc nL own D cA B0) (hw : zO D cA B0 Γ σ Z s.heap H locs) (hg : inb i (zln Γ 0 a) = true ∧ σ2 = stI0 σ a i.toNatClampNeg v) (hdg : decode cc pc = .ok (.iastore, 1))
    (kk : ∀ H1 locs1, zO D cA B0 Γ σ2 Z s.heap H1 locs1 → W p l e R s m args below meth c H1 locs1 cells slots Q (F0 m (pc + 1) ls rest)) : W p l e R s m args below meth c H locs cells slots Q (F0 m pc ls (.int v :: .int i :: .ref a :: rest)) := by
  obtain ⟨h1, rfl⟩ := hg
  exact z_iast hC hw h1 hdg kk
theorem r_stZ {v : Int32} (hC : zC p l s m args meth c cc nL own D cA B0) (hw : zO D cA B0 Γ σ Z s.heap H locs) (hg : (inb i (zln Γ 1 a) = true ∧ isB v = true) ∧ σ2 = stI0 σ a i.toNatClampNeg v) (hdg : decode cc pc = .ok (.bastore, 1))
    (kk : ∀ H1 locs1, zO D cA B0 Γ σ2 Z s.heap H1 locs1 → W p l e R s m args below meth c H1 locs1 cells slots Q (F0 m (pc + 1) ls rest)) : W p l e R s m args below meth c H locs cells slots Q (F0 m pc ls (.int v :: .int i :: .ref a :: rest)) := by
  obtain ⟨h1, rfl⟩ := hg
  exact z_zast hC hw h1 hdg kk
theorem r_stG {v : Nat} (hC : zC p l s m args meth c cc nL own D cA B0) (hw : zO D cA B0 Γ σ Z s.heap H locs) (hv : v ≠ 0) (hg : (inb i (zln Γ 3 a) = true ∧ 0 < zln Γ 0 v) ∧ σ2 = stR0 σ a i.toNatClampNeg v) (hdg : decode cc pc = .ok (.aastore, 1))
    (kk : ∀ H1 locs1, zO D cA B0 Γ σ2 Z s.heap H1 locs1 → W p l e R s m args below meth c H1 locs1 cells slots Q (F0 m (pc + 1) ls rest)) : W p l e R s m args below meth c H locs cells slots Q (F0 m pc ls (.ref v :: .int i :: .ref a :: rest)) := by
  obtain ⟨h1, rfl⟩ := hg
  exact z_gast hC hw hv h1 hdg kk
theorem r_stA {v : Nat} (hC : zC p l s m args meth c cc nL own D cA B0) (hw : zO D cA B0 Γ σ Z s.heap H locs) (hv : v ≠ 0) (hg : (inb i (zln Γ 4 a) = true ∧ isO Γ v 0 = true) ∧ σ2 = stR0 σ a i.toNatClampNeg v) (hdg : decode cc pc = .ok (.aastore, 1))
    (kk : ∀ H1 locs1, zO D cA B0 Γ σ2 Z s.heap H1 locs1 → W p l e R s m args below meth c H1 locs1 cells slots Q (F0 m (pc + 1) ls rest)) : W p l e R s m args below meth c H locs cells slots Q (F0 m pc ls (.ref v :: .int i :: .ref a :: rest)) := by
  obtain ⟨h1, rfl⟩ := hg
  exact z_aast hC hw hv h1 hdg kk
theorem r_cpI {a0 : Nat} {sp dp n : Int32} (hC : zC p l s m args meth c cc nL own D cA B0) (hw : zO D cA B0 Γ σ Z s.heap H locs) (hg : cpC Γ a0 sp a dp n ∧ σ2 = cpI0 σ a0 sp.toNatClampNeg a dp.toNatClampNeg n.toNatClampNeg) (hls : ls.size = nL) (hlk : Cond.methodLink own index arraycopyName ∈ tbG)
    (hframes : 1 ≤ R.frames) (hlocals : (rest.map fun v => v.category).sum + (nativeFrameWords "java/lang/System" "arraycopy" 5 + 11) ≤ R.locals) (hdg : decode cc pc = .ok (.invokestatic index, 3))
    (kk : ∀ H1 locs1, zO D cA B0 Γ σ2 Z s.heap H1 locs1 → W p l e R s m args below meth c H1 locs1 cells slots Q (F0 m (pc + 3) ls rest)) :
    W p l e R s m args below meth c H locs cells slots Q (F0 m pc ls (.int n :: .int dp :: .ref a :: .int sp :: .ref a0 :: rest)) := by
  obtain ⟨h1, rfl⟩ := hg
  exact z_copy hC hw hls hlk h1 hframes hlocals hdg kk
theorem r_dvI {x y v : Int32} (hC : zC p l s m args meth c cc nL own D cA B0) (hg : y ≠ 0 ∧ v = x / y) (hdg : decode cc pc = .ok (.idiv, 1)) (kk : W p l e R s m args below meth c H locs cells slots Q (F0 m (pc + 1) ls (.int v :: rest))) : W p l e R s m args below meth c H locs cells slots Q (F0 m pc ls (.int y :: .int x :: rest)) := by
  obtain ⟨h1, rfl⟩ := hg
  exact lv_idiv hC.1 hC.2.1 hdg h1 kk
theorem r_rmI {x y v : Int32} (hC : zC p l s m args meth c cc nL own D cA B0) (hg : y ≠ 0 ∧ v = x - x / y * y) (hdg : decode cc pc = .ok (.irem, 1)) (kk : W p l e R s m args below meth c H locs cells slots Q (F0 m (pc + 1) ls (.int v :: rest))) : W p l e R s m args below meth c H locs cells slots Q (F0 m pc ls (.int y :: .int x :: rest)) := by
  obtain ⟨h1, rfl⟩ := hg
  exact lv_irem hC.1 hC.2.1 hdg h1 kk
theorem r_dvL {x y v : Int64} (hC : zC p l s m args meth c cc nL own D cA B0) (hg : y ≠ 0 ∧ v = x / y) (hdg : decode cc pc = .ok (.ldiv, 1)) (kk : W p l e R s m args below meth c H locs cells slots Q (F0 m (pc + 1) ls (.long v :: rest))) : W p l e R s m args below meth c H locs cells slots Q (F0 m pc ls (.long y :: .long x :: rest)) := by
  obtain ⟨h1, rfl⟩ := hg
  exact lv_ldiv hC.1 hC.2.1 hdg h1 kk
theorem r_rmL {x y v : Int64} (hC : zC p l s m args meth c cc nL own D cA B0) (hg : y ≠ 0 ∧ v = x - x / y * y) (hdg : decode cc pc = .ok (.lrem, 1)) (kk : W p l e R s m args below meth c H locs cells slots Q (F0 m (pc + 1) ls (.long v :: rest))) : W p l e R s m args below meth c H locs cells slots Q (F0 m pc ls (.long y :: .long x :: rest)) := by
  obtain ⟨h1, rfl⟩ := hg
  exact lv_lrem hC.1 hC.2.1 hdg h1 kk
theorem r_min {x y : Int32} (hC : zC p l s m args meth c cc nL own D cA B0) (hls : ls.size = nL) (hlk : Cond.methodLink own index Lib.Math.min.name ∈ tbG) (hf : 1 ≤ R.frames) (hlo : (rest.map fun v => v.category).sum + 13 ≤ R.locals) (hc : cells ≤ R.cells) (hs : slots ≤ R.slots) (hdg : decode cc pc = .ok (.invokestatic index, 3))
    (kk : W p l e R s m args below meth c H locs cells slots Q (F0 m (pc + 3) ls (.int (if y < x then y else x) :: rest))) : W p l e R s m args below meth c H locs cells slots Q (F0 m pc ls (.int y :: .int x :: rest)) :=
  va_mmin hC.1 hC.2.1 (hC.2.2.1.trans hls.symm) hC.2.2.2.1 (hC.2.2.2.2.1 _ hlk) (hC.2.2.2.2.1 _ tw_mmin.1) (hC.2.2.2.2.1 _ tw_mmin.2.1) (hC.2.2.2.2.1 _ tw_mmin.2.2) hf hlo hc hs hdg kk
end ZOPS
def alI {β : Type} (Γ : zSh) (a : Nat) (f : Int32 → Option β) : Option β := if Γ a = some (0, zln Γ 0 a) then f (Int32.ofNat (zln Γ 0 a)) else none
theorem alI_inv {β : Type} {Γ : zSh} {a : Nat} {f : Int32 → Option β} {o : β} (h : alI Γ a f = some o) : ∃ v, (Γ a = some (0, zln Γ 0 a) ∧ v = Int32.ofNat (zln Γ 0 a)) ∧ f v = some o := ⟨_, ⟨(if_inv h).1, rfl⟩, (if_inv h).2⟩
section ZOPS2
variable {p : Program} {l : Launch} {e : Env} {R : Room} {s : State} {m : MethodId} {args : Array Value} {below : List Frame} {meth : Method} {c : Code} {H : Heap} {locs : List Loc} {cells slots : Nat} {Q : State → Prop}
variable {cc : ByteArray} {nL : Nat} {own : String} {pc : Nat} {ls : Array Slot} {rest : List Value} {D : va_G} {cA : Nat → ClassId} {B0 : Nat} {Γ : zSh} {σ : zSt} {Z : Nat → Prop} {a : Nat}
theorem r_alI {v : Int32} (hC : zC p l s m args meth c cc nL own D cA B0) (hw : zO D cA B0 Γ σ Z s.heap H locs) (hg : Γ a = some (0, zln Γ 0 a) ∧ v = Int32.ofNat (zln Γ 0 a)) (hdg : decode cc pc = .ok (.arraylength, 1))
    (kk : W p l e R s m args below meth c H locs cells slots Q (F0 m (pc + 1) ls (.int v :: rest))) : W p l e R s m args below meth c H locs cells slots Q (F0 m pc ls (.ref a :: rest)) := by
  obtain ⟨h1, rfl⟩ := hg
  exact W.alen (n := Int32.ofNat (zln Γ 0 a)) hC.1 hC.2.1 (hw.1 a _ h1) ((hC.2.2.2.2.2.2.1.1.2 0 _ rfl).1 _ _) (by rw [arrV_size]) rfl rfl hdg kk
end ZOPS2
abbrev ZB (B0 : Nat) : Nat → Prop := fun n => B0 ≤ n
theorem zB_up {B0 : Nat} : ∀ n n', ZB B0 n → n ≤ n' → ZB B0 n' := fun _ _ h h' => Nat.le_trans h h'
theorem i32_of {x : Int32} {k : Int} (h : x.toInt = k) : x = Int32.ofInt k := by rw [← h, Int32.ofInt_toInt]
theorem tsw1_6 {x : Int32} (h1 : ¬ x = 1) (h2 : ¬ x = 2) (h3 : ¬ x = 3) (h4 : ¬ x = 4) (h5 : ¬ x = 5) (h6 : ¬ x = 6) : x.toInt < 1 ∨ 6 < x.toInt := by
  have k : ∀ n : Int, ¬ x = Int32.ofInt n → x.toInt ≠ n := fun n h e => h (i32_of e)
  have a1 := k 1 h1
  have a2 := k 2 h2
  have a3 := k 3 h3
  have a4 := k 4 h4
  have a5 := k 5 h5
  have a6 := k 6 h6
  omega
theorem tsw0_6 {x : Int32} (h0 : ¬ x = 0) (h1 : ¬ x = 1) (h2 : ¬ x = 2) (h3 : ¬ x = 3) (h4 : ¬ x = 4) (h5 : ¬ x = 5) (h6 : ¬ x = 6) : x.toInt < 0 ∨ 6 < x.toInt := by
  have k : ∀ n : Int, ¬ x = Int32.ofInt n → x.toInt ≠ n := fun n h e => h (i32_of e)
  have a0 := k 0 h0
  have a1 := k 1 h1
  have a2 := k 2 h2
  have a3 := k 3 h3
  have a4 := k 4 h4
  have a5 := k 5 h5
  have a6 := k 6 h6
  omega
theorem tsw0_25 {x : Int32} (h0 : ¬ x = 0) (h1 : ¬ x = 1) (h2 : ¬ x = 2) (h3 : ¬ x = 3) (h4 : ¬ x = 4) (h5 : ¬ x = 5) (h6 : ¬ x = 6) (h7 : ¬ x = 7) (h8 : ¬ x = 8) (h9 : ¬ x = 9) (h10 : ¬ x = 10) (h11 : ¬ x = 11) (h12 : ¬ x = 12) (h13 : ¬ x = 13) (h14 : ¬ x = 14) (h15 : ¬ x = 15) (h16 : ¬ x = 16) (h17 : ¬ x = 17) (h18 : ¬ x = 18) (h19 : ¬ x = 19) (h20 : ¬ x = 20) (h21 : ¬ x = 21) (h22 : ¬ x = 22) (h23 : ¬ x = 23) (h24 : ¬ x = 24) (h25 : ¬ x = 25) : x.toInt < 0 ∨ 25 < x.toInt := by
  have k : ∀ n : Int, ¬ x = Int32.ofInt n → x.toInt ≠ n := fun n h e => h (i32_of e)
  have a0 := k 0 h0
  have a1 := k 1 h1
  have a2 := k 2 h2
  have a3 := k 3 h3
  have a4 := k 4 h4
  have a5 := k 5 h5
  have a6 := k 6 h6
  have a7 := k 7 h7
  have a8 := k 8 h8
  have a9 := k 9 h9
  have a10 := k 10 h10
  have a11 := k 11 h11
  have a12 := k 12 h12
  have a13 := k 13 h13
  have a14 := k 14 h14
  have a15 := k 15 h15
  have a16 := k 16 h16
  have a17 := k 17 h17
  have a18 := k 18 h18
  have a19 := k 19 h19
  have a20 := k 20 h20
  have a21 := k 21 h21
  have a22 := k 22 h22
  have a23 := k 23 h23
  have a24 := k 24 h24
  have a25 := k 25 h25
  omega
theorem lsw_X2_canStand {x : Int32} (h1 : ¬ x = 40) (h2 : ¬ x = 41) (h3 : ¬ x = 42) (h4 : ¬ x = 43) (h5 : ¬ x = 97) (h6 : ¬ x = 98) {ps : List (Int × Int)} {a b c d e f : Int} {df : Int} (hp : ps = [(40, a), (41, b), (42, c), (43, d), (97, e), (98, f)]) : Op.lookupswitch.offset ps df x.toInt = df := by
  have k : ∀ n : Int, ¬ x = Int32.ofInt n → x.toInt ≠ n := fun n h e => h (i32_of e)
  have a1 := k 40 h1
  have a2 := k 41 h2
  have a3 := k 42 h3
  have a4 := k 43 h4
  have a5 := k 97 h5
  have a6 := k 98 h6
  subst hp
  simp [Op.lookupswitch.offset, a1, a2, a3, a4, a5, a6, Ne.symm a1, Ne.symm a2, Ne.symm a3, Ne.symm a4, Ne.symm a5, Ne.symm a6]
