abbrev wqT (y : MethodName) (b : ByteArray) (n : Nat) (ret : Option FieldType) (hh : List (Nat × Nat × Nat × Nat)) : List Cond := .codeWith y b n ret hh :: tbG
def xcat {α β : Type} (o : Option ((α × zSt) ⊕ (Nat × zSt))) (f : α → zSt → Option β) (h : Nat → zSt → Option β) : Option β := match o with
  | none => none
  | some (.inl q) => f q.1 q.2
  | some (.inr q) => h q.1 q.2
theorem xcat_inv {α β : Type} {o : Option ((α × zSt) ⊕ (Nat × zSt))} {f : α → zSt → Option β} {h : Nat → zSt → Option β} {r : β} (hh : xcat o f h = some r) : ∃ q, o = some q ∧ (∀ a s, q = .inl (a, s) → f a s = some r) ∧ (∀ k s, q = .inr (k, s) → h k s = some r) := by
  cases o with
  | none => cases hh
  | some q =>
    refine ⟨q, rfl, fun a s e => ?_, fun k s e => ?_⟩
    · subst e; exact hh
    · subst e; exact hh
/-- the script that the law reads -/
def scL {β : Type} (b9 L a : Nat) (f : Int32 → Option β) : Option β := if a = b9 then f (Int32.ofNat L) else none
def scI {β : Type} (xs : Nat → Int32) (b9 L a : Nat) (i : Int32) (f : Int32 → Option β) : Option β := if a = b9 ∧ inb i L = true then f (xs i.toNatClampNeg) else none
theorem scL_inv {β : Type} {b9 L a : Nat} {f : Int32 → Option β} {o : β} (h : scL b9 L a f = some o) : ∃ v, (a = b9 ∧ v = Int32.ofNat L) ∧ f v = some o := ⟨_, ⟨(if_inv h).1, rfl⟩, (if_inv h).2⟩
theorem scI_inv {β : Type} {xs : Nat → Int32} {b9 L a : Nat} {i : Int32} {f : Int32 → Option β} {o : β} (h : scI xs b9 L a i f = some o) : ∃ v, ((a = b9 ∧ inb i L = true) ∧ v = xs i.toNatClampNeg) ∧ f v = some o := ⟨_, ⟨(if_inv h).1, rfl⟩, (if_inv h).2⟩
section ZLAW
variable {p : Program} {l : Launch} {e : Env} {R : Room} {s : State} {m : MethodId} {args : Array Value} {below : List Frame} {meth : Method} {c : Code} {H : Heap} {locs : List Loc} {cells slots : Nat} {Q : State → Prop}
variable {cc : ByteArray} {nL : Nat} {own : String} {pc : Nat} {ls : Array Slot} {rest : List Value} {D : va_G} {cA : Nat → ClassId} {B0 : Nat} {Γ Γ' : zSh} {σ σ' : zSt} {Z Z' : Nat → Prop} {a : Nat}
theorem r_slen {b9 L : Nat} {xs : Nat → Int32} {v : Int32} (hC : zC p l s m args meth c cc nL own D cA B0) (hw : zO D cA B0 Γ σ Z s.heap H locs) (h9 : va_X b9 L xs s s.heap ∧ b9 < s.heap.size ∧ ¬ FR B0 b9) (hg : a = b9 ∧ v = Int32.ofNat L) (hdg : decode cc pc = .ok (.arraylength, 1))
    (kk : W p l e R s m args below meth c H locs cells slots Q (F0 m (pc + 1) ls (.int v :: rest))) : W p l e R s m args below meth c H locs cells slots Q (F0 m pc ls (.ref a :: rest)) := by
  obtain ⟨rfl, rfl⟩ := hg
  exact va_slen hC.1 hC.2.1 h9.1 h9.2.1 h9.2.2 hw.2.2.2 hdg kk
theorem r_sld {b9 L : Nat} {xs : Nat → Int32} {v i : Int32} (hC : zC p l s m args meth c cc nL own D cA B0) (hw : zO D cA B0 Γ σ Z s.heap H locs) (h9 : va_X b9 L xs s s.heap ∧ b9 < s.heap.size ∧ ¬ FR B0 b9) (hg : (a = b9 ∧ inb i L = true) ∧ v = xs i.toNatClampNeg) (hdg : decode cc pc = .ok (.iaload, 1))
    (kk : W p l e R s m args below meth c H locs cells slots Q (F0 m (pc + 1) ls (.int v :: rest))) : W p l e R s m args below meth c H locs cells slots Q (F0 m pc ls (.int i :: .ref a :: rest)) := by
  obtain ⟨⟨rfl, h1⟩, rfl⟩ := hg
  exact va_sld hC.1 hC.2.1 h9.1 h9.2.1 h9.2.2 hw.2.2.2 (inb_in h1) hdg kk
theorem z_ofWT {y : MethodName} {mL mc ms : Nat} {ret : Option FieldType} {hh : List (Nat × Nat × Nat × Nat)} {rm : Room} {av : List Value} {rv : Option Value} (hl : l.stackTraces = false) (hy : plainName y.cls = true) (hav : (lg_sl av).length ≤ mL)
    (body : ∀ (p : Program) (e : Env) (s : State) (m : MethodId) (args : Array Value) (below : List Frame) (meth : Method) (c : Code) (ls : Array Slot), zC p l s m args meth c cc mL y.cls D cA B0 → meth.sig.returnType = ret → c.exceptionTable.toList = tableOf hh → zO D cA B0 Γ σ Z s.heap s.heap [] → lv_has ls mL (lv_args 0 av) →
      W p l e rm s m args below meth c s.heap [] 0 0 (MQ below (zQ1 D cA B0 rv Γ' σ' Z') args s mc ms (FR B0)) (F0 m 0 ls [])) :
    Met l y (wqT y cc mL ret hh) rm (zQ0 D cA B0 av Γ σ Z) (zQ1 D cA B0 rv Γ' σ' Z') mc ms (FR B0) := by
  refine va_MetW (cc := cc) (maxL := mL) (ret := ret) (hh := hh) hy rfl ?_
  intro p e s m args below meth c s₁ B hml hv
  obtain ⟨rfl, hP, hg, hZ, hB, hKK⟩ := hv
  have hts := atoms_spec (ws := wqT y cc mL ret hh) B.pre
  have hT := vx_table (x := y) B (hts _ List.mem_cons_self)
  have hl2 := lv_entry av hav
  have h := fun ls hls => body p e s m av.toArray below meth c ls ⟨B.exec, B.bytes, hml, findClass_of_methodNamed B.named, fun w hw => hts w (List.mem_cons_of_mem _ hw), B.notSynchronized, hKK, hB, hl⟩ B.returns hT ⟨hP, hg, hZ, va_S.rf⟩ hls
  rw [lg_entry_eq]
  exact h _ hl2
def zWw (y : MethodName) (b : ByteArray) (n : Nat) (ret : Option FieldType) (hh : List (Nat × Nat × Nat × Nat)) (k : Nat) : Prop := (Cond.static y ∈ tbG ∧ Cond.initialized y.cls ∈ tbG ∧ Cond.codeWith y b n ret hh ∈ tbG) ∧ zPar y k
theorem z_callSW {y : MethodName} {b : ByteArray} {mL index mc ms k : Nat} {ret : Option FieldType} {hh : List (Nat × Nat × Nat × Nat)} {rm : Room} {As st0 : List Value} {rv : Option Value}
    (hM : Met l y (wqT y b mL ret hh) rm (zQ0 D cA B0 As Γ σ Z) (zQ1 D cA B0 rv Γ' σ' Z') mc ms (FR B0)) (hC : zC p l s m args meth c cc nL own D cA B0) (hw : zO D cA B0 Γ σ Z s.heap H locs) (hwd : zWw y b mL ret hh k) (hlk : Cond.methodLink own index y ∈ tbG)
    (hk : As.length = k) (hrm : rm.cells = mc ∧ rm.slots = ms) (hR : rm.frames + 1 ≤ R.frames ∧ 8 + (mL + 11) + rm.locals ≤ R.locals) (hls : ls.size = nL) (hst : st0 = As.reverse ++ rest) (hcat : (rest.map fun v => v.category).sum ≤ 8)
    (hdg : decode cc pc = .ok (.invokestatic index, 3)) (hcs : cells + mc ≤ R.cells ∧ slots + ms ≤ R.slots)
    (kk : ∀ H1 locs1, zO D cA B0 Γ' σ' Z' s.heap H1 locs1 → W p l e R s m args below meth c H1 locs1 (cells + mc) (slots + ms) Q (F0 m (pc + 3) ls (rv.toList ++ rest))) : W p l e R s m args below meth c H locs cells slots Q (F0 m pc ls st0) :=
  z_call (vx_runSW (As := As) (rest := rest) ⟨hC.1, hC.2.1, hC.2.2.1, hC.2.2.2.1, hC.2.2.2.2.1⟩ hM (vx_cwSW k hC.2.2.2.2.1 (gi_of (hd := [_, _, _]) (mem3 hlk hwd.1.1 hwd.1.2.1) hwd.1.2.2) rfl hrm.1 hrm.2 hwd.2 hR) ⟨zQ0.blind, zO.pre hC hw⟩ rfl hk hls hst (lv_room hcat) hdg hcs) hC hw kk
/-- rows of a table that don't take a throw -/
theorem catch1 {E n1 : String} {a1 b1 c1 t1 : Nat} {pc : Nat} (h1 : (Cond.classLink own (t1 + 1) n1).before args s = true) (g1 : va_Nc E n1 s) : ∀ z ∈ ([⟨a1, b1, c1, t1 + 1⟩] : List ExceptionTableEntry), covers z pc = false ∨ (z.catchType ≠ 0 ∧ ∃ nm : String, (Cond.classLink own z.catchType nm).before args s = true ∧ va_Nc E nm s) := fun z hz => by
  rw [List.mem_singleton.mp hz]
  exact Or.inr ⟨Nat.succ_ne_zero _, n1, h1, g1⟩
theorem catch2 {E n1 n2 : String} {a1 b1 c1 t1 a2 b2 c2 t2 : Nat} {pc : Nat} (h1 : (Cond.classLink own (t1 + 1) n1).before args s = true) (g1 : va_Nc E n1 s) (h2 : (Cond.classLink own (t2 + 1) n2).before args s = true) (g2 : va_Nc E n2 s) : ∀ z ∈ ([⟨a1, b1, c1, t1 + 1⟩, ⟨a2, b2, c2, t2 + 1⟩] : List ExceptionTableEntry), covers z pc = false ∨ (z.catchType ≠ 0 ∧ ∃ nm : String, (Cond.classLink own z.catchType nm).before args s = true ∧ va_Nc E nm s) := fun z hz => by
  rcases List.mem_cons.mp hz with h | h
  · rw [h]
    exact Or.inr ⟨Nat.succ_ne_zero _, n1, h1, g1⟩
  · rw [List.mem_singleton.mp h]
    exact Or.inr ⟨Nat.succ_ne_zero _, n2, h2, g2⟩
end ZLAW
