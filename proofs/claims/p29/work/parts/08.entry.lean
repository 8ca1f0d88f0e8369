theorem isN_tab {w : Cond} (h : isN w = true) : w.onTables = true := by
  cases w <;> first | rfl | exact absurd h (by simp [isN])
/-- the words of a throw site, out of the tables -/
def zThr (own : String) (ik ic : Nat) (cls : String) (names : List String) : Prop :=
  (Cond.classLink own ik cls ∈ tbG ∧ Cond.initialized cls ∈ tbG) ∧ (vx_atS own ic cls names).all (fun w => decide (w ∈ lw_tbl) && (goodWord w || isN w)) = true ∧ (Cond.classLink own ik cls :: Cond.initialized cls :: vx_atS own ic cls names).all vx_ot = true ∧ Bundle.fit cls = true ∧ names.all Bundle.fit = true
section ZENTRY
variable {l : Launch} {D : va_G} {cA : Nat → ClassId} {B0 : Nat} {Γ Γ' : zSh} {σ σ' : zSt} {Z Z' : Nat → Prop}
theorem z_ofW {y : MethodName} {cc : ByteArray} {mL mc ms : Nat} {ret : Option FieldType} {rm : Room} {av : List Value} {rv : Option Value} (hl : l.stackTraces = false) (hy : plainName y.cls = true) (hav : (lg_sl av).length ≤ mL)
    (body : ∀ (p : Program) (e : Env) (s : State) (m : MethodId) (args : Array Value) (below : List Frame) (meth : Method) (c : Code) (ls : Array Slot), zC p l s m args meth c cc mL y.cls D cA B0 → meth.sig.returnType = ret → meth.name = y.name → zO D cA B0 Γ σ Z s.heap s.heap [] → lv_has ls mL (lv_args 0 av) →
      W p l e rm s m args below meth c s.heap [] 0 0 (MQ below (zQ1 D cA B0 rv Γ' σ' Z') args s mc ms (FR B0)) (F0 m 0 ls [])) :
    Met l y (wq y cc mL ret) rm (zQ0 D cA B0 av Γ σ Z) (zQ1 D cA B0 rv Γ' σ' Z') mc ms (FR B0) := by
  refine Met.ofW (cc := cc) (maxL := mL) (ret := ret) hy rfl ?_
  intro p e s m args below meth c s₁ B hml hv
  obtain ⟨rfl, hP, hg, hZ, hB, hKK⟩ := hv
  have hts := atoms_spec (ws := wq y cc mL ret) B.pre
  have hl2 := lv_entry av hav
  have h := fun ls hls => body p e s m av.toArray below meth c ls ⟨B.exec, B.bytes, hml, findClass_of_methodNamed B.named, fun w hw => hts w (List.mem_cons_of_mem _ hw), B.notSynchronized, hKK, hB, hl⟩ B.returns (name_of_methodNamed B.named B.method).1 ⟨hP, hg, hZ, va_S.rf⟩ hls
  rw [lg_entry_eq]
  exact h _ hl2
theorem z_ofX {α : Type} {y : MethodName} {cc : ByteArray} {mL mc ms : Nat} {ret : Option FieldType} {rm : Room} {av : List Value} {rv : α → Option Value} {out : (α × zSt) ⊕ (Nat × zSt)} (hl : l.stackTraces = false) (hy : plainName y.cls = true) (hav : (lg_sl av).length ≤ mL)
    (body : ∀ (p : Program) (e : Env) (s : State) (m : MethodId) (args : Array Value) (below : List Frame) (meth : Method) (c : Code) (ls : Array Slot), zC p l s m args meth c cc mL y.cls D cA B0 → meth.sig.returnType = ret → (∀ x ∈ c.exceptionTable.toList, False) → zO D cA B0 Γ σ Z s.heap s.heap [] → lv_has ls mL (lv_args 0 av) →
      W p l e rm s m args below meth c s.heap [] 0 0 (vx_MQ below (zQx D cA B0 rv Γ out Z) (zXx D cA B0 Γ out Z) args s mc ms (FR B0)) (F0 m 0 ls [])) :
    vx_Met l y (wq y cc mL ret) rm (zQ0 D cA B0 av Γ σ Z) (zQx D cA B0 rv Γ out Z) (zXx D cA B0 Γ out Z) mc ms (FR B0) := by
  refine vx_ofW (cc := cc) (maxL := mL) (ret := ret) hy rfl ?_
  intro p e s m args below meth c s₁ B hml htab hv
  obtain ⟨rfl, hP, hg, hZ, hB, hKK⟩ := hv
  have hts := atoms_spec (ws := wq y cc mL ret) B.pre
  have hl2 := lv_entry av hav
  have h := fun ls hls => body p e s m av.toArray below meth c ls ⟨B.exec, B.bytes, hml, findClass_of_methodNamed B.named, fun w hw => hts w (List.mem_cons_of_mem _ hw), B.notSynchronized, hKK, hB, hl⟩ B.returns htab ⟨hP, hg, hZ, va_S.rf⟩ hls
  rw [lg_entry_eq]
  exact h _ hl2
end ZENTRY
section ZTHROW
variable {p : Program} {l : Launch} {e : Env} {R : Room} {s : State} {m : MethodId} {args : Array Value} {below : List Frame} {meth : Method} {c : Code} {H : Heap} {locs : List Loc} {cells slots : Nat} {Q : State → Prop}
variable {cc : ByteArray} {nL : Nat} {own : String} {pc : Nat} {ls : Array Slot} {rest : List Value} {D : va_G} {cA : Nat → ClassId} {B0 : Nat} {Γ Γ' : zSh} {σ σ' : zSt} {Z Z' : Nat → Prop} {a : Nat}
theorem zThr.at {ik ic : Nat} {cls : String} {names : List String} (hC : zC p l s m args meth c cc nL own D cA B0) (h : zThr own ik ic cls names) : ∀ w ∈ vx_atS own ic cls names, w.before args s = true := by
  intro w hw
  have h1 := List.all_eq_true.mp h.2.1 w hw
  simp only [Bool.and_eq_true, Bool.or_eq_true, decide_eq_true_eq] at h1
  rcases h1.2 with h2 | h2
  · exact hC.2.2.2.2.1 w (List.mem_filter.mpr ⟨h1.1, h2⟩)
  · exact va_Nw.use (isN_tab h2) (hC.2.2.2.2.2.2.1.2.2.2.1 w (List.mem_filter.mpr ⟨h1.1, h2⟩))
theorem z_thrown {α : Type} {out : (α × zSt) ⊕ (Nat × zSt)} {k : Nat} (hw : zO D cA B0 Γ σ Z s.heap H locs) (hZ : ∀ n n', Z n → n ≤ n' → Z n') (ho : out = .inr (k, σ)) : ∀ t : State, s.vm.Alike t.vm → H.size ≤ t.heap.size → (∀ q : Nat, q < H.size → t.heap[q]? = H[q]?) → zXx D cA B0 Γ out Z (exN k) s t := fun t hA hs hq =>
  ⟨k, σ, ho, rfl, fun a sh h => (hw.1 a sh h).kept (hq a (hw.1 a sh h).lt) rfl rfl rfl, hw.2.1, hZ _ _ hw.2.2.1 hs, Nat.le_trans hw.2.2.2.1 hs, fun q h1 h2 => (hq q (Nat.lt_of_lt_of_le h1 hw.2.2.2.1)).trans (hw.2.2.2.2.1 q h1 h2)⟩
theorem z_throwSW {α : Type} {rv : α → Option Value} {out : (α × zSt) ⊕ (Nat × zSt)} {k ik is ic mc ms : Nat} {text : String} {names : List String} (hC : zC p l s m args meth c cc nL own D cA B0) (hw : zO D cA B0 Γ σ Z s.heap H locs) (hZ : ∀ n n', Z n → n ≤ n' → Z n') (ho : out = .inr (k, σ)) (htab : ∀ x ∈ c.exceptionTable.toList, False)
    (ht : zThr own ik ic (exN k) names) (hstr : (own, is, text) ∈ zStr) (hls : ls.size = nL) (d0 : decode cc pc = .ok (.new ik, 3)) (d3 : decode cc (pc + 3) = .ok (.dup, 1)) (d4 : decode cc (pc + 4) = .ok (.ldc_w is, 3)) (d7 : decode cc (pc + 7) = .ok (.invokespecial ic, 3)) (d10 : decode cc (pc + 10) = .ok (.athrow, 1))
    (hRframes : names.length + 3 < R.frames) (hRlocals : (rest.map fun v => v.category).sum + (13 * (names.length + 1) + 43) ≤ R.locals) (hRcells : cells + 1 ≤ R.cells) (hRslots : slots + 6 ≤ R.slots) (hc : cells + 1 ≤ mc) (hs : slots + 6 ≤ ms) :
    W p l e R s m args below meth c H locs cells slots (vx_MQ below (zQx D cA B0 rv Γ out Z) (zXx D cA B0 Γ out Z) args s mc ms (FR B0)) (F0 m pc ls rest) := by
  obtain ⟨sa, hsa⟩ := hC.2.2.2.2.2.2.1.2.2.1 _ hstr
  exact vx_throwSW (A := FR B0) (sa := sa) hC.1 hC.2.1 hC.2.2.2.2.2.2.2.2 hC.2.2.2.1 ht.2.2.2.1 (List.all_eq_true.mp ht.2.2.2.2) (hC.2.2.2.2.1 _ ht.1.1) (hC.2.2.2.2.1 _ ht.1.2) hsa (ht.at hC) (List.all_eq_true.mp ht.2.2.1) hC.2.2.2.2.2.2.1.2.1.1 hC.2.2.2.2.2.2.1.2.1.2 hw.2.2.2 (hls.trans hC.2.2.1.symm) d0 d3 d4 d7 d10 (fun x hx => (htab x hx).elim) hRframes hRlocals hRcells hRslots hC.2.2.2.2.2.1 (z_thrown hw hZ ho) hw.2.2.2.2.2 hc hs
theorem z_throwS {α : Type} {rv : α → Option Value} {out : (α × zSt) ⊕ (Nat × zSt)} {k ik is ic mc ms : Nat} {text : String} {names : List String} (hC : zC p l s m args meth c cc nL own D cA B0) (hw : zO D cA B0 Γ σ Z s.heap H locs) (hZ : ∀ n n', Z n → n ≤ n' → Z n') (ho : out = .inr (k, σ)) (htab : ∀ x ∈ c.exceptionTable.toList, False)
    (ht : zThr own ik ic (exN k) names) (hstr : (own, is, text) ∈ zStr) (hls : ls.size = nL) (d0 : decode cc pc = .ok (.new ik, 3)) (d3 : decode cc (pc + 3) = .ok (.dup, 1)) (d4 : decode cc (pc + 4) = .ok (.ldc is, 2)) (d6 : decode cc (pc + 6) = .ok (.invokespecial ic, 3)) (d9 : decode cc (pc + 9) = .ok (.athrow, 1))
    (hRframes : names.length + 3 < R.frames) (hRlocals : (rest.map fun v => v.category).sum + (13 * (names.length + 1) + 43) ≤ R.locals) (hRcells : cells + 1 ≤ R.cells) (hRslots : slots + 6 ≤ R.slots) (hc : cells + 1 ≤ mc) (hs : slots + 6 ≤ ms) :
    W p l e R s m args below meth c H locs cells slots (vx_MQ below (zQx D cA B0 rv Γ out Z) (zXx D cA B0 Γ out Z) args s mc ms (FR B0)) (F0 m pc ls rest) := by
  obtain ⟨sa, hsa⟩ := hC.2.2.2.2.2.2.1.2.2.1 _ hstr
  exact vx_throwS (A := FR B0) (sa := sa) hC.1 hC.2.1 hC.2.2.2.2.2.2.2.2 hC.2.2.2.1 ht.2.2.2.1 (List.all_eq_true.mp ht.2.2.2.2) (hC.2.2.2.2.1 _ ht.1.1) (hC.2.2.2.2.1 _ ht.1.2) hsa (ht.at hC) (List.all_eq_true.mp ht.2.2.1) hC.2.2.2.2.2.2.1.2.1.1 hC.2.2.2.2.2.2.1.2.1.2 hw.2.2.2 (hls.trans hC.2.2.1.symm) d0 d3 d4 d6 d9 (fun x hx => (htab x hx).elim) hRframes hRlocals hRcells hRslots hC.2.2.2.2.2.1 (z_thrown hw hZ ho) hw.2.2.2.2.2 hc hs
end ZTHROW
