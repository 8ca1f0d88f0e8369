/-! ===== calls that don't throw here; calls that get the script ===== -/
def xonly {α β : Type} (o : Option ((α × zSt) ⊕ (Nat × zSt))) (f : α → zSt → Option β) : Option β := match o with
  | some (.inl q) => f q.1 q.2
  | _ => none
theorem xonly_inv {α β : Type} {o : Option ((α × zSt) ⊕ (Nat × zSt))} {f : α → zSt → Option β} {r : β} (hh : xonly o f = some r) : ∃ a s, o = some (.inl (a, s)) ∧ f a s = some r := by
  cases o with
  | none => cases hh
  | some q =>
    cases q with
    | inl q => exact ⟨q.1, q.2, rfl, hh⟩
    | inr q => cases hh
def zQ0S (b9 L : Nat) (xs : Nat → Int32) (D : va_G) (cA : Nat → ClassId) (B0 : Nat) (av : List Value) (Γ : zSh) (σ : zSt) (Z : Nat → Prop) : Array Value → State → Prop := fun a U => zQ0 D cA B0 av Γ σ Z a U ∧ va_X b9 L xs U U.heap ∧ b9 < U.heap.size ∧ ¬ FR B0 b9
theorem zQ0S.blind {b9 L : Nat} {xs : Nat → Int32} {D : va_G} {cA : Nat → ClassId} {B0 : Nat} {av : List Value} {Γ : zSh} {σ : zSt} {Z : Nat → Prop} : FrameBlind (zQ0S b9 L xs D cA B0 av Γ σ Z) := fun a U g mk q =>
  ⟨zQ0.blind a U g mk q.1, va_X.moved (u := U) (U := U.calling g mk a) (Vm.Alike.refl U.vm) q.2.1, q.2.2⟩
section OROW
variable {p : Program} {l : Launch} {e : Env} {R : Room} {s : State} {m : MethodId} {args : Array Value} {below : List Frame} {meth : Method} {c : Code} {H : Heap} {locs : List Loc} {cells slots : Nat} {Q : State → Prop}
variable {cc : ByteArray} {nL : Nat} {own : String} {pc : Nat} {ls : Array Slot} {rest : List Value} {D : va_G} {cA : Nat → ClassId} {B0 : Nat} {Γ Γ' : zSh} {σ σ' : zSt} {Z Z' : Nat → Prop} {a : Nat} {b9 L : Nat} {xs : Nat → Int32}
theorem zO.preS {av : List Value} (hC : zC p l s m args meth c cc nL own D cA B0) (hw : zO D cA B0 Γ σ Z s.heap H locs) (hX9 : va_X b9 L xs s s.heap ∧ b9 < s.heap.size ∧ ¬ FR B0 b9) : ∀ U : State, U.heap = H → s.WarmedH U.vm → zQ0S b9 L xs D cA B0 av Γ σ Z av.toArray U := fun U hU hW =>
  ⟨zO.pre hC hw U hU hW, va_X.moved hW.alike (by rw [hU]; exact hX9.1.kept (hw.2.2.2.2.1 _ hX9.2.1 hX9.2.2)), by rw [hU]; exact Nat.lt_of_lt_of_le hX9.2.1 hw.2.2.2.1, hX9.2.2⟩
theorem z_ofWS {y : MethodName} {cc : ByteArray} {mL mc ms : Nat} {ret : Option FieldType} {rm : Room} {av : List Value} {rv : Option Value} (hl : l.stackTraces = false) (hy : plainName y.cls = true) (hav : (lg_sl av).length ≤ mL)
    (body : ∀ (p : Program) (e : Env) (s : State) (m : MethodId) (args : Array Value) (below : List Frame) (meth : Method) (c : Code) (ls : Array Slot), zC p l s m args meth c cc mL y.cls D cA B0 → meth.sig.returnType = ret → meth.name = y.name → (va_X b9 L xs s s.heap ∧ b9 < s.heap.size ∧ ¬ FR B0 b9) → zO D cA B0 Γ σ Z s.heap s.heap [] → lv_has ls mL (lv_args 0 av) →
      W p l e rm s m args below meth c s.heap [] 0 0 (MQ below (zQ1 D cA B0 rv Γ' σ' Z') args s mc ms (FR B0)) (F0 m 0 ls [])) :
    Met l y (wq y cc mL ret) rm (zQ0S b9 L xs D cA B0 av Γ σ Z) (zQ1 D cA B0 rv Γ' σ' Z') mc ms (FR B0) := by
  refine Met.ofW (cc := cc) (maxL := mL) (ret := ret) hy rfl ?_
  intro p e s m args below meth c s₁ B hml hv
  obtain ⟨⟨rfl, hP, hg, hZ, hB, hKK⟩, hX9⟩ := hv
  have hts := atoms_spec (ws := wq y cc mL ret) B.pre
  have hl2 := lv_entry av hav
  have h := fun ls hls => body p e s m av.toArray below meth c ls ⟨B.exec, B.bytes, hml, findClass_of_methodNamed B.named, fun w hw => hts w (List.mem_cons_of_mem _ hw), B.notSynchronized, hKK, hB, hl⟩ B.returns (name_of_methodNamed B.named B.method).1 hX9 ⟨hP, hg, hZ, va_S.rf⟩ hls
  rw [lg_entry_eq]
  exact h _ hl2
theorem z_callSS {y : MethodName} {b : ByteArray} {mL index mc ms k : Nat} {ret : Option FieldType} {rm : Room} {As st0 : List Value} {rv : Option Value}
    (hM : Met l y (wq y b mL ret) rm (zQ0S b9 L xs D cA B0 As Γ σ Z) (zQ1 D cA B0 rv Γ' σ' Z') mc ms (FR B0)) (hC : zC p l s m args meth c cc nL own D cA B0) (hw : zO D cA B0 Γ σ Z s.heap H locs) (hX9 : va_X b9 L xs s s.heap ∧ b9 < s.heap.size ∧ ¬ FR B0 b9) (hwd : zWs y b mL ret k) (hlk : Cond.methodLink own index y ∈ tbG)
    (hk : As.length = k) (hrm : rm.cells = mc ∧ rm.slots = ms) (hR : rm.frames + 1 ≤ R.frames ∧ 8 + (mL + 11) + rm.locals ≤ R.locals) (hls : ls.size = nL) (hst : st0 = As.reverse ++ rest) (hcat : (rest.map fun v => v.category).sum ≤ 8)
    (hdg : decode cc pc = .ok (.invokestatic index, 3)) (hcs : cells + mc ≤ R.cells ∧ slots + ms ≤ R.slots)
    (kk : ∀ H1 locs1, zO D cA B0 Γ' σ' Z' s.heap H1 locs1 → W p l e R s m args below meth c H1 locs1 (cells + mc) (slots + ms) Q (F0 m (pc + 3) ls (rv.toList ++ rest))) : W p l e R s m args below meth c H locs cells slots Q (F0 m pc ls st0) :=
  z_call (va_runS (As := As) (rest := rest) ⟨hC.1, hC.2.1, hC.2.2.1, hC.2.2.2.1, hC.2.2.2.2.1⟩ hM (va_cwS k hC.2.2.2.2.1 (gi_of (hd := [_, _, _]) (mem3 hlk hwd.1.1 hwd.1.2.1) hwd.1.2.2) rfl hrm.1 hrm.2 hwd.2 hR) ⟨zQ0S.blind, zO.preS hC hw hX9⟩ rfl hk hls hst (lv_room hcat) hdg hcs) hC hw kk
theorem z_ocallV {α : Type} {rv : α → Option Value} {r : α} {y : MethodName} {b : ByteArray} {mL index mc ms ci k n9 : Nat} {ret : Option FieldType} {rm : Room} {As st0 : List Value} {T : u_T} {N : Nat}
    (hM : vx_Met l y (wq y b mL ret) rm (zQ0 D cA B0 (.ref a :: As) Γ σ Z) (zQx D cA B0 rv Γ (.inl (r, σ')) Z) (zXx D cA B0 Γ (.inl (r, σ') : (α × zSt) ⊕ (Nat × zSt)) Z) mc ms (FR B0)) (hC : zC p l s m args meth c cc nL own D cA B0) (hw : zO D cA B0 Γ σ Z s.heap H locs) (hwd : zWv y b mL ret k) (hlk : Cond.methodLink own index y ∈ tbG)
    (ho : Γ a = some (ci + 5, n9)) (hc : kCl[ci]? = some (y.cls, T, N)) (hk : As.length = k) (hrm : rm.cells = mc ∧ rm.slots = ms) (hR : rm.frames + 1 ≤ R.frames ∧ 8 + (mL + 11) + rm.locals ≤ R.locals) (hls : ls.size = nL) (hst : st0 = As.reverse ++ .ref a :: rest) (hcat : (rest.map fun v => v.category).sum ≤ 8)
    (hdg : decode cc pc = .ok (.invokevirtual index, 3)) (hcs : cells + mc ≤ R.cells ∧ slots + ms ≤ R.slots)
    (kk : ∀ H1 locs1, zO D cA B0 Γ σ' Z s.heap H1 locs1 → W p l e R s m args below meth c H1 locs1 (cells + mc) (slots + ms) Q (F0 m (pc + 3) ls ((rv r).toList ++ rest))) : W p l e R s m args below meth c H locs cells slots Q (F0 m pc ls st0) :=
  z_xcallV hM hC hw hwd hlk ho hc hk hrm hR hls hst hcat hdg hcs (fun _ _ eq H1 locs1 h1 => by cases eq; exact kk H1 locs1 h1) (fun _ _ eq => by cases eq)
end OROW
