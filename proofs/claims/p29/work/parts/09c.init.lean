theorem sp4_inv {α β γ δ : Type} {a a' : α} {b b' : β} {c c' : γ} {d d' : δ} (h : some (a, b, c, d) = some (a', b', c', d')) : a = a' ∧ b = b' ∧ c = c' ∧ d = d' := by
  have e := Option.some.inj h
  exact ⟨congrArg Prod.fst e, congrArg (fun q => q.2.1) e, congrArg (fun q => q.2.2.1) e, congrArg (fun q => q.2.2.2) e⟩
section ZINIT
variable {p : Program} {l : Launch} {e : Env} {R : Room} {s : State} {m : MethodId} {args : Array Value} {below : List Frame} {meth : Method} {c : Code} {H : Heap} {locs : List Loc} {cells slots : Nat} {Q : State → Prop}
variable {cc : ByteArray} {nL : Nat} {own : String} {pc : Nat} {ls : Array Slot} {rest : List Value} {D : va_G} {cA : Nat → ClassId} {B0 : Nat} {Γ Γ' : zSh} {σ σ' σ2 : zSt} {Z Z' : Nat → Prop} {a ci k index N : Nat} {C : String} {T : u_T} {ty0 : Nat → FieldType}
theorem r_pfFR {v : Nat} (hC : zC p l s m args meth c cc nL own D cA B0) (hw : zO D cA B0 Γ σ Z s.heap H locs) (hin2 : meth.name = "<init>") (hg : (isO Γ a ci = true ∧ v ≠ 0) ∧ σ2 = stR0 σ a k v) (hcl : zCl ci N C T ty0) (hk : k < N) (hlink : Cond.fieldLink own index (T k).1 (T k).2.1 (T k).2.2.1 ∈ tbG) (hkk : kK ci k = 1) (hfin : (T k).2.2.2 = true) (hdecl : (T k).1 = own) (hn : narrow (ty0 k) (.ref v) = .ref v) (hfit : fits (ty0 k) (.ref v) = true) (hdg : decode cc pc = .ok (.putfield index, 3))
    (kk : ∀ H1 locs1, zO D cA B0 Γ σ2 Z s.heap H1 locs1 → W p l e R s m args below meth c H1 locs1 cells slots Q (F0 m (pc + 3) ls rest)) : W p l e R s m args below meth c H locs cells slots Q (F0 m pc ls (.ref v :: .ref a :: rest)) := by
  obtain ⟨h1, rfl⟩ := hg
  exact z_putF (σ' := stR0 σ a k v) hC hw hcl.1 ty0 hcl.2.2.1 hcl.2.2.2 (isO_sh h1.1) hcl.2.1 hk hlink hfin hin2 hdecl (hcl.2.2.1 k hk) hn hfit (fun q h => rfl) (fun q h => up2_ne h) (fun q h => rfl) (fld_stR hkk h1.2) hdg kk
theorem r_objI (hC : zC p l s m args meth c cc nL own D cA B0) (hls : ls.size = nL) (hlk : Cond.methodLink own index objectInit ∈ tbG ∧ Cond.instanceMethod objectInit ∈ tbG ∧ Cond.code objectInit ⟨#[0xb1]⟩ 1 none ∈ tbG) (hd : decode cc pc = .ok (.invokespecial index, 3)) (hf : 1 ≤ R.frames) (hlo : (rest.map fun v => v.category).sum + 12 ≤ R.locals)
    (kk : W p l e R s m args below meth c H locs cells slots Q (F0 m (pc + 3) ls rest)) : W p l e R s m args below meth c H locs cells slots Q (F0 m pc ls (.ref a :: rest)) :=
  W.objInit hC.1 hC.2.1 hC.2.2.2.1 (hC.2.2.2.2.1 _ hlk.1) (hC.2.2.2.2.1 _ hlk.2.1) (hC.2.2.2.2.1 _ hlk.2.2) rfl (hls.trans hC.2.2.1.symm) rfl hd hf (by show 2 * 0 + _ + 12 ≤ _; omega) kk
def zWi (y : MethodName) (b : ByteArray) (n k : Nat) : Prop := (Cond.instanceMethod y ∈ tbG ∧ Cond.initialized y.cls ∈ tbG ∧ Cond.code y b n none ∈ tbG) ∧ y.name = "<init>" ∧ zPar y k
theorem z_callI {y : MethodName} {b : ByteArray} {mL index mc ms k : Nat} {rm : Room} {As st0 : List Value}
    (hM : Met l y (wq y b mL none) rm (zQ0 D cA B0 (.ref a :: As) Γ σ Z) (zQ1 D cA B0 none Γ' σ' Z') mc ms (FR B0)) (hC : zC p l s m args meth c cc nL own D cA B0) (hw : zO D cA B0 Γ σ Z s.heap H locs) (hwd : zWi y b mL k) (hlk : Cond.methodLink own index y ∈ tbG)
    (hk : As.length = k) (hrm : rm.cells = mc ∧ rm.slots = ms) (hR : rm.frames + 1 ≤ R.frames ∧ 8 + (mL + 11) + rm.locals ≤ R.locals) (hls : ls.size = nL) (hst : st0 = As.reverse ++ .ref a :: rest) (hcat : (rest.map fun v => v.category).sum ≤ 8)
    (hdg : decode cc pc = .ok (.invokespecial index, 3)) (hcs : cells + mc ≤ R.cells ∧ slots + ms ≤ R.slots)
    (kk : ∀ H1 locs1, zO D cA B0 Γ' σ' Z' s.heap H1 locs1 → W p l e R s m args below meth c H1 locs1 (cells + mc) (slots + ms) Q (F0 m (pc + 3) ls rest)) : W p l e R s m args below meth c H locs cells slots Q (F0 m pc ls st0) :=
  z_call (va_runI (As := As) (rest := rest) ⟨hC.1, hC.2.1, hC.2.2.1, hC.2.2.2.1, hC.2.2.2.2.1⟩ hM (cwI k hC.2.2.2.2.1 (gi_of (hd := []) (fun _ h => nomatch h) hwd.1.2.2) rfl hrm.1 hrm.2 (hC.2.2.2.2.1 _ hwd.1.2.1) (hC.2.2.2.2.1 _ hlk) (hC.2.2.2.2.1 _ hwd.1.1) hwd.2.1 hwd.2.2 hR) ⟨zQ0.blind, zO.pre hC hw⟩ rfl hk hls hst (lv_room hcat) hdg hcs) hC hw kk
theorem z_callIN {y : MethodName} {b : ByteArray} {mL index mc ms k : Nat} {rm : Room} {As st0 : List Value} {host : String}
    (hM : Met l y (wq y b mL none) rm (zQ0 D cA B0 (.ref a :: As) Γ σ Z) (zQ1 D cA B0 none Γ' σ' Z') mc ms (FR B0)) (hC : zC p l s m args meth c cc nL own D cA B0) (hw : zO D cA B0 Γ σ Z s.heap H locs) (hwd : zWi y b mL k) (hlk : Cond.methodLinkNest own index y host ∈ zNwL)
    (hk : As.length = k) (hrm : rm.cells = mc ∧ rm.slots = ms) (hR : rm.frames + 1 ≤ R.frames ∧ 8 + (mL + 11) + rm.locals ≤ R.locals) (hls : ls.size = nL) (hst : st0 = As.reverse ++ .ref a :: rest) (hcat : (rest.map fun v => v.category).sum ≤ 8)
    (hdg : decode cc pc = .ok (.invokespecial index, 3)) (hcs : cells + mc ≤ R.cells ∧ slots + ms ≤ R.slots)
    (kk : ∀ H1 locs1, zO D cA B0 Γ' σ' Z' s.heap H1 locs1 → W p l e R s m args below meth c H1 locs1 (cells + mc) (slots + ms) Q (F0 m (pc + 3) ls rest)) : W p l e R s m args below meth c H locs cells slots Q (F0 m pc ls st0) :=
  z_call (va_runIN (As := As) (rest := rest) (host := host) ⟨hC.1, hC.2.1, hC.2.2.1, hC.2.2.2.1, hC.2.2.2.2.1⟩ hM ⟨va_cnB k hC.2.2.2.2.1 (gi_of (hd := []) (fun _ h => nomatch h) hwd.1.2.2) rfl hrm.1 hrm.2 (hC.2.2.2.2.2.2.1.2.2.2.1 _ hlk) (hC.2.2.2.2.1 _ hwd.1.2.1) hwd.2.2 hR, hwd.2.1, hC.2.2.2.2.1 _ hwd.1.1⟩ ⟨zQ0.blind, zO.pre hC hw⟩ rfl hk hls hst (lv_room hcat) hdg hcs) hC hw kk
end ZINIT
