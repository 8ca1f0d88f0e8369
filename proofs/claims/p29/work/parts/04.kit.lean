/-! ===== an abstract memory over the machine: shapes of cells, their contents; the rows over it ===== -/
abbrev zSh : Type := Nat → Option (Nat × Nat)
abbrev zSt : Type := (Nat → Nat → Int32) × (Nat → Nat → Nat) × (Nat → Nat → Int64)
abbrev kCl : List vw_C := [(RX0, TX0, 4), (RX1, TX1, 11), (RX2, TX2, 9), (RX3, TX3, 1), (RX4, TX4, 2), (RX5, TX5, 2), (RX6, TX6, 12)]
/-- the kinds of a class's fields: 0 int or boolean, 1 reference, 2 long -/
def kKl : List (List Nat) := [[0,1,1,1], [0,1,1,1,1,1,1,1,1,1,1], [1,0,1,1,1,1,1,0,1], [1], [1,1], [1,1], [1,1,1,0,1,1,1,1,1,1,1,1]]
def kK (c k : Nat) : Nat := ((kKl[c]?).getD [])[k]?.getD 1
def rfv (r : Nat) : Value := if r = 0 then .null else .ref r
theorem rfv_ne {r : Nat} (h : r ≠ 0) : rfv r = .ref r := if_neg h
def fldV (σ : zSt) (c a k : Nat) : Value := match kK c k with
  | 0 => .int (σ.1 a k)
  | 2 => .long (σ.2.2 a k)
  | _ => rfv (σ.2.1 a k)
abbrev tysOf (cA : Nat → ClassId) : List (ClassId × FieldType) := [(cA 0, .int), (cA 1, .boolean), (cA 2, .byte), (cA 3, .array .int), (cA 4, .object RX0)]
def zAt (D : va_G) (cA : Nat → ClassId) (σ : zSt) (H : Heap) (a : Nat) (sh : Nat × Nat) : Prop := match sh.1 with
  | 0 => H[a]? = some (arrV (cA 0) sh.2 (fun j => .int (σ.1 a j)))
  | 1 => H[a]? = some (arrV (cA 1) sh.2 (fun j => .int (σ.1 a j)))
  | 2 => H[a]? = some (arrV (cA 2) sh.2 (fun j => .long (σ.2.2 a j)))
  | 3 => H[a]? = some (arrV (cA 3) sh.2 (fun j => rfv (σ.2.1 a j)))
  | 4 => H[a]? = some (arrV (cA 4) sh.2 (fun j => rfv (σ.2.1 a j)))
  | c + 5 => ∃ r : vw_C, kCl[c]? = some r ∧ t_OB a (D.1 c) r.2.2 (D.2 c) H (fldV σ c a)
def zP (D : va_G) (cA : Nat → ClassId) (Γ : zSh) (σ : zSt) (H : Heap) : Prop := ∀ (a : Nat) (sh : Nat × Nat), Γ a = some sh → zAt D cA σ H a sh
theorem zAt.lt {D : va_G} {cA : Nat → ClassId} {σ : zSt} {H : Heap} {a : Nat} {sh : Nat × Nat} (h : zAt D cA σ H a sh) : a < H.size := by
  obtain ⟨t, n⟩ := sh
  match t, h with
  | 0, h => exact (Array.getElem?_eq_some_iff.mp h).1
  | 1, h => exact (Array.getElem?_eq_some_iff.mp h).1
  | 2, h => exact (Array.getElem?_eq_some_iff.mp h).1
  | 3, h => exact (Array.getElem?_eq_some_iff.mp h).1
  | 4, h => exact (Array.getElem?_eq_some_iff.mp h).1
  | c + 5, h =>
    obtain ⟨r, -, cell, h2, -⟩ := h
    exact (Array.getElem?_eq_some_iff.mp h2).1
theorem zAt.kept {D : va_G} {cA : Nat → ClassId} {σ σ' : zSt} {H H1 : Heap} {a : Nat} {sh : Nat × Nat} (h : zAt D cA σ H a sh) (hq : H1[a]? = H[a]?) (h1 : σ'.1 a = σ.1 a) (h2 : σ'.2.1 a = σ.2.1 a) (h3 : σ'.2.2 a = σ.2.2 a) : zAt D cA σ' H1 a sh := by
  obtain ⟨t, n⟩ := sh
  match t, h with
  | 0, h => show H1[a]? = _; rw [hq, h1]; exact h
  | 1, h => show H1[a]? = _; rw [hq, h1]; exact h
  | 2, h => show H1[a]? = _; rw [hq, h3]; exact h
  | 3, h => show H1[a]? = _; rw [hq, h2]; exact h
  | 4, h => show H1[a]? = _; rw [hq, h2]; exact h
  | c + 5, h =>
    obtain ⟨r, g1, g2⟩ := h
    refine ⟨r, g1, (g2.kept hq).to (fun k _ => ?_)⟩
    unfold fldV
    rw [h1, h2, h3]
theorem zP.upd {D : va_G} {cA : Nat → ClassId} {Γ : zSh} {σ σ' : zSt} {H H1 : Heap} {a : Nat} (h : zP D cA Γ σ H) (oq : ∀ q : Nat, q ≠ a → H1[q]? = H[q]?) (h1 : ∀ q, q ≠ a → σ'.1 q = σ.1 q) (h2 : ∀ q, q ≠ a → σ'.2.1 q = σ.2.1 q) (h3 : ∀ q, q ≠ a → σ'.2.2 q = σ.2.2 q) (ha : ∀ sh, Γ a = some sh → zAt D cA σ' H1 a sh) : zP D cA Γ σ' H1 := by
  intro q sh hq
  by_cases e : q = a
  · subst e; exact ha sh hq
  · exact (h q sh hq).kept (oq q e) (h1 q e) (h2 q e) (h3 q e)
/-- the words that every method carries -/
def tbG : List Cond := lw_tbl.filter goodWord
theorem tg_i {w : Cond} (i : Nat) (h : lw_tbl[i]? = some w) (g : goodWord w = true) : w ∈ tbG := List.mem_filter.mpr ⟨List.mem_of_getElem? h, g⟩
theorem tg_good {w : Cond} (h : w ∈ tbG) : goodWord w = true := (List.mem_filter.mp h).2
theorem tg_tbl {w : Cond} (h : w ∈ tbG) : w ∈ lw_tbl := (List.mem_filter.mp h).1
abbrev wq (y : MethodName) (b : ByteArray) (n : Nat) (ret : Option FieldType) : List Cond := .code y b n ret :: tbG
theorem gi_of {hd : List Cond} {cw : Cond} (h : ∀ w ∈ hd, w ∈ tbG) (hc : cw ∈ tbG) : GoodIn tbG (hd ++ cw :: tbG) := by
  have key : ∀ w ∈ hd ++ cw :: tbG, w ∈ tbG := fun w hw => by
    rcases List.mem_append.mp hw with h1 | h1
    · exact h w h1
    · rcases List.mem_cons.mp h1 with h2 | h2
      · rw [h2]; exact hc
      · exact h2
  exact fun w hw => ⟨key w hw, good_of_word (tg_good (key w hw))⟩
theorem mem1 {P : Cond → Prop} {a : Cond} (h : P a) : ∀ w ∈ [a], P w := fun w hw => by rw [List.mem_singleton.mp hw]; exact h
theorem mem3 {P : Cond → Prop} {a b c : Cond} (h1 : P a) (h2 : P b) (h3 : P c) : ∀ w ∈ [a, b, c], P w := fun w hw => by
  rcases List.mem_cons.mp hw with h | hw
  · rw [h]; exact h1
  rcases List.mem_cons.mp hw with h | hw
  · rw [h]; exact h2
  rw [List.mem_singleton.mp hw]; exact h3
theorem mem4 {P : Cond → Prop} {a b c d : Cond} (h1 : P a) (h2 : P b) (h3 : P c) (h4 : P d) : ∀ w ∈ [a, b, c, d], P w := fun w hw => by
  rcases List.mem_cons.mp hw with h | hw
  · rw [h]; exact h1
  exact mem3 h2 h3 h4 w hw
/-- the strings of the throw sites: owner, index, text -/
abbrev zStr : List (String × Nat × String) := [(RX6, 261, "no such slot"), (RX6, 269, "out of range"), (RX6, 147, "too many states"), (RX6, 170, "no star"), (RX6, 206, "no such basis word"), (RX6, 251, "nothing is saved")]
/-! what a call needs of the tables, and what moves along -/
def zZ (B0 : Nat) (U : State) (H : Heap) : Prop := vx_Zq Bundle.tN "UNASSIGNED_STACK" Bundle.steD (fun q => B0 ≤ q) U H ∧ vx_Zq Bundle.tN "SUPPRESSED_SENTINEL" Bundle.listD (fun q => B0 ≤ q) U H
def zZS (U : State) : Prop := ∀ q ∈ zStr, ∃ sa : Nat, vk_R q.1 q.2.1 q.2.2 sa U
/-- words that no rule of the kit keeps by itself -/
def isN : Cond → Bool
  | .methodLinkNest .. => true
  | .castable .. => true
  | .declares _ => true
  | _ => false
def zNwL : List Cond := lw_tbl.filter isN
def zNw (U : State) : Prop := ∀ w ∈ zNwL, va_Nw w U
theorem zNw.warm {s U : State} (hW : s.WarmedH U.vm) (h : zNw s) : zNw U := fun w hw => by
  have h1 := h w hw
  have h2 : isN w = true := (List.mem_filter.mp hw).2
  revert h1
  cases w <;> first | exact va_Nw.warmM hW | exact va_Nw.warmC hW | exact va_Nw.warmD hW | exact absurd h2 (by simp [isN])
theorem zNw.same {u U : State} (h : u.vm = U.vm) (hZ : zNw u) : zNw U := fun w hw => by
  have h2 : isN w = true := (List.mem_filter.mp hw).2
  refine va_Nw.same ?_ h (hZ w hw)
  cases w <;> first | rfl | exact absurd h2 (by simp [isN])
theorem nw_i {w : Cond} (i : Nat) (h : lw_tbl[i]? = some w) (g : isN w = true) : w ∈ zNwL := List.mem_filter.mpr ⟨List.mem_of_getElem? h, g⟩
/-- an int[][] holds int[] -/
def zGA (cA : Nat → ClassId) (U : State) : Prop := ∃ kA k0 : Class, U.vm.classes[cA 3]? = some kA ∧ kA.kind = .array (cA 0) (.array .int) ∧ U.vm.classes[cA 0]? = some k0
theorem zGA.moved {cA : Nat → ClassId} {u U : State} (hvm : u.vm.Alike U.vm) (h : zGA cA u) : zGA cA U := by
  obtain ⟨kA, k0, h1, h2, h3⟩ := h
  obtain ⟨kA', g1, e1⟩ := hvm.2.2 _ _ h1
  obtain ⟨k0', g2, -⟩ := hvm.2.2 _ _ h3
  exact ⟨kA', k0', g1, by rw [e1]; exact h2, g2⟩
/-- what the tables say of arrays of automata and of rows -/
def zAO (U : State) : Prop := va_AO RX0 U ∧ (Cond.arrayOver (.array .int)).before #[] U = true
theorem zAO.moved {u U : State} (hvm : u.vm.Alike U.vm) (h : zAO u) : zAO U := ⟨h.1.moved hvm, arrayOver_alikeB hvm h.2⟩
def zNc (_ : State) : Prop := True
theorem zNc.moved {u U : State} (_ : u.vm.Alike U.vm) (_ : zNc u) : zNc U := trivial
def zKK (D : va_G) (cA : Nat → ClassId) (B0 : Nat) (U : State) : Prop := va_K D kCl (tysOf cA) U ∧ zZ B0 U U.heap ∧ zZS U ∧ zNw U ∧ zGA cA U ∧ zAO U ∧ zNc U
abbrev FR (B0 : Nat) : Nat → Prop := fun q => B0 ≤ q
theorem zKK.to {D : va_G} {cA : Nat → ClassId} {B0 : Nat} {s U : State} {H : Heap} {locs : List Loc} (h : zKK D cA B0 s) (hW : s.WarmedH U.vm) (hU : U.heap = H) (hS : va_S (FR B0) s.heap H locs) : zKK D cA B0 U :=
  ⟨va_K.moved hW.alike h.1, ⟨by rw [hU]; exact vx_Zq.moved hW.alike (h.2.1.1.kept hS.2.1), by rw [hU]; exact vx_Zq.moved hW.alike (h.2.1.2.kept hS.2.1)⟩, fun q hq => by
    obtain ⟨sa, h9⟩ := h.2.2.1 q hq
    exact ⟨sa, vk_R.warm hW h9⟩, h.2.2.2.1.warm hW, h.2.2.2.2.1.moved hW.alike, h.2.2.2.2.2.1.moved hW.alike, h.2.2.2.2.2.2.moved hW.alike⟩
def zC (p : Program) (l : Launch) (s : State) (m : MethodId) (args : Array Value) (meth : Method) (c : Code) (cc : ByteArray) (nL : Nat) (own : String) (D : va_G) (cA : Nat → ClassId) (B0 : Nat) : Prop :=
  p.tables.exec = Jvm.exec ∧ c.code = cc ∧ c.maxLocals = nL ∧ s.vm.findClass own = some m.cls ∧ (∀ w ∈ tbG, w.before args s = true) ∧ meth.locks = false ∧ zKK D cA B0 s ∧ B0 ≤ s.heap.size ∧ l.stackTraces = false
def zO (D : va_G) (cA : Nat → ClassId) (B0 : Nat) (Γ : zSh) (σ : zSt) (Z : Nat → Prop) (H0 H : Heap) (locs : List Loc) : Prop :=
  zP D cA Γ σ H ∧ (∀ a sh, Γ a = some sh → B0 ≤ a) ∧ Z H.size ∧ va_S (FR B0) H0 H locs
def zQ0 (D : va_G) (cA : Nat → ClassId) (B0 : Nat) (av : List Value) (Γ : zSh) (σ : zSt) (Z : Nat → Prop) : Array Value → State → Prop :=
  va_Pc av (fun U => zP D cA Γ σ U.heap ∧ (∀ a sh, Γ a = some sh → B0 ≤ a) ∧ Z U.heap.size ∧ B0 ≤ U.heap.size ∧ zKK D cA B0 U)
def zQ1 (D : va_G) (cA : Nat → ClassId) (B0 : Nat) (rv : Option Value) (Γ : zSh) (σ : zSt) (Z : Nat → Prop) : Array Value → State → Outcome → State → Prop := fun _ st oc t =>
  oc = .returned rv ∧ zP D cA Γ σ t.heap ∧ (∀ a sh, Γ a = some sh → B0 ≤ a) ∧ Z t.heap.size ∧ va_F (FR B0) st t
theorem zQ0.blind {D : va_G} {cA : Nat → ClassId} {B0 : Nat} {av : List Value} {Γ : zSh} {σ : zSt} {Z : Nat → Prop} : FrameBlind (zQ0 D cA B0 av Γ σ Z) := fun a U g mk q => by
  obtain ⟨q0, q1, q2, q3, q4, q5, q6, q7, q8, q9, q10, q11⟩ := q
  exact ⟨q0, q1, q2, q3, q4, va_K.moved (u := U) (U := U.calling g mk a) (Vm.Alike.refl U.vm) q5, ⟨vx_Zq.moved (u := U) (U := U.calling g mk a) (Vm.Alike.refl U.vm) q6.1, vx_Zq.moved (u := U) (U := U.calling g mk a) (Vm.Alike.refl U.vm) q6.2⟩, fun q hq => by
    obtain ⟨sa, h9⟩ := q7 q hq
    exact ⟨sa, vk_R.same (u := U) rfl h9⟩, q8.same (u := U) rfl, q9.moved (u := U) (U := U.calling g mk a) (Vm.Alike.refl U.vm), q10.moved (u := U) (U := U.calling g mk a) (Vm.Alike.refl U.vm), q11.moved (u := U) (U := U.calling g mk a) (Vm.Alike.refl U.vm)⟩
section ZROWS
variable {p : Program} {l : Launch} {e : Env} {R : Room} {s : State} {m : MethodId} {args : Array Value} {below : List Frame} {meth : Method} {c : Code} {H : Heap} {locs : List Loc} {cells slots : Nat} {Q : State → Prop}
variable {cc : ByteArray} {nL : Nat} {own : String} {pc : Nat} {ls : Array Slot} {rest : List Value} {D : va_G} {cA : Nat → ClassId} {B0 : Nat} {Γ Γ' : zSh} {σ σ' : zSt} {Z Z' : Nat → Prop} {a : Nat}
theorem zO.pre {av : List Value} (hC : zC p l s m args meth c cc nL own D cA B0) (hw : zO D cA B0 Γ σ Z s.heap H locs) : ∀ U : State, U.heap = H → s.WarmedH U.vm → zQ0 D cA B0 av Γ σ Z av.toArray U := fun U hU hW =>
  ⟨rfl, by rw [hU]; exact hw.1, hw.2.1, by rw [hU]; exact hw.2.2.1, by rw [hU]; exact Nat.le_trans hC.2.2.2.2.2.2.2.1 hw.2.2.2.1, hC.2.2.2.2.2.2.1.to hW hU hw.2.2.2⟩
theorem zO.recv {ci : Nat} {C : String} {T : u_T} {N n : Nat} (hC : zC p l s m args meth c cc nL own D cA B0) (hw : zO D cA B0 Γ σ Z s.heap H locs) (ho : Γ a = some (ci + 5, n)) (hc : kCl[ci]? = some (C, T, N)) : ∃ cell : Cell, H[a]? = some cell ∧ cell.vm.isStatics = false ∧ s.vm.findClass C = some cell.cls := by
  obtain ⟨r, h1, cell, q1, q2, q3, -⟩ := hw.1 a _ ho
  have hr : r = (C, T, N) := Option.some.inj (h1.symm.trans hc)
  subst hr
  exact ⟨cell, q1, by rw [q3]; rfl, by rw [q2]; exact (hC.2.2.2.2.2.2.1.1.1 ci _ hc).2.1⟩
/-- behind a call that returned -/
theorem z_call {st0 : List Value} {rv : Option Value} {mc ms : Nat} {a9 : Array Value} (hr : va_Run p l e R s m args below meth c H locs cells slots mc ms (F0 m pc ls st0) rest (zQ1 D cA B0 rv Γ' σ' Z' a9) (FR B0)) (hC : zC p l s m args meth c cc nL own D cA B0) (hw : zO D cA B0 Γ σ Z s.heap H locs)
    (kk : ∀ H1 locs1, zO D cA B0 Γ' σ' Z' s.heap H1 locs1 → W p l e R s m args below meth c H1 locs1 (cells + mc) (slots + ms) Q (F0 m (pc + 3) ls (rv.toList ++ rest))) : W p l e R s m args below meth c H locs cells slots Q (F0 m pc ls st0) := by
  intro T hT X
  obtain ⟨v, st₀, t, T', L, h0, X', hL, e1, e2, ⟨hv, hp, hg, hz, hsz, hk⟩, st⟩ := hr T hT X
  cases hv
  rw [h0] at hsz hk
  have hS := hw.2.2.2
  obtain ⟨t2, a1, b1⟩ := kk T'.heap (locs ++ L) ⟨by rw [e1]; exact hp, hg, by rw [e1]; exact hz, Nat.le_trans hS.1 (by rw [e1]; exact hsz), fun q h1 h2 => by rw [e1, hk q (Nat.lt_of_lt_of_le h1 hS.1) h2]; exact hS.2.1 q h1 h2, fun q hq => by
      rcases List.mem_append.mp hq with h | h
      · exact hS.2.2 q h
      · exact hL q h⟩ T' rfl X'
  exact ⟨t2, st t2 a1, b1⟩
abbrev zPar (y : MethodName) (k : Nat) : Prop := y.cls ≠ "java/lang/invoke/MethodHandle" ∧ y.cls ≠ "java/lang/invoke/VarHandle" ∧ (parseMethodDescriptor y.desc).map (fun d => d.parameters.length) = some k
def zWv (y : MethodName) (b : ByteArray) (n : Nat) (ret : Option FieldType) (k : Nat) : Prop := (Cond.instanceMethod y ∈ tbG ∧ Cond.selects y.cls y y ∈ tbG ∧ Cond.initialized y.cls ∈ tbG ∧ Cond.code y b n ret ∈ tbG) ∧ zPar y k
def zWs (y : MethodName) (b : ByteArray) (n : Nat) (ret : Option FieldType) (k : Nat) : Prop := (Cond.static y ∈ tbG ∧ Cond.initialized y.cls ∈ tbG ∧ Cond.code y b n ret ∈ tbG) ∧ zPar y k
theorem z_callV {y : MethodName} {b : ByteArray} {mL index mc ms ci k n9 : Nat} {ret : Option FieldType} {rm : Room} {As st0 : List Value} {rv : Option Value} {T : u_T} {N : Nat}
    (hM : Met l y (wq y b mL ret) rm (zQ0 D cA B0 (.ref a :: As) Γ σ Z) (zQ1 D cA B0 rv Γ' σ' Z') mc ms (FR B0)) (hC : zC p l s m args meth c cc nL own D cA B0) (hw : zO D cA B0 Γ σ Z s.heap H locs) (hwd : zWv y b mL ret k) (hlk : Cond.methodLink own index y ∈ tbG)
    (ho : Γ a = some (ci + 5, n9)) (hc : kCl[ci]? = some (y.cls, T, N)) (hk : As.length = k) (hrm : rm.cells = mc ∧ rm.slots = ms) (hR : rm.frames + 1 ≤ R.frames ∧ 8 + (mL + 11) + rm.locals ≤ R.locals) (hls : ls.size = nL) (hst : st0 = As.reverse ++ .ref a :: rest) (hcat : (rest.map fun v => v.category).sum ≤ 8)
    (hdg : decode cc pc = .ok (.invokevirtual index, 3)) (hcs : cells + mc ≤ R.cells ∧ slots + ms ≤ R.slots)
    (kk : ∀ H1 locs1, zO D cA B0 Γ' σ' Z' s.heap H1 locs1 → W p l e R s m args below meth c H1 locs1 (cells + mc) (slots + ms) Q (F0 m (pc + 3) ls (rv.toList ++ rest))) : W p l e R s m args below meth c H locs cells slots Q (F0 m pc ls st0) :=
  z_call (va_runV (As := As) (rest := rest) ⟨hC.1, hC.2.1, hC.2.2.1, hC.2.2.2.1, hC.2.2.2.2.1⟩ hM (cwV k hC.2.2.2.2.1 (gi_of (hd := [_, _, _, _]) (mem4 hlk hwd.1.1 hwd.1.2.1 hwd.1.2.2.1) hwd.1.2.2.2) rfl hrm.1 hrm.2 ⟨rfl, hwd.2⟩ hR) ⟨zQ0.blind, zO.recv hC hw ho hc, zO.pre hC hw⟩ rfl hk hls hst (lv_room hcat) hdg hcs) hC hw kk
theorem z_callS {y : MethodName} {b : ByteArray} {mL index mc ms k : Nat} {ret : Option FieldType} {rm : Room} {As st0 : List Value} {rv : Option Value}
    (hM : Met l y (wq y b mL ret) rm (zQ0 D cA B0 As Γ σ Z) (zQ1 D cA B0 rv Γ' σ' Z') mc ms (FR B0)) (hC : zC p l s m args meth c cc nL own D cA B0) (hw : zO D cA B0 Γ σ Z s.heap H locs) (hwd : zWs y b mL ret k) (hlk : Cond.methodLink own index y ∈ tbG)
    (hk : As.length = k) (hrm : rm.cells = mc ∧ rm.slots = ms) (hR : rm.frames + 1 ≤ R.frames ∧ 8 + (mL + 11) + rm.locals ≤ R.locals) (hls : ls.size = nL) (hst : st0 = As.reverse ++ rest) (hcat : (rest.map fun v => v.category).sum ≤ 8)
    (hdg : decode cc pc = .ok (.invokestatic index, 3)) (hcs : cells + mc ≤ R.cells ∧ slots + ms ≤ R.slots)
    (kk : ∀ H1 locs1, zO D cA B0 Γ' σ' Z' s.heap H1 locs1 → W p l e R s m args below meth c H1 locs1 (cells + mc) (slots + ms) Q (F0 m (pc + 3) ls (rv.toList ++ rest))) : W p l e R s m args below meth c H locs cells slots Q (F0 m pc ls st0) :=
  z_call (va_runS (As := As) (rest := rest) ⟨hC.1, hC.2.1, hC.2.2.1, hC.2.2.2.1, hC.2.2.2.2.1⟩ hM (va_cwS k hC.2.2.2.2.1 (gi_of (hd := [_, _, _]) (mem3 hlk hwd.1.1 hwd.1.2.1) hwd.1.2.2) rfl hrm.1 hrm.2 hwd.2 hR) ⟨zQ0.blind, zO.pre hC hw⟩ rfl hk hls hst (lv_room hcat) hdg hcs) hC hw kk
theorem z_callSN {y : MethodName} {b : ByteArray} {mL index mc ms k : Nat} {ret : Option FieldType} {rm : Room} {As st0 : List Value} {rv : Option Value} {host : String}
    (hM : Met l y (wq y b mL ret) rm (zQ0 D cA B0 As Γ σ Z) (zQ1 D cA B0 rv Γ' σ' Z') mc ms (FR B0)) (hC : zC p l s m args meth c cc nL own D cA B0) (hw : zO D cA B0 Γ σ Z s.heap H locs) (hwd : zWs y b mL ret k) (hlk : Cond.methodLinkNest own index y host ∈ zNwL)
    (hk : As.length = k) (hrm : rm.cells = mc ∧ rm.slots = ms) (hR : rm.frames + 1 ≤ R.frames ∧ 8 + (mL + 11) + rm.locals ≤ R.locals) (hls : ls.size = nL) (hst : st0 = As.reverse ++ rest) (hcat : (rest.map fun v => v.category).sum ≤ 8)
    (hdg : decode cc pc = .ok (.invokestatic index, 3)) (hcs : cells + mc ≤ R.cells ∧ slots + ms ≤ R.slots)
    (kk : ∀ H1 locs1, zO D cA B0 Γ' σ' Z' s.heap H1 locs1 → W p l e R s m args below meth c H1 locs1 (cells + mc) (slots + ms) Q (F0 m (pc + 3) ls (rv.toList ++ rest))) : W p l e R s m args below meth c H locs cells slots Q (F0 m pc ls st0) :=
  z_call (va_runSN (As := As) (rest := rest) (host := host) ⟨hC.1, hC.2.1, hC.2.2.1, hC.2.2.2.1, hC.2.2.2.2.1⟩ hM ⟨va_cnB k hC.2.2.2.2.1 (gi_of (hd := []) (fun _ h => nomatch h) hwd.1.2.2) rfl hrm.1 hrm.2 (hC.2.2.2.2.2.2.1.2.2.2.1 _ hlk) (hC.2.2.2.2.1 _ hwd.1.2.1) hwd.2 hR, hC.2.2.2.2.1 _ hwd.1.1, trivial⟩ ⟨zQ0.blind, zO.pre hC hw⟩ rfl hk hls hst (lv_room hcat) hdg hcs) hC hw kk
end ZROWS
