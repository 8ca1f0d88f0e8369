theorem i32_nn {z : Int32} (h : 0 ≤ z) : ¬ z < 0 ∧ z.toInt = (z.toNatClampNeg : Int) := by
  have hz0 : (0 : Int) ≤ z.toInt := by simpa using Int32.le_iff_toInt_le.mp h
  refine ⟨Int32.not_lt.mpr h, ?_⟩
  show z.toInt = ((z.toInt.toNat : Nat) : Int)
  omega
theorem tw_acn : Cond.native arraycopyName ∈ tbG ∧ Cond.static arraycopyName ∈ tbG ∧ Cond.initialized "java/lang/System" ∈ tbG := by decide +kernel
theorem tw_mmin : Cond.static Lib.Math.min.name ∈ tbG ∧ Cond.initialized "java/lang/Math" ∈ tbG ∧ Cond.code Lib.Math.min.name Lib.Math.min.code 2 (some .int) ∈ tbG := by decide +kernel
def exN : Nat → String := fun k => match k with
  | 0 => "java/lang/IndexOutOfBoundsException"
  | 1 => "java/lang/IllegalArgumentException"
  | _ => "java/lang/IllegalStateException"
/-- a call that returned or threw -/
def zQx {α : Type} (D : va_G) (cA : Nat → ClassId) (B0 : Nat) (rv : α → Option Value) (Γ : zSh) (out : (α × zSt) ⊕ (Nat × zSt)) (Z : Nat → Prop) : Array Value → State → Outcome → State → Prop := fun a st oc t =>
  ∃ (r : α) (σ' : zSt), out = .inl (r, σ') ∧ zQ1 D cA B0 (rv r) Γ σ' Z a st oc t
def zXx {α : Type} (D : va_G) (cA : Nat → ClassId) (B0 : Nat) (Γ : zSh) (out : (α × zSt) ⊕ (Nat × zSt)) (Z : Nat → Prop) : String → State → State → Prop := fun E st t =>
  ∃ (k : Nat) (σ' : zSt), out = .inr (k, σ') ∧ E = exN k ∧ zP D cA Γ σ' t.heap ∧ (∀ a sh, Γ a = some sh → B0 ≤ a) ∧ Z t.heap.size ∧ va_F (FR B0) st t
section ZCALLS
variable {p : Program} {l : Launch} {e : Env} {R : Room} {s : State} {m : MethodId} {args : Array Value} {below : List Frame} {meth : Method} {c : Code} {H : Heap} {locs : List Loc} {cells slots : Nat} {Q : State → Prop}
variable {cc : ByteArray} {nL : Nat} {own : String} {pc : Nat} {ls : Array Slot} {rest : List Value} {D : va_G} {cA : Nat → ClassId} {B0 : Nat} {Γ Γ' : zSh} {σ σ' : zSt} {Z Z' : Nat → Prop} {a : Nat}
theorem z_copy {a0 index : Nat} {sp dp n : Int32} (hC : zC p l s m args meth c cc nL own D cA B0) (hw : zO D cA B0 Γ σ Z s.heap H locs) (hls : ls.size = nL) (hlk : Cond.methodLink own index arraycopyName ∈ tbG)
    (hc : (0 ≤ sp ∧ 0 ≤ dp ∧ 0 ≤ n) ∧ Γ a0 = some (0, zln Γ 0 a0) ∧ Γ a = some (0, zln Γ 0 a) ∧ a0 ≠ a ∧ sp.toNatClampNeg + n.toNatClampNeg ≤ zln Γ 0 a0 ∧ dp.toNatClampNeg + n.toNatClampNeg ≤ zln Γ 0 a)
    (hframes : 1 ≤ R.frames) (hlocals : (rest.map fun v => v.category).sum + (nativeFrameWords "java/lang/System" "arraycopy" 5 + 11) ≤ R.locals) (hdg : decode cc pc = .ok (.invokestatic index, 3))
    (kk : ∀ H1 locs1, zO D cA B0 Γ (cpI0 σ a0 sp.toNatClampNeg a dp.toNatClampNeg n.toNatClampNeg) Z s.heap H1 locs1 → W p l e R s m args below meth c H1 locs1 cells slots Q (F0 m (pc + 3) ls rest)) :
    W p l e R s m args below meth c H locs cells slots Q (F0 m pc ls (.int n :: .int dp :: .ref a :: .int sp :: .ref a0 :: rest)) := by
  obtain ⟨hx, hb, hml, hown, hts, -, ⟨hK, -⟩, -⟩ := hC
  obtain ⟨⟨k1, k2, k3⟩, g0, g1, -, h4, h5⟩ := hc
  have c0 : H[a0]? = some (arrV (cA 0) (zln Γ 0 a0) (fun j => .int (σ.1 a0 j))) := hw.1 a0 _ g0
  have c1 : H[a]? = some (arrV (cA 0) (zln Γ 0 a) (fun j => .int (σ.1 a j))) := hw.1 a _ g1
  generalize zln Γ 0 a0 = n0 at c0 h4 g0
  generalize hn1 : zln Γ 0 a = n1 at c1 h5 g1
  intro T hT X
  obtain ⟨-, kA, hkA, cm, hkk⟩ := (hK.2 0 _ rfl).1 n0 (fun j => .int (σ.1 a0 j))
  have hkA : s.vm.classes[cA 0]? = some kA := hkA
  obtain ⟨vm', X', step⟩ := X.arraycopy hx hown (hts _ hlk) (hts _ tw_acn.1) (hts _ tw_acn.2.1) (hts _ tw_acn.2.2) (src := a0) (dst := a) (srcPos := sp) (destPos := dp) (n := n) (by rw [hT]; exact c0) (by rw [hT]; exact c1)
    (fun _ h => by cases h) (fun _ h => by cases h) (fun h => by cases h) (fun h => by cases h) hkA hkA hkk hkk (by simp [refKind]) (i32_nn k1).1 (i32_nn k2).1 (i32_nn k3).1
    (by rw [(i32_nn k1).2, (i32_nn k3).2, arrV_size]; omega)
    (by rw [(i32_nn k2).2, (i32_nn k3).2, arrV_size]; omega)
    (fun vm₁ _ i hi => by
      have e9 : (arrV (cA 0) n0 (fun j => .int (σ.1 a0 j))).slots.getD (sp.toNatClampNeg + i) .null = .int (σ.1 a0 (sp.toNatClampNeg + i)) := by
        rw [Array.getD_eq_getD_getElem?, arrV_read _ _ (by omega)]
        rfl
      exact ⟨by rw [e9]; rfl, by rw [e9]; exact trivial⟩)
    (g := F0 m pc ls (.int n :: .int dp :: .ref a :: .int sp :: .ref a0 :: rest)) rfl (by rw [hml]; exact hls) (rest := rest) rfl (by rw [hb]; exact hdg) hframes (by show 2 * 0 + _ + _ ≤ _; omega)
  have e1 : copied (arrV (cA 0) n0 (fun j => .int (σ.1 a0 j))) (arrV (cA 0) n1 (fun j => .int (σ.1 a j))) sp dp n = arrV (cA 0) n1 (fun j => .int (va_cpy (σ.1 a0) (σ.1 a) sp.toNatClampNeg dp.toNatClampNeg n.toNatClampNeg j)) := va_copied (fun z => .int z) (cA 0) (cA 0) (σ.1 a0) (σ.1 a) h4
  rw [e1] at X' step
  have hl : a < H.size := (Array.getElem?_eq_some_iff.mp c1).1
  generalize hcell : arrV (cA 0) n1 (fun j => Value.int (va_cpy (σ.1 a0) (σ.1 a) sp.toNatClampNeg dp.toNatClampNeg n.toNatClampNeg j)) = cl at X' step
  have oq : ∀ q : Nat, q ≠ a → (H.setIfInBounds a cl)[q]? = H[q]? := fun q hq => by simp [Array.getElem?_setIfInBounds, Ne.symm hq]
  have oa : (H.setIfInBounds a cl)[a]? = some cl := by simp [Array.getElem?_setIfInBounds, hl]
  obtain ⟨t, a1, b1⟩ := kk _ _ ⟨hw.1.upd oq (fun q h => if_neg h) (fun q h => rfl) (fun q h => rfl) (fun sh hsh => by
      rw [g1] at hsh
      cases hsh
      show (H.setIfInBounds a cl)[a]? = _
      rw [oa, ← hcell]
      simp [cpI0]), hw.2.1, by simpa using hw.2.2.1, by simpa using hw.2.2.2.1, fun q g9 g2 => by
      rw [oq q (fun e => g2 (by rw [e]; exact hw.2.1 a _ g1))]
      exact hw.2.2.2.2.1 q g9 g2, fun q hq => by
      rcases List.mem_append.mp hq with h | h
      · exact hw.2.2.2.2.2 q h
      · obtain ⟨z, -, hz⟩ := List.mem_map.mp h
        rw [← hz]
        exact hw.2.1 a _ g1⟩ _ (by rw [← hT]; rfl) X'
  exact ⟨t, step t a1, b1⟩
/-- behind a call that returned or threw -/
theorem z_xcall {α : Type} {rv : α → Option Value} {out : (α × zSt) ⊕ (Nat × zSt)} {st0 : List Value} {mc ms : Nat} {a9 : Array Value} (hr : vx_Run p l e R s m args below meth c H locs cells slots mc ms (F0 m pc ls st0) rest (zQx D cA B0 rv Γ out Z a9) (zXx D cA B0 Γ out Z) (FR B0)) (hw : zO D cA B0 Γ σ Z s.heap H locs)
    (kk : ∀ r σ', out = .inl (r, σ') → ∀ H1 locs1, zO D cA B0 Γ σ' Z s.heap H1 locs1 → W p l e R s m args below meth c H1 locs1 (cells + mc) (slots + ms) Q (F0 m (pc + 3) ls ((rv r).toList ++ rest)))
    (kx : ∀ k σ', out = .inr (k, σ') → ∀ H1 locs1 q ce, zO D cA B0 Γ σ' Z s.heap H1 locs1 → H1[q]? = some ce → ce.vm = .none → s.vm.findClass (exN k) = some ce.cls → vx_W p l e R s m args below meth c H1 locs1 (cells + mc) (slots + ms) Q (F0 m pc ls rest) q) : W p l e R s m args below meth c H locs cells slots Q (F0 m pc ls st0) := by
  intro T hT X
  have hS := hw.2.2.2
  rcases hr T hT X with ⟨v, st₀, t, T', L, h0, X', hL, e1, e2, ⟨r, σ', ho, hv, hp, hg, hz, hsz, hk⟩, st⟩ | ⟨q, st₀, t, T', L, E, ce, h0, X', hL, e1, e2, ⟨k, σ', ho, hE, hp, hg, hz, hsz, hk⟩, hce, hcv, hcl, st⟩
  · cases hv
    rw [h0] at hsz hk
    obtain ⟨t2, a1, b1⟩ := kk r σ' ho T'.heap (locs ++ L) ⟨by rw [e1]; exact hp, hg, by rw [e1]; exact hz, Nat.le_trans hS.1 (by rw [e1]; exact hsz), fun q h1 h2 => by rw [e1, hk q (Nat.lt_of_lt_of_le h1 hS.1) h2]; exact hS.2.1 q h1 h2, fun q hq => by
      rcases List.mem_append.mp hq with h | h
      · exact hS.2.2 q h
      · exact hL q h⟩ T' rfl X'
    exact ⟨t2, st t2 a1, b1⟩
  · subst hE
    rw [h0] at hsz hk
    obtain ⟨t2, a1, b1⟩ := kx k σ' ho T'.heap (locs ++ L) q ce ⟨by rw [e1]; exact hp, hg, by rw [e1]; exact hz, Nat.le_trans hS.1 (by rw [e1]; exact hsz), fun q h1 h2 => by rw [e1, hk q (Nat.lt_of_lt_of_le h1 hS.1) h2]; exact hS.2.1 q h1 h2, fun q hq => by
      rcases List.mem_append.mp hq with h | h
      · exact hS.2.2 q h
      · exact hL q h⟩ (by rw [e1]; exact hce) hcv hcl T' rfl X'
    exact ⟨t2, st.trans a1, b1⟩
theorem z_xcallV {α : Type} {rv : α → Option Value} {out : (α × zSt) ⊕ (Nat × zSt)} {y : MethodName} {b : ByteArray} {mL index mc ms ci k n9 : Nat} {ret : Option FieldType} {rm : Room} {As st0 : List Value} {T : u_T} {N : Nat}
    (hM : vx_Met l y (wq y b mL ret) rm (zQ0 D cA B0 (.ref a :: As) Γ σ Z) (zQx D cA B0 rv Γ out Z) (zXx D cA B0 Γ out Z) mc ms (FR B0)) (hC : zC p l s m args meth c cc nL own D cA B0) (hw : zO D cA B0 Γ σ Z s.heap H locs) (hwd : zWv y b mL ret k) (hlk : Cond.methodLink own index y ∈ tbG)
    (ho : Γ a = some (ci + 5, n9)) (hc : kCl[ci]? = some (y.cls, T, N)) (hk : As.length = k) (hrm : rm.cells = mc ∧ rm.slots = ms) (hR : rm.frames + 1 ≤ R.frames ∧ 8 + (mL + 11) + rm.locals ≤ R.locals) (hls : ls.size = nL) (hst : st0 = As.reverse ++ .ref a :: rest) (hcat : (rest.map fun v => v.category).sum ≤ 8)
    (hdg : decode cc pc = .ok (.invokevirtual index, 3)) (hcs : cells + mc ≤ R.cells ∧ slots + ms ≤ R.slots)
    (kk : ∀ r σ', out = .inl (r, σ') → ∀ H1 locs1, zO D cA B0 Γ σ' Z s.heap H1 locs1 → W p l e R s m args below meth c H1 locs1 (cells + mc) (slots + ms) Q (F0 m (pc + 3) ls ((rv r).toList ++ rest)))
    (kx : ∀ k σ', out = .inr (k, σ') → ∀ H1 locs1 q ce, zO D cA B0 Γ σ' Z s.heap H1 locs1 → H1[q]? = some ce → ce.vm = .none → s.vm.findClass (exN k) = some ce.cls → vx_W p l e R s m args below meth c H1 locs1 (cells + mc) (slots + ms) Q (F0 m pc ls rest) q) : W p l e R s m args below meth c H locs cells slots Q (F0 m pc ls st0) :=
  z_xcall (vx_runV (As := As) (rest := rest) ⟨hC.1, hC.2.1, hC.2.2.1, hC.2.2.2.1, hC.2.2.2.2.1⟩ hM (cwV k hC.2.2.2.2.1 (gi_of (hd := [_, _, _, _]) (mem4 hlk hwd.1.1 hwd.1.2.1 hwd.1.2.2.1) hwd.1.2.2.2) rfl hrm.1 hrm.2 ⟨rfl, hwd.2⟩ hR) ⟨zQ0.blind, zO.recv hC hw ho hc, zO.pre hC hw⟩ rfl hk hls hst (lv_room hcat) hdg hcs) hw kk kx
theorem z_xcallS {α : Type} {rv : α → Option Value} {out : (α × zSt) ⊕ (Nat × zSt)} {y : MethodName} {b : ByteArray} {mL index mc ms k : Nat} {ret : Option FieldType} {rm : Room} {As st0 : List Value}
    (hM : vx_Met l y (wq y b mL ret) rm (zQ0 D cA B0 As Γ σ Z) (zQx D cA B0 rv Γ out Z) (zXx D cA B0 Γ out Z) mc ms (FR B0)) (hC : zC p l s m args meth c cc nL own D cA B0) (hw : zO D cA B0 Γ σ Z s.heap H locs) (hwd : zWs y b mL ret k) (hlk : Cond.methodLink own index y ∈ tbG)
    (hk : As.length = k) (hrm : rm.cells = mc ∧ rm.slots = ms) (hR : rm.frames + 1 ≤ R.frames ∧ 8 + (mL + 11) + rm.locals ≤ R.locals) (hls : ls.size = nL) (hst : st0 = As.reverse ++ rest) (hcat : (rest.map fun v => v.category).sum ≤ 8)
    (hdg : decode cc pc = .ok (.invokestatic index, 3)) (hcs : cells + mc ≤ R.cells ∧ slots + ms ≤ R.slots)
    (kk : ∀ r σ', out = .inl (r, σ') → ∀ H1 locs1, zO D cA B0 Γ σ' Z s.heap H1 locs1 → W p l e R s m args below meth c H1 locs1 (cells + mc) (slots + ms) Q (F0 m (pc + 3) ls ((rv r).toList ++ rest)))
    (kx : ∀ k σ', out = .inr (k, σ') → ∀ H1 locs1 q ce, zO D cA B0 Γ σ' Z s.heap H1 locs1 → H1[q]? = some ce → ce.vm = .none → s.vm.findClass (exN k) = some ce.cls → vx_W p l e R s m args below meth c H1 locs1 (cells + mc) (slots + ms) Q (F0 m pc ls rest) q) : W p l e R s m args below meth c H locs cells slots Q (F0 m pc ls st0) :=
  z_xcall (vx_runS (As := As) (rest := rest) ⟨hC.1, hC.2.1, hC.2.2.1, hC.2.2.2.1, hC.2.2.2.2.1⟩ hM (va_cwS k hC.2.2.2.2.1 (gi_of (hd := [_, _, _]) (mem3 hlk hwd.1.1 hwd.1.2.1) hwd.1.2.2) rfl hrm.1 hrm.2 hwd.2 hR) ⟨zQ0.blind, zO.pre hC hw⟩ rfl hk hls hst (lv_room hcat) hdg hcs) hw kk kx
/-- thrown on to the caller -/
theorem z_xout {α : Type} {rv : α → Option Value} {out : (α × zSt) ⊕ (Nat × zSt)} {k : Nat} {q : Addr} {ce : Cell} {mc ms : Nat} (hC : zC p l s m args meth c cc nL own D cA B0) (hw : zO D cA B0 Γ σ Z s.heap H locs) (ho : out = .inr (k, σ)) (htab : ∀ x ∈ c.exceptionTable.toList, False) (h1 : H[q]? = some ce) (h2 : ce.vm = .none) (h3 : s.vm.findClass (exN k) = some ce.cls) (hc : cells ≤ mc) (hs : slots ≤ ms) :
    vx_W p l e R s m args below meth c H locs cells slots (vx_MQ below (zQx D cA B0 rv Γ out Z) (zXx D cA B0 Γ out Z) args s mc ms (FR B0)) (F0 m pc ls rest) q :=
  vx_out (fun x hx => (htab x hx).elim) hC.2.2.2.2.2.1 h1 h2 h3 (fun t ht hA => ⟨k, σ, ho, rfl, by rw [ht]; exact hw.1, hw.2.1, by rw [ht]; exact hw.2.2.1, hw.2.2.2.F ht⟩) hw.2.2.2.2.2 hc hs
theorem z_ret {rv : Option Value} {v : Option Value} (hw : zO D cA B0 Γ σ Z s.heap H locs) (hv : rv = v) : ∀ t : State, t.heap = H → s.WarmedH t.vm → zQ1 D cA B0 rv Γ σ Z args s (.returned v) t := fun t ht _ =>
  ⟨by rw [hv], by rw [ht]; exact hw.1, hw.2.1, by rw [ht]; exact hw.2.2.1, hw.2.2.2.F ht⟩
theorem z_retx {α : Type} {rv : α → Option Value} {out : (α × zSt) ⊕ (Nat × zSt)} {r : α} {v : Option Value} (hw : zO D cA B0 Γ σ Z s.heap H locs) (ho : out = .inl (r, σ)) (hv : rv r = v) : ∀ t : State, t.heap = H → s.WarmedH t.vm → zQx D cA B0 rv Γ out Z args s (.returned v) t := fun t ht hW =>
  ⟨r, σ, ho, z_ret hw hv t ht hW⟩
end ZCALLS
