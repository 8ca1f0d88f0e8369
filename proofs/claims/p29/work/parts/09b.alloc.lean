/-! ===== new cells ===== -/
def upS (Γ : zSh) (z : Nat) (sh : Nat × Nat) : zSh := fun a => if a = z then some sh else Γ a
/-- nothing is written at z yet -/
def clr (σ : zSt) (z : Nat) : zSt := (fun x => if x = z then fun _ => 0 else σ.1 x, fun x => if x = z then fun _ => 0 else σ.2.1 x, fun x => if x = z then fun _ => 0 else σ.2.2 x)
def upG (Γ : zSh) (z n k : Nat) : zSh := fun a => if a = z then some (3, n) else if z < a ∧ a ≤ z + n then some (0, k) else Γ a
def clrG (σ : zSt) (z n : Nat) : zSt := (fun x => if z ≤ x ∧ x ≤ z + n then fun _ => 0 else σ.1 x, fun x => if x = z then fun j => z + 1 + j else σ.2.1 x, σ.2.2)
def nwO {β : Type} (Γ : zSh) (z : Nat) (σ : zSt) (c : Nat) (f : zSh → zSt → Option β) : Option β := f (upS Γ z (c + 5, 0)) (clr σ z)
def nwA {β : Type} (Γ : zSh) (z : Nat) (σ : zSt) (t : Nat) (n : Int32) (b : Nat) (f : zSh → zSt → Option β) : Option β := if 0 ≤ n ∧ n.toNatClampNeg ≤ b then f (upS Γ z (t, n.toNatClampNeg)) (clr σ z) else none
def nwG {β : Type} (Γ : zSh) (z : Nat) (σ : zSt) (n k : Int32) (N b : Nat) (f : zSh → zSt → Option β) : Option β := if 0 ≤ n ∧ 0 ≤ k ∧ n.toNatClampNeg = N ∧ k.toNatClampNeg ≤ b then f (upG Γ z N k.toNatClampNeg) (clrG σ z N) else none
theorem nwA_inv {β : Type} {Γ : zSh} {z : Nat} {σ : zSt} {t : Nat} {n : Int32} {b : Nat} {f : zSh → zSt → Option β} {o : β} (h : nwA Γ z σ t n b f = some o) : (0 ≤ n ∧ n.toNatClampNeg ≤ b) ∧ f (upS Γ z (t, n.toNatClampNeg)) (clr σ z) = some o := if_inv h
theorem nwG_inv {β : Type} {Γ : zSh} {z : Nat} {σ : zSt} {n k : Int32} {N b : Nat} {f : zSh → zSt → Option β} {o : β} (h : nwG Γ z σ n k N b f = some o) : (0 ≤ n ∧ 0 ≤ k ∧ n.toNatClampNeg = N ∧ k.toNatClampNeg ≤ b) ∧ f (upG Γ z N k.toNatClampNeg) (clrG σ z N) = some o := if_inv h
def abnd {α β : Type} (o : Option (α × zSh × Nat × zSt)) (f : α → zSh → Nat → zSt → Option β) : Option β := match o with
  | none => none
  | some q => f q.1 q.2.1 q.2.2.1 q.2.2.2
theorem abnd_inv {α β : Type} {o : Option (α × zSh × Nat × zSt)} {f : α → zSh → Nat → zSt → Option β} {r : β} (h : abnd o f = some r) : ∃ a g z s, o = some (a, g, z, s) ∧ f a g z s = some r := by
  cases o with
  | none => cases h
  | some q => exact ⟨_, _, _, _, rfl, h⟩
abbrev ZE (z : Nat) : Nat → Prop := fun n => n = z
def kDef (ci N : Nat) (ty0 : Nat → FieldType) : Prop := ∀ k, k < N → defaultValue (ty0 k) = (match kK ci k with
  | 0 => .int 0
  | 2 => .long 0
  | _ => .null)
theorem arrV_congr {cI : ClassId} {N : Nat} {f g : Nat → Value} (h : ∀ j, j < N → f j = g j) : arrV cI N f = arrV cI N g := by
  unfold arrV
  congr 1
  congr 1
  funext j
  exact h j.val j.isLt
section ZALLOC
variable {p : Program} {l : Launch} {e : Env} {R : Room} {s : State} {m : MethodId} {args : Array Value} {below : List Frame} {meth : Method} {c : Code} {H : Heap} {locs : List Loc} {cells slots : Nat} {Q : State → Prop}
variable {cc : ByteArray} {nL : Nat} {own : String} {pc : Nat} {ls : Array Slot} {rest : List Value} {D : va_G} {cA : Nat → ClassId} {B0 : Nat} {Γ Γ' : zSh} {σ σ' : zSt} {z : Nat}
theorem zO.push {H1 : Heap} {sh : Nat × Nat} (hB : B0 ≤ s.heap.size) (hw : zO D cA B0 Γ σ (ZE z) s.heap H locs) (e1 : H1.size = z + 1) (o1 : ∀ q : Nat, q < z → H1[q]? = H[q]?) (ha : zAt D cA (clr σ z) H1 z sh) : zO D cA B0 (upS Γ z sh) (clr σ z) (ZE (z + 1)) s.heap H1 locs := by
  have hz : H.size = z := hw.2.2.1
  have hs := hw.2.2.2
  refine ⟨fun a sh' h => ?_, fun a sh' h => ?_, e1, Nat.le_trans hs.1 (by omega), fun q h1 h2 => (o1 q (by rw [← hz]; exact Nat.lt_of_lt_of_le h1 hs.1)).trans (hs.2.1 q h1 h2), hs.2.2⟩
  · unfold upS at h
    by_cases e9 : a = z
    · rw [if_pos e9] at h
      cases h
      rw [e9]
      exact ha
    · rw [if_neg e9] at h
      have h5 := hw.1 a sh' h
      have hlt := h5.lt
      exact h5.kept (o1 a (by omega)) (if_neg e9) (if_neg e9) (if_neg e9)
  · unfold upS at h
    by_cases e9 : a = z
    · rw [e9, ← hz]
      exact Nat.le_trans hB hs.1
    · rw [if_neg e9] at h
      exact hw.2.1 a sh' h
theorem r_nwO {ci N index : Nat} {C : String} {T : u_T} {ty0 : Nat → FieldType} (hC : zC p l s m args meth c cc nL own D cA B0) (hw : zO D cA B0 Γ σ (ZE z) s.heap H locs) (hcl : zCl ci N C T ty0) (hdf : kDef ci N ty0) (hlk : Cond.classLink own index C ∈ tbG ∧ Cond.instantiable C N ∈ tbG ∧ Cond.initialized C ∈ tbG) (hcs : cells + 1 ≤ R.cells ∧ slots + N ≤ R.slots) (hdg : decode cc pc = .ok (.new index, 3))
    (kk : ∀ H1, zO D cA B0 (upS Γ z (ci + 5, 0)) (clr σ z) (ZE (z + 1)) s.heap H1 locs → W p l e R s m args below meth c H1 locs (cells + 1) (slots + N) Q (F0 m (pc + 3) ls (.ref z :: rest))) : W p l e R s m args below meth c H locs cells slots Q (F0 m pc ls rest) := by
  have hts := hC.2.2.2.2.1
  have hKn := hC.2.2.2.2.2.2.1.1.1 ci _ hcl.2.1
  refine W.newcK hC.1 hC.2.1 hC.2.2.2.1 (hts _ hlk.1) (hts _ hlk.2.1) (hts _ hlk.2.2) rfl hdg hcs.1 hcs.2 hKn.2.1 hw.2.2.1 fun H1 kC hkC e1 z1 o1 => ?_
  refine kk H1 (zO.push hC.2.2.2.2.2.2.2.1 hw z1 o1 ?_)
  refine ⟨_, hcl.2.1, (u_born ty0 hts hcl.1 hKn hkC e1 hcl.2.2.1).to fun k hk => ?_⟩
  rw [hdf k hk]
  unfold fldV clr
  dsimp only
  rw [if_pos rfl, if_pos rfl, if_pos rfl]
  generalize kK ci k = q
  match q with
  | 0 => rfl
  | 1 => rfl
  | 2 => rfl
  | q + 3 => rfl
theorem r_nwI {n : Int32} {b : Nat} (hC : zC p l s m args meth c cc nL own D cA B0) (hw : zO D cA B0 Γ σ (ZE z) s.heap H locs) (hlk : Cond.arrayClass .int ∈ tbG) (hn : 0 ≤ n ∧ n.toNatClampNeg ≤ b) (hb4 : b * 4 ≤ 536870912) (hcs : cells + 1 ≤ R.cells ∧ slots + b ≤ R.slots) (hdg : decode cc pc = .ok (.newarray .int, 2))
    (kk : ∀ H1, zO D cA B0 (upS Γ z (0, n.toNatClampNeg)) (clr σ z) (ZE (z + 1)) s.heap H1 locs → W p l e R s m args below meth c H1 locs (cells + 1) (slots + b) Q (F0 m (pc + 2) ls (.ref z :: rest))) : W p l e R s m args below meth c H locs cells slots Q (F0 m pc ls (.int n :: rest)) := by
  have hts := hC.2.2.2.2.1
  refine va_newaK (atype := .int) hC.1 hC.2.1 (hts _ hlk) rfl hdg rfl (Int32.not_lt.mpr hn.1) rfl (Nat.le_trans (Nat.mul_le_mul_right 4 hn.2) hb4) hcs.1 (Nat.le_trans (Nat.add_le_add_left hn.2 _) hcs.2) hw.2.2.1 fun H1 cX e1 z1 o1 hAr hNm => ?_
  have hX : cX = cA 0 := Option.some.inj (hNm.symm.trans (hC.2.2.2.2.2.2.1.1.2 0 _ rfl).2)
  subst hX
  refine W.widen (k := cells + 1) (n := slots + b) (Nat.le_refl _) (Nat.add_le_add_left hn.2 _) (kk H1 (zO.push hC.2.2.2.2.2.2.2.1 hw z1 o1 ?_))
  show H1[z]? = _
  rw [e1]
  unfold clr
  simp
  rfl
theorem r_nwZ {n : Int32} {b : Nat} (hC : zC p l s m args meth c cc nL own D cA B0) (hw : zO D cA B0 Γ σ (ZE z) s.heap H locs) (hlk : Cond.arrayClass .boolean ∈ tbG) (hn : 0 ≤ n ∧ n.toNatClampNeg ≤ b) (hb4 : b * 1 ≤ 536870912) (hcs : cells + 1 ≤ R.cells ∧ slots + b ≤ R.slots) (hdg : decode cc pc = .ok (.newarray .boolean, 2))
    (kk : ∀ H1, zO D cA B0 (upS Γ z (1, n.toNatClampNeg)) (clr σ z) (ZE (z + 1)) s.heap H1 locs → W p l e R s m args below meth c H1 locs (cells + 1) (slots + b) Q (F0 m (pc + 2) ls (.ref z :: rest))) : W p l e R s m args below meth c H locs cells slots Q (F0 m pc ls (.int n :: rest)) := by
  have hts := hC.2.2.2.2.1
  refine va_newaK (atype := .boolean) hC.1 hC.2.1 (hts _ hlk) rfl hdg rfl (Int32.not_lt.mpr hn.1) rfl (Nat.le_trans (Nat.mul_le_mul_right 1 hn.2) hb4) hcs.1 (Nat.le_trans (Nat.add_le_add_left hn.2 _) hcs.2) hw.2.2.1 fun H1 cX e1 z1 o1 hAr hNm => ?_
  have hX : cX = cA 1 := Option.some.inj (hNm.symm.trans (hC.2.2.2.2.2.2.1.1.2 1 _ rfl).2)
  subst hX
  refine W.widen (k := cells + 1) (n := slots + b) (Nat.le_refl _) (Nat.add_le_add_left hn.2 _) (kk H1 (zO.push hC.2.2.2.2.2.2.2.1 hw z1 o1 ?_))
  show H1[z]? = _
  rw [e1]
  unfold clr
  simp
  rfl
theorem r_nwR {n : Int32} {b index : Nat} (hC : zC p l s m args meth c cc nL own D cA B0) (hw : zO D cA B0 Γ σ (ZE z) s.heap H locs) (hlk : Cond.classLink own index RX0 ∈ tbG) (hn : 0 ≤ n ∧ n.toNatClampNeg ≤ b) (hb4 : b * 4 ≤ 536870912) (hcs : cells + 1 ≤ R.cells ∧ slots + b ≤ R.slots) (hdg : decode cc pc = .ok (.anewarray index, 3))
    (kk : ∀ H1, zO D cA B0 (upS Γ z (4, n.toNatClampNeg)) (clr σ z) (ZE (z + 1)) s.heap H1 locs → W p l e R s m args below meth c H1 locs (cells + 1) (slots + b) Q (F0 m (pc + 3) ls (.ref z :: rest))) : W p l e R s m args below meth c H locs cells slots Q (F0 m pc ls (.int n :: rest)) := by
  have hts := hC.2.2.2.2.1
  have hz : H.size = z := hw.2.2.1
  refine W.anew hC.1 hC.2.1 hC.2.2.2.1 (hts _ hlk) (va_AO.use hC.2.2.2.2.2.2.1.2.2.2.2.2.1.1) rfl hdg rfl (Int32.not_lt.mpr hn.1) (Nat.le_trans (Nat.mul_le_mul_right 4 hn.2) hb4) hcs.1 (Nat.le_trans (Nat.add_le_add_left hn.2 _) hcs.2) fun cX kA comp f1 f2 f3 f4 => ?_
  obtain ⟨kA', comp', g1, g2, g3, g4⟩ := (hC.2.2.2.2.2.2.1.1.2 4 _ rfl).2
  have hX : cX = cA 4 := by
    first | exact Option.some.inj (f4.symm.trans g4) | exact Option.some.inj (f1.symm.trans g4) | exact Option.some.inj (f2.symm.trans g4) | exact Option.some.inj (f3.symm.trans g4)
  subst hX
  generalize hH1 : H.push ({ cls := cA 4, slots := Array.replicate n.toNatClampNeg .null, vm := .none } : Cell) = H1
  have z1 : H1.size = z + 1 := by rw [← hH1, Array.size_push, hz]
  have e1 : H1[z]? = some (arrV (cA 4) n.toNatClampNeg (fun _ => .null)) := by rw [← hH1, ← hz, Array.getElem?_push_size, ← arrV_new]
  have o1 : ∀ q : Nat, q < z → H1[q]? = H[q]? := fun q hq => by rw [← hH1, Array.getElem?_push, if_neg (by omega)]
  rw [hz]
  refine W.widen (k := cells + 1) (n := slots + b) (Nat.le_refl _) (Nat.add_le_add_left hn.2 _) (kk H1 (zO.push hC.2.2.2.2.2.2.2.1 hw z1 o1 ?_))
  show H1[z]? = _
  rw [e1]
  unfold clr rfv
  simp
theorem r_nwG {n k : Int32} {N b index : Nat} (hC : zC p l s m args meth c cc nL own D cA B0) (hw : zO D cA B0 Γ σ (ZE z) s.heap H locs) (hlk : Cond.classLink own index "[[I" ∈ tbG) (hlk2 : Cond.arrayClass .int ∈ tbG) (hn : 0 ≤ n ∧ 0 ≤ k ∧ n.toNatClampNeg = N ∧ k.toNatClampNeg ≤ b) (hN : N * 4 ≤ 536870912) (hb4 : b * 4 ≤ 536870912) (hcs : cells + (1 + N) ≤ R.cells ∧ slots + (N + N * b) ≤ R.slots) (hdg : decode cc pc = .ok (.multianewarray index 2, 4))
    (kk : ∀ H1, zO D cA B0 (upG Γ z N k.toNatClampNeg) (clrG σ z N) (ZE (z + 1 + N)) s.heap H1 locs → W p l e R s m args below meth c H1 locs (cells + (1 + N)) (slots + (N + N * b)) Q (F0 m (pc + 4) ls (.ref z :: rest))) : W p l e R s m args below meth c H locs cells slots Q (F0 m pc ls (.int k :: .int n :: rest)) := by
  obtain ⟨hn0, hk0, hNn, hkb⟩ := hn
  subst hNn
  have hts := hC.2.2.2.2.1
  have hz : H.size = z := hw.2.2.1
  have hs := hw.2.2.2
  intro T hT Xs
  have hkm : n.toNatClampNeg * k.toNatClampNeg ≤ n.toNatClampNeg * b := Nat.mul_le_mul_left _ hkb
  obtain ⟨vm₁, cX, comp, -, fA, fC, hO, -, X', step⟩ := Xs.multianewarray2F hC.1 hC.2.2.2.1 (ty := .int) (hts _ hlk) hC.2.2.2.2.2.2.1.2.2.2.2.2.1.2 (hts _ hlk2) (g := F0 m pc ls (.int k :: .int n :: rest)) rfl (by rw [hC.2.1]; exact hdg) rfl (Int32.not_lt.mpr hn0) (Int32.not_lt.mpr hk0) hN (Nat.le_trans (Nat.mul_le_mul_right 4 hkb) hb4) (by omega) rfl rfl (by omega) (by omega)
  have e3 : cX = cA 3 := Option.some.inj (fA.symm.trans (hC.2.2.2.2.2.2.1.1.2 3 _ rfl).2)
  have e0 : comp = cA 0 := Option.some.inj (fC.symm.trans (hC.2.2.2.2.2.2.1.1.2 0 _ rfl).2)
  subst e3
  subst e0
  generalize hF : Jvm.Free.Multi.fill (T.setVm vm₁) (cA 3) (cA 0) n.toNatClampNeg k.toNatClampNeg (defaultValue .int) n.toNatClampNeg = F at X' step
  have hTh : (T.setVm vm₁).heap = H := hT
  obtain ⟨f1, f2, -, -⟩ := Jvm.Free.Multi.fill_facts (T.setVm vm₁) (cA 3) (cA 0) n.toNatClampNeg k.toNatClampNeg (defaultValue .int) n.toNatClampNeg
  rw [hF, hTh, hz] at f1 f2
  have hold : ∀ x : Nat, x < z → F.heap[x]? = H[x]? := fun x hx => by
    have := Jvm.Free.Multi.fill_old (T.setVm vm₁) (cA 3) (cA 0) n.toNatClampNeg k.toNatClampNeg (defaultValue .int) (a := x) (by rw [hTh, hz]; exact hx) n.toNatClampNeg
    rw [hF, hTh] at this
    exact this
  have hrow : ∀ j : Nat, j < n.toNatClampNeg → F.heap[z + 1 + j]? = some (arrV (cA 0) k.toNatClampNeg (fun _ => .int 0)) := fun j hj => by
    have := Jvm.Free.Multi.fill_inner (T.setVm vm₁) (cA 3) (cA 0) n.toNatClampNeg k.toNatClampNeg (defaultValue .int) n.toNatClampNeg j hj
    rw [hF, hTh, hz] at this
    rw [this, ← arrV_new]
    rfl
  rw [vr_outer] at f2
  have hcc : cells + 1 + n.toNatClampNeg = cells + (1 + n.toNatClampNeg) := by omega
  have hss : slots + n.toNatClampNeg + n.toNatClampNeg * k.toNatClampNeg ≤ slots + (n.toNatClampNeg + n.toNatClampNeg * b) := by omega
  rw [hcc] at X'
  have hwN : zO D cA B0 (upG Γ z n.toNatClampNeg k.toNatClampNeg) (clrG σ z n.toNatClampNeg) (ZE (z + 1 + n.toNatClampNeg)) s.heap F.heap locs := by
    refine ⟨fun a sh h => ?_, fun a sh h => ?_, f1, by rw [f1]; have := hs.1; omega, fun q h1 h2 => (hold q (by rw [← hz]; exact Nat.lt_of_lt_of_le h1 hs.1)).trans (hs.2.1 q h1 h2), hs.2.2⟩
    · unfold upG at h
      by_cases e9 : a = z
      · rw [if_pos e9] at h
        cases h
        subst e9
        show F.heap[a]? = _
        rw [f2]
        refine congrArg some (arrV_congr fun j hj => ?_)
        rw [if_pos hj]
        unfold clrG
        dsimp only
        rw [if_pos rfl, rfv_ne (by omega)]
        rfl
      · rw [if_neg e9] at h
        by_cases e8 : z < a ∧ a ≤ z + n.toNatClampNeg
        · rw [if_pos e8] at h
          cases h
          show F.heap[a]? = _
          have := hrow (a - z - 1) (by omega)
          rw [show z + 1 + (a - z - 1) = a by omega] at this
          rw [this]
          unfold clrG
          dsimp only
          rw [if_pos ⟨by omega, by omega⟩]
        · rw [if_neg e8] at h
          have h5 := hw.1 a sh h
          have hlt := h5.lt
          exact h5.kept (hold a (by omega)) (if_neg (by omega)) (if_neg e9) rfl
    · unfold upG at h
      have hBz : B0 ≤ z := by rw [← hz]; exact Nat.le_trans hC.2.2.2.2.2.2.2.1 hs.1
      by_cases e9 : a = z
      · rw [e9]; exact hBz
      · rw [if_neg e9] at h
        by_cases e8 : z < a ∧ a ≤ z + n.toNatClampNeg
        · omega
        · rw [if_neg e8] at h
          exact hw.2.1 a sh h
  obtain ⟨t, a1, b1⟩ := kk F.heap hwN F rfl (stand_widen X' (Nat.le_refl _) hss)
  refine ⟨t, step t ?_, b1⟩
  have e : T.heap.size = z := by rw [hT, hz]
  rw [e]
  exact a1
end ZALLOC
