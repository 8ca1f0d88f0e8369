theorem asg_self (vm : Vm) (c : ClassId) : vm.assignable c c = true := by
  show Vm.assignableAux vm (255 + 1) c c = true
  rw [Vm.assignableAux]
  simp
section ZHEAP
variable {p : Program} {l : Launch} {e : Env} {R : Room} {s : State} {m : MethodId} {args : Array Value} {below : List Frame} {meth : Method} {c : Code} {H : Heap} {locs : List Loc} {cells slots : Nat} {Q : State → Prop}
variable {cc : ByteArray} {nL : Nat} {own : String} {pc : Nat} {ls : Array Slot} {rest : List Value} {D : va_G} {cA : Nat → ClassId} {B0 : Nat} {Γ Γ' : zSh} {σ σ' : zSt} {Z Z' : Nat → Prop} {a : Nat}
theorem zO.upd {H0 H1 : Heap} {k : Nat} {sh : Nat × Nat} (hw : zO D cA B0 Γ σ Z H0 H locs) (z : H1.size = H.size) (oq : ∀ q : Nat, q ≠ a → H1[q]? = H[q]?) (h1 : ∀ q, q ≠ a → σ'.1 q = σ.1 q) (h2 : ∀ q, q ≠ a → σ'.2.1 q = σ.2.1 q) (h3 : ∀ q, q ≠ a → σ'.2.2 q = σ.2.2 q) (hg : Γ a = some sh) (ha : zAt D cA σ' H1 a sh) : zO D cA B0 Γ σ' Z H0 H1 (locs ++ [⟨a, k⟩]) :=
  ⟨hw.1.upd oq h1 h2 h3 (fun sh' h => by rw [hg] at h; cases h; exact ha), hw.2.1, by rw [z]; exact hw.2.2.1, hw.2.2.2.put z oq (hw.2.1 a _ hg)⟩
theorem z_getV {ci k index N : Nat} {C : String} {T : u_T} (hC : zC p l s m args meth c cc nL own D cA B0) (hw : zO D cA B0 Γ σ Z s.heap H locs) (hin : ∀ w ∈ u_ws C T N, w ∈ tbG) (ho : Γ a = some (ci + 5, 0)) (hc : kCl[ci]? = some (C, T, N)) (hk : k < N)
    (hlink : Cond.fieldLink own index (T k).1 (T k).2.1 (T k).2.2.1 ∈ tbG) (hdg : decode cc pc = .ok (.getfield index, 3))
    (kk : W p l e R s m args below meth c H locs cells slots Q (F0 m (pc + 3) ls (fldV σ ci a k :: rest))) : W p l e R s m args below meth c H locs cells slots Q (F0 m pc ls (.ref a :: rest)) := by
  obtain ⟨hx, hb, -, hown, hts, -, ⟨hK, -⟩, -⟩ := hC
  obtain ⟨r, h1, cell, q1, q2, q3, q4⟩ := hw.1 a _ ho
  have hr : r = (C, T, N) := Option.some.inj (h1.symm.trans hc)
  subst hr
  obtain ⟨hS, hfc, kC, hkC, hkind⟩ := hK.1 ci _ hc
  obtain ⟨cf, kf, fi, f, hi, hsl⟩ := hS k hk
  refine W.getf hx hb hown (hts _ hlink) hi (u_facts hfc hkC (u_lays hts hin hk) hi).1 q1 (by rw [q3]; exact fun h => by cases h) (v := fldV σ ci a k) ?_ rfl rfl hdg kk
  rw [hsl, q4 k hk]
theorem z_putV {ci k index N : Nat} {C : String} {T : u_T} {v : Value} {ty : FieldType} (hC : zC p l s m args meth c cc nL own D cA B0) (hw : zO D cA B0 Γ σ Z s.heap H locs) (hin : ∀ w ∈ u_ws C T N, w ∈ tbG) (ty0 : Nat → FieldType) (hty : ∀ k, k < N → parseFieldDescriptor (T k).2.2.1 = some (ty0 k)) (hnm : ∀ a, a < N → ∀ b, b < N → a ≠ b → (T a).2.1 ≠ (T b).2.1)
    (ho : Γ a = some (ci + 5, 0)) (hc : kCl[ci]? = some (C, T, N)) (hk : k < N) (hlink : Cond.fieldLink own index (T k).1 (T k).2.1 (T k).2.2.1 ∈ tbG) (hfin : (T k).2.2.2 = false) (hd : parseFieldDescriptor (T k).2.2.1 = some ty) (hn : narrow ty v = v) (hfit : fits ty v = true)
    (h1 : ∀ q, q ≠ a → σ'.1 q = σ.1 q) (h2 : ∀ q, q ≠ a → σ'.2.1 q = σ.2.1 q) (h3 : ∀ q, q ≠ a → σ'.2.2 q = σ.2.2 q) (hv : ∀ j, fldV σ' ci a j = updV (fldV σ ci a) k v j) (hdg : decode cc pc = .ok (.putfield index, 3))
    (kk : ∀ H1 locs1, zO D cA B0 Γ σ' Z s.heap H1 locs1 → W p l e R s m args below meth c H1 locs1 cells slots Q (F0 m (pc + 3) ls rest)) : W p l e R s m args below meth c H locs cells slots Q (F0 m pc ls (v :: .ref a :: rest)) := by
  obtain ⟨hx, hb, -, hown, hts, -, ⟨hK, -⟩, -⟩ := hC
  have hap := va_apart (own := own) hts hin ty0 hty hnm hK hc
  obtain ⟨r, g1, cell, q1, q2, q3, q4⟩ := hw.1 a _ ho
  have hr : r = (C, T, N) := Option.some.inj (g1.symm.trans hc)
  subst hr
  obtain ⟨hS, hfc, kC, hkC, hkind⟩ := hK.1 ci _ hc
  obtain ⟨cf, kf, fi, f, hi, hsl⟩ := hS k hk
  have hlay := hts _ (hin _ (u_in_lay hk))
  unfold u_lay at hlay
  rw [if_neg (by rw [hfin]; decide)] at hlay
  have hst := (u_facts hfc hkC (u_lays hts hin hk) hi).1
  have h6 := u_store hfc hkC hkind hlay hi hd hn hfit
  refine W.putK hx hb (f := f) ⟨hown, hts _ hlink, ⟨_, _, _, hi⟩, hst⟩ (by rw [q2]; exact h6) q1 q3 (by rw [hsl]; exact k2_hasslot (q4 k hk)) rfl rfl hdg fun H' e1 e2 e3 => ?_
  rw [hsl] at e1 ⊢
  exact kk H' _ (hw.upd e2 e3 h1 h2 h3 ho ⟨_, hc, t_OB.to (V := updV (fldV σ ci a) k v) ⟨_, e1, q2, q3, t_set q4 hap hk v⟩ (fun j _ => (hv j).symm)⟩)
theorem z_putF {ci k index N : Nat} {C : String} {T : u_T} {v : Value} {ty : FieldType} (hC : zC p l s m args meth c cc nL own D cA B0) (hw : zO D cA B0 Γ σ Z s.heap H locs) (hin : ∀ w ∈ u_ws C T N, w ∈ tbG) (ty0 : Nat → FieldType) (hty : ∀ k, k < N → parseFieldDescriptor (T k).2.2.1 = some (ty0 k)) (hnm : ∀ a, a < N → ∀ b, b < N → a ≠ b → (T a).2.1 ≠ (T b).2.1)
    (ho : Γ a = some (ci + 5, 0)) (hc : kCl[ci]? = some (C, T, N)) (hk : k < N) (hlink : Cond.fieldLink own index (T k).1 (T k).2.1 (T k).2.2.1 ∈ tbG) (hfin : (T k).2.2.2 = true) (hin2 : meth.name = "<init>") (hdecl : (T k).1 = own) (hd : parseFieldDescriptor (T k).2.2.1 = some ty) (hn : narrow ty v = v) (hfit : fits ty v = true)
    (h1 : ∀ q, q ≠ a → σ'.1 q = σ.1 q) (h2 : ∀ q, q ≠ a → σ'.2.1 q = σ.2.1 q) (h3 : ∀ q, q ≠ a → σ'.2.2 q = σ.2.2 q) (hv : ∀ j, fldV σ' ci a j = updV (fldV σ ci a) k v j) (hdg : decode cc pc = .ok (.putfield index, 3))
    (kk : ∀ H1 locs1, zO D cA B0 Γ σ' Z s.heap H1 locs1 → W p l e R s m args below meth c H1 locs1 cells slots Q (F0 m (pc + 3) ls rest)) : W p l e R s m args below meth c H locs cells slots Q (F0 m pc ls (v :: .ref a :: rest)) := by
  obtain ⟨hx, hb, -, hown, hts, -, ⟨hK, -⟩, -⟩ := hC
  have hap := va_apart (own := own) hts hin ty0 hty hnm hK hc
  obtain ⟨r, g1, cell, q1, q2, q3, q4⟩ := hw.1 a _ ho
  have hr : r = (C, T, N) := Option.some.inj (g1.symm.trans hc)
  subst hr
  obtain ⟨hS, hfc, kC, hkC, hkind⟩ := hK.1 ci _ hc
  obtain ⟨cf, kf, fi, f, hi, hsl⟩ := hS k hk
  have hlay := hts _ (hin _ (u_in_lay hk))
  unfold u_lay at hlay
  rw [if_pos hfin] at hlay
  have hst := (u_facts hfc hkC (u_lays hts hin hk) hi).1
  have hcf : m.cls = cf := by
    obtain ⟨_, _, c', _, _, _, -, -, hf', -, -, -, hown2, -⟩ := Cond.laysFinal_spec hlay
    have e1 : c' = cf := by have := hi.symm.trans hf'; simp at this; exact this.1.symm
    rw [hdecl] at hown2
    rw [← e1]; exact Option.some.inj (hown.symm.trans hown2)
  have h6 := u_fits hfc hkC hkind (Or.inr hlay) hi hd hn hfit
  refine W.putFinK hx hb hown (hts _ hlink) hi hst hcf hin2 (by rw [q2]; exact h6) q1 q3 (by rw [hsl]; exact k2_hasslot (q4 k hk)) rfl rfl hdg fun H' e1 e2 e3 => ?_
  rw [hsl] at e1 ⊢
  exact kk H' _ (hw.upd e2 e3 h1 h2 h3 ho ⟨_, hc, t_OB.to (V := updV (fldV σ ci a) k v) ⟨_, e1, q2, q3, t_set q4 hap hk v⟩ (fun j _ => (hv j).symm)⟩)
theorem fldV_I {c a k : Nat} (h : kK c k = 0) : fldV σ c a k = .int (σ.1 a k) := by unfold fldV; rw [h]; rfl
theorem fldV_L {c a k : Nat} (h : kK c k = 2) : fldV σ c a k = .long (σ.2.2 a k) := by unfold fldV; rw [h]; rfl
theorem fldV_R {c a k : Nat} (h : kK c k = 1) : fldV σ c a k = rfv (σ.2.1 a k) := by unfold fldV; rw [h]; rfl
theorem fld_stI {c k : Nat} {v : Int32} (h : kK c k = 0) (j : Nat) : fldV (stI0 σ a k v) c a j = updV (fldV σ c a) k (.int v) j := by
  unfold updV
  by_cases e : j = k
  · subst e
    rw [if_pos rfl, fldV_I h]
    show Value.int (up2 σ.1 a j v a j) = _
    rw [up2_at]
  · rw [if_neg e]
    unfold fldV stI0
    dsimp only
    have : up2 σ.1 a k v a j = σ.1 a j := if_neg (fun q => e q.2)
    rw [this]
theorem fld_stL {c k : Nat} {v : Int64} (h : kK c k = 2) (j : Nat) : fldV (stL0 σ a k v) c a j = updV (fldV σ c a) k (.long v) j := by
  unfold updV
  by_cases e : j = k
  · subst e
    rw [if_pos rfl, fldV_L h]
    show Value.long (up2 σ.2.2 a j v a j) = _
    rw [up2_at]
  · rw [if_neg e]
    unfold fldV stL0
    dsimp only
    have : up2 σ.2.2 a k v a j = σ.2.2 a j := if_neg (fun q => e q.2)
    rw [this]
theorem fld_stR {c k v : Nat} (h : kK c k = 1) (hv : v ≠ 0) (j : Nat) : fldV (stR0 σ a k v) c a j = updV (fldV σ c a) k (.ref v) j := by
  unfold updV
  by_cases e : j = k
  · subst e
    rw [if_pos rfl, fldV_R h]
    show rfv (up2 σ.2.1 a j v a j) = _
    rw [up2_at, rfv_ne hv]
  · rw [if_neg e]
    unfold fldV stR0
    dsimp only
    have : up2 σ.2.1 a k v a j = σ.2.1 a j := if_neg (fun q => e q.2)
    rw [this]
theorem z_iald {i : Int32} (hC : zC p l s m args meth c cc nL own D cA B0) (hw : zO D cA B0 Γ σ Z s.heap H locs) (hin : inb i (zln Γ 0 a) = true) (hdg : decode cc pc = .ok (.iaload, 1))
    (kk : W p l e R s m args below meth c H locs cells slots Q (F0 m (pc + 1) ls (.int (σ.1 a i.toNatClampNeg) :: rest))) : W p l e R s m args below meth c H locs cells slots Q (F0 m pc ls (.int i :: .ref a :: rest)) := by
  have hv := inb_in hin
  exact W.iald (v := .int (σ.1 a i.toNatClampNeg)) hC.1 hC.2.1 (hw.1 a _ (zln_sh hin)) ((hC.2.2.2.2.2.2.1.1.2 0 _ rfl).1 _ _) (fun q => by cases q) (by rw [arrV_size]; exact hv) (by rw [arrV_read _ _ (Nat.not_le.mp fun q => hv (Or.inr q))]) rfl rfl hdg kk
theorem z_zald {i : Int32} (hC : zC p l s m args meth c cc nL own D cA B0) (hw : zO D cA B0 Γ σ Z s.heap H locs) (hin : inb i (zln Γ 1 a) = true) (hdg : decode cc pc = .ok (.baload, 1))
    (kk : W p l e R s m args below meth c H locs cells slots Q (F0 m (pc + 1) ls (.int (σ.1 a i.toNatClampNeg) :: rest))) : W p l e R s m args below meth c H locs cells slots Q (F0 m pc ls (.int i :: .ref a :: rest)) := by
  have hv := inb_in hin
  exact W.zald (v := .int (σ.1 a i.toNatClampNeg)) hC.1 hC.2.1 (hw.1 a _ (zln_sh hin)) ((hC.2.2.2.2.2.2.1.1.2 1 _ rfl).1 _ _) (fun q => by cases q) (by rw [arrV_size]; exact hv) (by rw [arrV_read _ _ (Nat.not_le.mp fun q => hv (Or.inr q))]) rfl rfl hdg kk
theorem z_gald {i : Int32} (hC : zC p l s m args meth c cc nL own D cA B0) (hw : zO D cA B0 Γ σ Z s.heap H locs) (hin : inb i (zln Γ 3 a) = true ∧ σ.2.1 a i.toNatClampNeg ≠ 0) (hdg : decode cc pc = .ok (.aaload, 1))
    (kk : W p l e R s m args below meth c H locs cells slots Q (F0 m (pc + 1) ls (.ref (σ.2.1 a i.toNatClampNeg) :: rest))) : W p l e R s m args below meth c H locs cells slots Q (F0 m pc ls (.int i :: .ref a :: rest)) := by
  have hv := inb_in hin.1
  exact W.aald (v := .ref (σ.2.1 a i.toNatClampNeg)) (ty := .array .int) hC.1 hC.2.1 (hw.1 a _ (zln_sh hin.1)) ((hC.2.2.2.2.2.2.1.1.2 3 _ rfl).1 _ _) rfl (fun q => by cases q) (by rw [arrV_size]; exact hv) (by rw [arrV_read _ _ (Nat.not_le.mp fun q => hv (Or.inr q)), rfv_ne hin.2]) rfl rfl hdg kk
theorem z_aald {i : Int32} (hC : zC p l s m args meth c cc nL own D cA B0) (hw : zO D cA B0 Γ σ Z s.heap H locs) (hin : inb i (zln Γ 4 a) = true ∧ σ.2.1 a i.toNatClampNeg ≠ 0) (hdg : decode cc pc = .ok (.aaload, 1))
    (kk : W p l e R s m args below meth c H locs cells slots Q (F0 m (pc + 1) ls (.ref (σ.2.1 a i.toNatClampNeg) :: rest))) : W p l e R s m args below meth c H locs cells slots Q (F0 m pc ls (.int i :: .ref a :: rest)) := by
  have hv := inb_in hin.1
  exact W.aald (v := .ref (σ.2.1 a i.toNatClampNeg)) (ty := .object RX0) hC.1 hC.2.1 (hw.1 a _ (zln_sh hin.1)) ((hC.2.2.2.2.2.2.1.1.2 4 _ rfl).1 _ _) rfl (fun q => by cases q) (by rw [arrV_size]; exact hv) (by rw [arrV_read _ _ (Nat.not_le.mp fun q => hv (Or.inr q)), rfv_ne hin.2]) rfl rfl hdg kk
theorem updI_at {f : Nat → Nat → Int32} {k : Nat} {v : Int32} : updV (fun j => .int (f a j)) k (.int v) = fun j => Value.int (up2 f a k v a j) := by
  funext j
  unfold updV up2
  by_cases e : j = k <;> simp [e]
theorem updL_at {f : Nat → Nat → Int64} {k : Nat} {v : Int64} : updV (fun j => .long (f a j)) k (.long v) = fun j => Value.long (up2 f a k v a j) := by
  funext j
  unfold updV up2
  by_cases e : j = k <;> simp [e]
theorem updR_at {f : Nat → Nat → Nat} {k v : Nat} (hv : v ≠ 0) : updV (fun j => rfv (f a j)) k (.ref v) = fun j => rfv (up2 f a k v a j) := by
  funext j
  unfold updV up2
  by_cases e : j = k
  · simp [e, rfv_ne hv]
  · simp [e]
theorem z_iast {i x : Int32} (hC : zC p l s m args meth c cc nL own D cA B0) (hw : zO D cA B0 Γ σ Z s.heap H locs) (hin : inb i (zln Γ 0 a) = true) (hdg : decode cc pc = .ok (.iastore, 1))
    (kk : ∀ H1 locs1, zO D cA B0 Γ (stI0 σ a i.toNatClampNeg x) Z s.heap H1 locs1 → W p l e R s m args below meth c H1 locs1 cells slots Q (F0 m (pc + 1) ls rest)) : W p l e R s m args below meth c H locs cells slots Q (F0 m pc ls (.int x :: .int i :: .ref a :: rest)) := by
  have hv := inb_in hin
  have hg := zln_sh hin
  refine W.iast hC.1 hC.2.1 (hw.1 a _ hg) ((hC.2.2.2.2.2.2.1.1.2 0 _ rfl).1 _ _) (fun q => by cases q) (by rw [arrV_size]; exact hv) rfl rfl hdg fun H1 e z oq => ?_
  refine kk H1 _ (hw.upd z oq (fun q h => up2_ne h) (fun q h => rfl) (fun q h => rfl) hg ?_)
  rw [arrV_store, updI_at] at e
  exact e
theorem z_zast {i x : Int32} (hC : zC p l s m args meth c cc nL own D cA B0) (hw : zO D cA B0 Γ σ Z s.heap H locs) (hin : inb i (zln Γ 1 a) = true ∧ isB x = true) (hdg : decode cc pc = .ok (.bastore, 1))
    (kk : ∀ H1 locs1, zO D cA B0 Γ (stI0 σ a i.toNatClampNeg x) Z s.heap H1 locs1 → W p l e R s m args below meth c H1 locs1 cells slots Q (F0 m (pc + 1) ls rest)) : W p l e R s m args below meth c H locs cells slots Q (F0 m pc ls (.int x :: .int i :: .ref a :: rest)) := by
  have hv := inb_in hin.1
  have hg := zln_sh hin.1
  refine W.zast hC.1 hC.2.1 (hw.1 a _ hg) ((hC.2.2.2.2.2.2.1.1.2 1 _ rfl).1 _ _) (fun q => by cases q) (by rw [arrV_size]; exact hv) rfl rfl hdg fun H1 e z oq => ?_
  refine kk H1 _ (hw.upd z oq (fun q h => up2_ne h) (fun q h => rfl) (fun q h => rfl) hg ?_)
  rw [(isB_n hin.2).1, arrV_store, updI_at] at e
  exact e
theorem zln_pos {t v : Nat} (h : 0 < zln Γ t v) : Γ v = some (t, zln Γ t v) := by
  unfold zln at h ⊢
  cases hq : Γ v with
  | none => rw [hq] at h; exact absurd h (by simp)
  | some q =>
    obtain ⟨t', n⟩ := q
    rw [hq] at h
    by_cases e : t' = t
    · subst e; simp
    · simp [e] at h
theorem z_gast {i : Int32} {x : Nat} (hC : zC p l s m args meth c cc nL own D cA B0) (hw : zO D cA B0 Γ σ Z s.heap H locs) (hx0 : x ≠ 0) (hin : inb i (zln Γ 3 a) = true ∧ 0 < zln Γ 0 x) (hdg : decode cc pc = .ok (.aastore, 1))
    (kk : ∀ H1 locs1, zO D cA B0 Γ (stR0 σ a i.toNatClampNeg x) Z s.heap H1 locs1 → W p l e R s m args below meth c H1 locs1 cells slots Q (F0 m (pc + 1) ls rest)) : W p l e R s m args below meth c H locs cells slots Q (F0 m pc ls (.ref x :: .int i :: .ref a :: rest)) := by
  have hv := inb_in hin.1
  have hg := zln_sh hin.1
  have hgx : H[x]? = some (arrV (cA 0) _ _) := hw.1 x _ (zln_pos hin.2)
  obtain ⟨kA, k0, g1, g2, g3⟩ := hC.2.2.2.2.2.2.1.2.2.2.2.1
  refine W.aast hC.1 hC.2.1 (hw.1 a _ hg) (fun q h => by cases h) (fun h => by cases h) g1 g2 rfl g3 ⟨fun q => hv (Or.inl q), by rw [arrV_size]; exact Nat.not_le.mp fun q => hv (Or.inr q)⟩ hgx (fun q h => by cases h) g3 (asg_self _ _) rfl rfl hdg fun H1 e z oq => ?_
  refine kk H1 _ (hw.upd z oq (fun q h => rfl) (fun q h => up2_ne h) (fun q h => rfl) hg ?_)
  rw [arrV_store, updR_at hx0] at e
  exact e
theorem z_aast {i : Int32} {x : Nat} (hC : zC p l s m args meth c cc nL own D cA B0) (hw : zO D cA B0 Γ σ Z s.heap H locs) (hx0 : x ≠ 0) (hin : inb i (zln Γ 4 a) = true ∧ isO Γ x 0 = true) (hdg : decode cc pc = .ok (.aastore, 1))
    (kk : ∀ H1 locs1, zO D cA B0 Γ (stR0 σ a i.toNatClampNeg x) Z s.heap H1 locs1 → W p l e R s m args below meth c H1 locs1 cells slots Q (F0 m (pc + 1) ls rest)) : W p l e R s m args below meth c H locs cells slots Q (F0 m pc ls (.ref x :: .int i :: .ref a :: rest)) := by
  have hv := inb_in hin.1
  have hg := zln_sh hin.1
  have hK := hC.2.2.2.2.2.2.1.1
  obtain ⟨r, h1, cellV, g1, g2, g3, -⟩ := hw.1 x _ (isO_sh hin.2)
  have hr : r = (RX0, TX0, 4) := (Option.some.inj h1).symm
  subst hr
  have hcls := (hK.1 0 _ rfl).2
  obtain ⟨kA, comp, k1, k2, k3, -⟩ := (hK.2 4 _ rfl).2
  have hcomp : comp = D.1 0 := Option.some.inj (k3.symm.trans hcls.1)
  subst hcomp
  obtain ⟨kC, hkC, -⟩ := hcls.2
  refine W.aast hC.1 hC.2.1 (hw.1 a _ hg) (fun q h => by cases h) (fun h => by cases h) k1 k2 rfl hkC ⟨fun q => hv (Or.inl q), by rw [arrV_size]; exact Nat.not_le.mp fun q => hv (Or.inr q)⟩ g1 (fun q h => by rw [g3] at h; cases h) (by rw [g2]; exact hkC) (by rw [g2]; exact va_assign hcls) rfl rfl hdg fun H1 e z oq => ?_
  refine kk H1 _ (hw.upd z oq (fun q h => rfl) (fun q h => up2_ne h) (fun q h => rfl) hg ?_)
  rw [arrV_store, updR_at hx0] at e
  exact e
end ZHEAP
