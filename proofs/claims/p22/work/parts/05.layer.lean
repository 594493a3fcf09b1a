-- THE LAYER: contracts over a heap that is named, cells by their addresses
abbrev GG : Type := va_G × (Nat → ClassId)
abbrev vtys (g : GG) : List (ClassId × FieldType) := [(g.2 0, .int), (g.2 1, .boolean), (g.2 2, .object "BranchPress$Line"), (g.2 3, .object "BranchPress$Row"), (g.2 4, .object "BranchPress$Item"), (g.2 5, .array .int), (g.2 6, .array (.array .int))]
/-- arrays over an array type have been made -/
def XA (t : FieldType) (U : State) : Prop := (Cond.arrayOver (.array t)).before #[] U = true
theorem XA.moved {t : FieldType} {u U : State} (hvm : u.vm.Alike U.vm) (h : XA t u) : XA t U := by
  obtain ⟨comp, c, k, h1, h2, h3, h4, h5⟩ := arrayOverA_spec h
  obtain ⟨k', hk', he⟩ := hvm.2.2 _ _ h3
  have hi : (U.vm.classes.findIdx? fun (x : Class) => match x.kind with | .array component _ => component == comp | _ => false) = some c := by
    rw [hvm.findIdx?_eq _ (fun _ => rfl)]
    exact h2
  have hkind : k'.kind = .array comp (.array t) := by rw [he]; exact h4
  have f1 : U.vm.findClass (FieldType.array t).toString = some comp := by rw [hvm.findClass]; exact h1
  have f2 : U.vm.findClass ("[" ++ (FieldType.array t).toString) = some c := by rw [hvm.findClass]; exact h5
  unfold XA Cond.before Cond.holds
  simp only [Cond.value]
  rw [f1, Option.bind_some]
  refine (congrArg (fun o : Option Nat => (o.bind (fun c => (U.vm.classes[c]?).map fun (k : Class) => match k.kind with | .array _ ty => decide (ty = FieldType.array t) && decide (U.vm.findClass ("[" ++ (FieldType.array t).toString) = some c) | _ => false) == some true)) hi).trans ?_
  simp [hk', hkind, f2]
/-- what else the tables say, that is no word of LW: the arrays of objects, the private constructor called by a nest mate -/
def KX (U : State) : Prop := va_AO "BranchPress$Row" U ∧ va_AO "BranchPress$Line" U ∧ va_AO "BranchPress$Item" U ∧ va_Nw (.methodLinkNest R_Items 17 y_Item_init "BranchPress") U ∧ va_Nw (.methodLinkNest R_Assembly 56 y_Expander_expandRow "BranchPress") U ∧ va_Nw (.methodLinkNest R_Press 41 y_Law_cell "BranchPressLaw") U ∧ va_Nw (.methodLinkNest R_Press 47 y_Law_below "BranchPressLaw") U ∧ XA .int U ∧ XA (.array .int) U
theorem KX.moved {s U : State} (hW : s.WarmedH U.vm) (h : KX s) : KX U := ⟨va_AO.moved hW.alike h.1, va_AO.moved hW.alike h.2.1, va_AO.moved hW.alike h.2.2.1, va_Nw.warmM hW h.2.2.2.1, va_Nw.warmM hW h.2.2.2.2.1, va_Nw.warmM hW h.2.2.2.2.2.1, va_Nw.warmM hW h.2.2.2.2.2.2.1, h.2.2.2.2.2.2.2.1.moved hW.alike, h.2.2.2.2.2.2.2.2.moved hW.alike⟩
theorem KX.same {s U : State} (hv : s.vm = U.vm) (h : KX s) : KX U := ⟨va_AO.moved (hv ▸ Vm.Alike.refl _) h.1, va_AO.moved (hv ▸ Vm.Alike.refl _) h.2.1, va_AO.moved (hv ▸ Vm.Alike.refl _) h.2.2.1, va_Nw.same rfl hv h.2.2.2.1, va_Nw.same rfl hv h.2.2.2.2.1, va_Nw.same rfl hv h.2.2.2.2.2.1, va_Nw.same rfl hv h.2.2.2.2.2.2.1, h.2.2.2.2.2.2.2.1.moved (hv ▸ Vm.Alike.refl _), h.2.2.2.2.2.2.2.2.moved (hv ▸ Vm.Alike.refl _)⟩
def KK (g : GG) (U : State) : Prop := va_K g.1 vwCl (vtys g) U ∧ KX U
theorem KK.moved {g : GG} {s U : State} (hW : s.WarmedH U.vm) (h : KK g s) : KK g U := ⟨va_K.moved hW.alike h.1, h.2.moved hW⟩
theorem KK.same {g : GG} {s U : State} (hv : s.vm = U.vm) (h : KK g s) : KK g U := ⟨va_K.moved (hv ▸ Vm.Alike.refl _) h.1, h.2.same hv⟩
def pt (g : GG) (a : Nat) (e : va_E) (H : Heap) : Prop := va_at g.1 vwCl (a, e) H
def chg (a : Nat) (H H1 : Heap) : Prop := H1.size = H.size ∧ ∀ q : Nat, q ≠ a → H1[q]? = H[q]?
def grow (H H1 : Heap) : Prop := H1.size = H.size + 1 ∧ ∀ q : Nat, q < H.size → H1[q]? = H[q]?
def fr (A : Nat → Prop) (H H1 : Heap) : Prop := H.size ≤ H1.size ∧ ∀ q : Nat, q < H.size → ¬ A q → H1[q]? = H[q]?
theorem pt.kept {g : GG} {a : Nat} {e : va_E} {H H1 : Heap} (h : pt g a e H) (hq : H1[a]? = H[a]?) : pt g a e H1 := va_at.kept (q := (a, e)) h hq
theorem pt.lt {g : GG} {a : Nat} {e : va_E} {H : Heap} (h : pt g a e H) : a < H.size := va_at.lt (q := (a, e)) h
theorem pt.off {g : GG} {a b : Nat} {e : va_E} {H H1 : Heap} (h : pt g b e H) (hc : chg a H H1) (hn : b ≠ a) : pt g b e H1 := h.kept (hc.2 b hn)
theorem pt.fr {g : GG} {b : Nat} {e : va_E} {A : Nat → Prop} {H H1 : Heap} (h : pt g b e H) (hc : fr A H H1) (hn : ¬ A b) : pt g b e H1 := h.kept (hc.2 b h.lt hn)
theorem pt.grow {g : GG} {b : Nat} {e : va_E} {H H1 : Heap} (h : pt g b e H) (hc : grow H H1) : pt g b e H1 := h.kept (hc.2 b h.lt)
theorem fr.rf {A : Nat → Prop} {H : Heap} : fr A H H := ⟨Nat.le_refl _, fun _ _ _ => rfl⟩
theorem fr.tr {A : Nat → Prop} {H H1 H2 : Heap} (h : fr A H H1) (h2 : fr A H1 H2) : fr A H H2 := ⟨Nat.le_trans h.1 h2.1, fun q a b => (h2.2 q (Nat.lt_of_lt_of_le a h.1) b).trans (h.2 q a b)⟩
theorem fr.of_chg {A : Nat → Prop} {a : Nat} {H H1 : Heap} (h : chg a H H1) (ha : A a) : fr A H H1 := ⟨Nat.le_of_eq h.1.symm, fun q _ b => h.2 q (fun e => b (e ▸ ha))⟩
theorem fr.mono {A B : Nat → Prop} {H H1 : Heap} (h : fr A H H1) (hab : ∀ q, q < H.size → A q → B q) : fr B H H1 := ⟨h.1, fun q a b => h.2 q a (fun z => b (hab q a z))⟩
theorem fr.of_grow {A : Nat → Prop} {H H1 : Heap} (h : grow H H1) : fr A H H1 := ⟨by rw [h.1]; exact Nat.le_succ _, fun q a _ => h.2 q a⟩
/-- an array of numbers whose places agree below its length -/
theorem arrV_ext {cA : ClassId} {n : Nat} {f f' : Nat → Value} (h : ∀ i, i < n → f i = f' i) : arrV cA n f = arrV cA n f' := by
  unfold arrV
  congr 1
  apply Array.ext
  · simp
  · intro i h1 h2
    simp at h1
    simp [h i h1]
theorem pt.arrI {g : GG} {a n : Nat} {cA : ClassId} {f f' : Nat → Int32} {H : Heap} (h : pt g a (.inl (cA, n, .inl f)) H) (e : ∀ i, i < n → f i = f' i) : pt g a (.inl (cA, n, .inl f')) H := by
  have h1 : H[a]? = some (vp_cell cA (n, .inl f)) := h
  show H[a]? = some (vp_cell cA (n, .inl f'))
  rw [h1, vp_cell_i, vp_cell_i, arrV_ext (fun i hi => by rw [e i hi])]
theorem pt.arrQ {g : GG} {a n : Nat} {cA : ClassId} {f f' : Nat → Option Nat} {H : Heap} (h : pt g a (.inl (cA, n, .inr (.inr (.inr (.inr f))))) H) (e : ∀ i, i < n → f i = f' i) : pt g a (.inl (cA, n, .inr (.inr (.inr (.inr f'))))) H := by
  have h1 : H[a]? = some (vp_cell cA (n, .inr (.inr (.inr (.inr f))))) := h
  show H[a]? = some (vp_cell cA (n, .inr (.inr (.inr (.inr f')))))
  rw [h1, vp_cell_q, vp_cell_q, arrV_ext (fun i hi => by rw [e i hi])]
def rmK (lv mc ms : Nat) : Room := { frames := lv, cells := mc, slots := ms, locals := 40 * lv }
abbrev AA (A : Nat → Prop) (H0 : Heap) : Nat → Prop := fun q => A q ∨ H0.size ≤ q
def QM (v0 : Option Value) (Pq : Heap → Prop) (A : Nat → Prop) (H0 : Heap) : Array Value → State → Outcome → State → Prop := fun _ _ o t => o = .returned v0 ∧ Pq t.heap ∧ fr A H0 t.heap
/-- the contract of a method: from the heap H0 with these arguments it answers v0, Pq of the heap then; of the old cells A alone may have changed -/
def MM (l : Launch) (y : MethodName) (cc : ByteArray) (n : Nat) (ret : Option FieldType) (lv mc ms : Nat) (g : GG) (H0 : Heap) (as : List Value) (A : Nat → Prop) (v0 : Option Value) (Pq : Heap → Prop) : Prop :=
  Met l y (mws y cc n ret) (rmK lv mc ms) (fun v U => v = as.toArray ∧ KK g U ∧ U.heap = H0) (QM v0 Pq A H0) mc ms (AA A H0)
abbrev noA : Nat → Prop := fun _ => False
/-- a method that reads alone: its answer, and the heap as it was -/
abbrev MP (l : Launch) (y : MethodName) (cc : ByteArray) (n : Nat) (ret : Option FieldType) (lv : Nat) (g : GG) (H0 : Heap) (as : List Value) (v0 : Option Value) : Prop := MM l y cc n ret lv 0 0 g H0 as noA v0 (fun H1 => H1 = H0)
def CX (g : GG) (p : Program) (s : State) (m : MethodId) (args : Array Value) (meth : Method) (c : Code) (cc : ByteArray) (nL : Nat) (ret : Option FieldType) (own nm : String) : Prop :=
  p.tables.exec = Jvm.exec ∧ c.code = cc ∧ meth.sig.returnType = ret ∧ c.maxLocals = nL ∧ s.vm.findClass own = some m.cls ∧ meth.locks = false ∧ (∀ w ∈ LW, w.before args s = true) ∧ KK g s ∧ meth.name = nm
section LAY
variable {g : GG} {p : Program} {l : Launch} {e : Env} {R : Room} {s : State} {m : MethodId} {args : Array Value} {below : List Frame} {meth : Method} {c : Code} {H : Heap} {locs : List Loc} {cells slots : Nat} {Q : State → Prop}
variable {cc : ByteArray} {nL : Nat} {ret : Option FieldType} {own nm C : String}
theorem CX.x (X : CX g p s m args meth c cc nL ret own nm) : p.tables.exec = Jvm.exec := X.1
theorem CX.b (X : CX g p s m args meth c cc nL ret own nm) : c.code = cc := X.2.1
theorem CX.r (X : CX g p s m args meth c cc nL ret own nm) : meth.sig.returnType = ret := X.2.2.1
theorem CX.ml (X : CX g p s m args meth c cc nL ret own nm) : c.maxLocals = nL := X.2.2.2.1
theorem CX.wn (X : CX g p s m args meth c cc nL ret own nm) : s.vm.findClass own = some m.cls := X.2.2.2.2.1
theorem CX.locks (X : CX g p s m args meth c cc nL ret own nm) : meth.locks = false := X.2.2.2.2.2.1
theorem CX.ts (X : CX g p s m args meth c cc nL ret own nm) : ∀ w ∈ LW, w.before args s = true := X.2.2.2.2.2.2.1
theorem CX.K (X : CX g p s m args meth c cc nL ret own nm) : va_K g.1 vwCl (vtys g) s := X.2.2.2.2.2.2.2.1.1
theorem CX.kx (X : CX g p s m args meth c cc nL ret own nm) : KK g s := X.2.2.2.2.2.2.2.1
theorem CX.mn (X : CX g p s m args meth c cc nL ret own nm) : meth.name = nm := X.2.2.2.2.2.2.2.2
theorem MM.of {y : MethodName} {n : Nat} {lv mc ms : Nat} {H0 : Heap} {as : List Value} {A : Nat → Prop} {v0 : Option Value} {Pq : Heap → Prop} (hy : plainName y.cls = true) (hn : (lg_sl as).length ≤ n)
    (body : ∀ (p : Program) (e : Env) (s : State) (m : MethodId) (below : List Frame) (meth : Method) (c : Code), CX g p s m as.toArray meth c cc n ret y.cls y.name → s.heap = H0 → ∀ ls, lv_has ls n (lv_args 0 as) →
      W p l e (rmK lv mc ms) s m as.toArray below meth c H0 [] 0 0 (MQ below (QM v0 Pq A H0) as.toArray s mc ms (AA A H0)) (F0 m 0 ls [])) : MM l y cc n ret lv mc ms g H0 as A v0 Pq := by
  refine Met.ofW (cc := cc) (maxL := n) (ret := ret) hy rfl ?_
  intro p e s m args below meth c s₁ B hml hv
  obtain ⟨rfl, hK, hH⟩ := hv
  have hts := atoms_spec (ws := mws y cc n ret) B.pre
  have hl := lv_entry as (n := n) hn
  rw [lg_entry_eq, hH]
  exact body p e s m below meth c ⟨B.exec, B.bytes, B.returns, hml, findClass_of_methodNamed B.named, B.notSynchronized, fun w h => hts w (List.mem_cons_of_mem _ h), hK, (name_of_methodNamed B.named B.method).1⟩ hH _ hl
def clsOK (C : String) (T : u_T) (N ci : Nat) (ty : Nat → FieldType) : Prop :=
  vwCl[ci]? = some (C, T, N) ∧ (∀ w ∈ u_ws C T N, w ∈ LW) ∧ (∀ k, k < N → parseFieldDescriptor (T k).2.2.1 = some (ty k)) ∧ (∀ a, a < N → ∀ b, b < N → a ≠ b → (T a).2.1 ≠ (T b).2.1) ∧ ∀ k, k < N → (T k).1 = C
variable {pc : Nat} {ls : Array Slot} {rest : List Value} {a : Nat}
theorem p1 {g : GG} {a : Nat} {e : va_E} {H : Heap} (h : pt g a e H) : va_P g.1 vwCl [(a, e)] H := by
  intro k q hq
  match k, hq with
  | 0, hq => cases hq; exact h
  | k + 1, hq => simp at hq
theorem m_get (X : CX g p s m args meth c cc nL ret own nm) {C : String} {T : u_T} {N ci index : Nat} {ty : Nat → FieldType} (ok : clsOK C T N ci ty) {fs : List Value} (q : pt g a (.inr (ci, fs)) H) (k : Nat) (hk : k < N) (hlink : Cond.fieldLink own index C (T k).2.1 (T k).2.2.1 ∈ LW) {v : Value} (hv : fs[k]? = some v) (hdg : decode cc pc = .ok (.getfield index, 3))
    (kk : W p l e R s m args below meth c H locs cells slots Q (F0 m (pc + 3) ls (v :: rest))) : W p l e R s m args below meth c H locs cells slots Q (F0 m pc ls (.ref a :: rest)) :=
  va_get X.x X.b X.ts ok.2.1 X.wn X.K (p1 q) 0 rfl ok.1 k hk (X.ts _ hlink) (fun _ h => by rw [← ok.2.2.2.2 k hk]; exact h) hv hdg kk
theorem m_put (X : CX g p s m args meth c cc nL ret own nm) {C : String} {T : u_T} {N ci index : Nat} {ty0 : Nat → FieldType} (ok : clsOK C T N ci ty0) {A : Nat → Prop} {H0 : Heap} (hS0 : va_S A H0 H locs) (hA : A a) {fs : List Value} (q : pt g a (.inr (ci, fs)) H) (k : Nat) (hk : k < N) (hlink : Cond.fieldLink own index C (T k).2.1 (T k).2.2.1 ∈ LW) (hfin : (T k).2.2.2 = false) {ty : FieldType} {v : Value} (hd : parseFieldDescriptor (T k).2.2.1 = some ty) (hn : narrow ty v = v) (hfit : fits ty v = true) (hl : k < fs.length) (hdg : decode cc pc = .ok (.putfield index, 3))
    (kk : ∀ (H1 : Heap) (locs1 : List Loc), pt g a (.inr (ci, fs.set k v)) H1 → chg a H H1 → va_S A H0 H1 locs1 → W p l e R s m args below meth c H1 locs1 cells slots Q (F0 m (pc + 3) ls rest)) : W p l e R s m args below meth c H locs cells slots Q (F0 m pc ls (v :: .ref a :: rest)) := by
  have hap := va_apart (own := own) X.ts ok.2.1 ty0 ok.2.2.1 ok.2.2.2.1 X.K ok.1
  obtain ⟨r, h1, cell, q1, q2, q3, q4⟩ := q
  have hr : r = (C, T, N) := Option.some.inj (h1.symm.trans ok.1)
  subst hr
  obtain ⟨hS, hfc, kC, hkC, hkind⟩ := X.K.1 ci _ ok.1
  obtain ⟨cf, kf, fi, f, hi, hsl⟩ := hS k hk
  have hlay := X.ts _ (ok.2.1 _ (u_in_lay hk))
  unfold u_lay at hlay
  rw [if_neg (by rw [hfin]; decide)] at hlay
  have hst := (u_facts hfc hkC (u_lays X.ts ok.2.1 hk) hi).1
  have h6 := u_store hfc hkC hkind hlay hi hd hn hfit
  have hi' := hi
  rw [ok.2.2.2.2 k hk] at hi'
  refine W.putK X.x X.b (f := f) ⟨X.wn, X.ts _ hlink, ⟨_, _, _, hi'⟩, hst⟩ (by rw [q2]; exact h6) q1 q3 (by rw [hsl]; exact k2_hasslot (q4 k hk)) rfl rfl hdg fun H' e1 e2 e3 => ?_
  rw [hsl] at e1 ⊢
  exact kk H' _ ⟨_, ok.1, t_OB.to (V := updV (vp_V fs) k v) ⟨_, e1, q2, q3, t_set q4 hap hk v⟩ (fun j _ => vp_updV_set hl v j)⟩ ⟨e2, e3⟩ (hS0.put e2 e3 hA)
theorem m_iald (X : CX g p s m args meth c cc nL ret own nm) {n : Nat} {f : Nat → Int32} (q : pt g a (.inl (g.2 0, n, .inl f)) H) {i : Int32} (hin : vp_in i n) (hdg : decode cc pc = .ok (.iaload, 1))
    (kk : W p l e R s m args below meth c H locs cells slots Q (F0 m (pc + 1) ls (.int (f i.toNatClampNeg) :: rest))) : W p l e R s m args below meth c H locs cells slots Q (F0 m pc ls (.int i :: .ref a :: rest)) :=
  va_iald X.x X.b X.K (p1 q) 0 0 rfl rfl hin hdg kk
theorem m_zald (X : CX g p s m args meth c cc nL ret own nm) {n : Nat} {f : Nat → Int32} (q : pt g a (.inl (g.2 1, n, .inl f)) H) {i : Int32} (hin : vp_in i n) (hdg : decode cc pc = .ok (.baload, 1))
    (kk : W p l e R s m args below meth c H locs cells slots Q (F0 m (pc + 1) ls (.int (f i.toNatClampNeg) :: rest))) : W p l e R s m args below meth c H locs cells slots Q (F0 m pc ls (.int i :: .ref a :: rest)) :=
  va_zald X.x X.b X.K (p1 q) 0 1 rfl rfl hin hdg kk
theorem m_qald (X : CX g p s m args meth c cc nL ret own nm) (t0 : Nat) {C : String} {cA : ClassId} {n : Nat} {f : Nat → Option Nat} (ht : (vtys g)[t0]? = some (cA, .object C)) (q : pt g a (.inl (cA, n, .inr (.inr (.inr (.inr f))))) H) {i : Int32} (hin : vp_in i n) {v : Value} (hv : va_rf (f i.toNatClampNeg) = v) (hdg : decode cc pc = .ok (.aaload, 1))
    (kk : W p l e R s m args below meth c H locs cells slots Q (F0 m (pc + 1) ls (v :: rest))) : W p l e R s m args below meth c H locs cells slots Q (F0 m pc ls (.int i :: .ref a :: rest)) := by
  subst hv
  exact va_aldq X.x X.b X.K (p1 q) 0 t0 rfl ht hin hdg kk
theorem m_alen (X : CX g p s m args meth c cc nL ret own nm) (t0 : Nat) {cA : ClassId} {x : vp_A} {ty : FieldType} (ht : (vtys g)[t0]? = some (cA, ty)) (q : pt g a (.inl (cA, x)) H) {v : Int32} (hv : Int32.ofNat x.1 = v) (hdg : decode cc pc = .ok (.arraylength, 1))
    (kk : W p l e R s m args below meth c H locs cells slots Q (F0 m (pc + 1) ls (.int v :: rest))) : W p l e R s m args below meth c H locs cells slots Q (F0 m pc ls (.ref a :: rest)) :=
  va_alen X.x X.b X.K (p1 q) 0 t0 rfl ht hv hdg kk
theorem m_iast (X : CX g p s m args meth c cc nL ret own nm) {A : Nat → Prop} {H0 : Heap} (hS : va_S A H0 H locs) (hA : A a) {n : Nat} {f : Nat → Int32} (q : pt g a (.inl (g.2 0, n, .inl f)) H) {i x : Int32} (hin : vp_in i n) (hdg : decode cc pc = .ok (.iastore, 1))
    (kk : ∀ (H1 : Heap) (locs1 : List Loc), pt g a (.inl (g.2 0, n, .inl (upd f i.toNatClampNeg x))) H1 → chg a H H1 → va_S A H0 H1 locs1 → W p l e R s m args below meth c H1 locs1 cells slots Q (F0 m (pc + 1) ls rest)) : W p l e R s m args below meth c H locs cells slots Q (F0 m pc ls (.int x :: .int i :: .ref a :: rest)) := by
  refine W.iast X.x X.b q ((X.K.2 0 _ rfl).1 n (fun j => .int (f j))) (fun q => by cases q) (by show ¬ (i < 0 ∨ (arrV _ _ _).slots.size ≤ _); rw [arrV_size]; exact hin) rfl rfl hdg fun H1 e z oq => ?_
  refine kk H1 _ ?_ ⟨z, oq⟩ (hS.put z oq hA)
  show H1[a]? = some (vp_cell _ _)
  rw [e, vp_cell_i, vp_cell_i, arrV_store]
  congr 2
  funext q
  by_cases hq : q = i.toNatClampNeg
  · subst hq
    simp [updV, upd]
  · simp [updV, upd, hq]
theorem m_qast (X : CX g p s m args meth c cc nL ret own nm) {A : Nat → Prop} {H0 : Heap} (hS : va_S A H0 H locs) (hA : A a) (t0 ci : Nat) {cA : ClassId} {r : vw_C} {n v : Nat} {vs : List Value} {f : Nat → Option Nat} (ht : (vtys g)[t0]? = some (cA, .object r.1)) (q : pt g a (.inl (cA, n, .inr (.inr (.inr (.inr f))))) H) (hv : pt g v (.inr (ci, vs)) H) (hc : vwCl[ci]? = some r) {i : Int32} (hin : vp_in i n) (hdg : decode cc pc = .ok (.aastore, 1))
    (kk : ∀ (H1 : Heap) (locs1 : List Loc), pt g a (.inl (cA, n, .inr (.inr (.inr (.inr (va_up f i.toNatClampNeg (some v))))))) H1 → chg a H H1 → va_S A H0 H1 locs1 → W p l e R s m args below meth c H1 locs1 cells slots Q (F0 m (pc + 1) ls rest)) : W p l e R s m args below meth c H locs cells slots Q (F0 m pc ls (.ref v :: .int i :: .ref a :: rest)) := by
  have hlt : i.toNatClampNeg < n := Nat.not_le.mp fun q => hin (Or.inr q)
  have h0 : ¬ i < 0 := fun q => hin (Or.inl q)
  obtain ⟨r', hr', cellV, g1, g2, g3, -⟩ := hv
  have hcls := (X.K.1 ci r hc).2
  obtain ⟨kA, comp, k1, k2, k3, -⟩ := (X.K.2 t0 _ ht).2
  have hcomp : comp = g.1.1 ci := Option.some.inj (k3.symm.trans hcls.1)
  subst hcomp
  obtain ⟨kC, hkC, -⟩ := hcls.2
  refine W.aast X.x X.b q (fun q h => by cases h) (fun h => by cases h) k1 k2 rfl hkC ⟨h0, by show _ < (arrV _ _ _).slots.size; rw [arrV_size]; exact hlt⟩ g1 (fun q h => by rw [g3] at h; cases h) (by rw [g2]; exact hkC) (by rw [g2]; exact va_assign hcls) rfl rfl hdg fun H1 e z oq => ?_
  refine kk H1 _ ?_ ⟨z, oq⟩ (hS.put z oq hA)
  show H1[a]? = some (vp_cell _ _)
  rw [e, vp_cell_q, vp_cell_q, arrV_store]
  congr 2
  funext q
  by_cases hq : q = i.toNatClampNeg
  · subst hq
    simp [updV, va_up, va_rf]
  · simp [updV, va_up, hq]
theorem m_behind {lv mcR msR : Nat} {A A1 : Nat → Prop} {H0 : Heap} {mc ms : Nat} {a : Array Value} {st : List Value} {v0 : Option Value} {Pq : Heap → Prop}
    (hrun : va_Run p l e (rmK lv mcR msR) s m args below meth c H locs cells slots mc ms (F0 m pc ls st) rest (QM v0 Pq A1 H a) (AA A1 H)) (hS : va_S A H0 H locs) (hA : ∀ q, A1 q ∨ H.size ≤ q → A q)
    (kk : ∀ (H1 : Heap) (locs1 : List Loc), Pq H1 → fr A1 H H1 → va_S A H0 H1 locs1 → W p l e (rmK lv mcR msR) s m args below meth c H1 locs1 (cells + mc) (slots + ms) Q (F0 m (pc + 3) ls (v0.toList ++ rest))) : W p l e (rmK lv mcR msR) s m args below meth c H locs cells slots Q (F0 m pc ls st) := by
  intro T' hT Y
  obtain ⟨v, st₀, t, T2, L, h0, X', hL, e1, e2, ⟨hv, hq, hf⟩, stp⟩ := hrun T' hT Y
  cases hv
  obtain ⟨t2, a1, b1⟩ := kk T2.heap (locs ++ L) (by rw [e1]; exact hq) (by rw [e1]; exact hf)
    ⟨Nat.le_trans hS.1 (by rw [e1]; exact hf.1), fun q h1 h2 => by rw [e1, hf.2 q (Nat.lt_of_lt_of_le h1 hS.1) (fun z => h2 (hA q (Or.inl z)))]; exact hS.2.1 q h1 h2, fun q hq => by
      rcases List.mem_append.mp hq with h | h
      · exact hS.2.2 q h
      · exact hA _ (hL q h)⟩ T2 rfl X'
  exact ⟨t2, stp t2 a1, b1⟩
theorem m_callV (X : CX g p s m args meth c cc nL ret own nm) {lv mcR msR : Nat} {A A1 : Nat → Prop} {H0 : Heap} (hS : va_S A H0 H locs) {y : MethodName} {c1 : ByteArray} {n1 lv1 mc ms index k : Nat} {ret1 : Option FieldType} {b : Nat} {as st : List Value} {v0 : Option Value} {Pq : Heap → Prop} {C : String}
    (M : MM l y c1 n1 ret1 lv1 mc ms g H (.ref b :: as) A1 v0 Pq) (ok : CallVok own index C y c1 n1 ret1 k) {ci : Nat} {fs : List Value} (hb : pt g b (.inr (ci, fs)) H) {T : u_T} {N : Nat} (hci : vwCl[ci]? = some (C, T, N)) (hk : as.length = k) (hst : st = as.reverse ++ .ref b :: rest) (hr : (rest.map fun v => v.category).sum ≤ 8) (hls : ls.size = nL)
    (hdg : decode cc pc = .ok (.invokevirtual index, 3)) (hlv : lv1 + 1 ≤ lv) (hn1 : n1 ≤ 21) (hm : cells + mc ≤ mcR ∧ slots + ms ≤ msR) (hA : ∀ q, A1 q ∨ H.size ≤ q → A q)
    (kk : ∀ (H1 : Heap) (locs1 : List Loc), Pq H1 → fr A1 H H1 → va_S A H0 H1 locs1 → W p l e (rmK lv mcR msR) s m args below meth c H1 locs1 (cells + mc) (slots + ms) Q (F0 m (pc + 3) ls (v0.toList ++ rest))) : W p l e (rmK lv mcR msR) s m args below meth c H locs cells slots Q (F0 m pc ls st) := by
  subst hst
  have hRm : (rmK lv1 mc ms).frames + 1 ≤ (rmK lv mcR msR).frames ∧ 8 + (n1 + 11) + (rmK lv1 mc ms).locals ≤ (rmK lv mcR msR).locals := by
    simp only [rmK]
    omega
  have cell : ∃ cellB : Cell, H[b]? = some cellB ∧ cellB.vm.isStatics = false ∧ s.vm.findClass C = some cellB.cls := by
    obtain ⟨r', hr', cellV, g1, g2, g3, -⟩ := hb
    have hcls := (X.K.1 ci _ hci).2
    exact ⟨cellV, g1, by rw [g3]; rfl, by rw [g2]; exact hcls.1⟩
  have hrun := va_runV (R := rmK lv mcR msR) (cells := cells) (slots := slots) (locs := locs) (e := e) (below := below) (meth := meth) (g := F0 m pc ls (as.reverse ++ .ref b :: rest)) (As := as) (rest := rest) (b := b) ⟨X.x, X.b, X.ml, X.wn, X.ts⟩ M (cwV k X.ts ok.1 rfl rfl rfl ok.2 hRm) ⟨fun a U gg mk q => ⟨q.1, KK.same (s := U) (U := U.calling gg mk a) rfl q.2.1, q.2.2⟩, cell, fun U hU hW => ⟨rfl, KK.moved hW X.kx, hU⟩⟩ rfl hk hls rfl (lv_room hr) hdg hm
  exact m_behind hrun hS hA kk
theorem m_callS (X : CX g p s m args meth c cc nL ret own nm) {lv mcR msR : Nat} {A A1 : Nat → Prop} {H0 : Heap} (hS : va_S A H0 H locs) {y : MethodName} {c1 : ByteArray} {n1 lv1 mc ms index k : Nat} {ret1 : Option FieldType} {as st : List Value} {v0 : Option Value} {Pq : Heap → Prop}
    (M : MM l y c1 n1 ret1 lv1 mc ms g H as A1 v0 Pq) (ok : CallSok own index y c1 n1 ret1 k) (hk : as.length = k) (hst : st = as.reverse ++ rest) (hr : (rest.map fun v => v.category).sum ≤ 8) (hls : ls.size = nL)
    (hdg : decode cc pc = .ok (.invokestatic index, 3)) (hlv : lv1 + 1 ≤ lv) (hn1 : n1 ≤ 21) (hm : cells + mc ≤ mcR ∧ slots + ms ≤ msR) (hA : ∀ q, A1 q ∨ H.size ≤ q → A q)
    (kk : ∀ (H1 : Heap) (locs1 : List Loc), Pq H1 → fr A1 H H1 → va_S A H0 H1 locs1 → W p l e (rmK lv mcR msR) s m args below meth c H1 locs1 (cells + mc) (slots + ms) Q (F0 m (pc + 3) ls (v0.toList ++ rest))) : W p l e (rmK lv mcR msR) s m args below meth c H locs cells slots Q (F0 m pc ls st) := by
  subst hst
  have hRm : (rmK lv1 mc ms).frames + 1 ≤ (rmK lv mcR msR).frames ∧ 8 + (n1 + 11) + (rmK lv1 mc ms).locals ≤ (rmK lv mcR msR).locals := by
    simp only [rmK]
    omega
  have hrun := va_runS (R := rmK lv mcR msR) (cells := cells) (slots := slots) (locs := locs) (e := e) (below := below) (meth := meth) (g := F0 m pc ls (as.reverse ++ rest)) (As := as) (rest := rest) ⟨X.x, X.b, X.ml, X.wn, X.ts⟩ M (va_cwS k X.ts ok.1 rfl rfl rfl ok.2 hRm) ⟨fun a U gg mk q => ⟨q.1, KK.same (s := U) (U := U.calling gg mk a) rfl q.2.1, q.2.2⟩, fun U hU hW => ⟨rfl, KK.moved hW X.kx, hU⟩⟩ rfl hk hls rfl (lv_room hr) hdg hm
  exact m_behind hrun hS hA kk
theorem m_callI (X : CX g p s m args meth c cc nL ret own nm) {lv mcR msR : Nat} {A A1 : Nat → Prop} {H0 : Heap} (hS : va_S A H0 H locs) {y : MethodName} {c1 : ByteArray} {n1 lv1 mc ms index k : Nat} {b : Nat} {as st : List Value} {Pq : Heap → Prop}
    (M : MM l y c1 n1 none lv1 mc ms g H (.ref b :: as) A1 none Pq) (ok : CallIok own index y c1 n1 k) (hk : as.length = k) (hst : st = as.reverse ++ .ref b :: rest) (hr : (rest.map fun v => v.category).sum ≤ 8) (hls : ls.size = nL)
    (hdg : decode cc pc = .ok (.invokespecial index, 3)) (hlv : lv1 + 1 ≤ lv) (hn1 : n1 ≤ 21) (hm : cells + mc ≤ mcR ∧ slots + ms ≤ msR) (hA : ∀ q, A1 q ∨ H.size ≤ q → A q)
    (kk : ∀ (H1 : Heap) (locs1 : List Loc), Pq H1 → fr A1 H H1 → va_S A H0 H1 locs1 → W p l e (rmK lv mcR msR) s m args below meth c H1 locs1 (cells + mc) (slots + ms) Q (F0 m (pc + 3) ls rest)) : W p l e (rmK lv mcR msR) s m args below meth c H locs cells slots Q (F0 m pc ls st) := by
  subst hst
  have hRm : (rmK lv1 mc ms).frames + 1 ≤ (rmK lv mcR msR).frames ∧ 8 + (n1 + 11) + (rmK lv1 mc ms).locals ≤ (rmK lv mcR msR).locals := by
    simp only [rmK]
    omega
  have hrun := va_runI (R := rmK lv mcR msR) (cells := cells) (slots := slots) (locs := locs) (e := e) (below := below) (meth := meth) (g := F0 m pc ls (as.reverse ++ .ref b :: rest)) (As := as) (rest := rest) (b := b) ⟨X.x, X.b, X.ml, X.wn, X.ts⟩ M (cwI k X.ts ok.1 rfl rfl rfl (X.ts _ ok.2.1) (X.ts _ ok.2.2.1) (X.ts _ ok.2.2.2.1) ok.2.2.2.2.1 ok.2.2.2.2.2 hRm) ⟨fun a U gg mk q => ⟨q.1, KK.same (s := U) (U := U.calling gg mk a) rfl q.2.1, q.2.2⟩, fun U hU hW => ⟨rfl, KK.moved hW X.kx, hU⟩⟩ rfl hk hls rfl (lv_room hr) hdg hm
  exact m_behind hrun hS hA kk
/-- a constructor that is private, called by a nest mate -/
theorem m_callIN (X : CX g p s m args meth c cc nL ret own nm) {lv mcR msR : Nat} {A A1 : Nat → Prop} {H0 : Heap} (hS : va_S A H0 H locs) {y : MethodName} {c1 : ByteArray} {n1 lv1 mc ms index k : Nat} {b : Nat} {as st : List Value} {Pq : Heap → Prop} {host : String}
    (M : MM l y c1 n1 none lv1 mc ms g H (.ref b :: as) A1 none Pq) (hN : va_Nw (.methodLinkNest own index y host) s) (hcode : Cond.code y c1 n1 none ∈ LW) (hini : Cond.initialized y.cls ∈ LW) (hinst : Cond.instanceMethod y ∈ LW) (hd : y.name = "<init>" ∧ y.cls ≠ "java/lang/invoke/MethodHandle" ∧ y.cls ≠ "java/lang/invoke/VarHandle" ∧ (parseMethodDescriptor y.desc).map (fun d => d.parameters.length) = some k) (hk : as.length = k) (hst : st = as.reverse ++ .ref b :: rest) (hr : (rest.map fun v => v.category).sum ≤ 8) (hls : ls.size = nL)
    (hdg : decode cc pc = .ok (.invokespecial index, 3)) (hlv : lv1 + 1 ≤ lv) (hn1 : n1 ≤ 21) (hm : cells + mc ≤ mcR ∧ slots + ms ≤ msR) (hA : ∀ q, A1 q ∨ H.size ≤ q → A q)
    (kk : ∀ (H1 : Heap) (locs1 : List Loc), Pq H1 → fr A1 H H1 → va_S A H0 H1 locs1 → W p l e (rmK lv mcR msR) s m args below meth c H1 locs1 (cells + mc) (slots + ms) Q (F0 m (pc + 3) ls rest)) : W p l e (rmK lv mcR msR) s m args below meth c H locs cells slots Q (F0 m pc ls st) := by
  subst hst
  have hRm : (rmK lv1 mc ms).frames + 1 ≤ (rmK lv mcR msR).frames ∧ 8 + (n1 + 11) + (rmK lv1 mc ms).locals ≤ (rmK lv mcR msR).locals := by
    simp only [rmK]
    omega
  have hrun := va_runIN (R := rmK lv mcR msR) (cells := cells) (slots := slots) (locs := locs) (e := e) (below := below) (meth := meth) (g := F0 m pc ls (as.reverse ++ .ref b :: rest)) (As := as) (rest := rest) (b := b) ⟨X.x, X.b, X.ml, X.wn, X.ts⟩ M ⟨va_cnB k X.ts (gIn_of (l := []) (by simp) (mws_in hcode)) rfl rfl rfl hN (X.ts _ hini) hd.2 hRm, hd.1, X.ts _ hinst⟩ ⟨fun a U gg mk q => ⟨q.1, KK.same (s := U) (U := U.calling gg mk a) rfl q.2.1, q.2.2⟩, fun U hU hW => ⟨rfl, KK.moved hW X.kx, hU⟩⟩ rfl hk hls rfl (lv_room hr) hdg hm
  exact m_behind hrun hS hA kk
/-- a private method, called by a nest mate -/
theorem m_callVN (X : CX g p s m args meth c cc nL ret own nm) {lv mcR msR : Nat} {A A1 : Nat → Prop} {H0 : Heap} (hS : va_S A H0 H locs) {y : MethodName} {c1 : ByteArray} {n1 lv1 mc ms index k : Nat} {ret1 : Option FieldType} {b : Nat} {as st : List Value} {v0 : Option Value} {Pq : Heap → Prop} {C host : String}
    (M : MM l y c1 n1 ret1 lv1 mc ms g H (.ref b :: as) A1 v0 Pq) (hN : va_Nw (.methodLinkNest own index y host) s) (hcode : Cond.code y c1 n1 ret1 ∈ LW) (hini : Cond.initialized y.cls ∈ LW) (hinst : Cond.instanceMethod y ∈ LW) (hsel : Cond.selects C y y ∈ LW) (hd : y.cls ≠ "java/lang/invoke/MethodHandle" ∧ y.cls ≠ "java/lang/invoke/VarHandle" ∧ (parseMethodDescriptor y.desc).map (fun d => d.parameters.length) = some k) {ci : Nat} {fs : List Value} (hb : pt g b (.inr (ci, fs)) H) {T : u_T} {N : Nat} (hci : vwCl[ci]? = some (C, T, N)) (hk : as.length = k) (hst : st = as.reverse ++ .ref b :: rest) (hr : (rest.map fun v => v.category).sum ≤ 8) (hls : ls.size = nL)
    (hdg : decode cc pc = .ok (.invokevirtual index, 3)) (hlv : lv1 + 1 ≤ lv) (hn1 : n1 ≤ 21) (hm : cells + mc ≤ mcR ∧ slots + ms ≤ msR) (hA : ∀ q, A1 q ∨ H.size ≤ q → A q)
    (kk : ∀ (H1 : Heap) (locs1 : List Loc), Pq H1 → fr A1 H H1 → va_S A H0 H1 locs1 → W p l e (rmK lv mcR msR) s m args below meth c H1 locs1 (cells + mc) (slots + ms) Q (F0 m (pc + 3) ls (v0.toList ++ rest))) : W p l e (rmK lv mcR msR) s m args below meth c H locs cells slots Q (F0 m pc ls st) := by
  subst hst
  have hRm : (rmK lv1 mc ms).frames + 1 ≤ (rmK lv mcR msR).frames ∧ 8 + (n1 + 11) + (rmK lv1 mc ms).locals ≤ (rmK lv mcR msR).locals := by
    simp only [rmK]
    omega
  have cell : ∃ cellB : Cell, H[b]? = some cellB ∧ cellB.vm.isStatics = false ∧ s.vm.findClass C = some cellB.cls := by
    obtain ⟨r', hr', cellV, g1, g2, g3, -⟩ := hb
    have hcls := (X.K.1 ci _ hci).2
    exact ⟨cellV, g1, by rw [g3]; rfl, by rw [g2]; exact hcls.1⟩
  have hrun := va_runVN (R := rmK lv mcR msR) (cells := cells) (slots := slots) (locs := locs) (e := e) (below := below) (meth := meth) (g := F0 m pc ls (as.reverse ++ .ref b :: rest)) (As := as) (rest := rest) (b := b) ⟨X.x, X.b, X.ml, X.wn, X.ts⟩ M ⟨va_cnB k X.ts (gIn_of (l := []) (by simp) (mws_in hcode)) rfl rfl rfl hN (X.ts _ hini) hd hRm, X.ts _ hinst, X.ts _ hsel⟩ ⟨fun a U gg mk q => ⟨q.1, KK.same (s := U) (U := U.calling gg mk a) rfl q.2.1, q.2.2⟩, cell, fun U hU hW => ⟨rfl, KK.moved hW X.kx, hU⟩⟩ rfl hk hls rfl (lv_room hr) hdg hm
  exact m_behind hrun hS hA kk
/-- a call that reads alone -/
theorem m_callP (X : CX g p s m args meth c cc nL ret own nm) {lv mcR msR : Nat} {A : Nat → Prop} {H0 : Heap} (hS : va_S (AA A H0) H0 H locs) {y : MethodName} {c1 : ByteArray} {n1 lv1 index k : Nat} {ret1 : Option FieldType} {b : Nat} {as st : List Value} {v0 : Option Value} {C : String}
    (M : MP l y c1 n1 ret1 lv1 g H (.ref b :: as) v0) (ok : CallVok own index C y c1 n1 ret1 k) {ci : Nat} {fs : List Value} (hb : pt g b (.inr (ci, fs)) H) {T : u_T} {N : Nat} (hci : vwCl[ci]? = some (C, T, N)) (hk : as.length = k) (hst : st = as.reverse ++ .ref b :: rest) (hr : (rest.map fun v => v.category).sum ≤ 8) (hls : ls.size = nL)
    (hdg : decode cc pc = .ok (.invokevirtual index, 3)) (hlv : lv1 + 1 ≤ lv) (hn1 : n1 ≤ 21) (hm : cells ≤ mcR ∧ slots ≤ msR)
    (kk : ∀ (locs : List Loc), va_S (AA A H0) H0 H locs → W p l e (rmK lv mcR msR) s m args below meth c H locs cells slots Q (F0 m (pc + 3) ls (v0.toList ++ rest))) : W p l e (rmK lv mcR msR) s m args below meth c H locs cells slots Q (F0 m pc ls st) :=
  m_callV X hS M ok hb hci hk hst hr hls hdg hlv hn1 hm (fun q h => h.elim (fun z => z.elim) (fun z => Or.inr (Nat.le_trans hS.1 z))) (fun H1 locs1 hq _ hS1 => by subst hq; exact kk locs1 hS1)
theorem m_callSP (X : CX g p s m args meth c cc nL ret own nm) {lv mcR msR : Nat} {A : Nat → Prop} {H0 : Heap} (hS : va_S (AA A H0) H0 H locs) {y : MethodName} {c1 : ByteArray} {n1 lv1 index k : Nat} {ret1 : Option FieldType} {as st : List Value} {v0 : Option Value}
    (M : MP l y c1 n1 ret1 lv1 g H as v0) (ok : CallSok own index y c1 n1 ret1 k) (hk : as.length = k) (hst : st = as.reverse ++ rest) (hr : (rest.map fun v => v.category).sum ≤ 8) (hls : ls.size = nL)
    (hdg : decode cc pc = .ok (.invokestatic index, 3)) (hlv : lv1 + 1 ≤ lv) (hn1 : n1 ≤ 21) (hm : cells ≤ mcR ∧ slots ≤ msR)
    (kk : ∀ (locs : List Loc), va_S (AA A H0) H0 H locs → W p l e (rmK lv mcR msR) s m args below meth c H locs cells slots Q (F0 m (pc + 3) ls (v0.toList ++ rest))) : W p l e (rmK lv mcR msR) s m args below meth c H locs cells slots Q (F0 m pc ls st) :=
  m_callS X hS M ok hk hst hr hls hdg hlv hn1 hm (fun q h => h.elim (fun z => z.elim) (fun z => Or.inr (Nat.le_trans hS.1 z))) (fun H1 locs1 hq _ hS1 => by subst hq; exact kk locs1 hS1)
theorem va_S.fr' {A : Nat → Prop} {H0 : Heap} (h : va_S (AA A H0) H0 H locs) : fr A H0 H := ⟨h.1, fun q a b => h.2.1 q a (fun z => z.elim b (fun w => absurd a (Nat.not_lt.mpr w)))⟩
theorem m_iret (X : CX g p s m args meth c cc nL (some .int) own nm) {mc ms : Nat} {A : Nat → Prop} {H0 : Heap} {v0 : Option Value} {Pq : Heap → Prop} (hS : va_S (AA A H0) H0 H locs) (hc : cells ≤ mc) (hs : slots ≤ ms) {v : Int32} (hdg : decode cc pc = .ok (.ireturn, 1)) (hv0 : some (.int v) = v0) (hq : Pq H) : W p l e R s m args below meth c H locs cells slots (MQ below (QM v0 Pq A H0) args s mc ms (AA A H0)) (F0 m pc ls [.int v]) := by
  refine W.widen hc hs ?_
  exact W.iret X.x X.b X.r (fun t ht _ => ⟨by rw [hv0], by rw [ht]; exact hq, by rw [ht]; exact hS.fr'⟩) hS.2.2 hdg X.locks
theorem m_zret (X : CX g p s m args meth c cc nL (some .boolean) own nm) {mc ms : Nat} {A : Nat → Prop} {H0 : Heap} {v0 : Option Value} {Pq : Heap → Prop} (hS : va_S (AA A H0) H0 H locs) (hc : cells ≤ mc) (hs : slots ≤ ms) {v : Int32} (hdg : decode cc pc = .ok (.ireturn, 1)) (hn : narrow .boolean (.int v) = .int v) (hv0 : some (.int v) = v0) (hq : Pq H) : W p l e R s m args below meth c H locs cells slots (MQ below (QM v0 Pq A H0) args s mc ms (AA A H0)) (F0 m pc ls [.int v]) := by
  refine W.widen hc hs ?_
  exact W.zret X.x X.b X.r hn (fun t ht _ => ⟨by rw [hv0], by rw [ht]; exact hq, by rw [ht]; exact hS.fr'⟩) hS.2.2 hdg X.locks
theorem m_vret (X : CX g p s m args meth c cc nL none own nm) {mc ms : Nat} {A : Nat → Prop} {H0 : Heap} {v0 : Option Value} {Pq : Heap → Prop} (hS : va_S (AA A H0) H0 H locs) (hc : cells ≤ mc) (hs : slots ≤ ms) (hdg : decode cc pc = .ok (.return_, 1)) (hv0 : none = v0) (hq : Pq H) : W p l e R s m args below meth c H locs cells slots (MQ below (QM v0 Pq A H0) args s mc ms (AA A H0)) (F0 m pc ls []) := by
  refine W.widen hc hs ?_
  exact W.vret X.x X.b X.r (fun t ht _ => ⟨by rw [hv0], by rw [ht]; exact hq, by rw [ht]; exact hS.fr'⟩) hS.2.2 hdg X.locks
theorem m_aret (X : CX g p s m args meth c cc nL (some (.object C)) own nm) {mc ms : Nat} {A : Nat → Prop} {H0 : Heap} {v0 : Option Value} {Pq : Heap → Prop} (hS : va_S (AA A H0) H0 H locs) (hc : cells ≤ mc) (hs : slots ≤ ms) {v : Value} (hv : v = .null ∨ ∃ a, v = .ref a) (hdg : decode cc pc = .ok (.areturn, 1)) (hv0 : some v = v0) (hq : Pq H) : W p l e R s m args below meth c H locs cells slots (MQ below (QM v0 Pq A H0) args s mc ms (AA A H0)) (F0 m pc ls [v]) := by
  refine W.widen hc hs ?_
  exact W.aret X.x X.b X.r (Or.inl ⟨_, rfl⟩) hv (fun t ht _ => ⟨by rw [hv0], by rw [ht]; exact hq, by rw [ht]; exact hS.fr'⟩) hS.2.2 hdg X.locks
end LAY
