-- MORE ROWS: boolean stores, what constructors do
section LAY2
variable {g : GG} {p : Program} {l : Launch} {e : Env} {R : Room} {s : State} {m : MethodId} {args : Array Value} {below : List Frame} {meth : Method} {c : Code} {H : Heap} {locs : List Loc} {cells slots : Nat} {Q : State → Prop}
variable {cc : ByteArray} {nL : Nat} {ret : Option FieldType} {own nm : String} {pc : Nat} {ls : Array Slot} {rest : List Value} {a : Nat}
theorem m_zast (X : CX g p s m args meth c cc nL ret own nm) {A : Nat → Prop} {H0 : Heap} (hS : va_S A H0 H locs) (hA : A a) {n : Nat} {f : Nat → Int32} (q : pt g a (.inl (g.2 1, n, .inl f)) H) {i x : Int32} (hn : vp_nar .boolean x = x) (hin : vp_in i n) (hdg : decode cc pc = .ok (.bastore, 1))
    (kk : ∀ (H1 : Heap) (locs1 : List Loc), pt g a (.inl (g.2 1, n, .inl (upd f i.toNatClampNeg x))) H1 → chg a H H1 → va_S A H0 H1 locs1 → W p l e R s m args below meth c H1 locs1 cells slots Q (F0 m (pc + 1) ls rest)) : W p l e R s m args below meth c H locs cells slots Q (F0 m pc ls (.int x :: .int i :: .ref a :: rest)) := by
  refine W.zast X.x X.b q ((X.K.2 1 _ rfl).1 n (fun j => .int (f j))) (fun q => by cases q) (by show ¬ (i < 0 ∨ (arrV _ _ _).slots.size ≤ _); rw [arrV_size]; exact hin) rfl rfl hdg fun H1 e z oq => ?_
  refine kk H1 _ ?_ ⟨z, oq⟩ (hS.put z oq hA)
  show H1[a]? = some (vp_cell _ _)
  rw [e, vp_cell_i, vp_cell_i, arrV_store]
  congr 2
  funext q
  by_cases hq : q = i.toNatClampNeg
  · subst hq
    have h2 := hn
    simp only [vp_nar] at h2
    simp [updV, upd]
    revert h2
    cases hx : narrow .boolean (.int x) <;> simp_all [narrow]
  · simp [updV, upd, hq]
/-- a final field, in the constructor of its class -/
theorem m_putF (X : CX g p s m args meth c cc nL ret own nm) (hinit : nm = "<init>") {C : String} {T : u_T} {N ci index : Nat} {ty0 : Nat → FieldType} (ok : clsOK C T N ci ty0) (hown : own = C) {A : Nat → Prop} {H0 : Heap} (hS0 : va_S A H0 H locs) (hA : A a) {fs : List Value} (q : pt g a (.inr (ci, fs)) H) (k : Nat) (hk : k < N) (hlink : Cond.fieldLink own index C (T k).2.1 (T k).2.2.1 ∈ LW) (hfin : (T k).2.2.2 = true) {ty : FieldType} {v : Value} (hd : parseFieldDescriptor (T k).2.2.1 = some ty) (hn : narrow ty v = v) (hfit : fits ty v = true) (hl : k < fs.length) (hdg : decode cc pc = .ok (.putfield index, 3))
    (kk : ∀ (H1 : Heap) (locs1 : List Loc), pt g a (.inr (ci, fs.set k v)) H1 → chg a H H1 → va_S A H0 H1 locs1 → W p l e R s m args below meth c H1 locs1 cells slots Q (F0 m (pc + 3) ls rest)) : W p l e R s m args below meth c H locs cells slots Q (F0 m pc ls (v :: .ref a :: rest)) := by
  have hap := va_apart (own := own) X.ts ok.2.1 ty0 ok.2.2.1 ok.2.2.2.1 X.K ok.1
  obtain ⟨r, h1, cell, q1, q2, q3, q4⟩ := q
  have hr : r = (C, T, N) := Option.some.inj (h1.symm.trans ok.1)
  subst hr
  obtain ⟨hS, hfc, kC, hkC, hkind⟩ := X.K.1 ci _ ok.1
  obtain ⟨cf, kf, fi, f, hi, hsl⟩ := hS k hk
  have hlay := X.ts _ (ok.2.1 _ (u_in_lay hk))
  unfold u_lay at hlay
  rw [if_pos hfin] at hlay
  have hst := (u_facts hfc hkC (u_lays X.ts ok.2.1 hk) hi).1
  have hcf : m.cls = cf := by
    obtain ⟨_, _, c', _, _, _, -, -, hf', -, -, -, hown2, -⟩ := Cond.laysFinal_spec hlay
    have e1 : c' = cf := by have := hi.symm.trans hf'; simp at this; exact this.1.symm
    rw [ok.2.2.2.2 k hk, ← hown] at hown2
    rw [← e1]; exact Option.some.inj (X.wn.symm.trans hown2)
  have h6 := u_fits hfc hkC hkind (Or.inr hlay) hi hd hn hfit
  have hi' := hi
  rw [ok.2.2.2.2 k hk] at hi'
  refine W.putFinK X.x X.b X.wn (X.ts _ hlink) hi' hst hcf (X.mn.trans hinit) (by rw [q2]; exact h6) q1 q3 (by rw [hsl]; exact k2_hasslot (q4 k hk)) rfl rfl hdg fun H' e1 e2 e3 => ?_
  rw [hsl] at e1 ⊢
  exact kk H' _ ⟨_, ok.1, t_OB.to (V := updV (vp_V fs) k v) ⟨_, e1, q2, q3, t_set q4 hap hk v⟩ (fun j _ => vp_updV_set hl v j)⟩ ⟨e2, e3⟩ (hS0.put e2 e3 hA)
theorem m_new (X : CX g p s m args meth c cc nL ret own nm) {C : String} {T : u_T} {N ci index nn : Nat} {ty0 : Nat → FieldType} (ok : clsOK C T N ci ty0) {A : Nat → Prop} {H0 : Heap} (hS : va_S (AA A H0) H0 H locs) (hcl : Cond.classLink own index C ∈ LW) (hinst : Cond.instantiable C N ∈ LW) (hini : Cond.initialized C ∈ LW) {fs : List Value} (hfs : ∀ j, j < N → defaultValue (ty0 j) = vp_V fs j) (hcells : cells + 1 ≤ R.cells) (hslots : slots + N ≤ R.slots) (hdg : decode cc pc = .ok (.new index, 3))
    (kk : ∀ (H1 : Heap), pt g H.size (.inr (ci, fs)) H1 → grow H H1 → va_S (AA A H0) H0 H1 locs → W p l e R s m args below meth c H1 locs (cells + 1) (slots + N) Q (F0 m (pc + 3) ls (.ref H.size :: rest))) : W p l e R s m args below meth c H locs cells slots Q (F0 m pc ls rest) := by
  have hKn := X.K.1 ci _ ok.1
  refine W.newcK X.x X.b X.wn (X.ts _ hcl) (X.ts _ hinst) (X.ts _ hini) rfl hdg hcells hslots hKn.2.1 rfl fun H1 kC hkC e1 z1 o1 => ?_
  exact kk H1 ⟨_, ok.1, (u_born ty0 X.ts ok.2.1 hKn hkC e1 ok.2.2.1).to hfs⟩ ⟨z1, o1⟩ ⟨Nat.le_trans hS.1 (by omega), fun x h1 h2 => (o1 x (Nat.lt_of_lt_of_le h1 hS.1)).trans (hS.2.1 x h1 h2), hS.2.2⟩
theorem m_newA (X : CX g p s m args meth c cc nL ret own nm) (t0 : Nat) {atype : ArrayType} {cA : ClassId} {ty : FieldType} (hty : newarray.typeOf atype = ty) (ht : (vtys g)[t0]? = some (cA, ty)) (hname : va_RA s cA ty → s.vm.findClass ("[" ++ ty.toString) = some cA) (harr : Cond.arrayClass ty ∈ LW) {A : Nat → Prop} {H0 : Heap} (hS : va_S (AA A H0) H0 H locs)
    {n : Int32} {N' : Nat} {a0 : vp_A} (ha : ∀ cA : ClassId, vp_cell cA a0 = arrV cA N' (fun _ => defaultValue ty)) (hn : ¬ n < 0) (hN : n.toNatClampNeg = N') (hbytes : N' * componentBytes ty ≤ 536870912) (hcells : cells + 1 ≤ R.cells) (hslots : slots + N' ≤ R.slots) (hdg : decode cc pc = .ok (.newarray atype, 2))
    (kk : ∀ (H1 : Heap), pt g H.size (.inl (cA, a0)) H1 → grow H H1 → va_S (AA A H0) H0 H1 locs → W p l e R s m args below meth c H1 locs (cells + 1) (slots + N') Q (F0 m (pc + 2) ls (.ref H.size :: rest))) : W p l e R s m args below meth c H locs cells slots Q (F0 m pc ls (.int n :: rest)) := by
  subst hty
  refine va_newaK X.x X.b (X.ts _ harr) rfl hdg rfl hn hN hbytes hcells hslots rfl fun H1 cA' e1 z1 o1 hAr hNm => ?_
  have hc : cA' = cA := Option.some.inj (hNm.symm.trans (hname (X.K.2 t0 _ ht).2))
  subst hc
  exact kk H1 (by show H1[H.size]? = some (vp_cell _ _); rw [ha]; exact e1) ⟨z1, o1⟩ ⟨Nat.le_trans hS.1 (by omega), fun x h1 h2 => (o1 x (Nat.lt_of_lt_of_le h1 hS.1)).trans (hS.2.1 x h1 h2), hS.2.2⟩
theorem m_newQ (X : CX g p s m args meth c cc nL ret own nm) (t0 : Nat) {cA : ClassId} {C : String} {index : Nat} (ht : (vtys g)[t0]? = some (cA, .object C)) (hclink : Cond.classLink own index C ∈ LW) (hover : Cond.arrayOver (.object C) ∈ lw_tbl) (hov : (Cond.arrayOver (.object C)).before args s = true) {A : Nat → Prop} {H0 : Heap} (hS : va_S (AA A H0) H0 H locs)
    {n : Int32} {N' : Nat} (hn : ¬ n < 0) (hN : n.toNatClampNeg = N') (hbytes : N' * 4 ≤ 536870912) (hcells : cells + 1 ≤ R.cells) (hslots : slots + N' ≤ R.slots) (hdg : decode cc pc = .ok (.anewarray index, 3))
    (kk : ∀ (H1 : Heap), pt g H.size (.inl (cA, N', .inr (.inr (.inr (.inr (fun _ => none)))))) H1 → grow H H1 → va_S (AA A H0) H0 H1 locs → W p l e R s m args below meth c H1 locs (cells + 1) (slots + N') Q (F0 m (pc + 3) ls (.ref H.size :: rest))) : W p l e R s m args below meth c H locs cells slots Q (F0 m pc ls (.int n :: rest)) := by
  subst hN
  refine W.anew X.x X.b X.wn (X.ts _ hclink) hov rfl hdg rfl hn hbytes hcells hslots fun cA' kA comp f1 f2 f3 f4 => ?_
  have hc : cA' = cA := Option.some.inj (f1.symm.trans (X.K.2 t0 _ ht).2.choose_spec.choose_spec.2.2.2)
  subst hc
  generalize hH1 : H.push ({ cls := cA', slots := Array.replicate n.toNatClampNeg .null, vm := .none } : Cell) = H1
  have z1 : H1.size = H.size + 1 := by rw [← hH1, Array.size_push]
  have e1 : H1[H.size]? = some (arrV cA' n.toNatClampNeg (fun _ => .null)) := by rw [← hH1, Array.getElem?_push_size, ← arrV_new]
  have o1 : ∀ q : Nat, q < H.size → H1[q]? = H[q]? := fun q hq => by rw [← hH1, Array.getElem?_push, if_neg (Nat.ne_of_lt hq)]
  exact kk H1 (by show H1[H.size]? = some (vp_cell _ _); rw [vp_cell_q]; exact e1) ⟨z1, o1⟩ ⟨Nat.le_trans hS.1 (by omega), fun x h1 h2 => (o1 x (Nat.lt_of_lt_of_le h1 hS.1)).trans (hS.2.1 x h1 h2), hS.2.2⟩
end LAY2
