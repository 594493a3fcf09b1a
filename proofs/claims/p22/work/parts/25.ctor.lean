-- CONSTRUCTORS
theorem wobj_i : Cond.instanceMethod objectInit ∈ LW := LW_t 53 (by decide +kernel) (by decide +kernel)
theorem wobj_c : Cond.code objectInit ⟨#[0xb1]⟩ 1 none ∈ LW := LW_t 54 (by decide +kernel) (by decide +kernel)
section CTOR
variable {g : GG} {p : Program} {l : Launch} {e : Env} {s : State} {m : MethodId} {args : Array Value} {below : List Frame} {meth : Method} {c : Code} {H : Heap} {locs : List Loc} {cells slots : Nat} {Q : State → Prop}
variable {cc : ByteArray} {nL : Nat} {ret : Option FieldType} {own nm : String} {pc : Nat} {ls : Array Slot} {rest : List Value} {lv mcR msR : Nat}
theorem m_obj (X : CX g p s m args meth c cc nL ret own nm) {index a : Nat} (hl : Cond.methodLink own index objectInit ∈ LW) (hlv : 1 ≤ lv) (hr : (rest.map fun v => v.category).sum ≤ 8) (hls : ls.size = nL) (hdg : decode cc pc = .ok (.invokespecial index, 3))
    (kk : W p l e (rmK lv mcR msR) s m args below meth c H locs cells slots Q (F0 m (pc + 3) ls rest)) : W p l e (rmK lv mcR msR) s m args below meth c H locs cells slots Q (F0 m pc ls (.ref a :: rest)) :=
  W.objInit X.x X.b X.wn (X.ts _ hl) (X.ts _ wobj_i) (X.ts _ wobj_c) rfl (by rw [X.ml]; exact hls) rfl hdg (by simp only [rmK]; omega) (by show 2 * 0 + _ + 12 ≤ _; simp only [rmK]; omega) kk
theorem m_newo (X : CX g p s m args meth c cc nL ret own nm) {C : String} {T : u_T} {N ci index : Nat} {ty0 : Nat → FieldType} (ok : clsOK C T N ci ty0) {A : Nat → Prop} {H0 : Heap} (hS : va_S (AA A H0) H0 H locs) {q : Nat} (hz : H.size = q) (hcl : Cond.classLink own index C ∈ LW) (hinst : Cond.instantiable C N ∈ LW) (hini : Cond.initialized C ∈ LW) {fs : List Value} (hfs : ∀ j, j < N → defaultValue (ty0 j) = vp_V fs j) (hcells : cells + 1 ≤ mcR) (hslots : slots + N ≤ msR) (hdg : decode cc pc = .ok (.new index, 3))
    (kk : ∀ (H1 : Heap), pt g q (.inr (ci, fs)) H1 → grow H H1 → va_S (AA A H0) H0 H1 locs → H1.size = q + 1 → W p l e (rmK lv mcR msR) s m args below meth c H1 locs (cells + 1) (slots + N) Q (F0 m (pc + 3) ls (.ref q :: rest))) : W p l e (rmK lv mcR msR) s m args below meth c H locs cells slots Q (F0 m pc ls rest) := by
  subst hz
  exact m_new (nn := 0) X ok hS hcl hinst hini hfs hcells hslots hdg (fun H1 a b d => kk H1 a b d b.1)
theorem m_newI (X : CX g p s m args meth c cc nL ret own nm) {A : Nat → Prop} {H0 : Heap} (hS : va_S (AA A H0) H0 H locs) {q : Nat} (hz : H.size = q) {n : Int32} (N' : Nat) (hn : ¬ n < 0) (hN : n.toNatClampNeg = N') (hbytes : N' * 4 ≤ 536870912) (hcells : cells + 1 ≤ mcR) (hslots : slots + N' ≤ msR) (hdg : decode cc pc = .ok (.newarray .int, 2))
    (kk : ∀ (H1 : Heap), pt g q (.inl (g.2 0, N', .inl (fun _ => 0))) H1 → grow H H1 → va_S (AA A H0) H0 H1 locs → H1.size = q + 1 → W p l e (rmK lv mcR msR) s m args below meth c H1 locs (cells + 1) (slots + N') Q (F0 m (pc + 2) ls (.ref q :: rest))) : W p l e (rmK lv mcR msR) s m args below meth c H locs cells slots Q (F0 m pc ls (.int n :: rest)) := by
  subst hz
  exact m_newA X 0 (atype := .int) (ty := .int) rfl rfl (fun h => h) (LW_t 693 (by decide +kernel) (by decide +kernel)) hS (a0 := (N', .inl (fun _ => 0))) (fun cA => rfl) hn hN hbytes hcells hslots hdg (fun H1 a b d => kk H1 a b d b.1)
theorem m_newZ (X : CX g p s m args meth c cc nL ret own nm) {A : Nat → Prop} {H0 : Heap} (hS : va_S (AA A H0) H0 H locs) {q : Nat} (hz : H.size = q) {n : Int32} (N' : Nat) (hn : ¬ n < 0) (hN : n.toNatClampNeg = N') (hbytes : N' * 1 ≤ 536870912) (hcells : cells + 1 ≤ mcR) (hslots : slots + N' ≤ msR) (hdg : decode cc pc = .ok (.newarray .boolean, 2))
    (kk : ∀ (H1 : Heap), pt g q (.inl (g.2 1, N', .inl (fun _ => 0))) H1 → grow H H1 → va_S (AA A H0) H0 H1 locs → H1.size = q + 1 → W p l e (rmK lv mcR msR) s m args below meth c H1 locs (cells + 1) (slots + N') Q (F0 m (pc + 2) ls (.ref q :: rest))) : W p l e (rmK lv mcR msR) s m args below meth c H locs cells slots Q (F0 m pc ls (.int n :: rest)) := by
  subst hz
  exact m_newA X 1 (atype := .boolean) (ty := .boolean) rfl rfl (fun h => h) (LW_t 692 (by decide +kernel) (by decide +kernel)) hS (a0 := (N', .inl (fun _ => 0))) (fun cA => rfl) hn hN hbytes hcells hslots hdg (fun H1 a b d => kk H1 a b d b.1)
theorem m_newR (X : CX g p s m args meth c cc nL ret own nm) (t0 : Nat) {cA : ClassId} {C : String} {index : Nat} (ht : (vtys g)[t0]? = some (cA, .object C)) (hclink : Cond.classLink own index C ∈ LW) (hov : va_AO C s) {A : Nat → Prop} {H0 : Heap} (hS : va_S (AA A H0) H0 H locs) {q : Nat} (hz : H.size = q)
    {n : Int32} (N' : Nat) (hn : ¬ n < 0) (hN : n.toNatClampNeg = N') (hbytes : N' * 4 ≤ 536870912) (hcells : cells + 1 ≤ mcR) (hslots : slots + N' ≤ msR) (hdg : decode cc pc = .ok (.anewarray index, 3))
    (kk : ∀ (H1 : Heap), pt g q (qarr cA N' (fun _ => none)) H1 → grow H H1 → va_S (AA A H0) H0 H1 locs → H1.size = q + 1 → W p l e (rmK lv mcR msR) s m args below meth c H1 locs (cells + 1) (slots + N') Q (F0 m (pc + 3) ls (.ref q :: rest))) : W p l e (rmK lv mcR msR) s m args below meth c H locs cells slots Q (F0 m pc ls (.int n :: rest)) := by
  subst hz
  refine W.anew X.x X.b X.wn (X.ts _ hclink) (va_AO.use hov) rfl hdg rfl hn (by rw [hN]; exact hbytes) hcells (by rw [hN]; exact hslots) fun cA' kA comp f1 f2 f3 f4 => ?_
  have hc : cA' = cA := Option.some.inj (f1.symm.trans (X.K.2 t0 _ ht).2.choose_spec.choose_spec.2.2.2)
  subst hc
  subst hN
  generalize hH1 : H.push ({ cls := cA', slots := Array.replicate n.toNatClampNeg .null, vm := .none } : Cell) = H1
  have z1 : H1.size = H.size + 1 := by rw [← hH1, Array.size_push]
  have e1 : H1[H.size]? = some (arrV cA' n.toNatClampNeg (fun _ => .null)) := by rw [← hH1, Array.getElem?_push_size, ← arrV_new]
  have o1 : ∀ q : Nat, q < H.size → H1[q]? = H[q]? := fun q hq => by rw [← hH1, Array.getElem?_push, if_neg (Nat.ne_of_lt hq)]
  exact kk H1 (by show H1[H.size]? = some (vp_cell _ _); rw [vp_cell_q]; exact e1) ⟨z1, o1⟩ ⟨Nat.le_trans hS.1 (by omega), fun x h1 h2 => (o1 x (Nat.lt_of_lt_of_le h1 hS.1)).trans (hS.2.1 x h1 h2), hS.2.2⟩ z1
end CTOR
abbrev IS0 : IS := (fun _ _ => 0, fun _ _ => none)
theorem CX.rowAO {g : GG} {p : Program} {s : State} {m : MethodId} {args : Array Value} {meth : Method} {c : Code} {cc : ByteArray} {nL : Nat} {ret : Option FieldType} {own nm : String} (X : CX g p s m args meth c cc nL ret own nm) : KX s := X.kx.2
theorem bool_fit {b : Int32} (h : b = 0 ∨ b = 1) : fits .boolean (.int b) = true := by rcases h with rfl | rfl <;> rfl
theorem w_Item_init : Cond.code y_Item_init c_Item_init 1 none ∈ LW := LW_t 586 (by decide +kernel) (by decide +kernel)
theorem wi_Item_init : Cond.instanceMethod y_Item_init ∈ LW := LW_t 585 (by decide +kernel) (by decide +kernel)
theorem rAt.frm {g : GG} {b cap c : Nat} {f : Nat → Nat} {A : Nat → Prop} {H H1 : Heap} (h : rAt g b cap c f H) (hf : fr A H H1) (hA : ∀ q, A q → ¬ (b ≤ q ∧ q < b + 2)) : rAt g b cap c f H1 := by
  obtain ⟨h1, F, h2, h3⟩ := h
  exact ⟨h1.fr hf (fun z => hA _ z ⟨by omega, by omega⟩), F, h2.fr hf (fun z => hA _ z ⟨by omega, by omega⟩), h3⟩
theorem rAt.nil {g : GG} {b cap : Nat} {f f2 : Nat → Nat} {H : Heap} (h : rAt g b cap 0 f H) : rAt g b cap 0 f2 H := by
  obtain ⟨h1, F, h2, h3⟩ := h
  exact ⟨h1, F, h2, fun i hi => absurd hi (Nat.not_lt_zero i)⟩
theorem max0_nI {n : Nat} (h : n < 2 ^ 31) : (if (0 : Int32) < nI n then nI n else 0) = nI n := by
  by_cases z : (0 : Int32) < nI n
  · exact if_pos z
  · rw [if_neg z]
    have h1 : nI n ≤ nI 0 := Int32.not_lt.mp z
    have h2 := (nI_leI (a := n) (b := 0) h (by omega)).mp h1
    have h3 : n = 0 := by omega
    subst h3
    rfl
