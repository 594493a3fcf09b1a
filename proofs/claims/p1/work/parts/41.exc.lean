-- METHODS THAT THROW, AND THOSE THAT CATCH
abbrev R_IO : String := "java/lang/IndexOutOfBoundsException"
abbrev R_IA : String := "java/lang/IllegalArgumentException"
abbrev R_IS : String := "java/lang/IllegalStateException"
abbrev XN : List String := ["java/lang/RuntimeException", "java/lang/Exception"]
/-- what the tables say of the three exceptions, and no word of LW says -/
def KB (s : State) : Prop :=
  (va_Nw (.castable R_IO R_IO) s ∧ va_Nw (.castable R_IA R_IA) s ∧ va_Nw (.castable R_IS R_IS) s) ∧
  (va_Nw (.declares (Bundle.initS "java/lang/RuntimeException")) s ∧ va_Nw (.declares (Bundle.initS "java/lang/Exception")) s ∧ va_Nw (.declares (Bundle.initS Bundle.tN)) s) ∧
  (va_Nc R_IA R_IO s ∧ va_Nc R_IS R_IO s ∧ va_Nc R_IS R_IA s)
def texts : List (Nat × String) := [(176, "what is not 0 to 11"), (92, "no such LINE"), (249, "no such ITEM"), (145, "what is not 0 to 7"), (162, "there is a FAULT"), (164, "no such NAME"), (42, "no such ROW"), (55, "no such LINE can be"), (63, "the ROW is full"), (111, "what is not 0 to 4"), (160, "no such word"), (197, "that LINE cannot have that n"), (203, "no such JUMP or IF"), (211, "many is not 1 to 20")]
def KS (s : State) : Prop := ∀ q ∈ texts, ∃ a, vk_R R_BP q.1 q.2 a s
theorem KB.moved {s U : State} (hW : s.WarmedH U.vm) (h : KB s) : KB U :=
  ⟨⟨h.1.1.warmC hW, h.1.2.1.warmC hW, h.1.2.2.warmC hW⟩, ⟨h.2.1.1.warmD hW, h.2.1.2.1.warmD hW, h.2.1.2.2.warmD hW⟩, ⟨h.2.2.1.moved hW.alike, h.2.2.2.1.moved hW.alike, h.2.2.2.2.moved hW.alike⟩⟩
theorem KB.same {s U : State} (hv : s.vm = U.vm) (h : KB s) : KB U :=
  ⟨⟨va_Nw.same rfl hv h.1.1, va_Nw.same rfl hv h.1.2.1, va_Nw.same rfl hv h.1.2.2⟩, ⟨va_Nw.same rfl hv h.2.1.1, va_Nw.same rfl hv h.2.1.2.1, va_Nw.same rfl hv h.2.1.2.2⟩, ⟨h.2.2.1.moved (hv ▸ Vm.Alike.refl _), h.2.2.2.1.moved (hv ▸ Vm.Alike.refl _), h.2.2.2.2.moved (hv ▸ Vm.Alike.refl _)⟩⟩
theorem KS.moved {s U : State} (hW : s.WarmedH U.vm) (h : KS s) : KS U := fun q hq => (h q hq).elim fun a ha => ⟨a, vk_R.warm hW ha⟩
theorem KS.same {s U : State} (hv : s.vm = U.vm) (h : KS s) : KS U := fun q hq => (h q hq).elim fun a ha => ⟨a, vk_R.same hv.symm ha⟩
abbrev geB (B : Nat) : Nat → Prop := fun q => B ≤ q
/-- what a throw needs of the world: two statics that lie below B, the tables, the texts -/
def ZZ (B : Nat) (U : State) (H : Heap) : Prop :=
  (vx_Zq Bundle.tN "UNASSIGNED_STACK" Bundle.steD (geB B) U H ∧ vx_Zq Bundle.tN "SUPPRESSED_SENTINEL" Bundle.listD (geB B) U H) ∧ KB U ∧ KS U
theorem ZZ.moved {B : Nat} {s U : State} {H : Heap} (hW : s.WarmedH U.vm) (h : ZZ B s H) : ZZ B U H := ⟨⟨h.1.1.moved hW.alike, h.1.2.moved hW.alike⟩, h.2.1.moved hW, h.2.2.moved hW⟩
theorem ZZ.same {B : Nat} {s U : State} {H : Heap} (hv : s.vm = U.vm) (h : ZZ B s H) : ZZ B U H := ⟨⟨h.1.1.moved (hv ▸ Vm.Alike.refl _), h.1.2.moved (hv ▸ Vm.Alike.refl _)⟩, h.2.1.same hv, h.2.2.same hv⟩
theorem ZZ.kept {B : Nat} {s : State} {H H1 : Heap} (h : ZZ B s H) (hq : ∀ a : Nat, a < H.size → ¬ B ≤ a → H1[a]? = H[a]?) : ZZ B s H1 := ⟨⟨h.1.1.kept hq, h.1.2.kept hq⟩, h.2⟩
theorem ZZ.fr {B : Nat} {s : State} {A : Nat → Prop} {H H1 : Heap} (h : ZZ B s H) (hf : fr A H H1) (hA : ∀ q, A q → B ≤ q) : ZZ B s H1 := h.kept (fun a h1 h2 => hf.2 a h1 (fun z => h2 (hA a z)))
/-- the answer of a method that throws E -/
abbrev TX (E : String) (H0 : Heap) : String → State → State → Prop := fun E' _ t => E' = E ∧ fr noA H0 t.heap
abbrev noQ : Array Value → State → Outcome → State → Prop := fun _ _ _ _ => False
def MT (l : Launch) (y : MethodName) (cc : ByteArray) (n : Nat) (ret : Option FieldType) (lv B : Nat) (g : GG) (H0 : Heap) (as : List Value) (E : String) : Prop :=
  vx_Met l y (mws y cc n ret) (rmK lv 1 6) (fun v U => v = as.toArray ∧ KK g U ∧ U.heap = H0 ∧ ZZ B U H0) noQ (TX E H0) 1 6 (AA noA H0)
abbrev TQ (below : List Frame) (E : String) (H0 : Heap) (args : Array Value) (s : State) : State → Prop := vx_MQ below noQ (TX E H0) args s 1 6 (AA noA H0)
section EXC
variable {g : GG} {p : Program} {l : Launch} {e : Env} {R : Room} {s : State} {m : MethodId} {args : Array Value} {below : List Frame} {meth : Method} {c : Code} {H : Heap} {locs : List Loc} {cells slots : Nat} {Q : State → Prop}
variable {cc : ByteArray} {nL : Nat} {ret : Option FieldType} {own nm : String} {pc : Nat} {ls : Array Slot} {rest : List Value} {B : Nat}
theorem MT.of {y : MethodName} {n : Nat} {lv : Nat} {H0 : Heap} {as : List Value} {E : String} (hy : plainName y.cls = true) (hn : (lg_sl as).length ≤ n)
    (body : ∀ (p : Program) (e : Env) (s : State) (m : MethodId) (below : List Frame) (meth : Method) (c : Code), CX g p s m as.toArray meth c cc n ret y.cls y.name → s.heap = H0 → ZZ B s H0 → (∀ x ∈ c.exceptionTable.toList, False) → ∀ ls, lv_has ls n (lv_args 0 as) →
      W p l e (rmK lv 1 6) s m as.toArray below meth c H0 [] 0 0 (TQ below E H0 as.toArray s) (F0 m 0 ls [])) : MT l y cc n ret lv B g H0 as E := by
  refine vx_ofW (cc := cc) (maxL := n) (ret := ret) hy rfl ?_
  intro p e s m args below meth c s₁ B' hml hno hv
  obtain ⟨rfl, hK, hH, hZ⟩ := hv
  have hts := atoms_spec (ws := mws y cc n ret) B'.pre
  have hl := lv_entry as (n := n) hn
  rw [lg_entry_eq, hH]
  exact body p e s m below meth c ⟨B'.exec, B'.bytes, B'.returns, hml, findClass_of_methodNamed B'.named, B'.notSynchronized, fun w h => hts w (List.mem_cons_of_mem _ h), hK, (name_of_methodNamed B'.named B'.method).1⟩ hH hZ hno _ hl
/-- the words of a throw that are no word of LW -/
def badL (E : String) : List Cond := [.castable E E, .declares (Bundle.initS "java/lang/RuntimeException"), .declares (Bundle.initS "java/lang/Exception"), .declares (Bundle.initS Bundle.tN)]
/-- what the tables say of an exception made in the press -/
def xOK (E : String) (ik ic : Nat) : Prop :=
  (Cond.classLink R_BP ik E ∈ LW ∧ Cond.initialized E ∈ LW) ∧ (∀ w ∈ (vx_atS R_BP ic E XN).filter goodWord, w ∈ LW) ∧ (∀ w ∈ (vx_atS R_BP ic E XN).filter (fun w => !goodWord w), w ∈ badL E) ∧
  (∀ w ∈ Cond.classLink R_BP ik E :: Cond.initialized E :: vx_atS R_BP ic E XN, vx_ot w = true) ∧ (∀ (s : State) (args : Array Value), KB s → ∀ w ∈ badL E, w.before args s = true) ∧ Bundle.fit E = true
theorem m_throw (X : CX g p s m args meth c cc nL ret R_BP nm) (hfl : l.stackTraces = false) {E text : String} {ik is ic : Nat} (ok : xOK E ik ic) (htx : (is, text) ∈ texts) {H0 : Heap} (hH : s.heap = H0) (hZ : ZZ B s H0) (hB : B ≤ H0.size) (hno : ∀ x ∈ c.exceptionTable.toList, False) (hS : va_S (AA noA H0) H0 H locs) (hls : ls.size = nL)
    (d0 : decode cc pc = .ok (.new ik, 3)) (d3 : decode cc (pc + 3) = .ok (.dup, 1)) (d4 : decode cc (pc + 4) = .ok (.ldc is, 2)) (d6 : decode cc (pc + 6) = .ok (.invokespecial ic, 3)) (d9 : decode cc (pc + 9) = .ok (.athrow, 1)) {lv : Nat} (hlv : 6 ≤ lv) (hr : (rest.map fun v => v.category).sum ≤ 8) :
    W p l e (rmK lv 1 6) s m args below meth c H locs 0 0 (TQ below E H0 args s) (F0 m pc ls rest) := by
  subst hH
  obtain ⟨sa, hstr⟩ := hZ.2.2 _ htx
  obtain ⟨ok1, ok2, ok3, ok4, ok5, ok6⟩ := ok
  have hS' : va_S (geB B) s.heap H locs := ⟨hS.1, fun q h1 h2 => hS.2.1 q h1 (fun z => z.elim id (fun z => h2 (Nat.le_trans hB z))), fun q hq => (hS.2.2 q hq).elim (fun z => z.elim) (fun z => Nat.le_trans hB z)⟩
  exact vx_throwS X.x X.b hfl X.wn ok6 (by decide) (X.ts _ ok1.1) (X.ts _ ok1.2) hstr (vx_hat (fun w hw => X.ts _ (ok2 w hw)) ok3 (ok5 s args hZ.2.1)) ok4 hZ.1.1 hZ.1.2 hS' (hls.trans X.ml.symm) d0 d3 d4 d6 d9 (fun x hx => (hno x hx).elim) (by show 2 + 3 < lv; omega) (by show _ + (13 * (2 + 1) + 43) ≤ 40 * lv; omega) (Nat.le_refl _) (Nat.le_refl _) X.locks
    (fun t _ h1 h2 => ⟨rfl, fr.tr hS.fr' ⟨h1, fun q hq _ => h2 q hq⟩⟩) hS.2.2 (Nat.le_refl _) (Nat.le_refl _)
/-- a call of a method that throws -/
theorem m_callT (X : CX g p s m args meth c cc nL ret own nm) {lv mcR msR : Nat} {A : Nat → Prop} {H0 : Heap} (hS : va_S A H0 H locs) {y : MethodName} {c1 : ByteArray} {n1 lv1 index k : Nat} {ret1 : Option FieldType} {b : Nat} {as st : List Value} {C E : String}
    (M : MT l y c1 n1 ret1 lv1 B g H (.ref b :: as) E) (hZ : ZZ B s H) (ok : CallVok own index C y c1 n1 ret1 k) {ci : Nat} {fs : List Value} (hb : pt g b (.inr (ci, fs)) H) {T : u_T} {N : Nat} (hci : vwCl[ci]? = some (C, T, N)) (hk : as.length = k) (hst : st = as.reverse ++ .ref b :: rest) (hr : (rest.map fun v => v.category).sum ≤ 8) (hls : ls.size = nL)
    (hdg : decode cc pc = .ok (.invokevirtual index, 3)) (hlv : lv1 + 1 ≤ lv) (hn1 : n1 ≤ 21) (hm : cells + 1 ≤ mcR ∧ slots + 6 ≤ msR) (hA : ∀ q, H.size ≤ q → A q)
    (kk : ∀ (q : Addr) (ce : Cell) (H1 : Heap) (locs1 : List Loc), fr noA H H1 → va_S A H0 H1 locs1 → H1[q]? = some ce → ce.vm = .none → s.vm.findClass E = some ce.cls → vx_W p l e (rmK lv mcR msR) s m args below meth c H1 locs1 (cells + 1) (slots + 6) Q (F0 m pc ls rest) q) : W p l e (rmK lv mcR msR) s m args below meth c H locs cells slots Q (F0 m pc ls st) := by
  subst hst
  have hRm : (rmK lv1 1 6).frames + 1 ≤ (rmK lv mcR msR).frames ∧ 8 + (n1 + 11) + (rmK lv1 1 6).locals ≤ (rmK lv mcR msR).locals := by
    simp only [rmK]
    omega
  have cell : ∃ cellB : Cell, H[b]? = some cellB ∧ cellB.vm.isStatics = false ∧ s.vm.findClass C = some cellB.cls := by
    obtain ⟨r', hr', cellV, g1, g2, g3, -⟩ := hb
    have hcls := (X.K.1 ci _ hci).2
    exact ⟨cellV, g1, by rw [g3]; rfl, by rw [g2]; exact hcls.1⟩
  have hrun := vx_runV (R := rmK lv mcR msR) (cells := cells) (slots := slots) (locs := locs) (e := e) (below := below) (meth := meth) (g := F0 m pc ls (as.reverse ++ .ref b :: rest)) (As := as) (rest := rest) (b := b) ⟨X.x, X.b, X.ml, X.wn, X.ts⟩ M (cwV k X.ts ok.1 rfl rfl rfl ok.2 hRm) ⟨fun a U gg mk q => ⟨q.1, KK.same (s := U) (U := U.calling gg mk a) rfl q.2.1, q.2.2.1, ZZ.same (s := U) (U := U.calling gg mk a) rfl q.2.2.2⟩, cell, fun U hU hW => ⟨rfl, KK.moved hW X.kx, hU, ZZ.moved hW hZ⟩⟩ rfl hk hls rfl (lv_room hr) hdg hm
  intro T' hT Y
  rcases hrun T' hT Y with ⟨v, st₀, t, T2, L, h0, X', hL, e1, e2, hq, stp⟩ | ⟨q, st₀, t, T2, L, E', ce, h0, X', hL, e1, e2, ⟨hE, hf⟩, hce, hcv, hcl, stp⟩
  · exact hq.elim
  · subst hE
    obtain ⟨t2, a1, b1⟩ := kk q ce T2.heap (locs ++ L) (by rw [e1]; exact hf)
      ⟨Nat.le_trans hS.1 (by rw [e1]; exact hf.1), fun q h1 h2 => by rw [e1, hf.2 q (Nat.lt_of_lt_of_le h1 hS.1) (fun z => z)]; exact hS.2.1 q h1 h2, fun q hq => by
        rcases List.mem_append.mp hq with h | h
        · exact hS.2.2 q h
        · exact hA _ ((hL q h).elim (fun z => z.elim) id)⟩ (by rw [e1]; exact hce) hcv hcl T2 rfl X'
    exact ⟨t2, stp.trans a1, b1⟩
/-- what a callee threw goes on to the caller -/
theorem m_outT (X : CX g p s m args meth c cc nL ret own nm) {E : String} {ce : Cell} {q : Addr} {H0 : Heap} {H1 : Heap} {lv : Nat} (hno : ∀ x ∈ c.exceptionTable.toList, False) (hcell : H1[q]? = some ce) (hv : ce.vm = .none) (hcl : s.vm.findClass E = some ce.cls) (hS : va_S (AA noA H0) H0 H1 locs) (hc : cells ≤ 1) (hs : slots ≤ 6) :
    vx_W p l e (rmK lv 1 6) s m args below meth c H1 locs cells slots (TQ below E H0 args s) (F0 m pc ls rest) q :=
  vx_out (fun x hx => (hno x hx).elim) X.locks hcell hv hcl (fun t ht _ => ⟨rfl, by rw [ht]; exact hS.fr'⟩) hS.2.2 hc hs
/-- a method of the law with a table of its own: what its callee throws it catches -/
def MWr (l : Launch) (y : MethodName) (cc : ByteArray) (n : Nat) (hh : List (Nat × Nat × Nat × Nat)) (lv mc ms B : Nat) (g : GG) (H0 : Heap) (as : List Value) (A : Nat → Prop) (v0 : Option Value) (Pq : Heap → Prop) : Prop :=
  Met l y (.codeWith y cc n (some .int) hh :: LW) (rmK lv mc ms) (fun v U => v = as.toArray ∧ KK g U ∧ U.heap = H0 ∧ ZZ B U H0) (QM v0 Pq A H0) mc ms (AA A H0)
theorem MWr.of {y : MethodName} {n : Nat} {hh : List (Nat × Nat × Nat × Nat)} {lv mc ms : Nat} {H0 : Heap} {as : List Value} {A : Nat → Prop} {v0 : Option Value} {Pq : Heap → Prop} (hy : plainName y.cls = true) (hn : (lg_sl as).length ≤ n)
    (body : ∀ (p : Program) (e : Env) (s : State) (m : MethodId) (below : List Frame) (meth : Method) (c : Code), CX g p s m as.toArray meth c cc n (some .int) y.cls y.name → s.heap = H0 → ZZ B s H0 → c.exceptionTable.toList = tableOf hh → ∀ ls, lv_has ls n (lv_args 0 as) →
      W p l e (rmK lv mc ms) s m as.toArray below meth c H0 [] 0 0 (MQ below (QM v0 Pq A H0) as.toArray s mc ms (AA A H0)) (F0 m 0 ls [])) : MWr l y cc n hh lv mc ms B g H0 as A v0 Pq := by
  unfold MWr Met
  refine MetFree.of_bodyS (code := cc) (maxLocals := n) (ret := some .int) hy ?_ ?_
  · intro args s m h hn
    obtain ⟨m9, meth, c, hn9, h1, h2, h3, h4, -, h5, h6, -⟩ := Cond.codeWith_spec (atoms_spec (ws := .codeWith y cc n (some .int) hh :: LW) h _ List.mem_cons_self)
    cases hn.symm.trans hn9
    exact ⟨meth, c, h1, h2, h3, h4, h5, h6⟩
  · intro p e s m args below meth c s₁ B' hml hP _
    have hh0 : s₁.heap = s.heap := by rw [B'.state]; rfl
    obtain ⟨rfl, hK, hH, hZ⟩ := hP
    have hts := atoms_spec (ws := .codeWith y cc n (some .int) hh :: LW) B'.pre
    have hl := lv_entry as (n := n) hn
    have hb := body p e s m below meth c ⟨B'.exec, B'.bytes, B'.returns, hml, findClass_of_methodNamed B'.named, B'.notSynchronized, fun w h => hts w (List.mem_cons_of_mem _ h), hK, (name_of_methodNamed B'.named B'.method).1⟩ hH hZ (vx_table (x := y) B' (hts _ List.mem_cons_self)) _ hl
    rw [← lg_entry_eq] at hb
    obtain ⟨t, a1, o, b1, b2, b3⟩ := hb s₁ (hh0.trans hH) (Stand.of_body B')
    exact ⟨t, o, a1, b1, b2, ⟨b3.1, b3.2⟩⟩
/-- caught -/
theorem m_catch (X : CX g p s m args meth c cc nL ret own nm) {name E : String} {ce : Cell} {q : Addr} (pre : List ExceptionTableEntry) (x : ExceptionTableEntry) (suf : List ExceptionTableEntry) (hsplit : c.exceptionTable.toList = pre ++ x :: suf)
    (hpass : ∀ z ∈ pre, covers z pc = false ∨ (z.catchType ≠ 0 ∧ ∃ nm : String, Cond.classLink own z.catchType nm ∈ LW ∧ va_Nc E nm s)) (hx : covers x pc = true) (h0 : x.catchType ≠ 0) (hlink : Cond.classLink own x.catchType name ∈ LW) (hcast : va_Nw (.castable E name) s) (hcell : H[q]? = some ce) (hv : ce.vm = .none) (hcl : s.vm.findClass E = some ce.cls)
    (kk : W p l e R s m args below meth c H locs cells slots Q (F0 m x.handlerPc ls [.ref q])) : vx_W p l e R s m args below meth c H locs cells slots Q (F0 m pc ls rest) q :=
  vx_catch X.wn pre x suf hsplit (fun z hz => (hpass z hz).imp id (fun h => ⟨h.1, h.2.elim fun nm h => ⟨nm, X.ts _ h.1, h.2⟩⟩)) hx h0 (X.ts _ hlink) (va_Nw.use rfl hcast) hcell hv hcl kk
end EXC
theorem xok_IO : xOK R_IO 40 44 := by
  have h1 : ((vx_atS R_BP 44 R_IO XN).filter goodWord).all (fun w => decide (w ∈ LW)) = true := by decide +kernel
  have h2 : ((vx_atS R_BP 44 R_IO XN).filter (fun w => !goodWord w)).all (fun w => decide (w ∈ badL R_IO)) = true := by decide +kernel
  have h3 : (Cond.classLink R_BP 40 R_IO :: Cond.initialized R_IO :: vx_atS R_BP 44 R_IO XN).all vx_ot = true := by decide +kernel
  exact ⟨⟨LW_t 605 (by decide +kernel) (by decide +kernel), LW_t 15 (by decide +kernel) (by decide +kernel)⟩, fun w hw => of_decide_eq_true (List.all_eq_true.mp h1 w hw), fun w hw => of_decide_eq_true (List.all_eq_true.mp h2 w hw), fun w hw => List.all_eq_true.mp h3 w hw, fun s args h => vx_c (va_Nw.use rfl h.1.1) (vx_c (va_Nw.use rfl h.2.1.1) (vx_c (va_Nw.use rfl h.2.1.2.1) (vx_c (va_Nw.use rfl h.2.1.2.2) vx_n))), by decide +kernel⟩
theorem xok_IA : xOK R_IA 53 57 := by
  have h1 : ((vx_atS R_BP 57 R_IA XN).filter goodWord).all (fun w => decide (w ∈ LW)) = true := by decide +kernel
  have h2 : ((vx_atS R_BP 57 R_IA XN).filter (fun w => !goodWord w)).all (fun w => decide (w ∈ badL R_IA)) = true := by decide +kernel
  have h3 : (Cond.classLink R_BP 53 R_IA :: Cond.initialized R_IA :: vx_atS R_BP 57 R_IA XN).all vx_ot = true := by decide +kernel
  exact ⟨⟨LW_t 527 (by decide +kernel) (by decide +kernel), LW_t 16 (by decide +kernel) (by decide +kernel)⟩, fun w hw => of_decide_eq_true (List.all_eq_true.mp h1 w hw), fun w hw => of_decide_eq_true (List.all_eq_true.mp h2 w hw), fun w hw => List.all_eq_true.mp h3 w hw, fun s args h => vx_c (va_Nw.use rfl h.1.2.1) (vx_c (va_Nw.use rfl h.2.1.1) (vx_c (va_Nw.use rfl h.2.1.2.1) (vx_c (va_Nw.use rfl h.2.1.2.2) vx_n))), by decide +kernel⟩
theorem xok_IS : xOK R_IS 61 65 := by
  have h1 : ((vx_atS R_BP 65 R_IS XN).filter goodWord).all (fun w => decide (w ∈ LW)) = true := by decide +kernel
  have h2 : ((vx_atS R_BP 65 R_IS XN).filter (fun w => !goodWord w)).all (fun w => decide (w ∈ badL R_IS)) = true := by decide +kernel
  have h3 : (Cond.classLink R_BP 61 R_IS :: Cond.initialized R_IS :: vx_atS R_BP 65 R_IS XN).all vx_ot = true := by decide +kernel
  exact ⟨⟨LW_t 716 (by decide +kernel) (by decide +kernel), LW_t 17 (by decide +kernel) (by decide +kernel)⟩, fun w hw => of_decide_eq_true (List.all_eq_true.mp h1 w hw), fun w hw => of_decide_eq_true (List.all_eq_true.mp h2 w hw), fun w hw => List.all_eq_true.mp h3 w hw, fun s args h => vx_c (va_Nw.use rfl h.1.2.2) (vx_c (va_Nw.use rfl h.2.1.1) (vx_c (va_Nw.use rfl h.2.1.2.1) (vx_c (va_Nw.use rfl h.2.1.2.2) vx_n))), by decide +kernel⟩
