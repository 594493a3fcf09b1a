-- CONTRACTS OF THE LAW'S OWN METHODS: an answer of which something is said, the script besides
def QX (Pv : Option Value → Heap → Prop) (A : Nat → Prop) (H0 : Heap) : Array Value → State → Outcome → State → Prop := fun _ _ o t => ∃ v, o = .returned v ∧ Pv v t.heap ∧ fr A H0 t.heap
/-- as MM; the script of L ints xs lies at b -/
def MX (l : Launch) (y : MethodName) (cc : ByteArray) (n : Nat) (ret : Option FieldType) (lv mc ms : Nat) (g : GG) (b L : Nat) (xs : Nat → Int32) (H0 : Heap) (as : List Value) (A : Nat → Prop) (Pv : Option Value → Heap → Prop) : Prop :=
  Met l y (mws y cc n ret) (rmK lv mc ms) (fun v U => v = as.toArray ∧ KK g U ∧ U.heap = H0 ∧ va_X b L xs U H0) (QX Pv A H0) mc ms (AA A H0)
theorem va_X.calling {b L : Nat} {xs : Nat → Int32} {u U : State} {H : Heap} (hv : u.vm = U.vm) (h : va_X b L xs u H) : va_X b L xs U H := va_X.moved (hv ▸ Vm.Alike.refl _) h
theorem va_X.fr {g : GG} {b L : Nat} {xs : Nat → Int32} {u : State} {A : Nat → Prop} {H H1 : Heap} (h : va_X b L xs u H) (hf : fr A H H1) (hb : ¬ A b) : va_X b L xs u H1 := h.kept (hf.2 b (by obtain ⟨c, h1, -⟩ := h; exact (Array.getElem?_eq_some_iff.mp h1).1) hb)
section LAYX
variable {g : GG} {p : Program} {l : Launch} {e : Env} {R : Room} {s : State} {m : MethodId} {args : Array Value} {below : List Frame} {meth : Method} {c : Code} {H : Heap} {locs : List Loc} {cells slots : Nat} {Q : State → Prop}
variable {cc : ByteArray} {nL : Nat} {ret : Option FieldType} {own nm C : String} {b L : Nat} {xs : Nat → Int32}
variable {pc : Nat} {ls : Array Slot} {rest : List Value} {a : Nat}
theorem MX.of {y : MethodName} {n : Nat} {lv mc ms : Nat} {H0 : Heap} {as : List Value} {A : Nat → Prop} {Pv : Option Value → Heap → Prop} (hy : plainName y.cls = true) (hn : (lg_sl as).length ≤ n)
    (body : ∀ (p : Program) (e : Env) (s : State) (m : MethodId) (below : List Frame) (meth : Method) (c : Code), CX g p s m as.toArray meth c cc n ret y.cls y.name → s.heap = H0 → va_X b L xs s H0 → ∀ ls, lv_has ls n (lv_args 0 as) →
      W p l e (rmK lv mc ms) s m as.toArray below meth c H0 [] 0 0 (MQ below (QX Pv A H0) as.toArray s mc ms (AA A H0)) (F0 m 0 ls [])) : MX l y cc n ret lv mc ms g b L xs H0 as A Pv := by
  refine Met.ofW (cc := cc) (maxL := n) (ret := ret) hy rfl ?_
  intro p e s m args below meth c s₁ B hml hv
  obtain ⟨rfl, hK, hH, hx⟩ := hv
  have hts := atoms_spec (ws := mws y cc n ret) B.pre
  have hl := lv_entry as (n := n) hn
  rw [lg_entry_eq, hH]
  exact body p e s m below meth c ⟨B.exec, B.bytes, B.returns, hml, findClass_of_methodNamed B.named, B.notSynchronized, fun w h => hts w (List.mem_cons_of_mem _ h), hK, (name_of_methodNamed B.named B.method).1⟩ hH hx _ hl
theorem m_behindX {lv mcR msR : Nat} {A A1 : Nat → Prop} {H0 : Heap} {mc ms : Nat} {a : Array Value} {st : List Value} {Pv : Option Value → Heap → Prop}
    (hrun : va_Run p l e (rmK lv mcR msR) s m args below meth c H locs cells slots mc ms (F0 m pc ls st) rest (QX Pv A1 H a) (AA A1 H)) (hS : va_S A H0 H locs) (hA : ∀ q, A1 q ∨ H.size ≤ q → A q)
    (kk : ∀ (v : Option Value) (H1 : Heap) (locs1 : List Loc), Pv v H1 → fr A1 H H1 → va_S A H0 H1 locs1 → W p l e (rmK lv mcR msR) s m args below meth c H1 locs1 (cells + mc) (slots + ms) Q (F0 m (pc + 3) ls (v.toList ++ rest))) : W p l e (rmK lv mcR msR) s m args below meth c H locs cells slots Q (F0 m pc ls st) := by
  intro T' hT Y
  obtain ⟨v, st₀, t, T2, L, h0, X', hL, e1, e2, ⟨v2, hv, hq, hf⟩, stp⟩ := hrun T' hT Y
  cases hv
  obtain ⟨t2, a1, b1⟩ := kk v T2.heap (locs ++ L) (by rw [e1]; exact hq) (by rw [e1]; exact hf)
    ⟨Nat.le_trans hS.1 (by rw [e1]; exact hf.1), fun q h1 h2 => by rw [e1, hf.2 q (Nat.lt_of_lt_of_le h1 hS.1) (fun z => h2 (hA q (Or.inl z)))]; exact hS.2.1 q h1 h2, fun q hq => by
      rcases List.mem_append.mp hq with h | h
      · exact hS.2.2 q h
      · exact hA _ (hL q h)⟩ T2 rfl X'
  exact ⟨t2, stp t2 a1, b1⟩
theorem m_callVX (X : CX g p s m args meth c cc nL ret own nm) {lv mcR msR : Nat} {A A1 : Nat → Prop} {H0 : Heap} (hS : va_S A H0 H locs) (hx : va_X b L xs s H) {y : MethodName} {c1 : ByteArray} {n1 lv1 mc ms index k : Nat} {ret1 : Option FieldType} {a : Nat} {as st : List Value} {Pv : Option Value → Heap → Prop} {C : String}
    (M : MX l y c1 n1 ret1 lv1 mc ms g b L xs H (.ref a :: as) A1 Pv) (ok : CallVok own index C y c1 n1 ret1 k) {ci : Nat} {fs : List Value} (hb : pt g a (.inr (ci, fs)) H) {T : u_T} {N : Nat} (hci : vwCl[ci]? = some (C, T, N)) (hk : as.length = k) (hst : st = as.reverse ++ .ref a :: rest) (hr : (rest.map fun v => v.category).sum ≤ 8) (hls : ls.size = nL)
    (hdg : decode cc pc = .ok (.invokevirtual index, 3)) (hlv : lv1 + 1 ≤ lv) (hn1 : n1 ≤ 21) (hm : cells + mc ≤ mcR ∧ slots + ms ≤ msR) (hA : ∀ q, A1 q ∨ H.size ≤ q → A q)
    (kk : ∀ (v : Option Value) (H1 : Heap) (locs1 : List Loc), Pv v H1 → fr A1 H H1 → va_S A H0 H1 locs1 → W p l e (rmK lv mcR msR) s m args below meth c H1 locs1 (cells + mc) (slots + ms) Q (F0 m (pc + 3) ls (v.toList ++ rest))) : W p l e (rmK lv mcR msR) s m args below meth c H locs cells slots Q (F0 m pc ls st) := by
  subst hst
  have hRm : (rmK lv1 mc ms).frames + 1 ≤ (rmK lv mcR msR).frames ∧ 8 + (n1 + 11) + (rmK lv1 mc ms).locals ≤ (rmK lv mcR msR).locals := by
    simp only [rmK]
    omega
  have cell : ∃ cellB : Cell, H[a]? = some cellB ∧ cellB.vm.isStatics = false ∧ s.vm.findClass C = some cellB.cls := by
    obtain ⟨r', hr', cellV, g1, g2, g3, -⟩ := hb
    have hcls := (X.K.1 ci _ hci).2
    exact ⟨cellV, g1, by rw [g3]; rfl, by rw [g2]; exact hcls.1⟩
  have hrun := va_runV (R := rmK lv mcR msR) (cells := cells) (slots := slots) (locs := locs) (e := e) (below := below) (meth := meth) (g := F0 m pc ls (as.reverse ++ .ref a :: rest)) (As := as) (rest := rest) (b := a) ⟨X.x, X.b, X.ml, X.wn, X.ts⟩ M (cwV k X.ts ok.1 rfl rfl rfl ok.2 hRm) ⟨fun a U gg mk q => ⟨q.1, KK.same (s := U) (U := U.calling gg mk a) rfl q.2.1, q.2.2.1, va_X.calling (u := U) (U := U.calling gg mk a) rfl q.2.2.2⟩, cell, fun U hU hW => ⟨rfl, KK.moved hW X.kx, hU, va_X.moved hW.alike hx⟩⟩ rfl hk hls rfl (lv_room hr) hdg hm
  exact m_behindX hrun hS hA kk
theorem m_callSX (X : CX g p s m args meth c cc nL ret own nm) {lv mcR msR : Nat} {A A1 : Nat → Prop} {H0 : Heap} (hS : va_S A H0 H locs) (hx : va_X b L xs s H) {y : MethodName} {c1 : ByteArray} {n1 lv1 mc ms index k : Nat} {ret1 : Option FieldType} {as st : List Value} {Pv : Option Value → Heap → Prop}
    (M : MX l y c1 n1 ret1 lv1 mc ms g b L xs H as A1 Pv) (ok : CallSok own index y c1 n1 ret1 k) (hk : as.length = k) (hst : st = as.reverse ++ rest) (hr : (rest.map fun v => v.category).sum ≤ 8) (hls : ls.size = nL)
    (hdg : decode cc pc = .ok (.invokestatic index, 3)) (hlv : lv1 + 1 ≤ lv) (hn1 : n1 ≤ 21) (hm : cells + mc ≤ mcR ∧ slots + ms ≤ msR) (hA : ∀ q, A1 q ∨ H.size ≤ q → A q)
    (kk : ∀ (v : Option Value) (H1 : Heap) (locs1 : List Loc), Pv v H1 → fr A1 H H1 → va_S A H0 H1 locs1 → W p l e (rmK lv mcR msR) s m args below meth c H1 locs1 (cells + mc) (slots + ms) Q (F0 m (pc + 3) ls (v.toList ++ rest))) : W p l e (rmK lv mcR msR) s m args below meth c H locs cells slots Q (F0 m pc ls st) := by
  subst hst
  have hRm : (rmK lv1 mc ms).frames + 1 ≤ (rmK lv mcR msR).frames ∧ 8 + (n1 + 11) + (rmK lv1 mc ms).locals ≤ (rmK lv mcR msR).locals := by
    simp only [rmK]
    omega
  have hrun := va_runS (R := rmK lv mcR msR) (cells := cells) (slots := slots) (locs := locs) (e := e) (below := below) (meth := meth) (g := F0 m pc ls (as.reverse ++ rest)) (As := as) (rest := rest) ⟨X.x, X.b, X.ml, X.wn, X.ts⟩ M (va_cwS k X.ts ok.1 rfl rfl rfl ok.2 hRm) ⟨fun a U gg mk q => ⟨q.1, KK.same (s := U) (U := U.calling gg mk a) rfl q.2.1, q.2.2.1, va_X.calling (u := U) (U := U.calling gg mk a) rfl q.2.2.2⟩, fun U hU hW => ⟨rfl, KK.moved hW X.kx, hU, va_X.moved hW.alike hx⟩⟩ rfl hk hls rfl (lv_room hr) hdg hm
  exact m_behindX hrun hS hA kk
/-- a private static method, called by a nest mate -/
theorem m_callSNX (X : CX g p s m args meth c cc nL ret own nm) {lv mcR msR : Nat} {A A1 : Nat → Prop} {H0 : Heap} (hS : va_S A H0 H locs) (hx : va_X b L xs s H) {y : MethodName} {c1 : ByteArray} {n1 lv1 mc ms index k : Nat} {ret1 : Option FieldType} {as st : List Value} {Pv : Option Value → Heap → Prop} {host : String}
    (M : MX l y c1 n1 ret1 lv1 mc ms g b L xs H as A1 Pv) (hN : va_Nw (.methodLinkNest own index y host) s) (hcode : Cond.code y c1 n1 ret1 ∈ LW) (hini : Cond.initialized y.cls ∈ LW) (hsta : Cond.static y ∈ LW) (hd : y.cls ≠ "java/lang/invoke/MethodHandle" ∧ y.cls ≠ "java/lang/invoke/VarHandle" ∧ (parseMethodDescriptor y.desc).map (fun d => d.parameters.length) = some k) (hk : as.length = k) (hst : st = as.reverse ++ rest) (hr : (rest.map fun v => v.category).sum ≤ 8) (hls : ls.size = nL)
    (hdg : decode cc pc = .ok (.invokestatic index, 3)) (hlv : lv1 + 1 ≤ lv) (hn1 : n1 ≤ 21) (hm : cells + mc ≤ mcR ∧ slots + ms ≤ msR) (hA : ∀ q, A1 q ∨ H.size ≤ q → A q)
    (kk : ∀ (v : Option Value) (H1 : Heap) (locs1 : List Loc), Pv v H1 → fr A1 H H1 → va_S A H0 H1 locs1 → W p l e (rmK lv mcR msR) s m args below meth c H1 locs1 (cells + mc) (slots + ms) Q (F0 m (pc + 3) ls (v.toList ++ rest))) : W p l e (rmK lv mcR msR) s m args below meth c H locs cells slots Q (F0 m pc ls st) := by
  subst hst
  have hRm : (rmK lv1 mc ms).frames + 1 ≤ (rmK lv mcR msR).frames ∧ 8 + (n1 + 11) + (rmK lv1 mc ms).locals ≤ (rmK lv mcR msR).locals := by
    simp only [rmK]
    omega
  have hrun := va_runSN (R := rmK lv mcR msR) (cells := cells) (slots := slots) (locs := locs) (e := e) (below := below) (meth := meth) (g := F0 m pc ls (as.reverse ++ rest)) (As := as) (rest := rest) ⟨X.x, X.b, X.ml, X.wn, X.ts⟩ M ⟨va_cnB k X.ts (gIn_of (l := []) (by simp) (mws_in hcode)) rfl rfl rfl hN (X.ts _ hini) hd hRm, X.ts _ hsta, trivial⟩ ⟨fun a U gg mk q => ⟨q.1, KK.same (s := U) (U := U.calling gg mk a) rfl q.2.1, q.2.2.1, va_X.calling (u := U) (U := U.calling gg mk a) rfl q.2.2.2⟩, fun U hU hW => ⟨rfl, KK.moved hW X.kx, hU, va_X.moved hW.alike hx⟩⟩ rfl hk hls rfl (lv_room hr) hdg hm
  exact m_behindX hrun hS hA kk
theorem m_callIX (X : CX g p s m args meth c cc nL ret own nm) {lv mcR msR : Nat} {A A1 : Nat → Prop} {H0 : Heap} (hS : va_S A H0 H locs) (hx : va_X b L xs s H) {y : MethodName} {c1 : ByteArray} {n1 lv1 mc ms index k : Nat} {a : Nat} {as st : List Value} {Pv : Option Value → Heap → Prop}
    (M : MX l y c1 n1 none lv1 mc ms g b L xs H (.ref a :: as) A1 (fun v H1 => v = none ∧ Pv v H1)) (ok : CallIok own index y c1 n1 k) (hk : as.length = k) (hst : st = as.reverse ++ .ref a :: rest) (hr : (rest.map fun v => v.category).sum ≤ 8) (hls : ls.size = nL)
    (hdg : decode cc pc = .ok (.invokespecial index, 3)) (hlv : lv1 + 1 ≤ lv) (hn1 : n1 ≤ 21) (hm : cells + mc ≤ mcR ∧ slots + ms ≤ msR) (hA : ∀ q, A1 q ∨ H.size ≤ q → A q)
    (kk : ∀ (H1 : Heap) (locs1 : List Loc), Pv none H1 → fr A1 H H1 → va_S A H0 H1 locs1 → W p l e (rmK lv mcR msR) s m args below meth c H1 locs1 (cells + mc) (slots + ms) Q (F0 m (pc + 3) ls rest)) : W p l e (rmK lv mcR msR) s m args below meth c H locs cells slots Q (F0 m pc ls st) := by
  subst hst
  have hRm : (rmK lv1 mc ms).frames + 1 ≤ (rmK lv mcR msR).frames ∧ 8 + (n1 + 11) + (rmK lv1 mc ms).locals ≤ (rmK lv mcR msR).locals := by
    simp only [rmK]
    omega
  have hrun := va_runI (R := rmK lv mcR msR) (cells := cells) (slots := slots) (locs := locs) (e := e) (below := below) (meth := meth) (g := F0 m pc ls (as.reverse ++ .ref a :: rest)) (As := as) (rest := rest) (b := a) ⟨X.x, X.b, X.ml, X.wn, X.ts⟩ M (cwI k X.ts ok.1 rfl rfl rfl (X.ts _ ok.2.1) (X.ts _ ok.2.2.1) (X.ts _ ok.2.2.2.1) ok.2.2.2.2.1 ok.2.2.2.2.2 hRm) ⟨fun a U gg mk q => ⟨q.1, KK.same (s := U) (U := U.calling gg mk a) rfl q.2.1, q.2.2.1, va_X.calling (u := U) (U := U.calling gg mk a) rfl q.2.2.2⟩, fun U hU hW => ⟨rfl, KK.moved hW X.kx, hU, va_X.moved hW.alike hx⟩⟩ rfl hk hls rfl (lv_room hr) hdg hm
  refine m_behindX hrun hS hA (fun v H1 locs1 hq hf hS => ?_)
  obtain ⟨rfl, hq⟩ := hq
  exact kk H1 locs1 hq hf hS
theorem m_iretX (X : CX g p s m args meth c cc nL (some .int) own nm) {mc ms : Nat} {A : Nat → Prop} {H0 : Heap} {Pv : Option Value → Heap → Prop} (hS : va_S (AA A H0) H0 H locs) (hc : cells ≤ mc) (hs : slots ≤ ms) {v : Int32} (hdg : decode cc pc = .ok (.ireturn, 1)) (hq : Pv (some (.int v)) H) : W p l e R s m args below meth c H locs cells slots (MQ below (QX Pv A H0) args s mc ms (AA A H0)) (F0 m pc ls [.int v]) := by
  refine W.widen hc hs ?_
  exact W.iret X.x X.b X.r (fun t ht _ => ⟨_, rfl, by rw [ht]; exact hq, by rw [ht]; exact hS.fr'⟩) hS.2.2 hdg X.locks
theorem m_zretX (X : CX g p s m args meth c cc nL (some .boolean) own nm) {mc ms : Nat} {A : Nat → Prop} {H0 : Heap} {Pv : Option Value → Heap → Prop} (hS : va_S (AA A H0) H0 H locs) (hc : cells ≤ mc) (hs : slots ≤ ms) {v : Int32} (hdg : decode cc pc = .ok (.ireturn, 1)) (hn : narrow .boolean (.int v) = .int v) (hq : Pv (some (.int v)) H) : W p l e R s m args below meth c H locs cells slots (MQ below (QX Pv A H0) args s mc ms (AA A H0)) (F0 m pc ls [.int v]) := by
  refine W.widen hc hs ?_
  exact W.zret X.x X.b X.r hn (fun t ht _ => ⟨_, rfl, by rw [ht]; exact hq, by rw [ht]; exact hS.fr'⟩) hS.2.2 hdg X.locks
theorem m_vretX (X : CX g p s m args meth c cc nL none own nm) {mc ms : Nat} {A : Nat → Prop} {H0 : Heap} {Pv : Option Value → Heap → Prop} (hS : va_S (AA A H0) H0 H locs) (hc : cells ≤ mc) (hs : slots ≤ ms) (hdg : decode cc pc = .ok (.return_, 1)) (hq : Pv none H) : W p l e R s m args below meth c H locs cells slots (MQ below (QX Pv A H0) args s mc ms (AA A H0)) (F0 m pc ls []) := by
  refine W.widen hc hs ?_
  exact W.vret X.x X.b X.r (fun t ht _ => ⟨_, rfl, by rw [ht]; exact hq, by rw [ht]; exact hS.fr'⟩) hS.2.2 hdg X.locks
theorem m_aretX {t : FieldType} (X : CX g p s m args meth c cc nL (some (.array t)) own nm) {mc ms : Nat} {A : Nat → Prop} {H0 : Heap} {Pv : Option Value → Heap → Prop} (hS : va_S (AA A H0) H0 H locs) (hc : cells ≤ mc) (hs : slots ≤ ms) {a : Nat} (hdg : decode cc pc = .ok (.areturn, 1)) (hq : Pv (some (.ref a)) H) : W p l e R s m args below meth c H locs cells slots (MQ below (QX Pv A H0) args s mc ms (AA A H0)) (F0 m pc ls [.ref a]) := by
  refine W.widen hc hs ?_
  exact W.aret X.x X.b X.r (Or.inr ⟨_, rfl⟩) (Or.inr ⟨_, rfl⟩) (fun t ht _ => ⟨_, rfl, by rw [ht]; exact hq, by rw [ht]; exact hS.fr'⟩) hS.2.2 hdg X.locks
-- the script
theorem m_xld (X : CX g p s m args meth c cc nL ret own nm) (hx : va_X b L xs s H) {i : Int32} (hin : vp_in i L) (hdg : decode cc pc = .ok (.iaload, 1))
    (kk : W p l e R s m args below meth c H locs cells slots Q (F0 m (pc + 1) ls (.int (xs i.toNatClampNeg) :: rest))) : W p l e R s m args below meth c H locs cells slots Q (F0 m pc ls (.int i :: .ref b :: rest)) := by
  obtain ⟨scr, h1, h2, h3, h4, h5⟩ := hx
  have hlt : i.toNatClampNeg < L := Nat.not_le.mp fun q => hin (Or.inr q)
  exact W.iald (v := .int (xs i.toNatClampNeg)) X.x X.b h1 h2 h3 (by rw [h4]; exact hin) (h5 _ hlt) rfl rfl hdg kk
theorem m_xlen (X : CX g p s m args meth c cc nL ret own nm) (hx : va_X b L xs s H) (hdg : decode cc pc = .ok (.arraylength, 1))
    (kk : W p l e R s m args below meth c H locs cells slots Q (F0 m (pc + 1) ls (.int (nI L) :: rest))) : W p l e R s m args below meth c H locs cells slots Q (F0 m pc ls (.ref b :: rest)) := by
  obtain ⟨scr, h1, h2, h3, h4, h5⟩ := hx
  exact W.alen (n := nI L) X.x X.b h1 h2 (by rw [h4] <;> rfl) rfl rfl hdg kk
-- arrays of arrays
theorem XA.five {U : State} (K : KK g U) : ∃ kA k0, U.vm.classes[g.2 5]? = some kA ∧ kA.kind = .array (g.2 0) (.array .int) ∧ U.vm.classes[g.2 0]? = some k0 ∧ ∃ c0, k0.kind = .array c0 .int := by
  obtain ⟨comp, cA, kA, h1, h2, h3, h4, h5⟩ := arrayOverA_spec K.2.2.2.2.2.2.2.2.1
  have e5 : U.vm.findClass ("[" ++ (FieldType.array .int).toString) = some (g.2 5) := (K.1.2 5 _ rfl).2
  have e0 : U.vm.findClass ("[" ++ FieldType.int.toString) = some (g.2 0) := (K.1.2 0 _ rfl).2
  cases h5.symm.trans e5
  cases h1.symm.trans e0
  obtain ⟨-, k0, hk0, c0, hc0⟩ := (K.1.2 0 _ rfl).1 0 (fun _ => .null)
  exact ⟨kA, k0, h3, h4, hk0, c0, hc0⟩
theorem XA.six {U : State} (K : KK g U) : ∃ kA, U.vm.classes[g.2 6]? = some kA ∧ kA.kind = .array (g.2 5) (.array (.array .int)) := by
  obtain ⟨comp, cA, kA, h1, h2, h3, h4, h5⟩ := arrayOverA_spec K.2.2.2.2.2.2.2.2.2
  have e6 : U.vm.findClass ("[" ++ (FieldType.array (.array .int)).toString) = some (g.2 6) := (K.1.2 6 _ rfl).2
  have e5 : U.vm.findClass ("[" ++ (FieldType.array .int).toString) = some (g.2 5) := (K.1.2 5 _ rfl).2
  cases h5.symm.trans e6
  cases h1.symm.trans e5
  exact ⟨kA, h3, h4⟩
theorem asg_rf (vm : Vm) (c : ClassId) : vm.assignable c c = true := by
  show Vm.assignableAux vm (255 + 1) c c = true
  rw [Vm.assignableAux, beq_self_eq_true, Bool.true_or]
theorem m_qald2 (X : CX g p s m args meth c cc nL ret own nm) (t0 : Nat) {t : FieldType} {cA : ClassId} {n : Nat} {f : Nat → Option Nat} (ht : (vtys g)[t0]? = some (cA, .array t)) (q : pt g a (qarr cA n f) H) {i : Int32} (hin : vp_in i n) {v : Value} (hv : va_rf (f i.toNatClampNeg) = v) (hdg : decode cc pc = .ok (.aaload, 1))
    (kk : W p l e R s m args below meth c H locs cells slots Q (F0 m (pc + 1) ls (v :: rest))) : W p l e R s m args below meth c H locs cells slots Q (F0 m pc ls (.int i :: .ref a :: rest)) := by
  subst hv
  have hlt : i.toNatClampNeg < n := Nat.not_le.mp fun q => hin (Or.inr q)
  exact W.aald (v := va_rf (f i.toNatClampNeg)) (ty := .array t) X.x X.b q ((X.K.2 t0 _ ht).1 n (fun j => va_rf (f j))) rfl (fun q => by cases q) (by show ¬ (i < 0 ∨ (arrV _ _ _).slots.size ≤ _); rw [arrV_size]; exact hin) (by show (arrV _ _ _).slots[_]? = _; rw [arrV_read _ _ hlt]) rfl rfl hdg kk
/-- an array put into an array of such -/
theorem m_qast2 (X : CX g p s m args meth c cc nL ret own nm) {A : Nat → Prop} {H0 : Heap} (hS : va_S A H0 H locs) (hA : A a) {t : FieldType} {cA cV : ClassId} {kA kV : Class} (hkA : s.vm.classes[cA]? = some kA) (hkind : kA.kind = .array cV (.array t)) (hkV : s.vm.classes[cV]? = some kV) {n v : Nat} {x : vp_A} {f : Nat → Option Nat} (q : pt g a (qarr cA n f) H) (hv : pt g v (.inl (cV, x)) H) (hx : ∀ (q : ClassId), (vp_cell cV x).vm ≠ .statics q) (hxc : (vp_cell cV x).cls = cV) {i : Int32} (hin : vp_in i n) (hdg : decode cc pc = .ok (.aastore, 1))
    (kk : ∀ (H1 : Heap) (locs1 : List Loc), pt g a (qarr cA n (va_up f i.toNatClampNeg (some v))) H1 → chg a H H1 → va_S A H0 H1 locs1 → W p l e R s m args below meth c H1 locs1 cells slots Q (F0 m (pc + 1) ls rest)) : W p l e R s m args below meth c H locs cells slots Q (F0 m pc ls (.ref v :: .int i :: .ref a :: rest)) := by
  have hlt : i.toNatClampNeg < n := Nat.not_le.mp fun q => hin (Or.inr q)
  have h0 : ¬ i < 0 := fun q => hin (Or.inl q)
  refine W.aast X.x X.b q (fun q h => by cases h) (fun h => by cases h) hkA hkind rfl hkV ⟨h0, by show _ < (arrV _ _ _).slots.size; rw [arrV_size]; exact hlt⟩ hv hx (by rw [hxc]; exact hkV) (by rw [hxc]; exact asg_rf _ _) rfl rfl hdg fun H1 e z oq => ?_
  refine kk H1 _ ?_ ⟨z, oq⟩ (hS.put z oq hA)
  show H1[a]? = some (vp_cell _ _)
  rw [e]
  rw [vp_cell_q, vp_cell_q, arrV_store]
  congr 2
  funext q
  by_cases hq : q = i.toNatClampNeg
  · subst hq
    simp [updV, va_up, va_rf]
  · simp [updV, va_up, hq]
/-- a new array of int arrays -/
theorem m_newR2 (X : CX g p s m args meth c cc nL ret own nm) {index : Nat} (hclink : Cond.classLink own index (FieldType.array .int).toString ∈ LW) {A : Nat → Prop} {H0 : Heap} (hS : va_S (AA A H0) H0 H locs) {q : Nat} (hz : H.size = q)
    {n : Int32} (N' : Nat) (hn : ¬ n < 0) (hN : n.toNatClampNeg = N') (hbytes : N' * 4 ≤ 536870912) (hcells : cells + 1 ≤ R.cells) (hslots : slots + N' ≤ R.slots) (hdg : decode cc pc = .ok (.anewarray index, 3))
    (kk : ∀ (H1 : Heap), pt g q (qarr (g.2 5) N' (fun _ => none)) H1 → grow H H1 → va_S (AA A H0) H0 H1 locs → H1.size = q + 1 → W p l e R s m args below meth c H1 locs (cells + 1) (slots + N') Q (F0 m (pc + 3) ls (.ref q :: rest))) : W p l e R s m args below meth c H locs cells slots Q (F0 m pc ls (.int n :: rest)) := by
  subst hz
  subst hN
  refine W.anewA X.x X.b X.wn (X.ts _ hclink) X.kx.2.2.2.2.2.2.2.2.1 rfl hdg rfl hn hbytes hcells hslots fun cA' kA comp f1 f2 f3 f4 => ?_
  have hc : cA' = g.2 5 := Option.some.inj (f1.symm.trans (X.K.2 5 _ rfl).2)
  subst hc
  generalize hH1 : H.push ({ cls := g.2 5, slots := Array.replicate n.toNatClampNeg .null, vm := .none } : Cell) = H1
  have z1 : H1.size = H.size + 1 := by rw [← hH1, Array.size_push]
  have e1 : H1[H.size]? = some (arrV (g.2 5) n.toNatClampNeg (fun _ => .null)) := by rw [← hH1, Array.getElem?_push_size, ← arrV_new]
  have o1 : ∀ q : Nat, q < H.size → H1[q]? = H[q]? := fun q hq => by rw [← hH1, Array.getElem?_push, if_neg (Nat.ne_of_lt hq)]
  exact kk H1 (by show H1[H.size]? = some (vp_cell _ _); rw [vp_cell_q]; exact e1) ⟨z1, o1⟩ ⟨Nat.le_trans hS.1 (by omega), fun x h1 h2 => (o1 x (Nat.lt_of_lt_of_le h1 hS.1)).trans (hS.2.1 x h1 h2), hS.2.2⟩ z1
end LAYX
