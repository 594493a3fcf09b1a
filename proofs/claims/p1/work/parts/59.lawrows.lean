-- ROWS FOR THE LAW ITSELF, AND WHAT IS SAID OF THE PRESS WHEN NOTHING IS TOLD
theorem hof_F (ad : Int32) : hof yF.1 ad yF.2.1 0 = -1 := by
  rw [yF_c]
  show (if yF.1.1 12 0 ≤ ad ∧ ad < yF.1.1 12 0 + yF.1.1 13 0 then nI 0 else -1) = -1
  rw [yF_it.1, yF_it.2.1, if_neg]
  intro h
  exact absurd (show ad < 0 by simpa using h.2) (Int32.not_lt.mpr h.1)
theorem iaO_F0 : iaO yF.2.1 0 = some 0 := by
  rw [yF_c]
  decide
theorem iaO_Fn {it : Int32} (h : ¬ it = 0) : iaO yF.2.1 it = none := by
  rw [yF_c]
  unfold iaO
  rw [if_neg]
  rintro ⟨h1, h2⟩
  rcases pk_ix it (show (1 : Nat) < 2 ^ 31 by omega) with z | z | ⟨j, hj, rfl⟩
  · exact absurd h1 (Int32.not_le.mpr z)
  · exact absurd h2 (Int32.not_lt.mpr z)
  · have : j = 0 := by omega
    subst this
    exact h rfl
theorem iaO_Fh (ad : Int32) : iaO yF.2.1 (hof yF.1 ad yF.2.1 0) = none := by
  rw [hof_F]
  exact iaO_Fn (by decide)
theorem brF_F : ¬ brF yF.1 0 := by
  unfold brF
  rw [yF_it.2.2]
  decide
theorem lbA_any (y : YS) (D : DT) (cnt : Nat → Nat) (a b : YS) : lbA y (asmF D cnt a) = lbA y (asmF D cnt b) := by
  have h := asmF_E D cnt (y := yq a b.2.2.1) (z := b) rfl
  rw [asmF_yq] at h
  unfold lbA
  rw [← h.2.1]
  show (if (yq (asmF D cnt a) b.2.2.1).2.2.2.1 = 0 then tal (yq (asmF D cnt a) b.2.2.1).1 5 (yq (asmF D cnt a) b.2.2.1).2.1 0 0 - tal y.1 5 y.2.1 0 0 else -1000 - (yq (asmF D cnt a) b.2.2.1).2.2.2.1) = _
  rw [h.1.talE 5 (yq (asmF D cnt a) b.2.2.1).2.1 0 0 (by omega)]
theorem ct_F (row : Int32) : ctF c00 row = 0 := by
  unfold ctF
  split <;> rfl
theorem lin_F (row t : Int32) : ¬ lIn c00 row t := by
  rintro ⟨h1, h2⟩
  rw [ct_F] at h2
  exact absurd h2 (Int32.not_lt.mpr h1)
section LROWS
variable {g : GG} {p : Program} {l : Launch} {e : Env} {R : Room} {s : State} {m : MethodId} {args : Array Value} {below : List Frame} {meth : Method} {c : Code} {H : Heap} {locs : List Loc} {cells slots : Nat} {Q : State → Prop}
variable {cc : ByteArray} {nL : Nat} {ret : Option FieldType} {own nm : String} {pc : Nat} {ls : Array Slot} {rest : List Value} {a B : Nat}
/-- less room is asked for -/
theorem W.less {R' : Room} {fr' : JFrame} (hf : R'.frames ≤ R.frames) (hl : R'.locals ≤ R.locals) (hc : R'.cells ≤ R.cells) (hs : R'.slots ≤ R.slots) (k : W p l e R' s m args below meth c H locs cells slots Q fr') : W p l e R s m args below meth c H locs cells slots Q fr' := by
  intro T hT X
  refine k T hT ⟨X.admits, X.cas, X.clock, X.frames, ?_, X.hears, X.method, X.code, X.here, X.tail, X.warmed, X.limits, X.bytes, X.same⟩
  have h := X.room
  simp only [State.hasRoom, Bool.and_eq_true, decide_eq_true_eq] at h ⊢
  obtain ⟨⟨⟨⟨h1, h2, h3, h4, h5, h6⟩, h7⟩, h8⟩, h9⟩ := h
  exact ⟨⟨⟨⟨by omega, by omega, by omega, by omega, by omega, h6⟩, by omega⟩, by omega⟩, h9⟩
theorem m_callW (X : CX g p s m args meth c cc nL ret own nm) {lv mcR msR : Nat} {A A1 : Nat → Prop} {H0 : Heap} (hS : va_S A H0 H locs) {y : MethodName} {c1 : ByteArray} {n1 lv1 mc ms index k : Nat} {hh : List (Nat × Nat × Nat × Nat)} {as st : List Value} {v0 : Option Value} {Pq : Heap → Prop}
    (M : MWr l y c1 n1 hh lv1 mc ms B g H as A1 v0 Pq) (hZ : ZZ B s H) (ok : CallSWok own index y c1 n1 hh k) (hk : as.length = k) (hst : st = as.reverse ++ rest) (hr : (rest.map fun v => v.category).sum ≤ 8) (hls : ls.size = nL)
    (hdg : decode cc pc = .ok (.invokestatic index, 3)) (hlv : lv1 + 1 ≤ lv) (hn1 : n1 ≤ 21) (hm : cells + mc ≤ mcR ∧ slots + ms ≤ msR) (hA : ∀ q, A1 q ∨ H.size ≤ q → A q)
    (kk : ∀ (H1 : Heap) (locs1 : List Loc), Pq H1 → fr A1 H H1 → va_S A H0 H1 locs1 → W p l e (rmK lv mcR msR) s m args below meth c H1 locs1 (cells + mc) (slots + ms) Q (F0 m (pc + 3) ls (v0.toList ++ rest))) : W p l e (rmK lv mcR msR) s m args below meth c H locs cells slots Q (F0 m pc ls st) := by
  subst hst
  have hRm : (rmK lv1 mc ms).frames + 1 ≤ (rmK lv mcR msR).frames ∧ 8 + (n1 + 11) + (rmK lv1 mc ms).locals ≤ (rmK lv mcR msR).locals := by
    simp only [rmK]
    omega
  have hrun := vx_runSW (R := rmK lv mcR msR) (cells := cells) (slots := slots) (locs := locs) (e := e) (below := below) (meth := meth) (g := F0 m pc ls (as.reverse ++ rest)) (As := as) (rest := rest) ⟨X.x, X.b, X.ml, X.wn, X.ts⟩ M (vx_cwSW k X.ts ok.1 rfl rfl rfl ok.2 hRm) ⟨fun a U gg mk q => ⟨q.1, KK.same (s := U) (U := U.calling gg mk a) rfl q.2.1, q.2.2.1, ZZ.same (s := U) (U := U.calling gg mk a) rfl q.2.2.2⟩, fun U hU hW => ⟨rfl, KK.moved hW X.kx, hU, ZZ.moved hW hZ⟩⟩ rfl hk hls rfl (lv_room hr) hdg hm
  exact m_behind hrun hS hA kk
theorem m_lald0 (X : CX g p s m args meth c cc nL ret own nm) {v : Int64} (q : ouIs g a v H) (hdg : decode cc pc = .ok (.laload, 1))
    (kk : W p l e R s m args below meth c H locs cells slots Q (F0 m (pc + 1) ls (.long v :: rest))) : W p l e R s m args below meth c H locs cells slots Q (F0 m pc ls (.int 0 :: .ref a :: rest)) := by
  obtain ⟨f, q, rfl⟩ := q
  exact va_lald X.x X.b X.K (p1 q) 0 5 rfl rfl (by unfold vp_in; decide) hdg kk
/-- the script -/
theorem m_sld (X : CX g p s m args meth c cc nL ret own nm) {b : Nat} {xs : Nat → Int32} (hx : va_X b 8 xs s s.heap) (hbl : b < s.heap.size) (hS : va_S (geB s.heap.size) s.heap H locs) (k : Nat) (hk : k < 8) {i : Int32} (hi : i = nI k) (hdg : decode cc pc = .ok (.iaload, 1))
    (kk : W p l e R s m args below meth c H locs cells slots Q (F0 m (pc + 1) ls (.int (xs k) :: rest))) : W p l e R s m args below meth c H locs cells slots Q (F0 m pc ls (.int i :: .ref b :: rest)) := by
  refine va_sld X.x X.b hx hbl (fun z => absurd hbl (Nat.not_lt.mpr z)) hS (vpN hi hk (by omega)) hdg ?_
  rw [hi, nI_clamp (by omega)]
  exact kk
theorem m_slen (X : CX g p s m args meth c cc nL ret own nm) {b L : Nat} {xs : Nat → Int32} (hx : va_X b L xs s s.heap) (hbl : b < s.heap.size) (hS : va_S (geB s.heap.size) s.heap H locs) (hdg : decode cc pc = .ok (.arraylength, 1))
    (kk : W p l e R s m args below meth c H locs cells slots Q (F0 m (pc + 1) ls (.int (Int32.ofNat L) :: rest))) : W p l e R s m args below meth c H locs cells slots Q (F0 m pc ls (.ref b :: rest)) :=
  va_slen X.x X.b hx hbl (fun z => absurd hbl (Nat.not_lt.mpr z)) hS hdg kk
theorem m_lcmp0 (X : CX g p s m args meth c cc nL ret own nm) {x : Int64} (hdg : decode cc pc = .ok (.lcmp, 1))
    (kk : W p l e R s m args below meth c H locs cells slots Q (F0 m (pc + 1) ls (.int 0 :: rest))) : W p l e R s m args below meth c H locs cells slots Q (F0 m pc ls (.long x :: .long x :: rest)) := by
  intro T hT Y
  obtain ⟨t, a, b⟩ := kk T hT Y
  refine ⟨t, ?_, b⟩
  jvm_step Y.here [Y.here.top, X.x, X.b, hdg, Int64.lt_irrefl]
  exact a
end LROWS
theorem ouIs.fr {g : GG} {oq : Nat} {v : Int64} {A : Nat → Prop} {H H1 : Heap} (h : ouIs g oq v H) (hf : fr A H H1) (hA : ¬ A oq) : ouIs g oq v H1 := by
  obtain ⟨f, q, e⟩ := h
  exact ⟨f, pt.fr q hf hA, e⟩
theorem rI4 {row : Int32} (h : ¬ rIn row) : ¬ (0 ≤ row ∧ row ≤ 4) := by
  rintro ⟨h1, h2⟩
  refine h ⟨h1, ?_⟩
  rw [Int32.lt_iff_toInt_lt]
  rw [Int32.le_iff_toInt_le] at h2
  have : (4 : Int32).toInt = 4 := by decide
  have : (5 : Int32).toInt = 5 := by decide
  omega
theorem w8 : ∀ t, t < 8 → (nI t = 0 ∨ nI t = 1 ∨ nI t = 2 ∨ nI t = 3 ∨ nI t = 4 ∨ nI t = 5 ∨ nI t = 6 ∨ nI t = 7) ∧ (0 ≤ nI t ∧ nI t ≤ 7) ∧ ¬ nI t < 0 ∧ nI t < 8 := by decide
theorem w12 : ∀ t, t < 12 → (0 ≤ nI t ∧ nI t ≤ 11) ∧ ¬ nI t < 0 ∧ nI t ≤ 11 := by decide
/-- the law in its turn: what each of its 19 cases starts from -/
def LawS (g : GG) (s : State) (B mo oq b : Nat) (locs : List Loc) (cells slots : Nat) (ls : Array Slot) (H : Heap) : Prop :=
  (B = s.heap.size ∧ B + 287 ≤ mo ∧ mo + 23 ≤ oq) ∧ va_S (geB s.heap.size) s.heap H locs ∧ bAt g B c00 (fun _ _ => 0) D0 yF H ∧ (∃ p0 s0, mAt g mo (mo + 1) p0 s0 H ∧ frP p0 s0 ∧ noL s0) ∧ (∃ fo, ouAt g oq fo H) ∧ ZZ B s H ∧ lv_has ls 9 [(4, .int 0), (3, .ref oq), (2, .ref mo), (1, .ref B), (0, .ref b)] ∧ cells ≤ 400 ∧ slots ≤ 20000
/-- what each of them ends in -/
def LawE (p : Program) (l : Launch) (e : Env) (s : State) (m : MethodId) (b : Nat) (below : List Frame) (meth : Method) (c : Code) (Q : State → Prop) : Prop :=
  ∀ (H : Heap) (locs : List Loc) (ls : Array Slot) (cells slots : Nat), va_S (geB s.heap.size) s.heap H locs → lv_has ls 9 [(4, .int 0), (0, .ref b)] → cells ≤ 1000 → slots ≤ 40000 → W p l e (rmK 2000 600002 7302232) s m #[.ref b] below meth c H locs cells slots Q (F0 m 1283 ls [])
