-- ROWS: new int[5][0][]; a row of int arrays copied
section LAYM
variable {g : GG} {p : Program} {l : Launch} {e : Env} {R : Room} {s : State} {m : MethodId} {args : Array Value} {below : List Frame} {meth : Method} {c : Code} {H : Heap} {locs : List Loc} {cells slots : Nat} {Q : State → Prop}
variable {cc : ByteArray} {nL : Nat} {ret : Option FieldType} {own nm C : String}
variable {pc : Nat} {ls : Array Slot} {rest : List Value} {a : Nat}
theorem m_multi (X : CX g p s m args meth c cc nL ret own nm) {index : Nat} (hclink : Cond.classLink own index (FieldType.array (.array (.array .int))).toString ∈ LW) {A : Nat → Prop} {H0 : Heap} (hS : va_S (AA A H0) H0 H locs) {q : Nat} (hz : H.size = q) (hcells : cells + 6 ≤ R.cells) (hslots : slots + 5 ≤ R.slots) (hdg : decode cc pc = .ok (.multianewarray index 2, 4))
    (kk : ∀ (H1 : Heap) (locs1 : List Loc), pt g q (qarr (g.2 6) 5 (fun i => some (q + 1 + i))) H1 → (∀ i, i < 5 → pt g (q + 1 + i) (qarr (g.2 5) 0 (fun _ => none)) H1) → fr noA H H1 → va_S (AA A H0) H0 H1 locs1 → H1.size = q + 6 → W p l e R s m args below meth c H1 locs1 (cells + 6) (slots + 5) Q (F0 m (pc + 4) ls (.ref q :: rest))) : W p l e R s m args below meth c H locs cells slots Q (F0 m pc ls (.int 0 :: .int 5 :: rest)) := by
  subst hz
  obtain ⟨kA, h1, h2⟩ := XA.six X.kx
  obtain ⟨k5, k0, h3, h4, -⟩ := XA.five X.kx
  have hfc : s.vm.findClass (FieldType.array (.array (.array .int))).toString = some (g.2 6) := (X.K.2 6 _ rfl).2
  refine W.multi5 X.x X.b X.wn (X.ts _ hclink) hfc h1 h2 h3 h4 rfl hdg rfl hcells hslots (fun H1 z1 e1 e2 o1 => ?_)
  refine kk H1 _ ?_ (fun i hi => ?_) ⟨by omega, fun q hq _ => o1 q hq⟩ ⟨by have := hS.1; omega, fun x g1 g2 => (o1 x (Nat.lt_of_lt_of_le g1 hS.1)).trans (hS.2.1 x g1 g2), fun q hq => ?_⟩ z1
  · show H1[H.size]? = some (vp_cell _ _)
    rw [vp_cell_q]
    exact e1
  · show H1[H.size + 1 + i]? = some (vp_cell _ _)
    rw [vp_cell_q]
    exact e2 i hi
  · simp only [List.mem_append, List.mem_singleton] at hq
    rcases hq with ((((h | h) | h) | h) | h) | h
    · exact hS.2.2 q h
    all_goals (rw [h]; exact Or.inr hS.1)
theorem nn_int {z : Int32} (hz : ¬ z < 0) : z.toInt = (z.toNatClampNeg : Int) := by
  have hz0 : (0 : Int) ≤ z.toInt := by
    have := Int32.not_lt.mp hz
    simpa using Int32.le_iff_toInt_le.mp this
  show z.toInt = ((z.toInt.toNat : Nat) : Int)
  omega
theorem m_copyA (X : CX g p s m args meth c cc nL ret own nm) {index : Nat} (hls : ls.size = nL) (hlink : Cond.methodLink own index arraycopyName ∈ LW) (hnat : Cond.native arraycopyName ∈ LW) (hstat : Cond.static arraycopyName ∈ LW) (hini : Cond.initialized "java/lang/System" ∈ LW)
    {A : Nat → Prop} {H0 : Heap} (hS : va_S A H0 H locs) (hA : A a) {a0 n0 n1 : Nat} {f f1 : Nat → Option Nat} (q0 : pt g a0 (qarr (g.2 5) n0 f) H) (q1 : pt g a (qarr (g.2 5) n1 f1) H)
    {sp dp n : Int32} (h1 : ¬ sp < 0) (h2 : ¬ dp < 0) (h3 : ¬ n < 0) (h4 : sp.toNatClampNeg + n.toNatClampNeg ≤ n0) (h5 : dp.toNatClampNeg + n.toNatClampNeg ≤ n1) (hel : ∀ i : Nat, i < n.toNatClampNeg → ∀ y : Nat, f (sp.toNatClampNeg + i) = some y → ∃ (k : Nat) (fy : Nat → Int32), pt g y (.inl (g.2 0, k, .inl fy)) H)
    (hframes : 1 ≤ R.frames) (hr : (rest.map fun v => v.category).sum ≤ 8) (hlocals : 26 ≤ R.locals) (hdg : decode cc pc = .ok (.invokestatic index, 3))
    (kk : ∀ (H1 : Heap) (locs1 : List Loc), pt g a (qarr (g.2 5) n1 (va_cpy f f1 sp.toNatClampNeg dp.toNatClampNeg n.toNatClampNeg)) H1 → chg a H H1 → va_S A H0 H1 locs1 → W p l e R s m args below meth c H1 locs1 cells slots Q (F0 m (pc + 3) ls rest)) : W p l e R s m args below meth c H locs cells slots Q (F0 m pc ls (.int n :: .int dp :: .ref a :: .int sp :: .ref a0 :: rest)) := by
  intro T hT Y
  obtain ⟨k5, k0, x3, x4, x0, -⟩ := XA.five X.kx
  have hc0 : H[a0]? = some (vp_cell (g.2 5) (n0, .inr (.inr (.inr (.inr f))))) := q0
  have hc1 : H[a]? = some (vp_cell (g.2 5) (n1, .inr (.inr (.inr (.inr f1))))) := q1
  obtain ⟨vm', X', step⟩ := Y.arraycopy X.x X.wn (X.ts _ hlink) (X.ts _ hnat) (X.ts _ hstat) (X.ts _ hini) (src := a0) (dst := a) (cs := vp_cell (g.2 5) (n0, .inr (.inr (.inr (.inr f))))) (cd := vp_cell (g.2 5) (n1, .inr (.inr (.inr (.inr f1))))) (srcPos := sp) (destPos := dp) (n := n) (by rw [hT]; exact hc0) (by rw [hT]; exact hc1)
    (fun _ h => by cases h) (fun _ h => by cases h) (fun h => by cases h) (fun h => by cases h) x3 x3 x4 x4 rfl h1 h2 h3
    (by rw [nn_int h1, nn_int h3]; show ¬ _ > ((arrV (g.2 5) n0 (fun j => va_rf (f j))).slots.size : Int); rw [arrV_size]; omega)
    (by rw [nn_int h2, nn_int h3]; show ¬ _ > ((arrV (g.2 5) n1 (fun j => va_rf (f1 j))).slots.size : Int); rw [arrV_size]; omega)
    (fun vm₁ hal i hi => by
      have e : (vp_cell (g.2 5) (n0, .inr (.inr (.inr (.inr f))))).slots.getD (sp.toNatClampNeg + i) .null = va_rf (f (sp.toNatClampNeg + i)) := by
        show (arrV (g.2 5) n0 (fun j => va_rf (f j))).slots.getD _ _ = _
        rw [Array.getD_eq_getD_getElem?, arrV_read _ _ (by omega)]
        rfl
      rw [e]
      cases hy : f (sp.toNatClampNeg + i) with
      | none => exact ⟨rfl, trivial⟩
      | some y =>
        obtain ⟨ky, fy, g1⟩ := hel i hi y hy
        have g1 : H[y]? = some (vp_cell (g.2 0) (ky, .inl fy)) := g1
        obtain ⟨kE', hkE', -⟩ := hal.2.2 _ _ x0
        refine ⟨rfl, vp_cell (g.2 0) (ky, .inl fy), (show T.heap[y]? = some _ by rw [hT]; exact g1), (fun q h => by cases h), ⟨kE', hkE'⟩, ?_, ?_⟩
        · exact ⟨kE', hkE'⟩
        · show vm₁.assignable _ _ = true
          exact asg_rf _ _)
    (g := F0 m pc ls (.int n :: .int dp :: .ref a :: .int sp :: .ref a0 :: rest)) rfl (by show ls.size = c.maxLocals; rw [X.ml]; exact hls) (rest := rest) rfl (by rw [X.b]; exact hdg) hframes (by show 2 * 0 + _ + (nativeFrameWords "java/lang/System" "arraycopy" 5 + 11) ≤ _; rw [show nativeFrameWords "java/lang/System" "arraycopy" 5 = 7 by decide +kernel]; omega)
  have e1 : copied (vp_cell (g.2 5) (n0, .inr (.inr (.inr (.inr f))))) (vp_cell (g.2 5) (n1, .inr (.inr (.inr (.inr f1))))) sp dp n = vp_cell (g.2 5) (n1, .inr (.inr (.inr (.inr (va_cpy f f1 sp.toNatClampNeg dp.toNatClampNeg n.toNatClampNeg))))) := by
    rw [vp_cell_q, vp_cell_q, vp_cell_q]
    exact va_copied (fun z => va_rf z) (g.2 5) (g.2 5) f f1 h4
  rw [e1] at X' step
  have hl : a < H.size := (Array.getElem?_eq_some_iff.mp hc1).1
  have hheap : ((T.setVm vm').setCell a (vp_cell (g.2 5) (n1, .inr (.inr (.inr (.inr (va_cpy f f1 sp.toNatClampNeg dp.toNatClampNeg n.toNatClampNeg))))))).heap = H.setIfInBounds a (vp_cell (g.2 5) (n1, .inr (.inr (.inr (.inr (va_cpy f f1 sp.toNatClampNeg dp.toNatClampNeg n.toNatClampNeg)))))) := by rw [← hT]; rfl
  have oq : ∀ q : Nat, q ≠ a → (H.setIfInBounds a (vp_cell (g.2 5) (n1, .inr (.inr (.inr (.inr (va_cpy f f1 sp.toNatClampNeg dp.toNatClampNeg n.toNatClampNeg)))))))[q]? = H[q]? := fun q hq => by simp [Array.getElem?_setIfInBounds, Ne.symm hq]
  obtain ⟨t, a1, b1⟩ := kk _ _ (show (H.setIfInBounds a _)[a]? = some _ by simp [Array.getElem?_setIfInBounds, hl]) ⟨by simp, oq⟩ ⟨by simp; exact hS.1, fun q g1 g2 => by
      rw [oq q (fun e => g2 (by rw [e]; exact hA))]
      exact hS.2.1 q g1 g2, fun q hq => by
      rcases List.mem_append.mp hq with h | h
      · exact hS.2.2 q h
      · obtain ⟨z, -, hz⟩ := List.mem_map.mp h
        rw [← hz]
        exact hA⟩ _ hheap X'
  exact ⟨t, step t a1, b1⟩
end LAYM
