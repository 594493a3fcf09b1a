-- WHAT THE REFERENCE TELLS WHEN NOTHING HAS BEEN TOLD
/-- all rows empty -/
def noL (s : Nat → Nat → Int32) : Prop := ∀ t, t < 5 → s 2 t = 0
theorem wcopyM : Cond.methodLink R_Model 116 arraycopyName ∈ LW := LW_t 1056 (by decide +kernel) (by decide +kernel)
theorem wcopy_s : Cond.static arraycopyName ∈ LW := LW_t 1057 (by decide +kernel) (by decide +kernel)
theorem wcopy_n : Cond.native arraycopyName ∈ LW := LW_t 1058 (by decide +kernel) (by decide +kernel)
theorem wcopy_i : Cond.initialized "java/lang/System" ∈ LW := LW_t 18 (by decide +kernel) (by decide +kernel)
section COPY
variable {g : GG} {p : Program} {l : Launch} {e : Env} {R : Room} {s : State} {m : MethodId} {args : Array Value} {below : List Frame} {meth : Method} {c : Code} {H : Heap} {locs : List Loc} {cells slots : Nat} {Q : State → Prop}
variable {cc : ByteArray} {nL : Nat} {ret : Option FieldType} {own nm : String} {pc : Nat} {ls : Array Slot} {rest : List Value} {a : Nat}
/-- a row of numbers copied into another: that one alone changes -/
theorem m_copyi (X : CX g p s m args meth c cc nL ret own nm) {index : Nat} (hlink : Cond.methodLink own index arraycopyName ∈ LW) {A : Nat → Prop} {H0 : Heap} (hS : va_S A H0 H locs) (hA : A a) {a0 n0 n1 : Nat} {f f1 : Nat → Int32} (q0 : pt g a0 (.inl (g.2 0, n0, .inl f)) H) (q1 : pt g a (.inl (g.2 0, n1, .inl f1)) H)
    {sp dp n : Int32} (h1 : ¬ sp < 0) (h2 : ¬ dp < 0) (h3 : ¬ n < 0) (h4 : sp.toNatClampNeg + n.toNatClampNeg ≤ n0) (h5 : dp.toNatClampNeg + n.toNatClampNeg ≤ n1) (hls : ls.size = nL) (hfrm : 1 ≤ R.frames) (hloc : (rest.map fun v => v.category).sum + (nativeFrameWords "java/lang/System" "arraycopy" 5 + 11) ≤ R.locals) (hdg : decode cc pc = .ok (.invokestatic index, 3))
    (kk : ∀ (H1 : Heap) (locs1 : List Loc) (r : Nat → Int32), pt g a (.inl (g.2 0, n1, .inl r)) H1 → chg a H H1 → va_S A H0 H1 locs1 → W p l e R s m args below meth c H1 locs1 cells slots Q (F0 m (pc + 3) ls rest)) : W p l e R s m args below meth c H locs cells slots Q (F0 m pc ls (.int n :: .int dp :: .ref a :: .int sp :: .ref a0 :: rest)) := by
  have toI : ∀ z : Int32, ¬ z < 0 → z.toInt = (z.toNatClampNeg : Int) := fun z hz => by
    have h0 : (0 : Int) ≤ z.toInt := by simpa using Int32.le_iff_toInt_le.mp (Int32.not_lt.mp hz)
    show z.toInt = ((z.toInt.toNat : Nat) : Int)
    omega
  intro T hT Y
  have c0 : H[a0]? = some (vp_cell (g.2 0) (n0, .inl f)) := q0
  have c1 : H[a]? = some (vp_cell (g.2 0) (n1, .inl f1)) := q1
  obtain ⟨-, k0, hk0, m0, hm0⟩ := (X.K.2 0 _ rfl).1 n0 (fun j => .int (f j))
  obtain ⟨-, k1, hk1, m1, hm1⟩ := (X.K.2 0 _ rfl).1 n1 (fun j => .int (f1 j))
  obtain ⟨vm', Y', step⟩ := Y.arraycopy X.x X.wn (X.ts _ hlink) (X.ts _ wcopy_n) (X.ts _ wcopy_s) (X.ts _ wcopy_i) (src := a0) (dst := a) (cs := vp_cell (g.2 0) (n0, .inl f)) (cd := vp_cell (g.2 0) (n1, .inl f1)) (srcPos := sp) (destPos := dp) (n := n) (by rw [hT]; exact c0) (by rw [hT]; exact c1)
    (fun _ h => by cases h) (fun _ h => by cases h) (fun h => by cases h) (fun h => by cases h) hk0 hk1 hm0 hm1 rfl h1 h2 h3
    (by rw [toI sp h1, toI n h3]; show ¬ _ > ((arrV (g.2 0) n0 (fun j => .int (f j))).slots.size : Int); rw [arrV_size]; omega)
    (by rw [toI dp h2, toI n h3]; show ¬ _ > ((arrV (g.2 0) n1 (fun j => .int (f1 j))).slots.size : Int); rw [arrV_size]; omega)
    (fun _ _ i hi => by
      have e : (vp_cell (g.2 0) (n0, .inl f)).slots.getD (sp.toNatClampNeg + i) .null = .int (f (sp.toNatClampNeg + i)) := by
        show (arrV (g.2 0) n0 (fun j => .int (f j))).slots.getD _ _ = _
        rw [Array.getD_eq_getD_getElem?, arrV_read _ _ (by omega)]
        rfl
      exact ⟨by rw [e]; rfl, by rw [e]; exact trivial⟩)
    (g := F0 m pc ls (.int n :: .int dp :: .ref a :: .int sp :: .ref a0 :: rest)) rfl (by rw [X.ml]; exact hls) (rest := rest) rfl (by rw [X.b]; exact hdg) hfrm (by show 2 * 0 + _ + _ ≤ _; omega)
  rw [show copied (vp_cell (g.2 0) (n0, .inl f)) (vp_cell (g.2 0) (n1, .inl f1)) sp dp n = vp_cell (g.2 0) (n1, .inl (va_cpy f f1 sp.toNatClampNeg dp.toNatClampNeg n.toNatClampNeg)) from va_copied (fun z => .int z) (g.2 0) (g.2 0) f f1 h4] at Y' step
  have hl : a < H.size := q1.lt
  obtain ⟨H1, eH⟩ : ∃ z, z = H.setIfInBounds a (vp_cell (g.2 0) (n1, .inl (va_cpy f f1 sp.toNatClampNeg dp.toNatClampNeg n.toNatClampNeg))) := ⟨_, rfl⟩
  have hh : ((T.setVm vm').setCell a (vp_cell (g.2 0) (n1, .inl (va_cpy f f1 sp.toNatClampNeg dp.toNatClampNeg n.toNatClampNeg)))).heap = H1 := by rw [eH, ← hT]; rfl
  have oq : ∀ q : Nat, q ≠ a → H1[q]? = H[q]? := fun q hq => by rw [eH]; simp [Array.getElem?_setIfInBounds, Ne.symm hq]
  have hz : H1.size = H.size := by rw [eH]; simp
  obtain ⟨t, a1, b1⟩ := kk H1 _ (va_cpy f f1 sp.toNatClampNeg dp.toNatClampNeg n.toNatClampNeg) (show H1[a]? = some _ by rw [eH]; simp [Array.getElem?_setIfInBounds, hl]) ⟨hz, oq⟩ ⟨by rw [hz]; exact hS.1, fun q g1 g2 => (oq q (fun e => g2 (e ▸ hA))).trans (hS.2.1 q g1 g2), fun q hq => by
      rcases List.mem_append.mp hq with h | h
      · exact hS.2.2 q h
      · obtain ⟨z, -, hz⟩ := List.mem_map.mp h
        rw [← hz]
        exact hA⟩ _ hh Y'
  exact ⟨t, step t a1, b1⟩
end COPY
/-- ofItem of the one ITEM there is -/
def oiM (w : Int32) : Int32 := if w = 0 then 6 else if w = 1 then 0 else if w = 2 then 0 else if w = 3 then -1 else if w = 4 then 0 else if w = 5 then 0 else if w = 6 then 0 else 1
def mnM (w : Int32) : Int32 := if w = 2 then 1 else if w = 6 then 1 else 0
set_option maxRecDepth 100000 in
set_option maxHeartbeats 4000000 in
theorem M_Model_thrown (l : Launch) (g : GG) {mo tq : Nat} {p0 : Nat → Int32} {s0 : Nat → Nat → Int32} {H0 : Heap} (hM : mAt g mo tq p0 s0 H0) : MP l y_Model_thrown c_Model_thrown 1 (some .int) 0 g H0 [.ref mo] (some (.int (p0 0))) := by
  refine MM.of (by decide +kernel) (Nat.le_of_ble_eq_true rfl) ?_
  intro p e s m below meth cd X hH ls hl
  have X : CX g p s m _ meth cd c_Model_thrown 1 (some .int) R_Model _ := X
  have hl : lv_has ls 1 [(0, .ref mo)] := hl
  have hS : va_S (AA (noA) H0) H0 H0 [] := va_S.rf
  have hlt0 := hM.lt
  have htq0 := hM.tq
  refine lv_aload_n X.x X.b d_Model_thrown_0 rfl (lv_at hl 0 rfl) ?_
  refine m_get (v := .int (p0 0)) X ok_Model hM.1 0 (by decide) k_Model_80 (congrArg (fun z => some (Value.int z)) (show p0 0 = p0 0 from rfl)) d_Model_thrown_1 ?_
  exact m_iret X hS (Nat.zero_le _) (Nat.zero_le _) d_Model_thrown_4 rfl rfl
set_option maxRecDepth 100000 in
set_option maxHeartbeats 4000000 in
theorem M_Model_fault (l : Launch) (g : GG) {mo tq : Nat} {p0 : Nat → Int32} {s0 : Nat → Nat → Int32} {H0 : Heap} (hM : mAt g mo tq p0 s0 H0) (hf : frP p0 s0) (hn : noL s0) : MM l y_Model_fault c_Model_fault 1 (some .int) 0 0 0 g H0 [.ref mo] (fun q => mo ≤ q ∧ q < mo + 23) (some (.int 0)) (fun H1 => ∃ p, mAt g mo tq p s0 H1 ∧ p 0 = 0) := by
  refine MM.of (by decide +kernel) (Nat.le_of_ble_eq_true rfl) ?_
  intro p e s m below meth cd X hH ls hl
  have X : CX g p s m _ meth cd c_Model_fault 1 (some .int) R_Model _ := X
  have hl : lv_has ls 1 [(0, .ref mo)] := hl
  have hS : va_S (AA (fun q => mo ≤ q ∧ q < mo + 23) H0) H0 H0 [] := va_S.rf
  have hlt0 := hM.lt
  have htq0 := hM.tq
  obtain ⟨⟨hf3, hf4, hf5, hf6, hf7⟩, ⟨g8, g11, g12, g13, g14, g141, g15, g23, g24⟩, gj⟩ := hf
  refine lv_aload_n X.x X.b d_Model_fault_0 rfl (lv_at hl 0 rfl) ?_
  refine lv_iconst (v := 0) X.x X.b d_Model_fault_1 (by decide) ?_
  refine m_put X ok_Model hS (Or.inl ⟨by omega, by omega⟩) hM.1 0 (by decide) k_Model_80 rfl (ok_Model.2.2.1 _ (by decide)) rfl rfl (Nat.le_of_ble_eq_true rfl) d_Model_fault_2 (fun H locs hp hcg hS => ?_)
  have hM := hM.f0 hp hcg
  obtain ⟨p_1, ep_1⟩ : ∃ z, z = upd p0 0 0 := ⟨_, rfl⟩
  rw [← ep_1] at hM
  refine lv_aload_n X.x X.b d_Model_fault_5 rfl (lv_at hl 0 rfl) ?_
  refine m_get (v := .int 0) X ok_Model hM.1 3 (by decide) k_Model_126 (congrArg (fun z => some (Value.int z)) (show p_1 3 = 0 from (by rw [ep_1, upd_mi _ _ _ (show 3 ≠ 0 by decide), hf3]))) d_Model_fault_6 ?_
  exact m_iret X hS (by omega) (by omega) d_Model_fault_9 rfl ⟨_, hM, (by rw [ep_1, upd_hit])⟩
set_option maxRecDepth 100000 in
set_option maxHeartbeats 4000000 in
theorem M_Model_faultAt (l : Launch) (g : GG) {mo tq : Nat} {p0 : Nat → Int32} {s0 : Nat → Nat → Int32} {H0 : Heap} (hM : mAt g mo tq p0 s0 H0) (hf : frP p0 s0) (hn : noL s0) : MM l y_Model_faultAt c_Model_faultAt 1 (some .int) 0 0 0 g H0 [.ref mo] (fun q => mo ≤ q ∧ q < mo + 23) (some (.int (-1))) (fun H1 => ∃ p, mAt g mo tq p s0 H1 ∧ p 0 = 0) := by
  refine MM.of (by decide +kernel) (Nat.le_of_ble_eq_true rfl) ?_
  intro p e s m below meth cd X hH ls hl
  have X : CX g p s m _ meth cd c_Model_faultAt 1 (some .int) R_Model _ := X
  have hl : lv_has ls 1 [(0, .ref mo)] := hl
  have hS : va_S (AA (fun q => mo ≤ q ∧ q < mo + 23) H0) H0 H0 [] := va_S.rf
  have hlt0 := hM.lt
  have htq0 := hM.tq
  obtain ⟨⟨hf3, hf4, hf5, hf6, hf7⟩, ⟨g8, g11, g12, g13, g14, g141, g15, g23, g24⟩, gj⟩ := hf
  refine lv_aload_n X.x X.b d_Model_faultAt_0 rfl (lv_at hl 0 rfl) ?_
  refine lv_iconst (v := 0) X.x X.b d_Model_faultAt_1 (by decide) ?_
  refine m_put X ok_Model hS (Or.inl ⟨by omega, by omega⟩) hM.1 0 (by decide) k_Model_80 rfl (ok_Model.2.2.1 _ (by decide)) rfl rfl (Nat.le_of_ble_eq_true rfl) d_Model_faultAt_2 (fun H locs hp hcg hS => ?_)
  have hM := hM.f0 hp hcg
  obtain ⟨p_1, ep_1⟩ : ∃ z, z = upd p0 0 0 := ⟨_, rfl⟩
  rw [← ep_1] at hM
  refine lv_aload_n X.x X.b d_Model_faultAt_5 rfl (lv_at hl 0 rfl) ?_
  refine m_get (v := .int (-1)) X ok_Model hM.1 4 (by decide) k_Model_129 (congrArg (fun z => some (Value.int z)) (show p_1 4 = (-1) from (by rw [ep_1, upd_mi _ _ _ (show 4 ≠ 0 by decide), hf4]))) d_Model_faultAt_6 ?_
  exact m_iret X hS (by omega) (by omega) d_Model_faultAt_9 rfl ⟨_, hM, (by rw [ep_1, upd_hit])⟩
set_option maxRecDepth 100000 in
set_option maxHeartbeats 4000000 in
theorem M_Model_isLine (l : Launch) (g : GG) {mo tq : Nat} {p0 : Nat → Int32} {s0 : Nat → Nat → Int32} {H0 : Heap} (hM : mAt g mo tq p0 s0 H0) (hf : frP p0 s0) (hn : noL s0) (row it : Int32) : MP l y_Model_isLine c_Model_isLine 3 (some .boolean) 2 g H0 [.ref mo, .int row, .int it] (some (.int 0)) := by
  refine MM.of (by decide +kernel) (Nat.le_of_ble_eq_true rfl) ?_
  intro p e s m below meth cd X hH ls hl
  have X : CX g p s m _ meth cd c_Model_isLine 3 (some .boolean) R_Model _ := X
  have hl : lv_has ls 3 [(0, .ref mo), (1, .int row), (2, .int it)] := hl
  have hS : va_S (AA (noA) H0) H0 H0 [] := va_S.rf
  have hlt0 := hM.lt
  have htq0 := hM.tq
  obtain ⟨⟨hf3, hf4, hf5, hf6, hf7⟩, ⟨g8, g11, g12, g13, g14, g141, g15, g23, g24⟩, gj⟩ := hf
  refine lv_iload_n X.x X.b d_Model_isLine_0 rfl (lv_at hl 1 rfl) ?_
  refine m_callSP X hS (M_Model_isRow l g row) s_Model_92 rfl rfl (Nat.le_of_ble_eq_true rfl) hl.1 d_Model_isLine_1 (by omega) (by decide) ⟨by omega, by omega⟩ (fun locs hS => ?_)
  refine lv_if_eq (tgt := 27) X.x X.b d_Model_isLine_4 (by decide) (fun c1 => ?_) (fun c1 => ?_)
  · skip
    have c1 := b2i_0.mp c1
    refine lv_iconst (v := 0) X.x X.b d_Model_isLine_27 (by decide) ?_
    exact m_zret X hS (by omega) (by omega) d_Model_isLine_28 rfl rfl rfl
  · skip
    have c1 := b2i_n0 c1
    obtain ⟨r, hr, rfl⟩ : ∃ r, r < 5 ∧ row = nI r := rIn_ex ⟨c1.1, Int32.lt_of_le_of_lt c1.2 (by decide)⟩
    refine lv_iload_n X.x X.b d_Model_isLine_7 rfl (lv_at hl 2 rfl) ?_
    refine lv_iconst (v := 0) X.x X.b d_Model_isLine_8 (by decide) ?_
    refine lv_aload_n X.x X.b d_Model_isLine_9 rfl (lv_at hl 0 rfl) ?_
    refine m_get (v := .ref (mo + 2)) X ok_Model hM.1 2 (by decide) k_Model_13 rfl d_Model_isLine_10 ?_
    refine lv_iload_n X.x X.b d_Model_isLine_13 rfl (lv_at hl 1 rfl) ?_
    refine m_ild (v := 0) X hM.a2 r rfl (by omega) (by decide) (show s0 2 r = 0 from (by rw [hn r (by omega)])) d_Model_isLine_14 ?_
    refine lv_iconst (v := 1) X.x X.b d_Model_isLine_15 (by decide) ?_
    refine lv_isub X.x X.b d_Model_isLine_16 ?_
    rw [show (0 - 1 : Int32) = (-1) from by decide]
    refine m_callSP X hS (MP_ans (M_Model_isIn l g it 0 (-1)) (show b2i (0 ≤ it ∧ it ≤ (-1)) = 0 from b2i_f (fun z => absurd (Int32.le_trans z.1 z.2) (by decide)))) s_Model_84 rfl rfl (Nat.le_of_ble_eq_true rfl) hl.1 d_Model_isLine_17 (by omega) (by decide) ⟨by omega, by omega⟩ (fun locs hS => ?_)
    refine lv_if_eq (tgt := 27) X.x X.b d_Model_isLine_20 (by decide) (fun c2 => ?_) (fun c2 => ?_)
    · skip
      refine lv_iconst (v := 0) X.x X.b d_Model_isLine_27 (by decide) ?_
      exact m_zret X hS (by omega) (by omega) d_Model_isLine_28 rfl rfl rfl
    · exact absurd c2 (by decide)
set_option maxRecDepth 100000 in
set_option maxHeartbeats 4000000 in
theorem M_Model_put (l : Launch) (g : GG) {mo tq : Nat} {p0 : Nat → Int32} {s0 : Nat → Nat → Int32} {H0 : Heap} (hM : mAt g mo tq p0 s0 H0) (hf : frP p0 s0) (hn : noL s0) (row it k a b v d : Int32) : MM l y_Model_put c_Model_put 9 (some .int) 3 0 0 g H0 [.ref mo, .int row, .int it, .int k, .int a, .int b, .int v, .int d] (fun q => mo ≤ q ∧ q < mo + 23) (some (.int 0)) (fun H1 => ∃ p, mAt g mo tq p s0 H1 ∧ p 0 = 1) := by
  refine MM.of (by decide +kernel) (Nat.le_of_ble_eq_true rfl) ?_
  intro p e s m below meth cd X hH ls hl
  have X : CX g p s m _ meth cd c_Model_put 9 (some .int) R_Model _ := X
  have hl : lv_has ls 9 [(0, .ref mo), (1, .int row), (2, .int it), (3, .int k), (4, .int a), (5, .int b), (6, .int v), (7, .int d)] := hl
  have hS : va_S (AA (fun q => mo ≤ q ∧ q < mo + 23) H0) H0 H0 [] := va_S.rf
  have hlt0 := hM.lt
  have htq0 := hM.tq
  obtain ⟨⟨hf3, hf4, hf5, hf6, hf7⟩, ⟨g8, g11, g12, g13, g14, g141, g15, g23, g24⟩, gj⟩ := hf
  refine lv_aload_n X.x X.b d_Model_put_0 rfl (lv_at hl 0 rfl) ?_
  refine lv_iconst (v := 0) X.x X.b d_Model_put_1 (by decide) ?_
  refine m_put X ok_Model hS (Or.inl ⟨by omega, by omega⟩) hM.1 0 (by decide) k_Model_80 rfl (ok_Model.2.2.1 _ (by decide)) rfl rfl (Nat.le_of_ble_eq_true rfl) d_Model_put_2 (fun H locs hp hcg hS => ?_)
  have hM := hM.f0 hp hcg
  obtain ⟨p_1, ep_1⟩ : ∃ z, z = upd p0 0 0 := ⟨_, rfl⟩
  rw [← ep_1] at hM
  refine lv_aload_n X.x X.b d_Model_put_5 rfl (lv_at hl 0 rfl) ?_
  refine lv_iload_n X.x X.b d_Model_put_6 rfl (lv_at hl 1 rfl) ?_
  refine lv_iload_n X.x X.b d_Model_put_7 rfl (lv_at hl 2 rfl) ?_
  have hR := M_Model_isLine l g hM (show frP p_1 s0 from ⟨⟨(by rw [ep_1, upd_mi _ _ _ (show 3 ≠ 0 by decide), hf3]), (by rw [ep_1, upd_mi _ _ _ (show 4 ≠ 0 by decide), hf4]), (by rw [ep_1, upd_mi _ _ _ (show 5 ≠ 0 by decide), hf5]), (by rw [ep_1, upd_mi _ _ _ (show 6 ≠ 0 by decide), hf6]), (by rw [ep_1, upd_mi _ _ _ (show 7 ≠ 0 by decide), hf7])⟩, ⟨g8, g11, g12, g13, g14, g141, g15, g23, g24⟩, gj⟩) hn row it
  refine m_callP X hS hR v_Model_112 hM.1 rfl rfl rfl (Nat.le_of_ble_eq_true rfl) hl.1 d_Model_put_8 (by omega) (by decide) ⟨by omega, by omega⟩ (fun locs hS => ?_)
  refine lv_if_ne (tgt := 20) X.x X.b d_Model_put_11 (by decide) (fun c1 => ?_) (fun c1 => ?_)
  · exact absurd c1 (by decide)
  · skip
    refine lv_aload_n X.x X.b d_Model_put_14 rfl (lv_at hl 0 rfl) ?_
    refine lv_iconst (v := 1) X.x X.b d_Model_put_15 (by decide) ?_
    have hR := M_Model_no l g hM 1
    refine m_callM X hS hR v_Model_100 hM.1 rfl rfl rfl (Nat.le_of_ble_eq_true rfl) hl.1 d_Model_put_16 (by omega) (by decide) ⟨by omega, by omega⟩ (fun q z => by have z : mo ≤ q ∧ q < mo + 23 := z; exact ⟨by omega, by omega⟩) (fun H locs hM hfr hS => ?_)
    obtain ⟨p_2, ep_2⟩ : ∃ z, z = upd p_1 0 1 := ⟨_, rfl⟩
    rw [← ep_2] at hM
    exact m_iret X hS (by omega) (by omega) d_Model_put_19 rfl ⟨_, hM, (by rw [ep_2, upd_hit])⟩
set_option maxRecDepth 100000 in
set_option maxHeartbeats 4000000 in
theorem M_Model_cut (l : Launch) (g : GG) {mo tq : Nat} {p0 : Nat → Int32} {s0 : Nat → Nat → Int32} {H0 : Heap} (hM : mAt g mo tq p0 s0 H0) (hf : frP p0 s0) (hn : noL s0) (row it : Int32) : MM l y_Model_cut c_Model_cut 3 (some .int) 3 0 0 g H0 [.ref mo, .int row, .int it] (fun q => mo ≤ q ∧ q < mo + 23) (some (.int 0)) (fun H1 => ∃ p, mAt g mo tq p s0 H1 ∧ p 0 = 1) := by
  refine MM.of (by decide +kernel) (Nat.le_of_ble_eq_true rfl) ?_
  intro p e s m below meth cd X hH ls hl
  have X : CX g p s m _ meth cd c_Model_cut 3 (some .int) R_Model _ := X
  have hl : lv_has ls 3 [(0, .ref mo), (1, .int row), (2, .int it)] := hl
  have hS : va_S (AA (fun q => mo ≤ q ∧ q < mo + 23) H0) H0 H0 [] := va_S.rf
  have hlt0 := hM.lt
  have htq0 := hM.tq
  obtain ⟨⟨hf3, hf4, hf5, hf6, hf7⟩, ⟨g8, g11, g12, g13, g14, g141, g15, g23, g24⟩, gj⟩ := hf
  refine lv_aload_n X.x X.b d_Model_cut_0 rfl (lv_at hl 0 rfl) ?_
  refine lv_iconst (v := 0) X.x X.b d_Model_cut_1 (by decide) ?_
  refine m_put X ok_Model hS (Or.inl ⟨by omega, by omega⟩) hM.1 0 (by decide) k_Model_80 rfl (ok_Model.2.2.1 _ (by decide)) rfl rfl (Nat.le_of_ble_eq_true rfl) d_Model_cut_2 (fun H locs hp hcg hS => ?_)
  have hM := hM.f0 hp hcg
  obtain ⟨p_1, ep_1⟩ : ∃ z, z = upd p0 0 0 := ⟨_, rfl⟩
  rw [← ep_1] at hM
  refine lv_aload_n X.x X.b d_Model_cut_5 rfl (lv_at hl 0 rfl) ?_
  refine lv_iload_n X.x X.b d_Model_cut_6 rfl (lv_at hl 1 rfl) ?_
  refine lv_iload_n X.x X.b d_Model_cut_7 rfl (lv_at hl 2 rfl) ?_
  have hR := M_Model_isLine l g hM (show frP p_1 s0 from ⟨⟨(by rw [ep_1, upd_mi _ _ _ (show 3 ≠ 0 by decide), hf3]), (by rw [ep_1, upd_mi _ _ _ (show 4 ≠ 0 by decide), hf4]), (by rw [ep_1, upd_mi _ _ _ (show 5 ≠ 0 by decide), hf5]), (by rw [ep_1, upd_mi _ _ _ (show 6 ≠ 0 by decide), hf6]), (by rw [ep_1, upd_mi _ _ _ (show 7 ≠ 0 by decide), hf7])⟩, ⟨g8, g11, g12, g13, g14, g141, g15, g23, g24⟩, gj⟩) hn row it
  refine m_callP X hS hR v_Model_112 hM.1 rfl rfl rfl (Nat.le_of_ble_eq_true rfl) hl.1 d_Model_cut_8 (by omega) (by decide) ⟨by omega, by omega⟩ (fun locs hS => ?_)
  refine lv_if_ne (tgt := 20) X.x X.b d_Model_cut_11 (by decide) (fun c1 => ?_) (fun c1 => ?_)
  · exact absurd c1 (by decide)
  · skip
    refine lv_aload_n X.x X.b d_Model_cut_14 rfl (lv_at hl 0 rfl) ?_
    refine lv_iconst (v := 1) X.x X.b d_Model_cut_15 (by decide) ?_
    have hR := M_Model_no l g hM 1
    refine m_callM X hS hR v_Model_100 hM.1 rfl rfl rfl (Nat.le_of_ble_eq_true rfl) hl.1 d_Model_cut_16 (by omega) (by decide) ⟨by omega, by omega⟩ (fun q z => by have z : mo ≤ q ∧ q < mo + 23 := z; exact ⟨by omega, by omega⟩) (fun H locs hM hfr hS => ?_)
    obtain ⟨p_2, ep_2⟩ : ∃ z, z = upd p_1 0 1 := ⟨_, rfl⟩
    rw [← ep_2] at hM
    exact m_iret X hS (by omega) (by omega) d_Model_cut_19 rfl ⟨_, hM, (by rw [ep_2, upd_hit])⟩
set_option maxRecDepth 100000 in
set_option maxHeartbeats 4000000 in
theorem M_Model_ofLine (l : Launch) (g : GG) {mo tq : Nat} {p0 : Nat → Int32} {s0 : Nat → Nat → Int32} {H0 : Heap} (hM : mAt g mo tq p0 s0 H0) (hf : frP p0 s0) (hn : noL s0) (row it wt : Int32) : MM l y_Model_ofLine c_Model_ofLine 4 (some .int) 3 0 0 g H0 [.ref mo, .int row, .int it, .int wt] (fun q => mo ≤ q ∧ q < mo + 23) (some (.int 0)) (fun H1 => ∃ p, mAt g mo tq p s0 H1 ∧ p 0 = 1) := by
  refine MM.of (by decide +kernel) (Nat.le_of_ble_eq_true rfl) ?_
  intro p e s m below meth cd X hH ls hl
  have X : CX g p s m _ meth cd c_Model_ofLine 4 (some .int) R_Model _ := X
  have hl : lv_has ls 4 [(0, .ref mo), (1, .int row), (2, .int it), (3, .int wt)] := hl
  have hS : va_S (AA (fun q => mo ≤ q ∧ q < mo + 23) H0) H0 H0 [] := va_S.rf
  have hlt0 := hM.lt
  have htq0 := hM.tq
  obtain ⟨⟨hf3, hf4, hf5, hf6, hf7⟩, ⟨g8, g11, g12, g13, g14, g141, g15, g23, g24⟩, gj⟩ := hf
  refine lv_aload_n X.x X.b d_Model_ofLine_0 rfl (lv_at hl 0 rfl) ?_
  refine lv_iconst (v := 0) X.x X.b d_Model_ofLine_1 (by decide) ?_
  refine m_put X ok_Model hS (Or.inl ⟨by omega, by omega⟩) hM.1 0 (by decide) k_Model_80 rfl (ok_Model.2.2.1 _ (by decide)) rfl rfl (Nat.le_of_ble_eq_true rfl) d_Model_ofLine_2 (fun H locs hp hcg hS => ?_)
  have hM := hM.f0 hp hcg
  obtain ⟨p_1, ep_1⟩ : ∃ z, z = upd p0 0 0 := ⟨_, rfl⟩
  rw [← ep_1] at hM
  refine lv_aload_n X.x X.b d_Model_ofLine_5 rfl (lv_at hl 0 rfl) ?_
  refine lv_iload_n X.x X.b d_Model_ofLine_6 rfl (lv_at hl 1 rfl) ?_
  refine lv_iload_n X.x X.b d_Model_ofLine_7 rfl (lv_at hl 2 rfl) ?_
  have hR := M_Model_isLine l g hM (show frP p_1 s0 from ⟨⟨(by rw [ep_1, upd_mi _ _ _ (show 3 ≠ 0 by decide), hf3]), (by rw [ep_1, upd_mi _ _ _ (show 4 ≠ 0 by decide), hf4]), (by rw [ep_1, upd_mi _ _ _ (show 5 ≠ 0 by decide), hf5]), (by rw [ep_1, upd_mi _ _ _ (show 6 ≠ 0 by decide), hf6]), (by rw [ep_1, upd_mi _ _ _ (show 7 ≠ 0 by decide), hf7])⟩, ⟨g8, g11, g12, g13, g14, g141, g15, g23, g24⟩, gj⟩) hn row it
  refine m_callP X hS hR v_Model_112 hM.1 rfl rfl rfl (Nat.le_of_ble_eq_true rfl) hl.1 d_Model_ofLine_8 (by omega) (by decide) ⟨by omega, by omega⟩ (fun locs hS => ?_)
  refine lv_if_ne (tgt := 20) X.x X.b d_Model_ofLine_11 (by decide) (fun c1 => ?_) (fun c1 => ?_)
  · exact absurd c1 (by decide)
  · skip
    refine lv_aload_n X.x X.b d_Model_ofLine_14 rfl (lv_at hl 0 rfl) ?_
    refine lv_iconst (v := 1) X.x X.b d_Model_ofLine_15 (by decide) ?_
    have hR := M_Model_no l g hM 1
    refine m_callM X hS hR v_Model_100 hM.1 rfl rfl rfl (Nat.le_of_ble_eq_true rfl) hl.1 d_Model_ofLine_16 (by omega) (by decide) ⟨by omega, by omega⟩ (fun q z => by have z : mo ≤ q ∧ q < mo + 23 := z; exact ⟨by omega, by omega⟩) (fun H locs hM hfr hS => ?_)
    obtain ⟨p_2, ep_2⟩ : ∃ z, z = upd p_1 0 1 := ⟨_, rfl⟩
    rw [← ep_2] at hM
    exact m_iret X hS (by omega) (by omega) d_Model_ofLine_19 rfl ⟨_, hM, (by rw [ep_2, upd_hit])⟩
set_option maxRecDepth 100000 in
set_option maxHeartbeats 4000000 in
theorem M_Model_wordsWithout (l : Launch) (g : GG) {mo tq : Nat} {p0 : Nat → Int32} {s0 : Nat → Nat → Int32} {H0 : Heap} (hM : mAt g mo tq p0 s0 H0) (hf : frP p0 s0) (hn : noL s0) (row it : Int32) : MM l y_Model_wordsWithout c_Model_wordsWithout 3 (some .int) 3 0 0 g H0 [.ref mo, .int row, .int it] (fun q => mo ≤ q ∧ q < mo + 23) (some (.int 0)) (fun H1 => ∃ p, mAt g mo tq p s0 H1 ∧ p 0 = 1) := by
  refine MM.of (by decide +kernel) (Nat.le_of_ble_eq_true rfl) ?_
  intro p e s m below meth cd X hH ls hl
  have X : CX g p s m _ meth cd c_Model_wordsWithout 3 (some .int) R_Model _ := X
  have hl : lv_has ls 3 [(0, .ref mo), (1, .int row), (2, .int it)] := hl
  have hS : va_S (AA (fun q => mo ≤ q ∧ q < mo + 23) H0) H0 H0 [] := va_S.rf
  have hlt0 := hM.lt
  have htq0 := hM.tq
  obtain ⟨⟨hf3, hf4, hf5, hf6, hf7⟩, ⟨g8, g11, g12, g13, g14, g141, g15, g23, g24⟩, gj⟩ := hf
  refine lv_aload_n X.x X.b d_Model_wordsWithout_0 rfl (lv_at hl 0 rfl) ?_
  refine lv_iconst (v := 0) X.x X.b d_Model_wordsWithout_1 (by decide) ?_
  refine m_put X ok_Model hS (Or.inl ⟨by omega, by omega⟩) hM.1 0 (by decide) k_Model_80 rfl (ok_Model.2.2.1 _ (by decide)) rfl rfl (Nat.le_of_ble_eq_true rfl) d_Model_wordsWithout_2 (fun H locs hp hcg hS => ?_)
  have hM := hM.f0 hp hcg
  obtain ⟨p_1, ep_1⟩ : ∃ z, z = upd p0 0 0 := ⟨_, rfl⟩
  rw [← ep_1] at hM
  refine lv_aload_n X.x X.b d_Model_wordsWithout_5 rfl (lv_at hl 0 rfl) ?_
  refine lv_iload_n X.x X.b d_Model_wordsWithout_6 rfl (lv_at hl 1 rfl) ?_
  refine lv_iload_n X.x X.b d_Model_wordsWithout_7 rfl (lv_at hl 2 rfl) ?_
  have hR := M_Model_isLine l g hM (show frP p_1 s0 from ⟨⟨(by rw [ep_1, upd_mi _ _ _ (show 3 ≠ 0 by decide), hf3]), (by rw [ep_1, upd_mi _ _ _ (show 4 ≠ 0 by decide), hf4]), (by rw [ep_1, upd_mi _ _ _ (show 5 ≠ 0 by decide), hf5]), (by rw [ep_1, upd_mi _ _ _ (show 6 ≠ 0 by decide), hf6]), (by rw [ep_1, upd_mi _ _ _ (show 7 ≠ 0 by decide), hf7])⟩, ⟨g8, g11, g12, g13, g14, g141, g15, g23, g24⟩, gj⟩) hn row it
  refine m_callP X hS hR v_Model_112 hM.1 rfl rfl rfl (Nat.le_of_ble_eq_true rfl) hl.1 d_Model_wordsWithout_8 (by omega) (by decide) ⟨by omega, by omega⟩ (fun locs hS => ?_)
  refine lv_if_eq (tgt := 23) X.x X.b d_Model_wordsWithout_11 (by decide) (fun c1 => ?_) (fun c1 => ?_)
  · skip
    refine lv_aload_n X.x X.b d_Model_wordsWithout_23 rfl (lv_at hl 0 rfl) ?_
    refine lv_iconst (v := 1) X.x X.b d_Model_wordsWithout_24 (by decide) ?_
    have hR := M_Model_no l g hM 1
    refine m_callM X hS hR v_Model_100 hM.1 rfl rfl rfl (Nat.le_of_ble_eq_true rfl) hl.1 d_Model_wordsWithout_25 (by omega) (by decide) ⟨by omega, by omega⟩ (fun q z => by have z : mo ≤ q ∧ q < mo + 23 := z; exact ⟨by omega, by omega⟩) (fun H locs hM hfr hS => ?_)
    obtain ⟨p_2, ep_2⟩ : ∃ z, z = upd p_1 0 1 := ⟨_, rfl⟩
    rw [← ep_2] at hM
    exact m_iret X hS (by omega) (by omega) d_Model_wordsWithout_28 rfl ⟨_, hM, (by rw [ep_2, upd_hit])⟩
  · exact absurd c1 (by decide)
set_option maxRecDepth 100000 in
set_option maxHeartbeats 4000000 in
theorem M_Model_wordsWith (l : Launch) (g : GG) {mo tq : Nat} {p0 : Nat → Int32} {s0 : Nat → Nat → Int32} {H0 : Heap} (hM : mAt g mo tq p0 s0 H0) (hf : frP p0 s0) (hn : noL s0) (row it n : Int32) : MM l y_Model_wordsWith c_Model_wordsWith 7 (some .int) 3 0 0 g H0 [.ref mo, .int row, .int it, .int n] (fun q => mo ≤ q ∧ q < mo + 23) (some (.int 0)) (fun H1 => ∃ p, mAt g mo tq p s0 H1 ∧ p 0 = 1) := by
  refine MM.of (by decide +kernel) (Nat.le_of_ble_eq_true rfl) ?_
  intro p e s m below meth cd X hH ls hl
  have X : CX g p s m _ meth cd c_Model_wordsWith 7 (some .int) R_Model _ := X
  have hl : lv_has ls 7 [(0, .ref mo), (1, .int row), (2, .int it), (3, .int n)] := hl
  have hS : va_S (AA (fun q => mo ≤ q ∧ q < mo + 23) H0) H0 H0 [] := va_S.rf
  have hlt0 := hM.lt
  have htq0 := hM.tq
  obtain ⟨⟨hf3, hf4, hf5, hf6, hf7⟩, ⟨g8, g11, g12, g13, g14, g141, g15, g23, g24⟩, gj⟩ := hf
  refine lv_aload_n X.x X.b d_Model_wordsWith_0 rfl (lv_at hl 0 rfl) ?_
  refine lv_iconst (v := 0) X.x X.b d_Model_wordsWith_1 (by decide) ?_
  refine m_put X ok_Model hS (Or.inl ⟨by omega, by omega⟩) hM.1 0 (by decide) k_Model_80 rfl (ok_Model.2.2.1 _ (by decide)) rfl rfl (Nat.le_of_ble_eq_true rfl) d_Model_wordsWith_2 (fun H locs hp hcg hS => ?_)
  have hM := hM.f0 hp hcg
  obtain ⟨p_1, ep_1⟩ : ∃ z, z = upd p0 0 0 := ⟨_, rfl⟩
  rw [← ep_1] at hM
  refine lv_aload_n X.x X.b d_Model_wordsWith_5 rfl (lv_at hl 0 rfl) ?_
  refine lv_iload_n X.x X.b d_Model_wordsWith_6 rfl (lv_at hl 1 rfl) ?_
  refine lv_iload_n X.x X.b d_Model_wordsWith_7 rfl (lv_at hl 2 rfl) ?_
  have hR := M_Model_isLine l g hM (show frP p_1 s0 from ⟨⟨(by rw [ep_1, upd_mi _ _ _ (show 3 ≠ 0 by decide), hf3]), (by rw [ep_1, upd_mi _ _ _ (show 4 ≠ 0 by decide), hf4]), (by rw [ep_1, upd_mi _ _ _ (show 5 ≠ 0 by decide), hf5]), (by rw [ep_1, upd_mi _ _ _ (show 6 ≠ 0 by decide), hf6]), (by rw [ep_1, upd_mi _ _ _ (show 7 ≠ 0 by decide), hf7])⟩, ⟨g8, g11, g12, g13, g14, g141, g15, g23, g24⟩, gj⟩) hn row it
  refine m_callP X hS hR v_Model_112 hM.1 rfl rfl rfl (Nat.le_of_ble_eq_true rfl) hl.1 d_Model_wordsWith_8 (by omega) (by decide) ⟨by omega, by omega⟩ (fun locs hS => ?_)
  refine lv_if_ne (tgt := 20) X.x X.b d_Model_wordsWith_11 (by decide) (fun c1 => ?_) (fun c1 => ?_)
  · exact absurd c1 (by decide)
  · skip
    refine lv_aload_n X.x X.b d_Model_wordsWith_14 rfl (lv_at hl 0 rfl) ?_
    refine lv_iconst (v := 1) X.x X.b d_Model_wordsWith_15 (by decide) ?_
    have hR := M_Model_no l g hM 1
    refine m_callM X hS hR v_Model_100 hM.1 rfl rfl rfl (Nat.le_of_ble_eq_true rfl) hl.1 d_Model_wordsWith_16 (by omega) (by decide) ⟨by omega, by omega⟩ (fun q z => by have z : mo ≤ q ∧ q < mo + 23 := z; exact ⟨by omega, by omega⟩) (fun H locs hM hfr hS => ?_)
    obtain ⟨p_2, ep_2⟩ : ∃ z, z = upd p_1 0 1 := ⟨_, rfl⟩
    rw [← ep_2] at hM
    exact m_iret X hS (by omega) (by omega) d_Model_wordsWith_19 rfl ⟨_, hM, (by rw [ep_2, upd_hit])⟩
set_option maxRecDepth 100000 in
set_option maxHeartbeats 4000000 in
theorem M_Model_isItem (l : Launch) (g : GG) {mo tq : Nat} {p0 : Nat → Int32} {s0 : Nat → Nat → Int32} {H0 : Heap} (hM : mAt g mo tq p0 s0 H0) (hf : frP p0 s0) (hn : noL s0) (k : Int32) : MP l y_Model_isItem c_Model_isItem 2 (some .boolean) 1 g H0 [.ref mo, .int k] (some (.int (b2i (0 ≤ k ∧ k ≤ 0)))) := by
  refine MM.of (by decide +kernel) (Nat.le_of_ble_eq_true rfl) ?_
  intro p e s m below meth cd X hH ls hl
  have X : CX g p s m _ meth cd c_Model_isItem 2 (some .boolean) R_Model _ := X
  have hl : lv_has ls 2 [(0, .ref mo), (1, .int k)] := hl
  have hS : va_S (AA (noA) H0) H0 H0 [] := va_S.rf
  have hlt0 := hM.lt
  have htq0 := hM.tq
  obtain ⟨⟨hf3, hf4, hf5, hf6, hf7⟩, ⟨g8, g11, g12, g13, g14, g141, g15, g23, g24⟩, gj⟩ := hf
  refine lv_aload_n X.x X.b d_Model_isItem_0 rfl (lv_at hl 0 rfl) ?_
  refine m_get (v := .int 0) X ok_Model hM.1 3 (by decide) k_Model_126 (congrArg (fun z => some (Value.int z)) (show p0 3 = 0 from (by rw [hf3]))) d_Model_isItem_1 ?_
  refine lv_if_ne (tgt := 25) X.x X.b d_Model_isItem_4 (by decide) (fun c1 => ?_) (fun c1 => ?_)
  · exact absurd c1 (by decide)
  · skip
    refine lv_iload_n X.x X.b d_Model_isItem_7 rfl (lv_at hl 1 rfl) ?_
    refine lv_iconst (v := 0) X.x X.b d_Model_isItem_8 (by decide) ?_
    refine lv_aload_n X.x X.b d_Model_isItem_9 rfl (lv_at hl 0 rfl) ?_
    refine m_get (v := .int 1) X ok_Model hM.1 5 (by decide) k_Model_132 (congrArg (fun z => some (Value.int z)) (show p0 5 = 1 from (by rw [hf5]))) d_Model_isItem_10 ?_
    refine lv_iconst (v := 1) X.x X.b d_Model_isItem_13 (by decide) ?_
    refine lv_isub X.x X.b d_Model_isItem_14 ?_
    rw [show (1 - 1 : Int32) = 0 from by decide]
    refine m_callSP X hS (M_Model_isIn l g k 0 0) s_Model_84 rfl rfl (Nat.le_of_ble_eq_true rfl) hl.1 d_Model_isItem_15 (by omega) (by decide) ⟨by omega, by omega⟩ (fun locs hS => ?_)
    refine lv_if_eq (tgt := 25) X.x X.b d_Model_isItem_18 (by decide) (fun c2 => ?_) (fun c2 => ?_)
    · skip
      have c2 := b2i_0.mp c2
      refine lv_iconst (v := 0) X.x X.b d_Model_isItem_25 (by decide) ?_
      exact m_zret X hS (by omega) (by omega) d_Model_isItem_26 rfl (congrArg (fun z => some (Value.int z)) (by simp [b2i, c1, c2])) rfl
    · skip
      have c2 := b2i_n0 c2
      refine lv_iconst (v := 1) X.x X.b d_Model_isItem_21 (by decide) ?_
      refine lv_goto (tgt := 26) X.x X.b d_Model_isItem_22 (by decide) ?_
      exact m_zret X hS (by omega) (by omega) d_Model_isItem_26 rfl (congrArg (fun z => some (Value.int z)) (by simp [b2i, c1, c2])) rfl
set_option maxRecDepth 100000 in
set_option maxHeartbeats 4000000 in
theorem M_Model_isWord (l : Launch) (g : GG) {mo tq : Nat} {p0 : Nat → Int32} {s0 : Nat → Nat → Int32} {H0 : Heap} (hM : mAt g mo tq p0 s0 H0) (hf : frP p0 s0) (hn : noL s0) (k : Int32) : MP l y_Model_isWord c_Model_isWord 2 (some .boolean) 1 g H0 [.ref mo, .int k] (some (.int 0)) := by
  refine MM.of (by decide +kernel) (Nat.le_of_ble_eq_true rfl) ?_
  intro p e s m below meth cd X hH ls hl
  have X : CX g p s m _ meth cd c_Model_isWord 2 (some .boolean) R_Model _ := X
  have hl : lv_has ls 2 [(0, .ref mo), (1, .int k)] := hl
  have hS : va_S (AA (noA) H0) H0 H0 [] := va_S.rf
  have hlt0 := hM.lt
  have htq0 := hM.tq
  obtain ⟨⟨hf3, hf4, hf5, hf6, hf7⟩, ⟨g8, g11, g12, g13, g14, g141, g15, g23, g24⟩, gj⟩ := hf
  refine lv_aload_n X.x X.b d_Model_isWord_0 rfl (lv_at hl 0 rfl) ?_
  refine m_get (v := .int 0) X ok_Model hM.1 3 (by decide) k_Model_126 (congrArg (fun z => some (Value.int z)) (show p0 3 = 0 from (by rw [hf3]))) d_Model_isWord_1 ?_
  refine lv_if_ne (tgt := 25) X.x X.b d_Model_isWord_4 (by decide) (fun c1 => ?_) (fun c1 => ?_)
  · exact absurd c1 (by decide)
  · skip
    refine lv_iload_n X.x X.b d_Model_isWord_7 rfl (lv_at hl 1 rfl) ?_
    refine lv_iconst (v := 0) X.x X.b d_Model_isWord_8 (by decide) ?_
    refine lv_aload_n X.x X.b d_Model_isWord_9 rfl (lv_at hl 0 rfl) ?_
    refine m_get (v := .int 0) X ok_Model hM.1 6 (by decide) k_Model_165 (congrArg (fun z => some (Value.int z)) (show p0 6 = 0 from (by rw [hf6]))) d_Model_isWord_10 ?_
    refine lv_iconst (v := 1) X.x X.b d_Model_isWord_13 (by decide) ?_
    refine lv_isub X.x X.b d_Model_isWord_14 ?_
    rw [show (0 - 1 : Int32) = (-1) from by decide]
    refine m_callSP X hS (MP_ans (M_Model_isIn l g k 0 (-1)) (show b2i (0 ≤ k ∧ k ≤ (-1)) = 0 from b2i_f (fun z => absurd (Int32.le_trans z.1 z.2) (by decide)))) s_Model_84 rfl rfl (Nat.le_of_ble_eq_true rfl) hl.1 d_Model_isWord_15 (by omega) (by decide) ⟨by omega, by omega⟩ (fun locs hS => ?_)
    refine lv_if_eq (tgt := 25) X.x X.b d_Model_isWord_18 (by decide) (fun c2 => ?_) (fun c2 => ?_)
    · skip
      refine lv_iconst (v := 0) X.x X.b d_Model_isWord_25 (by decide) ?_
      exact m_zret X hS (by omega) (by omega) d_Model_isWord_26 rfl rfl rfl
    · exact absurd c1 c2
set_option maxRecDepth 100000 in
set_option maxHeartbeats 4000000 in
theorem M_Model_word (l : Launch) (g : GG) {mo tq : Nat} {p0 : Nat → Int32} {s0 : Nat → Nat → Int32} {H0 : Heap} (hM : mAt g mo tq p0 s0 H0) (hf : frP p0 s0) (hn : noL s0) (k : Int32) : MM l y_Model_word c_Model_word 2 (some .int) 2 0 0 g H0 [.ref mo, .int k] (fun q => mo ≤ q ∧ q < mo + 23) (some (.int 0)) (fun H1 => ∃ p, mAt g mo tq p s0 H1 ∧ p 0 = 1) := by
  refine MM.of (by decide +kernel) (Nat.le_of_ble_eq_true rfl) ?_
  intro p e s m below meth cd X hH ls hl
  have X : CX g p s m _ meth cd c_Model_word 2 (some .int) R_Model _ := X
  have hl : lv_has ls 2 [(0, .ref mo), (1, .int k)] := hl
  have hS : va_S (AA (fun q => mo ≤ q ∧ q < mo + 23) H0) H0 H0 [] := va_S.rf
  have hlt0 := hM.lt
  have htq0 := hM.tq
  obtain ⟨⟨hf3, hf4, hf5, hf6, hf7⟩, ⟨g8, g11, g12, g13, g14, g141, g15, g23, g24⟩, gj⟩ := hf
  refine lv_aload_n X.x X.b d_Model_word_0 rfl (lv_at hl 0 rfl) ?_
  refine lv_iconst (v := 0) X.x X.b d_Model_word_1 (by decide) ?_
  refine m_put X ok_Model hS (Or.inl ⟨by omega, by omega⟩) hM.1 0 (by decide) k_Model_80 rfl (ok_Model.2.2.1 _ (by decide)) rfl rfl (Nat.le_of_ble_eq_true rfl) d_Model_word_2 (fun H locs hp hcg hS => ?_)
  have hM := hM.f0 hp hcg
  obtain ⟨p_1, ep_1⟩ : ∃ z, z = upd p0 0 0 := ⟨_, rfl⟩
  rw [← ep_1] at hM
  refine lv_aload_n X.x X.b d_Model_word_5 rfl (lv_at hl 0 rfl) ?_
  refine lv_iload_n X.x X.b d_Model_word_6 rfl (lv_at hl 1 rfl) ?_
  have hR := M_Model_isWord l g hM (show frP p_1 s0 from ⟨⟨(by rw [ep_1, upd_mi _ _ _ (show 3 ≠ 0 by decide), hf3]), (by rw [ep_1, upd_mi _ _ _ (show 4 ≠ 0 by decide), hf4]), (by rw [ep_1, upd_mi _ _ _ (show 5 ≠ 0 by decide), hf5]), (by rw [ep_1, upd_mi _ _ _ (show 6 ≠ 0 by decide), hf6]), (by rw [ep_1, upd_mi _ _ _ (show 7 ≠ 0 by decide), hf7])⟩, ⟨g8, g11, g12, g13, g14, g141, g15, g23, g24⟩, gj⟩) hn k
  refine m_callP X hS hR v_Model_216 hM.1 rfl rfl rfl (Nat.le_of_ble_eq_true rfl) hl.1 d_Model_word_7 (by omega) (by decide) ⟨by omega, by omega⟩ (fun locs hS => ?_)
  refine lv_if_eq (tgt := 21) X.x X.b d_Model_word_10 (by decide) (fun c1 => ?_) (fun c1 => ?_)
  · skip
    refine lv_aload_n X.x X.b d_Model_word_21 rfl (lv_at hl 0 rfl) ?_
    refine lv_iconst (v := 1) X.x X.b d_Model_word_22 (by decide) ?_
    have hR := M_Model_no l g hM 1
    refine m_callM X hS hR v_Model_100 hM.1 rfl rfl rfl (Nat.le_of_ble_eq_true rfl) hl.1 d_Model_word_23 (by omega) (by decide) ⟨by omega, by omega⟩ (fun q z => by have z : mo ≤ q ∧ q < mo + 23 := z; exact ⟨by omega, by omega⟩) (fun H locs hM hfr hS => ?_)
    obtain ⟨p_2, ep_2⟩ : ∃ z, z = upd p_1 0 1 := ⟨_, rfl⟩
    rw [← ep_2] at hM
    exact m_iret X hS (by omega) (by omega) d_Model_word_26 rfl ⟨_, hM, (by rw [ep_2, upd_hit])⟩
  · exact absurd c1 (by decide)
set_option maxRecDepth 100000 in
set_option maxHeartbeats 4000000 in
theorem M_Model_itemOf (l : Launch) (g : GG) {mo tq : Nat} {p0 : Nat → Int32} {s0 : Nat → Nat → Int32} {H0 : Heap} (hM : mAt g mo tq p0 s0 H0) (hf : frP p0 s0) (hn : noL s0) (k : Int32) : MM l y_Model_itemOf c_Model_itemOf 2 (some .int) 2 0 0 g H0 [.ref mo, .int k] (fun q => mo ≤ q ∧ q < mo + 23) (some (.int 0)) (fun H1 => ∃ p, mAt g mo tq p s0 H1 ∧ p 0 = 1) := by
  refine MM.of (by decide +kernel) (Nat.le_of_ble_eq_true rfl) ?_
  intro p e s m below meth cd X hH ls hl
  have X : CX g p s m _ meth cd c_Model_itemOf 2 (some .int) R_Model _ := X
  have hl : lv_has ls 2 [(0, .ref mo), (1, .int k)] := hl
  have hS : va_S (AA (fun q => mo ≤ q ∧ q < mo + 23) H0) H0 H0 [] := va_S.rf
  have hlt0 := hM.lt
  have htq0 := hM.tq
  obtain ⟨⟨hf3, hf4, hf5, hf6, hf7⟩, ⟨g8, g11, g12, g13, g14, g141, g15, g23, g24⟩, gj⟩ := hf
  refine lv_aload_n X.x X.b d_Model_itemOf_0 rfl (lv_at hl 0 rfl) ?_
  refine lv_iconst (v := 0) X.x X.b d_Model_itemOf_1 (by decide) ?_
  refine m_put X ok_Model hS (Or.inl ⟨by omega, by omega⟩) hM.1 0 (by decide) k_Model_80 rfl (ok_Model.2.2.1 _ (by decide)) rfl rfl (Nat.le_of_ble_eq_true rfl) d_Model_itemOf_2 (fun H locs hp hcg hS => ?_)
  have hM := hM.f0 hp hcg
  obtain ⟨p_1, ep_1⟩ : ∃ z, z = upd p0 0 0 := ⟨_, rfl⟩
  rw [← ep_1] at hM
  refine lv_aload_n X.x X.b d_Model_itemOf_5 rfl (lv_at hl 0 rfl) ?_
  refine lv_iload_n X.x X.b d_Model_itemOf_6 rfl (lv_at hl 1 rfl) ?_
  have hR := M_Model_isWord l g hM (show frP p_1 s0 from ⟨⟨(by rw [ep_1, upd_mi _ _ _ (show 3 ≠ 0 by decide), hf3]), (by rw [ep_1, upd_mi _ _ _ (show 4 ≠ 0 by decide), hf4]), (by rw [ep_1, upd_mi _ _ _ (show 5 ≠ 0 by decide), hf5]), (by rw [ep_1, upd_mi _ _ _ (show 6 ≠ 0 by decide), hf6]), (by rw [ep_1, upd_mi _ _ _ (show 7 ≠ 0 by decide), hf7])⟩, ⟨g8, g11, g12, g13, g14, g141, g15, g23, g24⟩, gj⟩) hn k
  refine m_callP X hS hR v_Model_216 hM.1 rfl rfl rfl (Nat.le_of_ble_eq_true rfl) hl.1 d_Model_itemOf_7 (by omega) (by decide) ⟨by omega, by omega⟩ (fun locs hS => ?_)
  refine lv_if_eq (tgt := 21) X.x X.b d_Model_itemOf_10 (by decide) (fun c1 => ?_) (fun c1 => ?_)
  · skip
    refine lv_aload_n X.x X.b d_Model_itemOf_21 rfl (lv_at hl 0 rfl) ?_
    refine lv_iconst (v := 1) X.x X.b d_Model_itemOf_22 (by decide) ?_
    have hR := M_Model_no l g hM 1
    refine m_callM X hS hR v_Model_100 hM.1 rfl rfl rfl (Nat.le_of_ble_eq_true rfl) hl.1 d_Model_itemOf_23 (by omega) (by decide) ⟨by omega, by omega⟩ (fun q z => by have z : mo ≤ q ∧ q < mo + 23 := z; exact ⟨by omega, by omega⟩) (fun H locs hM hfr hS => ?_)
    obtain ⟨p_2, ep_2⟩ : ∃ z, z = upd p_1 0 1 := ⟨_, rfl⟩
    rw [← ep_2] at hM
    exact m_iret X hS (by omega) (by omega) d_Model_itemOf_26 rfl ⟨_, hM, (by rw [ep_2, upd_hit])⟩
  · exact absurd c1 (by decide)
set_option maxRecDepth 100000 in
set_option maxHeartbeats 4000000 in
theorem M_Model_isCode (l : Launch) (g : GG) {mo tq : Nat} {p0 : Nat → Int32} {s0 : Nat → Nat → Int32} {H0 : Heap} (hM : mAt g mo tq p0 s0 H0) (hf : frP p0 s0) (hn : noL s0) (k : Int32) : MM l y_Model_isCode c_Model_isCode 2 (some .boolean) 2 0 0 g H0 [.ref mo, .int k] (fun q => mo ≤ q ∧ q < mo + 23) (some (.int 0)) (fun H1 => ∃ p, mAt g mo tq p s0 H1 ∧ p 0 = 1) := by
  refine MM.of (by decide +kernel) (Nat.le_of_ble_eq_true rfl) ?_
  intro p e s m below meth cd X hH ls hl
  have X : CX g p s m _ meth cd c_Model_isCode 2 (some .boolean) R_Model _ := X
  have hl : lv_has ls 2 [(0, .ref mo), (1, .int k)] := hl
  have hS : va_S (AA (fun q => mo ≤ q ∧ q < mo + 23) H0) H0 H0 [] := va_S.rf
  have hlt0 := hM.lt
  have htq0 := hM.tq
  obtain ⟨⟨hf3, hf4, hf5, hf6, hf7⟩, ⟨g8, g11, g12, g13, g14, g141, g15, g23, g24⟩, gj⟩ := hf
  refine lv_aload_n X.x X.b d_Model_isCode_0 rfl (lv_at hl 0 rfl) ?_
  refine lv_aload_n X.x X.b d_Model_isCode_1 rfl (lv_at hl 0 rfl) ?_
  refine lv_iload_n X.x X.b d_Model_isCode_2 rfl (lv_at hl 1 rfl) ?_
  have hR := M_Model_isWord l g hM (show frP p0 s0 from ⟨⟨(by rw [hf3]), (by rw [hf4]), (by rw [hf5]), (by rw [hf6]), (by rw [hf7])⟩, ⟨g8, g11, g12, g13, g14, g141, g15, g23, g24⟩, gj⟩) hn k
  refine m_callP X hS hR v_Model_216 hM.1 rfl rfl rfl (Nat.le_of_ble_eq_true rfl) hl.1 d_Model_isCode_3 (by omega) (by decide) ⟨by omega, by omega⟩ (fun locs hS => ?_)
  refine lv_if_eq (tgt := 13) X.x X.b d_Model_isCode_6 (by decide) (fun c1 => ?_) (fun c1 => ?_)
  · skip
    refine lv_iconst (v := 1) X.x X.b d_Model_isCode_13 (by decide) ?_
    refine m_put X ok_Model hS (Or.inl ⟨by omega, by omega⟩) hM.1 0 (by decide) k_Model_80 rfl (ok_Model.2.2.1 _ (by decide)) rfl rfl (Nat.le_of_ble_eq_true rfl) d_Model_isCode_14 (fun H locs hp hcg hS => ?_)
    have hM := hM.f0 hp hcg
    obtain ⟨p_1, ep_1⟩ : ∃ z, z = upd p0 0 1 := ⟨_, rfl⟩
    rw [← ep_1] at hM
    refine lv_aload_n X.x X.b d_Model_isCode_17 rfl (lv_at hl 0 rfl) ?_
    refine m_get (v := .int 1) X ok_Model hM.1 0 (by decide) k_Model_80 (congrArg (fun z => some (Value.int z)) (show p_1 0 = 1 from (by rw [ep_1, upd_hit]))) d_Model_isCode_18 ?_
    refine lv_if_ne (tgt := 41) X.x X.b d_Model_isCode_21 (by decide) (fun c2 => ?_) (fun c2 => ?_)
    · skip
      refine lv_iconst (v := 0) X.x X.b d_Model_isCode_41 (by decide) ?_
      exact m_zret X hS (by omega) (by omega) d_Model_isCode_42 rfl rfl ⟨_, hM, (by rw [ep_1, upd_hit])⟩
    · exact absurd c2 (by decide)
  · exact absurd c1 (by decide)
set_option maxRecDepth 100000 in
set_option maxHeartbeats 4000000 in
theorem M_Model_distance_n (l : Launch) (g : GG) {mo tq : Nat} {p0 : Nat → Int32} {s0 : Nat → Nat → Int32} {H0 : Heap} (hM : mAt g mo tq p0 s0 H0) (hf : frP p0 s0) (hn : noL s0) {k : Int32} (hk : ¬ k = 0) : MM l y_Model_distance c_Model_distance 2 (some .int) 2 0 0 g H0 [.ref mo, .int k] (fun q => mo ≤ q ∧ q < mo + 23) (some (.int 0)) (fun H1 => ∃ p, mAt g mo tq p s0 H1 ∧ p 0 = 1) := by
  refine MM.of (by decide +kernel) (Nat.le_of_ble_eq_true rfl) ?_
  intro p e s m below meth cd X hH ls hl
  have X : CX g p s m _ meth cd c_Model_distance 2 (some .int) R_Model _ := X
  have hl : lv_has ls 2 [(0, .ref mo), (1, .int k)] := hl
  have hS : va_S (AA (fun q => mo ≤ q ∧ q < mo + 23) H0) H0 H0 [] := va_S.rf
  have hlt0 := hM.lt
  have htq0 := hM.tq
  obtain ⟨⟨hf3, hf4, hf5, hf6, hf7⟩, ⟨g8, g11, g12, g13, g14, g141, g15, g23, g24⟩, gj⟩ := hf
  refine lv_aload_n X.x X.b d_Model_distance_0 rfl (lv_at hl 0 rfl) ?_
  refine lv_iconst (v := 0) X.x X.b d_Model_distance_1 (by decide) ?_
  refine m_put X ok_Model hS (Or.inl ⟨by omega, by omega⟩) hM.1 0 (by decide) k_Model_80 rfl (ok_Model.2.2.1 _ (by decide)) rfl rfl (Nat.le_of_ble_eq_true rfl) d_Model_distance_2 (fun H locs hp hcg hS => ?_)
  have hM := hM.f0 hp hcg
  obtain ⟨p_1, ep_1⟩ : ∃ z, z = upd p0 0 0 := ⟨_, rfl⟩
  rw [← ep_1] at hM
  refine lv_aload_n X.x X.b d_Model_distance_5 rfl (lv_at hl 0 rfl) ?_
  refine lv_iload_n X.x X.b d_Model_distance_6 rfl (lv_at hl 1 rfl) ?_
  refine m_callP X hS (MP_ans (M_Model_isItem l g hM (show frP p_1 s0 from ⟨⟨(by rw [ep_1, upd_mi _ _ _ (show 3 ≠ 0 by decide), hf3]), (by rw [ep_1, upd_mi _ _ _ (show 4 ≠ 0 by decide), hf4]), (by rw [ep_1, upd_mi _ _ _ (show 5 ≠ 0 by decide), hf5]), (by rw [ep_1, upd_mi _ _ _ (show 6 ≠ 0 by decide), hf6]), (by rw [ep_1, upd_mi _ _ _ (show 7 ≠ 0 by decide), hf7])⟩, ⟨g8, g11, g12, g13, g14, g141, g15, g23, g24⟩, gj⟩) hn k) (show b2i (0 ≤ k ∧ k ≤ 0) = 0 from b2i_f (fun z => hk (Int32.le_antisymm z.2 z.1)))) v_Model_207 hM.1 rfl rfl rfl (Nat.le_of_ble_eq_true rfl) hl.1 d_Model_distance_7 (by omega) (by decide) ⟨by omega, by omega⟩ (fun locs hS => ?_)
  refine lv_if_eq (tgt := 29) X.x X.b d_Model_distance_10 (by decide) (fun c1 => ?_) (fun c1 => ?_)
  · skip
    refine lv_aload_n X.x X.b d_Model_distance_29 rfl (lv_at hl 0 rfl) ?_
    refine lv_iconst (v := 1) X.x X.b d_Model_distance_30 (by decide) ?_
    have hR := M_Model_no l g hM 1
    refine m_callM X hS hR v_Model_100 hM.1 rfl rfl rfl (Nat.le_of_ble_eq_true rfl) hl.1 d_Model_distance_31 (by omega) (by decide) ⟨by omega, by omega⟩ (fun q z => by have z : mo ≤ q ∧ q < mo + 23 := z; exact ⟨by omega, by omega⟩) (fun H locs hM hfr hS => ?_)
    obtain ⟨p_2, ep_2⟩ : ∃ z, z = upd p_1 0 1 := ⟨_, rfl⟩
    rw [← ep_2] at hM
    exact m_iret X hS (by omega) (by omega) d_Model_distance_34 rfl ⟨_, hM, (by rw [ep_2, upd_hit])⟩
  · exact absurd c1 (by decide)
set_option maxRecDepth 100000 in
set_option maxHeartbeats 4000000 in
theorem M_Model_distance_0 (l : Launch) (g : GG) {mo tq : Nat} {p0 : Nat → Int32} {s0 : Nat → Nat → Int32} {H0 : Heap} (hM : mAt g mo tq p0 s0 H0) (hf : frP p0 s0) (hn : noL s0) : MM l y_Model_distance c_Model_distance 2 (some .int) 2 0 0 g H0 [.ref mo, .int 0] (fun q => mo ≤ q ∧ q < mo + 23) (some (.int 0)) (fun H1 => ∃ p, mAt g mo tq p s0 H1 ∧ p 0 = 1) := by
  refine MM.of (by decide +kernel) (Nat.le_of_ble_eq_true rfl) ?_
  intro p e s m below meth cd X hH ls hl
  have X : CX g p s m _ meth cd c_Model_distance 2 (some .int) R_Model _ := X
  have hl : lv_has ls 2 [(0, .ref mo), (1, .int 0)] := hl
  have hS : va_S (AA (fun q => mo ≤ q ∧ q < mo + 23) H0) H0 H0 [] := va_S.rf
  have hlt0 := hM.lt
  have htq0 := hM.tq
  obtain ⟨⟨hf3, hf4, hf5, hf6, hf7⟩, ⟨g8, g11, g12, g13, g14, g141, g15, g23, g24⟩, gj⟩ := hf
  refine lv_aload_n X.x X.b d_Model_distance_0 rfl (lv_at hl 0 rfl) ?_
  refine lv_iconst (v := 0) X.x X.b d_Model_distance_1 (by decide) ?_
  refine m_put X ok_Model hS (Or.inl ⟨by omega, by omega⟩) hM.1 0 (by decide) k_Model_80 rfl (ok_Model.2.2.1 _ (by decide)) rfl rfl (Nat.le_of_ble_eq_true rfl) d_Model_distance_2 (fun H locs hp hcg hS => ?_)
  have hM := hM.f0 hp hcg
  obtain ⟨p_1, ep_1⟩ : ∃ z, z = upd p0 0 0 := ⟨_, rfl⟩
  rw [← ep_1] at hM
  refine lv_aload_n X.x X.b d_Model_distance_5 rfl (lv_at hl 0 rfl) ?_
  refine lv_iload_n X.x X.b d_Model_distance_6 rfl (lv_at hl 1 rfl) ?_
  refine m_callP X hS (MP_ans (M_Model_isItem l g hM (show frP p_1 s0 from ⟨⟨(by rw [ep_1, upd_mi _ _ _ (show 3 ≠ 0 by decide), hf3]), (by rw [ep_1, upd_mi _ _ _ (show 4 ≠ 0 by decide), hf4]), (by rw [ep_1, upd_mi _ _ _ (show 5 ≠ 0 by decide), hf5]), (by rw [ep_1, upd_mi _ _ _ (show 6 ≠ 0 by decide), hf6]), (by rw [ep_1, upd_mi _ _ _ (show 7 ≠ 0 by decide), hf7])⟩, ⟨g8, g11, g12, g13, g14, g141, g15, g23, g24⟩, gj⟩) hn 0) (show b2i (0 ≤ 0 ∧ 0 ≤ 0) = 1 from by decide)) v_Model_207 hM.1 rfl rfl rfl (Nat.le_of_ble_eq_true rfl) hl.1 d_Model_distance_7 (by omega) (by decide) ⟨by omega, by omega⟩ (fun locs hS => ?_)
  refine lv_if_eq (tgt := 29) X.x X.b d_Model_distance_10 (by decide) (fun c1 => ?_) (fun c1 => ?_)
  · exact absurd c1 (by decide)
  · skip
    refine lv_aload_n X.x X.b d_Model_distance_13 rfl (lv_at hl 0 rfl) ?_
    refine lv_iload_n X.x X.b d_Model_distance_14 rfl (lv_at hl 1 rfl) ?_
    have hR := M_Model_isBranch (k := 0) l g hM (by omega)
    rw [show b2i (s0 8 0 = 3 ∨ s0 8 0 = 4) = 0 from b2i_f (by rw [show s0 8 0 = 6 from (by rw [g8])]; first | decide | simp)] at hR
    refine m_callP X hS hR v_Model_177 hM.1 rfl rfl rfl (Nat.le_of_ble_eq_true rfl) hl.1 d_Model_distance_15 (by omega) (by decide) ⟨by omega, by omega⟩ (fun locs hS => ?_)
    refine lv_if_eq (tgt := 29) X.x X.b d_Model_distance_18 (by decide) (fun c2 => ?_) (fun c2 => ?_)
    · skip
      refine lv_aload_n X.x X.b d_Model_distance_29 rfl (lv_at hl 0 rfl) ?_
      refine lv_iconst (v := 1) X.x X.b d_Model_distance_30 (by decide) ?_
      have hR := M_Model_no l g hM 1
      refine m_callM X hS hR v_Model_100 hM.1 rfl rfl rfl (Nat.le_of_ble_eq_true rfl) hl.1 d_Model_distance_31 (by omega) (by decide) ⟨by omega, by omega⟩ (fun q z => by have z : mo ≤ q ∧ q < mo + 23 := z; exact ⟨by omega, by omega⟩) (fun H locs hM hfr hS => ?_)
      obtain ⟨p_2, ep_2⟩ : ∃ z, z = upd p_1 0 1 := ⟨_, rfl⟩
      rw [← ep_2] at hM
      exact m_iret X hS (by omega) (by omega) d_Model_distance_34 rfl ⟨_, hM, (by rw [ep_2, upd_hit])⟩
    · exact absurd c2 (by decide)
set_option maxRecDepth 100000 in
set_option maxHeartbeats 4000000 in
theorem M_Model_ofItem_n (l : Launch) (g : GG) {mo tq : Nat} {p0 : Nat → Int32} {s0 : Nat → Nat → Int32} {H0 : Heap} (hM : mAt g mo tq p0 s0 H0) (hf : frP p0 s0) (hn : noL s0) {k : Int32} (hk : ¬ k = 0) (wt : Int32) : MM l y_Model_ofItem c_Model_ofItem 3 (some .int) 2 0 0 g H0 [.ref mo, .int k, .int wt] (fun q => mo ≤ q ∧ q < mo + 23) (some (.int 0)) (fun H1 => ∃ p, mAt g mo tq p s0 H1 ∧ p 0 = 1) := by
  refine MM.of (by decide +kernel) (Nat.le_of_ble_eq_true rfl) ?_
  intro p e s m below meth cd X hH ls hl
  have X : CX g p s m _ meth cd c_Model_ofItem 3 (some .int) R_Model _ := X
  have hl : lv_has ls 3 [(0, .ref mo), (1, .int k), (2, .int wt)] := hl
  have hS : va_S (AA (fun q => mo ≤ q ∧ q < mo + 23) H0) H0 H0 [] := va_S.rf
  have hlt0 := hM.lt
  have htq0 := hM.tq
  obtain ⟨⟨hf3, hf4, hf5, hf6, hf7⟩, ⟨g8, g11, g12, g13, g14, g141, g15, g23, g24⟩, gj⟩ := hf
  refine lv_aload_n X.x X.b d_Model_ofItem_0 rfl (lv_at hl 0 rfl) ?_
  refine lv_iconst (v := 0) X.x X.b d_Model_ofItem_1 (by decide) ?_
  refine m_put X ok_Model hS (Or.inl ⟨by omega, by omega⟩) hM.1 0 (by decide) k_Model_80 rfl (ok_Model.2.2.1 _ (by decide)) rfl rfl (Nat.le_of_ble_eq_true rfl) d_Model_ofItem_2 (fun H locs hp hcg hS => ?_)
  have hM := hM.f0 hp hcg
  obtain ⟨p_1, ep_1⟩ : ∃ z, z = upd p0 0 0 := ⟨_, rfl⟩
  rw [← ep_1] at hM
  refine lv_aload_n X.x X.b d_Model_ofItem_5 rfl (lv_at hl 0 rfl) ?_
  refine lv_iload_n X.x X.b d_Model_ofItem_6 rfl (lv_at hl 1 rfl) ?_
  refine m_callP X hS (MP_ans (M_Model_isItem l g hM (show frP p_1 s0 from ⟨⟨(by rw [ep_1, upd_mi _ _ _ (show 3 ≠ 0 by decide), hf3]), (by rw [ep_1, upd_mi _ _ _ (show 4 ≠ 0 by decide), hf4]), (by rw [ep_1, upd_mi _ _ _ (show 5 ≠ 0 by decide), hf5]), (by rw [ep_1, upd_mi _ _ _ (show 6 ≠ 0 by decide), hf6]), (by rw [ep_1, upd_mi _ _ _ (show 7 ≠ 0 by decide), hf7])⟩, ⟨g8, g11, g12, g13, g14, g141, g15, g23, g24⟩, gj⟩) hn k) (show b2i (0 ≤ k ∧ k ≤ 0) = 0 from b2i_f (fun z => hk (Int32.le_antisymm z.2 z.1)))) v_Model_207 hM.1 rfl rfl rfl (Nat.le_of_ble_eq_true rfl) hl.1 d_Model_ofItem_7 (by omega) (by decide) ⟨by omega, by omega⟩ (fun locs hS => ?_)
  refine lv_if_ne (tgt := 19) X.x X.b d_Model_ofItem_10 (by decide) (fun c1 => ?_) (fun c1 => ?_)
  · exact absurd c1 (by decide)
  · skip
    refine lv_aload_n X.x X.b d_Model_ofItem_13 rfl (lv_at hl 0 rfl) ?_
    refine lv_iconst (v := 1) X.x X.b d_Model_ofItem_14 (by decide) ?_
    have hR := M_Model_no l g hM 1
    refine m_callM X hS hR v_Model_100 hM.1 rfl rfl rfl (Nat.le_of_ble_eq_true rfl) hl.1 d_Model_ofItem_15 (by omega) (by decide) ⟨by omega, by omega⟩ (fun q z => by have z : mo ≤ q ∧ q < mo + 23 := z; exact ⟨by omega, by omega⟩) (fun H locs hM hfr hS => ?_)
    obtain ⟨p_2, ep_2⟩ : ∃ z, z = upd p_1 0 1 := ⟨_, rfl⟩
    rw [← ep_2] at hM
    exact m_iret X hS (by omega) (by omega) d_Model_ofItem_18 rfl ⟨_, hM, (by rw [ep_2, upd_hit])⟩
set_option maxRecDepth 100000 in
set_option maxHeartbeats 4000000 in
theorem M_Model_ofItemNow (l : Launch) (g : GG) {mo tq : Nat} {p0 : Nat → Int32} {s0 : Nat → Nat → Int32} {H0 : Heap} (hM : mAt g mo tq p0 s0 H0) (hf : frP p0 s0) (hn : noL s0) (wt : Int32) : MP l y_Model_ofItemNow c_Model_ofItemNow 3 (some .int) 0 g H0 [.ref mo, .int 0, .int wt] (some (.int (oiM wt))) := by
  refine MM.of (by decide +kernel) (Nat.le_of_ble_eq_true rfl) ?_
  intro p e s m below meth cd X hH ls hl
  have X : CX g p s m _ meth cd c_Model_ofItemNow 3 (some .int) R_Model _ := X
  have hl : lv_has ls 3 [(0, .ref mo), (1, .int 0), (2, .int wt)] := hl
  have hS : va_S (AA (noA) H0) H0 H0 [] := va_S.rf
  have hlt0 := hM.lt
  have htq0 := hM.tq
  obtain ⟨⟨hf3, hf4, hf5, hf6, hf7⟩, ⟨g8, g11, g12, g13, g14, g141, g15, g23, g24⟩, gj⟩ := hf
  refine lv_iload_n X.x X.b d_Model_ofItemNow_0 rfl (lv_at hl 2 rfl) ?_
  by_cases k1 : wt = 0
  · skip
    refine lv_tableIn (off := 43) (tgt := 44) X.x X.b d_Model_ofItemNow_1 (by rw [k1]; decide) (by rw [k1]; decide) (by rw [k1]; decide) (by decide) ?_
    refine lv_aload_n X.x X.b d_Model_ofItemNow_44 rfl (lv_at hl 0 rfl) ?_
    refine m_get (v := .ref (mo + 3)) X ok_Model hM.1 8 (by decide) k_Model_16 rfl d_Model_ofItemNow_45 ?_
    refine lv_iload_n X.x X.b d_Model_ofItemNow_48 rfl (lv_at hl 1 rfl) ?_
    refine m_ild (v := 6) X hM.a8 0 rfl (by omega) (by decide) (show s0 8 0 = 6 from (by rw [g8])) d_Model_ofItemNow_49 ?_
    exact m_iret X hS (by omega) (by omega) d_Model_ofItemNow_50 (congrArg (fun z => some (Value.int z)) (by simp [oiM, k1])) rfl
  by_cases k2 : wt = 1
  · skip
    refine lv_tableIn (off := 50) (tgt := 51) X.x X.b d_Model_ofItemNow_1 (by rw [k2]; decide) (by rw [k2]; decide) (by rw [k2]; decide) (by decide) ?_
    refine lv_aload_n X.x X.b d_Model_ofItemNow_51 rfl (lv_at hl 0 rfl) ?_
    refine m_get (v := .ref (mo + 9)) X ok_Model hM.1 14 (by decide) k_Model_34 rfl d_Model_ofItemNow_52 ?_
    refine lv_iload_n X.x X.b d_Model_ofItemNow_55 rfl (lv_at hl 1 rfl) ?_
    refine m_ild (v := 0) X hM.a14 0 rfl (by omega) (by decide) (show s0 14 0 = 0 from (by rw [g14])) d_Model_ofItemNow_56 ?_
    exact m_iret X hS (by omega) (by omega) d_Model_ofItemNow_57 (congrArg (fun z => some (Value.int z)) (by simp [oiM, k2])) rfl
  by_cases k3 : wt = 2
  · skip
    refine lv_tableIn (off := 57) (tgt := 58) X.x X.b d_Model_ofItemNow_1 (by rw [k3]; decide) (by rw [k3]; decide) (by rw [k3]; decide) (by decide) ?_
    refine lv_aload_n X.x X.b d_Model_ofItemNow_58 rfl (lv_at hl 0 rfl) ?_
    refine m_get (v := .ref (mo + 10)) X ok_Model hM.1 15 (by decide) k_Model_37 rfl d_Model_ofItemNow_59 ?_
    refine lv_iload_n X.x X.b d_Model_ofItemNow_62 rfl (lv_at hl 1 rfl) ?_
    refine m_ild (v := 0) X hM.a15 0 rfl (by omega) (by decide) (show s0 15 0 = 0 from (by rw [g15])) d_Model_ofItemNow_63 ?_
    exact m_iret X hS (by omega) (by omega) d_Model_ofItemNow_64 (congrArg (fun z => some (Value.int z)) (by simp [oiM, k3])) rfl
  by_cases k4 : wt = 3
  · skip
    refine lv_tableIn (off := 64) (tgt := 65) X.x X.b d_Model_ofItemNow_1 (by rw [k4]; decide) (by rw [k4]; decide) (by rw [k4]; decide) (by decide) ?_
    refine lv_aload_n X.x X.b d_Model_ofItemNow_65 rfl (lv_at hl 0 rfl) ?_
    refine m_get (v := .ref (mo + 7)) X ok_Model hM.1 12 (by decide) k_Model_28 rfl d_Model_ofItemNow_66 ?_
    refine lv_iload_n X.x X.b d_Model_ofItemNow_69 rfl (lv_at hl 1 rfl) ?_
    refine m_ild (v := (-1)) X hM.a12 0 rfl (by omega) (by decide) (show s0 12 0 = (-1) from (by rw [g12])) d_Model_ofItemNow_70 ?_
    exact m_iret X hS (by omega) (by omega) d_Model_ofItemNow_71 (congrArg (fun z => some (Value.int z)) (by simp [oiM, k4])) rfl
  by_cases k5 : wt = 4
  · skip
    refine lv_tableIn (off := 71) (tgt := 72) X.x X.b d_Model_ofItemNow_1 (by rw [k5]; decide) (by rw [k5]; decide) (by rw [k5]; decide) (by decide) ?_
    refine lv_aload_n X.x X.b d_Model_ofItemNow_72 rfl (lv_at hl 0 rfl) ?_
    refine m_get (v := .ref (mo + 8)) X ok_Model hM.1 13 (by decide) k_Model_31 rfl d_Model_ofItemNow_73 ?_
    refine lv_iload_n X.x X.b d_Model_ofItemNow_76 rfl (lv_at hl 1 rfl) ?_
    refine m_ild (v := 0) X hM.a13 0 rfl (by omega) (by decide) (show s0 13 0 = 0 from (by rw [g13])) d_Model_ofItemNow_77 ?_
    exact m_iret X hS (by omega) (by omega) d_Model_ofItemNow_78 (congrArg (fun z => some (Value.int z)) (by simp [oiM, k5])) rfl
  by_cases k6 : wt = 5
  · skip
    refine lv_tableIn (off := 78) (tgt := 79) X.x X.b d_Model_ofItemNow_1 (by rw [k6]; decide) (by rw [k6]; decide) (by rw [k6]; decide) (by decide) ?_
    refine lv_aload_n X.x X.b d_Model_ofItemNow_79 rfl (lv_at hl 0 rfl) ?_
    refine m_get (v := .ref (mo + 6)) X ok_Model hM.1 11 (by decide) k_Model_25 rfl d_Model_ofItemNow_80 ?_
    refine lv_iload_n X.x X.b d_Model_ofItemNow_83 rfl (lv_at hl 1 rfl) ?_
    refine m_ild (v := 0) X hM.a11 0 rfl (by omega) (by decide) (show s0 11 0 = 0 from (by rw [g11])) d_Model_ofItemNow_84 ?_
    exact m_iret X hS (by omega) (by omega) d_Model_ofItemNow_85 (congrArg (fun z => some (Value.int z)) (by simp [oiM, k6])) rfl
  by_cases k7 : wt = 6
  · skip
    refine lv_tableIn (off := 85) (tgt := 86) X.x X.b d_Model_ofItemNow_1 (by rw [k7]; decide) (by rw [k7]; decide) (by rw [k7]; decide) (by decide) ?_
    refine lv_aload_n X.x X.b d_Model_ofItemNow_86 rfl (lv_at hl 0 rfl) ?_
    refine m_get (v := .ref (mo + 18)) X ok_Model hM.1 23 (by decide) k_Model_61 rfl d_Model_ofItemNow_87 ?_
    refine lv_iload_n X.x X.b d_Model_ofItemNow_90 rfl (lv_at hl 1 rfl) ?_
    refine m_zld (v := 0) X hM.a23 0 rfl (by omega) (by decide) (show s0 23 0 = 0 from (by rw [g23])) d_Model_ofItemNow_91 ?_
    refine lv_if_eq (tgt := 99) X.x X.b d_Model_ofItemNow_92 (by decide) (fun c8 => ?_) (fun c8 => ?_)
    · skip
      refine lv_iconst (v := 0) X.x X.b d_Model_ofItemNow_99 (by decide) ?_
      exact m_iret X hS (by omega) (by omega) d_Model_ofItemNow_100 (congrArg (fun z => some (Value.int z)) (by simp [oiM, k7, c8])) rfl
    · exact absurd c8 (by decide)
  refine lv_tableOut (tgt := 101) X.x X.b d_Model_ofItemNow_1 (by have := ne_toInt (k := 0) 0 (by decide) k1; have := ne_toInt (k := 1) 1 (by decide) k2; have := ne_toInt (k := 2) 2 (by decide) k3; have := ne_toInt (k := 3) 3 (by decide) k4; have := ne_toInt (k := 4) 4 (by decide) k5; have := ne_toInt (k := 5) 5 (by decide) k6; have := ne_toInt (k := 6) 6 (by decide) k7; omega) (by decide) ?_
  refine lv_aload_n X.x X.b d_Model_ofItemNow_101 rfl (lv_at hl 0 rfl) ?_
  refine m_get (v := .ref (mo + 19)) X ok_Model hM.1 24 (by decide) k_Model_65 rfl d_Model_ofItemNow_102 ?_
  refine lv_iload_n X.x X.b d_Model_ofItemNow_105 rfl (lv_at hl 1 rfl) ?_
  refine m_zld (v := 1) X hM.a24 0 rfl (by omega) (by decide) (show s0 24 0 = 1 from (by rw [g24])) d_Model_ofItemNow_106 ?_
  refine lv_if_eq (tgt := 114) X.x X.b d_Model_ofItemNow_107 (by decide) (fun c9 => ?_) (fun c9 => ?_)
  · exact absurd c9 (by decide)
  · skip
    refine lv_iconst (v := 1) X.x X.b d_Model_ofItemNow_110 (by decide) ?_
    refine lv_goto (tgt := 115) X.x X.b d_Model_ofItemNow_111 (by decide) ?_
    exact m_iret X hS (by omega) (by omega) d_Model_ofItemNow_115 (congrArg (fun z => some (Value.int z)) (by simp [oiM, k1, k2, k3, k4, k5, k6, k7, c9])) rfl
set_option maxRecDepth 100000 in
set_option maxHeartbeats 4000000 in
theorem M_Model_ofItem_y (l : Launch) (g : GG) {mo tq : Nat} {p0 : Nat → Int32} {s0 : Nat → Nat → Int32} {H0 : Heap} (hM : mAt g mo tq p0 s0 H0) (hf : frP p0 s0) (hn : noL s0) {wt : Int32} (hw : 0 ≤ wt ∧ wt ≤ 7) : MM l y_Model_ofItem c_Model_ofItem 3 (some .int) 2 0 0 g H0 [.ref mo, .int 0, .int wt] (fun q => mo ≤ q ∧ q < mo + 23) (some (.int (oiM wt))) (fun H1 => ∃ p, mAt g mo tq p s0 H1 ∧ p 0 = 0) := by
  refine MM.of (by decide +kernel) (Nat.le_of_ble_eq_true rfl) ?_
  intro p e s m below meth cd X hH ls hl
  have X : CX g p s m _ meth cd c_Model_ofItem 3 (some .int) R_Model _ := X
  have hl : lv_has ls 3 [(0, .ref mo), (1, .int 0), (2, .int wt)] := hl
  have hS : va_S (AA (fun q => mo ≤ q ∧ q < mo + 23) H0) H0 H0 [] := va_S.rf
  have hlt0 := hM.lt
  have htq0 := hM.tq
  obtain ⟨⟨hf3, hf4, hf5, hf6, hf7⟩, ⟨g8, g11, g12, g13, g14, g141, g15, g23, g24⟩, gj⟩ := hf
  refine lv_aload_n X.x X.b d_Model_ofItem_0 rfl (lv_at hl 0 rfl) ?_
  refine lv_iconst (v := 0) X.x X.b d_Model_ofItem_1 (by decide) ?_
  refine m_put X ok_Model hS (Or.inl ⟨by omega, by omega⟩) hM.1 0 (by decide) k_Model_80 rfl (ok_Model.2.2.1 _ (by decide)) rfl rfl (Nat.le_of_ble_eq_true rfl) d_Model_ofItem_2 (fun H locs hp hcg hS => ?_)
  have hM := hM.f0 hp hcg
  obtain ⟨p_1, ep_1⟩ : ∃ z, z = upd p0 0 0 := ⟨_, rfl⟩
  rw [← ep_1] at hM
  refine lv_aload_n X.x X.b d_Model_ofItem_5 rfl (lv_at hl 0 rfl) ?_
  refine lv_iload_n X.x X.b d_Model_ofItem_6 rfl (lv_at hl 1 rfl) ?_
  refine m_callP X hS (MP_ans (M_Model_isItem l g hM (show frP p_1 s0 from ⟨⟨(by rw [ep_1, upd_mi _ _ _ (show 3 ≠ 0 by decide), hf3]), (by rw [ep_1, upd_mi _ _ _ (show 4 ≠ 0 by decide), hf4]), (by rw [ep_1, upd_mi _ _ _ (show 5 ≠ 0 by decide), hf5]), (by rw [ep_1, upd_mi _ _ _ (show 6 ≠ 0 by decide), hf6]), (by rw [ep_1, upd_mi _ _ _ (show 7 ≠ 0 by decide), hf7])⟩, ⟨g8, g11, g12, g13, g14, g141, g15, g23, g24⟩, gj⟩) hn 0) (show b2i (0 ≤ 0 ∧ 0 ≤ 0) = 1 from by decide)) v_Model_207 hM.1 rfl rfl rfl (Nat.le_of_ble_eq_true rfl) hl.1 d_Model_ofItem_7 (by omega) (by decide) ⟨by omega, by omega⟩ (fun locs hS => ?_)
  refine lv_if_ne (tgt := 19) X.x X.b d_Model_ofItem_10 (by decide) (fun c1 => ?_) (fun c1 => ?_)
  · skip
    refine lv_iload_n X.x X.b d_Model_ofItem_19 rfl (lv_at hl 2 rfl) ?_
    refine lv_iconst (v := 0) X.x X.b d_Model_ofItem_20 (by decide) ?_
    refine lv_bipush (v := 7) X.x X.b d_Model_ofItem_21 (by decide) ?_
    refine m_callSP X hS (MP_ans (M_Model_isIn l g wt 0 7) (show b2i (0 ≤ wt ∧ wt ≤ 7) = 1 from b2i_t hw)) s_Model_84 rfl rfl (Nat.le_of_ble_eq_true rfl) hl.1 d_Model_ofItem_23 (by omega) (by decide) ⟨by omega, by omega⟩ (fun locs hS => ?_)
    refine lv_if_eq (tgt := 38) X.x X.b d_Model_ofItem_26 (by decide) (fun c2 => ?_) (fun c2 => ?_)
    · exact absurd c2 c1
    · skip
      refine lv_aload_n X.x X.b d_Model_ofItem_29 rfl (lv_at hl 0 rfl) ?_
      refine lv_iload_n X.x X.b d_Model_ofItem_30 rfl (lv_at hl 1 rfl) ?_
      refine lv_iload_n X.x X.b d_Model_ofItem_31 rfl (lv_at hl 2 rfl) ?_
      refine m_callP X hS (M_Model_ofItemNow l g hM (show frP p_1 s0 from ⟨⟨(by rw [ep_1, upd_mi _ _ _ (show 3 ≠ 0 by decide), hf3]), (by rw [ep_1, upd_mi _ _ _ (show 4 ≠ 0 by decide), hf4]), (by rw [ep_1, upd_mi _ _ _ (show 5 ≠ 0 by decide), hf5]), (by rw [ep_1, upd_mi _ _ _ (show 6 ≠ 0 by decide), hf6]), (by rw [ep_1, upd_mi _ _ _ (show 7 ≠ 0 by decide), hf7])⟩, ⟨g8, g11, g12, g13, g14, g141, g15, g23, g24⟩, gj⟩) hn wt) v_Model_210 hM.1 rfl rfl rfl (Nat.le_of_ble_eq_true rfl) hl.1 d_Model_ofItem_32 (by omega) (by decide) ⟨by omega, by omega⟩ (fun locs hS => ?_)
      refine lv_goto (tgt := 43) X.x X.b d_Model_ofItem_35 (by decide) ?_
      exact m_iret X hS (by omega) (by omega) d_Model_ofItem_43 rfl ⟨_, hM, (by rw [ep_1, upd_hit])⟩
  · exact absurd c1 (by decide)
set_option maxRecDepth 100000 in
set_option maxHeartbeats 4000000 in
theorem M_Model_ofItem_o (l : Launch) (g : GG) {mo tq : Nat} {p0 : Nat → Int32} {s0 : Nat → Nat → Int32} {H0 : Heap} (hM : mAt g mo tq p0 s0 H0) (hf : frP p0 s0) (hn : noL s0) {wt : Int32} (hw : ¬ (0 ≤ wt ∧ wt ≤ 7)) : MM l y_Model_ofItem c_Model_ofItem 3 (some .int) 2 0 0 g H0 [.ref mo, .int 0, .int wt] (fun q => mo ≤ q ∧ q < mo + 23) (some (.int 0)) (fun H1 => ∃ p, mAt g mo tq p s0 H1 ∧ p 0 = 2) := by
  refine MM.of (by decide +kernel) (Nat.le_of_ble_eq_true rfl) ?_
  intro p e s m below meth cd X hH ls hl
  have X : CX g p s m _ meth cd c_Model_ofItem 3 (some .int) R_Model _ := X
  have hl : lv_has ls 3 [(0, .ref mo), (1, .int 0), (2, .int wt)] := hl
  have hS : va_S (AA (fun q => mo ≤ q ∧ q < mo + 23) H0) H0 H0 [] := va_S.rf
  have hlt0 := hM.lt
  have htq0 := hM.tq
  obtain ⟨⟨hf3, hf4, hf5, hf6, hf7⟩, ⟨g8, g11, g12, g13, g14, g141, g15, g23, g24⟩, gj⟩ := hf
  refine lv_aload_n X.x X.b d_Model_ofItem_0 rfl (lv_at hl 0 rfl) ?_
  refine lv_iconst (v := 0) X.x X.b d_Model_ofItem_1 (by decide) ?_
  refine m_put X ok_Model hS (Or.inl ⟨by omega, by omega⟩) hM.1 0 (by decide) k_Model_80 rfl (ok_Model.2.2.1 _ (by decide)) rfl rfl (Nat.le_of_ble_eq_true rfl) d_Model_ofItem_2 (fun H locs hp hcg hS => ?_)
  have hM := hM.f0 hp hcg
  obtain ⟨p_1, ep_1⟩ : ∃ z, z = upd p0 0 0 := ⟨_, rfl⟩
  rw [← ep_1] at hM
  refine lv_aload_n X.x X.b d_Model_ofItem_5 rfl (lv_at hl 0 rfl) ?_
  refine lv_iload_n X.x X.b d_Model_ofItem_6 rfl (lv_at hl 1 rfl) ?_
  refine m_callP X hS (MP_ans (M_Model_isItem l g hM (show frP p_1 s0 from ⟨⟨(by rw [ep_1, upd_mi _ _ _ (show 3 ≠ 0 by decide), hf3]), (by rw [ep_1, upd_mi _ _ _ (show 4 ≠ 0 by decide), hf4]), (by rw [ep_1, upd_mi _ _ _ (show 5 ≠ 0 by decide), hf5]), (by rw [ep_1, upd_mi _ _ _ (show 6 ≠ 0 by decide), hf6]), (by rw [ep_1, upd_mi _ _ _ (show 7 ≠ 0 by decide), hf7])⟩, ⟨g8, g11, g12, g13, g14, g141, g15, g23, g24⟩, gj⟩) hn 0) (show b2i (0 ≤ 0 ∧ 0 ≤ 0) = 1 from by decide)) v_Model_207 hM.1 rfl rfl rfl (Nat.le_of_ble_eq_true rfl) hl.1 d_Model_ofItem_7 (by omega) (by decide) ⟨by omega, by omega⟩ (fun locs hS => ?_)
  refine lv_if_ne (tgt := 19) X.x X.b d_Model_ofItem_10 (by decide) (fun c1 => ?_) (fun c1 => ?_)
  · skip
    refine lv_iload_n X.x X.b d_Model_ofItem_19 rfl (lv_at hl 2 rfl) ?_
    refine lv_iconst (v := 0) X.x X.b d_Model_ofItem_20 (by decide) ?_
    refine lv_bipush (v := 7) X.x X.b d_Model_ofItem_21 (by decide) ?_
    refine m_callSP X hS (MP_ans (M_Model_isIn l g wt 0 7) (show b2i (0 ≤ wt ∧ wt ≤ 7) = 0 from b2i_f hw)) s_Model_84 rfl rfl (Nat.le_of_ble_eq_true rfl) hl.1 d_Model_ofItem_23 (by omega) (by decide) ⟨by omega, by omega⟩ (fun locs hS => ?_)
    refine lv_if_eq (tgt := 38) X.x X.b d_Model_ofItem_26 (by decide) (fun c2 => ?_) (fun c2 => ?_)
    · skip
      refine lv_aload_n X.x X.b d_Model_ofItem_38 rfl (lv_at hl 0 rfl) ?_
      refine lv_iconst (v := 2) X.x X.b d_Model_ofItem_39 (by decide) ?_
      have hR := M_Model_no l g hM 2
      refine m_callM X hS hR v_Model_100 hM.1 rfl rfl rfl (Nat.le_of_ble_eq_true rfl) hl.1 d_Model_ofItem_40 (by omega) (by decide) ⟨by omega, by omega⟩ (fun q z => by have z : mo ≤ q ∧ q < mo + 23 := z; exact ⟨by omega, by omega⟩) (fun H locs hM hfr hS => ?_)
      obtain ⟨p_2, ep_2⟩ : ∃ z, z = upd p_1 0 2 := ⟨_, rfl⟩
      rw [← ep_2] at hM
      exact m_iret X hS (by omega) (by omega) d_Model_ofItem_43 rfl ⟨_, hM, (by rw [ep_2, upd_hit])⟩
    · exact absurd c2 (by decide)
  · exact absurd c1 (by decide)
set_option maxRecDepth 100000 in
set_option maxHeartbeats 4000000 in
theorem M_Model_valueNow (l : Launch) (g : GG) {mo tq : Nat} {p0 : Nat → Int32} {s0 : Nat → Nat → Int32} {H0 : Heap} (hM : mAt g mo tq p0 s0 H0) (hf : frP p0 s0) (hn : noL s0) {j : Nat} (hj : j < 8) : MP l y_Model_valueNow c_Model_valueNow 2 (some .int) 0 g H0 [.ref mo, .int (nI j)] (some (.int (-1))) := by
  refine MM.of (by decide +kernel) (Nat.le_of_ble_eq_true rfl) ?_
  intro p e s m below meth cd X hH ls hl
  have X : CX g p s m _ meth cd c_Model_valueNow 2 (some .int) R_Model _ := X
  have hl : lv_has ls 2 [(0, .ref mo), (1, .int (nI j))] := hl
  have hS : va_S (AA (noA) H0) H0 H0 [] := va_S.rf
  have hlt0 := hM.lt
  have htq0 := hM.tq
  obtain ⟨⟨hf3, hf4, hf5, hf6, hf7⟩, ⟨g8, g11, g12, g13, g14, g141, g15, g23, g24⟩, gj⟩ := hf
  refine lv_aload_n X.x X.b d_Model_valueNow_0 rfl (lv_at hl 0 rfl) ?_
  refine m_get (v := .ref (mo + 22)) X ok_Model hM.1 27 (by decide) k_Model_74 rfl d_Model_valueNow_1 ?_
  refine lv_iload_n X.x X.b d_Model_valueNow_4 rfl (lv_at hl 1 rfl) ?_
  refine m_ild (v := (-1)) X hM.a27 j rfl (by omega) (by decide) (show s0 27 j = (-1) from (by rw [(gj j (by omega)).2])) d_Model_valueNow_5 ?_
  refine lv_iconst (v := -1) X.x X.b d_Model_valueNow_6 (by decide) ?_
  refine lv_icmp_eq (tgt := 22) X.x X.b d_Model_valueNow_7 (by decide) (fun c1 => ?_) (fun c1 => ?_)
  · skip
    refine lv_aload_n X.x X.b d_Model_valueNow_22 rfl (lv_at hl 0 rfl) ?_
    refine m_get (v := .ref (mo + 20)) X ok_Model hM.1 25 (by decide) k_Model_68 rfl d_Model_valueNow_23 ?_
    refine lv_iload_n X.x X.b d_Model_valueNow_26 rfl (lv_at hl 1 rfl) ?_
    refine m_ild (v := 0) X hM.a25 j rfl (by omega) (by decide) (show s0 25 j = 0 from (by rw [(gj j (by omega)).1])) d_Model_valueNow_27 ?_
    refine lv_iconst (v := 1) X.x X.b d_Model_valueNow_28 (by decide) ?_
    refine lv_icmp_ne (tgt := 41) X.x X.b d_Model_valueNow_29 (by decide) (fun c2 => ?_) (fun c2 => ?_)
    · skip
      refine lv_iconst (v := -1) X.x X.b d_Model_valueNow_41 (by decide) ?_
      exact m_iret X hS (Nat.zero_le _) (Nat.zero_le _) d_Model_valueNow_42 rfl rfl
    · exact absurd c2 (by decide)
  · exact absurd c1 (by decide)
set_option maxRecDepth 100000 in
set_option maxHeartbeats 4000000 in
theorem M_Model_value_y (l : Launch) (g : GG) {mo tq : Nat} {p0 : Nat → Int32} {s0 : Nat → Nat → Int32} {H0 : Heap} (hM : mAt g mo tq p0 s0 H0) (hf : frP p0 s0) (hn : noL s0) {j : Nat} (hj : j < 8) : MM l y_Model_value c_Model_value 2 (some .int) 2 0 0 g H0 [.ref mo, .int (nI j)] (fun q => mo ≤ q ∧ q < mo + 23) (some (.int (-1))) (fun H1 => ∃ p, mAt g mo tq p s0 H1 ∧ p 0 = 0) := by
  refine MM.of (by decide +kernel) (Nat.le_of_ble_eq_true rfl) ?_
  intro p e s m below meth cd X hH ls hl
  have X : CX g p s m _ meth cd c_Model_value 2 (some .int) R_Model _ := X
  have hl : lv_has ls 2 [(0, .ref mo), (1, .int (nI j))] := hl
  have hS : va_S (AA (fun q => mo ≤ q ∧ q < mo + 23) H0) H0 H0 [] := va_S.rf
  have hlt0 := hM.lt
  have htq0 := hM.tq
  obtain ⟨⟨hf3, hf4, hf5, hf6, hf7⟩, ⟨g8, g11, g12, g13, g14, g141, g15, g23, g24⟩, gj⟩ := hf
  refine lv_aload_n X.x X.b d_Model_value_0 rfl (lv_at hl 0 rfl) ?_
  refine lv_iconst (v := 0) X.x X.b d_Model_value_1 (by decide) ?_
  refine m_put X ok_Model hS (Or.inl ⟨by omega, by omega⟩) hM.1 0 (by decide) k_Model_80 rfl (ok_Model.2.2.1 _ (by decide)) rfl rfl (Nat.le_of_ble_eq_true rfl) d_Model_value_2 (fun H locs hp hcg hS => ?_)
  have hM := hM.f0 hp hcg
  obtain ⟨p_1, ep_1⟩ : ∃ z, z = upd p0 0 0 := ⟨_, rfl⟩
  rw [← ep_1] at hM
  refine lv_aload_n X.x X.b d_Model_value_5 rfl (lv_at hl 0 rfl) ?_
  refine m_get (v := .int 0) X ok_Model hM.1 3 (by decide) k_Model_126 (congrArg (fun z => some (Value.int z)) (show p_1 3 = 0 from (by rw [ep_1, upd_mi _ _ _ (show 3 ≠ 0 by decide), hf3]))) d_Model_value_6 ?_
  refine lv_if_ne (tgt := 30) X.x X.b d_Model_value_9 (by decide) (fun c1 => ?_) (fun c1 => ?_)
  · exact absurd c1 (by decide)
  · skip
    refine lv_iload_n X.x X.b d_Model_value_12 rfl (lv_at hl 1 rfl) ?_
    refine lv_iconst (v := 0) X.x X.b d_Model_value_13 (by decide) ?_
    refine lv_bipush (v := 7) X.x X.b d_Model_value_14 (by decide) ?_
    refine m_callSP X hS (MP_ans (M_Model_isIn l g (nI j) 0 7) (show b2i (0 ≤ (nI j) ∧ (nI j) ≤ 7) = 1 from b2i_t ⟨nI_pos' (by omega), (nI_leI (b := 7) (by omega) (by omega)).mpr (by omega)⟩)) s_Model_84 rfl rfl (Nat.le_of_ble_eq_true rfl) hl.1 d_Model_value_16 (by omega) (by decide) ⟨by omega, by omega⟩ (fun locs hS => ?_)
    refine lv_if_eq (tgt := 30) X.x X.b d_Model_value_19 (by decide) (fun c2 => ?_) (fun c2 => ?_)
    · exact absurd c2 (by decide)
    · skip
      refine lv_aload_n X.x X.b d_Model_value_22 rfl (lv_at hl 0 rfl) ?_
      refine lv_iload_n X.x X.b d_Model_value_23 rfl (lv_at hl 1 rfl) ?_
      refine m_callP X hS (show MP l y_Model_valueNow c_Model_valueNow 2 (some .int) 0 g _ [.ref mo, .int (nI j)] (some (.int (-1))) from M_Model_valueNow (j := j) l g hM (show frP p_1 s0 from ⟨⟨(by rw [ep_1, upd_mi _ _ _ (show 3 ≠ 0 by decide), hf3]), (by rw [ep_1, upd_mi _ _ _ (show 4 ≠ 0 by decide), hf4]), (by rw [ep_1, upd_mi _ _ _ (show 5 ≠ 0 by decide), hf5]), (by rw [ep_1, upd_mi _ _ _ (show 6 ≠ 0 by decide), hf6]), (by rw [ep_1, upd_mi _ _ _ (show 7 ≠ 0 by decide), hf7])⟩, ⟨g8, g11, g12, g13, g14, g141, g15, g23, g24⟩, gj⟩) hn (by omega)) v_Model_222 hM.1 rfl rfl rfl (Nat.le_of_ble_eq_true rfl) hl.1 d_Model_value_24 (by omega) (by decide) ⟨by omega, by omega⟩ (fun locs hS => ?_)
      refine lv_goto (tgt := 35) X.x X.b d_Model_value_27 (by decide) ?_
      exact m_iret X hS (by omega) (by omega) d_Model_value_35 rfl ⟨_, hM, (by rw [ep_1, upd_hit])⟩
set_option maxRecDepth 100000 in
set_option maxHeartbeats 4000000 in
theorem M_Model_value_n (l : Launch) (g : GG) {mo tq : Nat} {p0 : Nat → Int32} {s0 : Nat → Nat → Int32} {H0 : Heap} (hM : mAt g mo tq p0 s0 H0) (hf : frP p0 s0) (hn : noL s0) {x : Int32} (hx : ¬ (0 ≤ x ∧ x ≤ 7)) : MM l y_Model_value c_Model_value 2 (some .int) 2 0 0 g H0 [.ref mo, .int x] (fun q => mo ≤ q ∧ q < mo + 23) (some (.int 0)) (fun H1 => ∃ p, mAt g mo tq p s0 H1 ∧ p 0 = 1) := by
  refine MM.of (by decide +kernel) (Nat.le_of_ble_eq_true rfl) ?_
  intro p e s m below meth cd X hH ls hl
  have X : CX g p s m _ meth cd c_Model_value 2 (some .int) R_Model _ := X
  have hl : lv_has ls 2 [(0, .ref mo), (1, .int x)] := hl
  have hS : va_S (AA (fun q => mo ≤ q ∧ q < mo + 23) H0) H0 H0 [] := va_S.rf
  have hlt0 := hM.lt
  have htq0 := hM.tq
  obtain ⟨⟨hf3, hf4, hf5, hf6, hf7⟩, ⟨g8, g11, g12, g13, g14, g141, g15, g23, g24⟩, gj⟩ := hf
  refine lv_aload_n X.x X.b d_Model_value_0 rfl (lv_at hl 0 rfl) ?_
  refine lv_iconst (v := 0) X.x X.b d_Model_value_1 (by decide) ?_
  refine m_put X ok_Model hS (Or.inl ⟨by omega, by omega⟩) hM.1 0 (by decide) k_Model_80 rfl (ok_Model.2.2.1 _ (by decide)) rfl rfl (Nat.le_of_ble_eq_true rfl) d_Model_value_2 (fun H locs hp hcg hS => ?_)
  have hM := hM.f0 hp hcg
  obtain ⟨p_1, ep_1⟩ : ∃ z, z = upd p0 0 0 := ⟨_, rfl⟩
  rw [← ep_1] at hM
  refine lv_aload_n X.x X.b d_Model_value_5 rfl (lv_at hl 0 rfl) ?_
  refine m_get (v := .int 0) X ok_Model hM.1 3 (by decide) k_Model_126 (congrArg (fun z => some (Value.int z)) (show p_1 3 = 0 from (by rw [ep_1, upd_mi _ _ _ (show 3 ≠ 0 by decide), hf3]))) d_Model_value_6 ?_
  refine lv_if_ne (tgt := 30) X.x X.b d_Model_value_9 (by decide) (fun c1 => ?_) (fun c1 => ?_)
  · exact absurd c1 (by decide)
  · skip
    refine lv_iload_n X.x X.b d_Model_value_12 rfl (lv_at hl 1 rfl) ?_
    refine lv_iconst (v := 0) X.x X.b d_Model_value_13 (by decide) ?_
    refine lv_bipush (v := 7) X.x X.b d_Model_value_14 (by decide) ?_
    refine m_callSP X hS (MP_ans (M_Model_isIn l g x 0 7) (show b2i (0 ≤ x ∧ x ≤ 7) = 0 from b2i_f hx)) s_Model_84 rfl rfl (Nat.le_of_ble_eq_true rfl) hl.1 d_Model_value_16 (by omega) (by decide) ⟨by omega, by omega⟩ (fun locs hS => ?_)
    refine lv_if_eq (tgt := 30) X.x X.b d_Model_value_19 (by decide) (fun c2 => ?_) (fun c2 => ?_)
    · skip
      refine lv_aload_n X.x X.b d_Model_value_30 rfl (lv_at hl 0 rfl) ?_
      refine lv_iconst (v := 1) X.x X.b d_Model_value_31 (by decide) ?_
      have hR := M_Model_no l g hM 1
      refine m_callM X hS hR v_Model_100 hM.1 rfl rfl rfl (Nat.le_of_ble_eq_true rfl) hl.1 d_Model_value_32 (by omega) (by decide) ⟨by omega, by omega⟩ (fun q z => by have z : mo ≤ q ∧ q < mo + 23 := z; exact ⟨by omega, by omega⟩) (fun H locs hM hfr hS => ?_)
      obtain ⟨p_2, ep_2⟩ : ∃ z, z = upd p_1 0 1 := ⟨_, rfl⟩
      rw [← ep_2] at hM
      exact m_iret X hS (by omega) (by omega) d_Model_value_35 rfl ⟨_, hM, (by rw [ep_2, upd_hit])⟩
    · exact absurd c1 c2
set_option maxRecDepth 100000 in
set_option maxHeartbeats 4000000 in
theorem M_Model_sum (l : Launch) (g : GG) {mo tq : Nat} {p0 : Nat → Int32} {s0 : Nat → Nat → Int32} {H0 : Heap} (hM : mAt g mo tq p0 s0 H0) (hf : frP p0 s0) (hn : noL s0) (wt : Int32) : MP l y_Model_sum c_Model_sum 4 (some .int) 2 g H0 [.ref mo, .int wt] (some (.int 0)) := by
  refine MM.of (by decide +kernel) (Nat.le_of_ble_eq_true rfl) ?_
  intro p e s m below meth cd X hH ls hl
  have X : CX g p s m _ meth cd c_Model_sum 4 (some .int) R_Model _ := X
  have hl : lv_has ls 4 [(0, .ref mo), (1, .int wt)] := hl
  have hS : va_S (AA (noA) H0) H0 H0 [] := va_S.rf
  have hlt0 := hM.lt
  have htq0 := hM.tq
  obtain ⟨⟨hf3, hf4, hf5, hf6, hf7⟩, ⟨g8, g11, g12, g13, g14, g141, g15, g23, g24⟩, gj⟩ := hf
  refine lv_iconst (v := 0) X.x X.b d_Model_sum_0 (by decide) ?_
  refine lv_istore_n (lv' := [(2, .int 0), (0, .ref mo), (1, .int wt)]) X.x X.b d_Model_sum_1 rfl hl (by decide) rfl (fun ls hl => ?_)
  refine lv_iconst (v := 0) X.x X.b d_Model_sum_2 (by decide) ?_
  refine lv_istore_n (lv' := [(3, .int 0), (2, .int 0), (0, .ref mo), (1, .int wt)]) X.x X.b d_Model_sum_3 rfl hl (by decide) rfl (fun ls hl => ?_)
  refine lv_iload_n X.x X.b d_Model_sum_4 rfl (lv_at hl 0 rfl) ?_
  refine lv_aload_n X.x X.b d_Model_sum_5 rfl (lv_at hl 2 rfl) ?_
  refine m_get (v := .int 1) X ok_Model hM.1 5 (by decide) k_Model_132 (congrArg (fun z => some (Value.int z)) (show p0 5 = 1 from (by rw [hf5]))) d_Model_sum_6 ?_
  refine lv_icmp_ge (tgt := 211) X.x X.b d_Model_sum_9 (by decide) (fun c1 => ?_) (fun c1 => ?_)
  · exact absurd c1 (by decide)
  · skip
    have c1q := Int32.not_le.mp c1
    refine lv_iload_n X.x X.b d_Model_sum_12 rfl (lv_at hl 3 rfl) ?_
    by_cases k2 : wt = 4
    · skip
      refine lv_tableIn (off := 43) (tgt := 56) X.x X.b d_Model_sum_13 (by rw [k2]; decide) (by rw [k2]; decide) (by rw [k2]; decide) (by decide) ?_
      refine lv_iload_n X.x X.b d_Model_sum_56 rfl (lv_at hl 1 rfl) ?_
      refine lv_aload_n X.x X.b d_Model_sum_57 rfl (lv_at hl 2 rfl) ?_
      refine lv_iload_n X.x X.b d_Model_sum_58 rfl (lv_at hl 0 rfl) ?_
      have hR := M_Model_isBranch (k := 0) l g hM (by omega)
      rw [show b2i (s0 8 0 = 3 ∨ s0 8 0 = 4) = 0 from b2i_f (by rw [show s0 8 0 = 6 from (by rw [g8])]; first | decide | simp)] at hR
      refine m_callP X hS hR v_Model_177 hM.1 rfl rfl rfl (Nat.le_of_ble_eq_true rfl) hl.1 d_Model_sum_59 (by omega) (by decide) ⟨by omega, by omega⟩ (fun locs hS => ?_)
      refine lv_if_eq (tgt := 69) X.x X.b d_Model_sum_62 (by decide) (fun c3 => ?_) (fun c3 => ?_)
      · skip
        refine lv_iconst (v := 0) X.x X.b d_Model_sum_69 (by decide) ?_
        refine lv_iadd X.x X.b d_Model_sum_70 ?_
        rw [show (0 + 0 : Int32) = 0 from by decide]
        refine lv_istore_n (lv' := [(2, .int 0), (3, .int 0), (0, .ref mo), (1, .int wt)]) X.x X.b d_Model_sum_71 rfl hl (by decide) rfl (fun ls hl => ?_)
        refine lv_goto (tgt := 205) X.x X.b d_Model_sum_72 (by decide) ?_
        refine lv_iinc (v := 1) (lv' := [(3, .int 1), (2, .int 0), (0, .ref mo), (1, .int wt)]) X.x X.b d_Model_sum_205 hl (k := 1) rfl (by decide) (by decide) rfl (fun ls hl => ?_)
        refine lv_goto (tgt := 4) X.x X.b d_Model_sum_208 (by decide) ?_
        refine lv_iload_n X.x X.b d_Model_sum_4 rfl (lv_at hl 0 rfl) ?_
        refine lv_aload_n X.x X.b d_Model_sum_5 rfl (lv_at hl 2 rfl) ?_
        refine m_get (v := .int 1) X ok_Model hM.1 5 (by decide) k_Model_132 (congrArg (fun z => some (Value.int z)) (show p0 5 = 1 from (by rw [hf5]))) d_Model_sum_6 ?_
        refine lv_icmp_ge (tgt := 211) X.x X.b d_Model_sum_9 (by decide) (fun c4 => ?_) (fun c4 => ?_)
        · skip
          have c4q := Int32.not_lt.mpr c4
          refine lv_iload_n X.x X.b d_Model_sum_211 rfl (lv_at hl 1 rfl) ?_
          exact m_iret X hS (Nat.zero_le _) (Nat.zero_le _) d_Model_sum_212 rfl rfl
        · exact absurd c4 (by decide)
      · exact absurd c3 (by decide)
    by_cases k5 : wt = 5
    · skip
      refine lv_tableIn (off := 62) (tgt := 75) X.x X.b d_Model_sum_13 (by rw [k5]; decide) (by rw [k5]; decide) (by rw [k5]; decide) (by decide) ?_
      refine lv_iload_n X.x X.b d_Model_sum_75 rfl (lv_at hl 1 rfl) ?_
      refine lv_aload_n X.x X.b d_Model_sum_76 rfl (lv_at hl 2 rfl) ?_
      refine m_get (v := .ref (mo + 18)) X ok_Model hM.1 23 (by decide) k_Model_61 rfl d_Model_sum_77 ?_
      refine lv_iload_n X.x X.b d_Model_sum_80 rfl (lv_at hl 0 rfl) ?_
      refine m_zld (v := 0) X hM.a23 0 rfl (by omega) (by decide) (show s0 23 0 = 0 from (by rw [g23])) d_Model_sum_81 ?_
      refine lv_if_eq (tgt := 89) X.x X.b d_Model_sum_82 (by decide) (fun c6 => ?_) (fun c6 => ?_)
      · skip
        refine lv_iconst (v := 0) X.x X.b d_Model_sum_89 (by decide) ?_
        refine lv_iadd X.x X.b d_Model_sum_90 ?_
        rw [show (0 + 0 : Int32) = 0 from by decide]
        refine lv_istore_n (lv' := [(2, .int 0), (3, .int 0), (0, .ref mo), (1, .int wt)]) X.x X.b d_Model_sum_91 rfl hl (by decide) rfl (fun ls hl => ?_)
        refine lv_goto (tgt := 205) X.x X.b d_Model_sum_92 (by decide) ?_
        refine lv_iinc (v := 1) (lv' := [(3, .int 1), (2, .int 0), (0, .ref mo), (1, .int wt)]) X.x X.b d_Model_sum_205 hl (k := 1) rfl (by decide) (by decide) rfl (fun ls hl => ?_)
        refine lv_goto (tgt := 4) X.x X.b d_Model_sum_208 (by decide) ?_
        refine lv_iload_n X.x X.b d_Model_sum_4 rfl (lv_at hl 0 rfl) ?_
        refine lv_aload_n X.x X.b d_Model_sum_5 rfl (lv_at hl 2 rfl) ?_
        refine m_get (v := .int 1) X ok_Model hM.1 5 (by decide) k_Model_132 (congrArg (fun z => some (Value.int z)) (show p0 5 = 1 from (by rw [hf5]))) d_Model_sum_6 ?_
        refine lv_icmp_ge (tgt := 211) X.x X.b d_Model_sum_9 (by decide) (fun c7 => ?_) (fun c7 => ?_)
        · skip
          have c7q := Int32.not_lt.mpr c7
          refine lv_iload_n X.x X.b d_Model_sum_211 rfl (lv_at hl 1 rfl) ?_
          exact m_iret X hS (Nat.zero_le _) (Nat.zero_le _) d_Model_sum_212 rfl rfl
        · exact absurd c7 (by decide)
      · exact absurd c6 (by decide)
    by_cases k8 : wt = 6
    · skip
      refine lv_tableIn (off := 156) (tgt := 169) X.x X.b d_Model_sum_13 (by rw [k8]; decide) (by rw [k8]; decide) (by rw [k8]; decide) (by decide) ?_
      refine lv_iload_n X.x X.b d_Model_sum_169 rfl (lv_at hl 1 rfl) ?_
      refine lv_aload_n X.x X.b d_Model_sum_170 rfl (lv_at hl 2 rfl) ?_
      refine m_get (v := .ref (mo + 19)) X ok_Model hM.1 24 (by decide) k_Model_65 rfl d_Model_sum_171 ?_
      refine lv_iload_n X.x X.b d_Model_sum_174 rfl (lv_at hl 0 rfl) ?_
      refine m_zld (v := 1) X hM.a24 0 rfl (by omega) (by decide) (show s0 24 0 = 1 from (by rw [g24])) d_Model_sum_175 ?_
      refine lv_if_ne (tgt := 202) X.x X.b d_Model_sum_176 (by decide) (fun c9 => ?_) (fun c9 => ?_)
      · skip
        refine lv_iconst (v := 0) X.x X.b d_Model_sum_202 (by decide) ?_
        refine lv_iadd X.x X.b d_Model_sum_203 ?_
        rw [show (0 + 0 : Int32) = 0 from by decide]
        refine lv_istore_n (lv' := [(2, .int 0), (3, .int 0), (0, .ref mo), (1, .int wt)]) X.x X.b d_Model_sum_204 rfl hl (by decide) rfl (fun ls hl => ?_)
        refine lv_iinc (v := 1) (lv' := [(3, .int 1), (2, .int 0), (0, .ref mo), (1, .int wt)]) X.x X.b d_Model_sum_205 hl (k := 1) rfl (by decide) (by decide) rfl (fun ls hl => ?_)
        refine lv_goto (tgt := 4) X.x X.b d_Model_sum_208 (by decide) ?_
        refine lv_iload_n X.x X.b d_Model_sum_4 rfl (lv_at hl 0 rfl) ?_
        refine lv_aload_n X.x X.b d_Model_sum_5 rfl (lv_at hl 2 rfl) ?_
        refine m_get (v := .int 1) X ok_Model hM.1 5 (by decide) k_Model_132 (congrArg (fun z => some (Value.int z)) (show p0 5 = 1 from (by rw [hf5]))) d_Model_sum_6 ?_
        refine lv_icmp_ge (tgt := 211) X.x X.b d_Model_sum_9 (by decide) (fun c10 => ?_) (fun c10 => ?_)
        · skip
          have c10q := Int32.not_lt.mpr c10
          refine lv_iload_n X.x X.b d_Model_sum_211 rfl (lv_at hl 1 rfl) ?_
          exact m_iret X hS (Nat.zero_le _) (Nat.zero_le _) d_Model_sum_212 rfl rfl
        · exact absurd c10 (by decide)
      · exact absurd c9 (by decide)
    by_cases k11 : wt = 7
    · skip
      refine lv_tableIn (off := 82) (tgt := 95) X.x X.b d_Model_sum_13 (by rw [k11]; decide) (by rw [k11]; decide) (by rw [k11]; decide) (by decide) ?_
      refine lv_iload_n X.x X.b d_Model_sum_95 rfl (lv_at hl 1 rfl) ?_
      refine lv_aload_n X.x X.b d_Model_sum_96 rfl (lv_at hl 2 rfl) ?_
      refine m_get (v := .ref (mo + 3)) X ok_Model hM.1 8 (by decide) k_Model_16 rfl d_Model_sum_97 ?_
      refine lv_iload_n X.x X.b d_Model_sum_100 rfl (lv_at hl 0 rfl) ?_
      refine m_ild (v := 6) X hM.a8 0 rfl (by omega) (by decide) (show s0 8 0 = 6 from (by rw [g8])) d_Model_sum_101 ?_
      refine lv_iconst (v := 5) X.x X.b d_Model_sum_102 (by decide) ?_
      refine lv_icmp_ne (tgt := 110) X.x X.b d_Model_sum_103 (by decide) (fun c12 => ?_) (fun c12 => ?_)
      · skip
        refine lv_iconst (v := 0) X.x X.b d_Model_sum_110 (by decide) ?_
        refine lv_iadd X.x X.b d_Model_sum_111 ?_
        rw [show (0 + 0 : Int32) = 0 from by decide]
        refine lv_istore_n (lv' := [(2, .int 0), (3, .int 0), (0, .ref mo), (1, .int wt)]) X.x X.b d_Model_sum_112 rfl hl (by decide) rfl (fun ls hl => ?_)
        refine lv_goto (tgt := 205) X.x X.b d_Model_sum_113 (by decide) ?_
        refine lv_iinc (v := 1) (lv' := [(3, .int 1), (2, .int 0), (0, .ref mo), (1, .int wt)]) X.x X.b d_Model_sum_205 hl (k := 1) rfl (by decide) (by decide) rfl (fun ls hl => ?_)
        refine lv_goto (tgt := 4) X.x X.b d_Model_sum_208 (by decide) ?_
        refine lv_iload_n X.x X.b d_Model_sum_4 rfl (lv_at hl 0 rfl) ?_
        refine lv_aload_n X.x X.b d_Model_sum_5 rfl (lv_at hl 2 rfl) ?_
        refine m_get (v := .int 1) X ok_Model hM.1 5 (by decide) k_Model_132 (congrArg (fun z => some (Value.int z)) (show p0 5 = 1 from (by rw [hf5]))) d_Model_sum_6 ?_
        refine lv_icmp_ge (tgt := 211) X.x X.b d_Model_sum_9 (by decide) (fun c13 => ?_) (fun c13 => ?_)
        · skip
          have c13q := Int32.not_lt.mpr c13
          refine lv_iload_n X.x X.b d_Model_sum_211 rfl (lv_at hl 1 rfl) ?_
          exact m_iret X hS (Nat.zero_le _) (Nat.zero_le _) d_Model_sum_212 rfl rfl
        · exact absurd c13 (by decide)
      · exact absurd c12 (by decide)
    by_cases k14 : wt = 8
    · skip
      refine lv_tableIn (off := 103) (tgt := 116) X.x X.b d_Model_sum_13 (by rw [k14]; decide) (by rw [k14]; decide) (by rw [k14]; decide) (by decide) ?_
      refine lv_iload_n X.x X.b d_Model_sum_116 rfl (lv_at hl 1 rfl) ?_
      refine lv_aload_n X.x X.b d_Model_sum_117 rfl (lv_at hl 2 rfl) ?_
      refine m_get (v := .ref (mo + 3)) X ok_Model hM.1 8 (by decide) k_Model_16 rfl d_Model_sum_118 ?_
      refine lv_iload_n X.x X.b d_Model_sum_121 rfl (lv_at hl 0 rfl) ?_
      refine m_ild (v := 6) X hM.a8 0 rfl (by omega) (by decide) (show s0 8 0 = 6 from (by rw [g8])) d_Model_sum_122 ?_
      refine lv_iload_n X.x X.b d_Model_sum_123 rfl (lv_at hl 3 rfl) ?_
      refine lv_iconst (v := 2) X.x X.b d_Model_sum_124 (by decide) ?_
      refine lv_isub X.x X.b d_Model_sum_125 ?_
      refine lv_icmp_ne (tgt := 138) X.x X.b d_Model_sum_126 (by decide) (fun c15 => ?_) (fun c15 => ?_)
      · skip
        refine lv_iconst (v := 0) X.x X.b d_Model_sum_138 (by decide) ?_
        refine lv_iadd X.x X.b d_Model_sum_139 ?_
        rw [show (0 + 0 : Int32) = 0 from by decide]
        refine lv_istore_n (lv' := [(2, .int 0), (3, .int 0), (0, .ref mo), (1, .int wt)]) X.x X.b d_Model_sum_140 rfl hl (by decide) rfl (fun ls hl => ?_)
        refine lv_goto (tgt := 205) X.x X.b d_Model_sum_141 (by decide) ?_
        refine lv_iinc (v := 1) (lv' := [(3, .int 1), (2, .int 0), (0, .ref mo), (1, .int wt)]) X.x X.b d_Model_sum_205 hl (k := 1) rfl (by decide) (by decide) rfl (fun ls hl => ?_)
        refine lv_goto (tgt := 4) X.x X.b d_Model_sum_208 (by decide) ?_
        refine lv_iload_n X.x X.b d_Model_sum_4 rfl (lv_at hl 0 rfl) ?_
        refine lv_aload_n X.x X.b d_Model_sum_5 rfl (lv_at hl 2 rfl) ?_
        refine m_get (v := .int 1) X ok_Model hM.1 5 (by decide) k_Model_132 (congrArg (fun z => some (Value.int z)) (show p0 5 = 1 from (by rw [hf5]))) d_Model_sum_6 ?_
        refine lv_icmp_ge (tgt := 211) X.x X.b d_Model_sum_9 (by decide) (fun c16 => ?_) (fun c16 => ?_)
        · skip
          have c16q := Int32.not_lt.mpr c16
          refine lv_iload_n X.x X.b d_Model_sum_211 rfl (lv_at hl 1 rfl) ?_
          exact m_iret X hS (Nat.zero_le _) (Nat.zero_le _) d_Model_sum_212 rfl rfl
        · exact absurd c16 (by decide)
      · skip
        refine lv_aload_n X.x X.b d_Model_sum_129 rfl (lv_at hl 2 rfl) ?_
        refine m_get (v := .ref (mo + 10)) X ok_Model hM.1 15 (by decide) k_Model_37 rfl d_Model_sum_130 ?_
        refine lv_iload_n X.x X.b d_Model_sum_133 rfl (lv_at hl 0 rfl) ?_
        refine m_ild (v := 0) X hM.a15 0 rfl (by omega) (by decide) (show s0 15 0 = 0 from (by rw [g15])) d_Model_sum_134 ?_
        refine lv_goto (tgt := 139) X.x X.b d_Model_sum_135 (by decide) ?_
        refine lv_iadd X.x X.b d_Model_sum_139 ?_
        rw [show (0 + 0 : Int32) = 0 from by decide]
        refine lv_istore_n (lv' := [(2, .int 0), (3, .int 0), (0, .ref mo), (1, .int wt)]) X.x X.b d_Model_sum_140 rfl hl (by decide) rfl (fun ls hl => ?_)
        refine lv_goto (tgt := 205) X.x X.b d_Model_sum_141 (by decide) ?_
        refine lv_iinc (v := 1) (lv' := [(3, .int 1), (2, .int 0), (0, .ref mo), (1, .int wt)]) X.x X.b d_Model_sum_205 hl (k := 1) rfl (by decide) (by decide) rfl (fun ls hl => ?_)
        refine lv_goto (tgt := 4) X.x X.b d_Model_sum_208 (by decide) ?_
        refine lv_iload_n X.x X.b d_Model_sum_4 rfl (lv_at hl 0 rfl) ?_
        refine lv_aload_n X.x X.b d_Model_sum_5 rfl (lv_at hl 2 rfl) ?_
        refine m_get (v := .int 1) X ok_Model hM.1 5 (by decide) k_Model_132 (congrArg (fun z => some (Value.int z)) (show p0 5 = 1 from (by rw [hf5]))) d_Model_sum_6 ?_
        refine lv_icmp_ge (tgt := 211) X.x X.b d_Model_sum_9 (by decide) (fun c17 => ?_) (fun c17 => ?_)
        · skip
          have c17q := Int32.not_lt.mpr c17
          refine lv_iload_n X.x X.b d_Model_sum_211 rfl (lv_at hl 1 rfl) ?_
          exact m_iret X hS (Nat.zero_le _) (Nat.zero_le _) d_Model_sum_212 rfl rfl
        · exact absurd c17 (by decide)
    by_cases k18 : wt = 9
    · skip
      refine lv_tableIn (off := 103) (tgt := 116) X.x X.b d_Model_sum_13 (by rw [k18]; decide) (by rw [k18]; decide) (by rw [k18]; decide) (by decide) ?_
      refine lv_iload_n X.x X.b d_Model_sum_116 rfl (lv_at hl 1 rfl) ?_
      refine lv_aload_n X.x X.b d_Model_sum_117 rfl (lv_at hl 2 rfl) ?_
      refine m_get (v := .ref (mo + 3)) X ok_Model hM.1 8 (by decide) k_Model_16 rfl d_Model_sum_118 ?_
      refine lv_iload_n X.x X.b d_Model_sum_121 rfl (lv_at hl 0 rfl) ?_
      refine m_ild (v := 6) X hM.a8 0 rfl (by omega) (by decide) (show s0 8 0 = 6 from (by rw [g8])) d_Model_sum_122 ?_
      refine lv_iload_n X.x X.b d_Model_sum_123 rfl (lv_at hl 3 rfl) ?_
      refine lv_iconst (v := 2) X.x X.b d_Model_sum_124 (by decide) ?_
      refine lv_isub X.x X.b d_Model_sum_125 ?_
      refine lv_icmp_ne (tgt := 138) X.x X.b d_Model_sum_126 (by decide) (fun c19 => ?_) (fun c19 => ?_)
      · skip
        refine lv_iconst (v := 0) X.x X.b d_Model_sum_138 (by decide) ?_
        refine lv_iadd X.x X.b d_Model_sum_139 ?_
        rw [show (0 + 0 : Int32) = 0 from by decide]
        refine lv_istore_n (lv' := [(2, .int 0), (3, .int 0), (0, .ref mo), (1, .int wt)]) X.x X.b d_Model_sum_140 rfl hl (by decide) rfl (fun ls hl => ?_)
        refine lv_goto (tgt := 205) X.x X.b d_Model_sum_141 (by decide) ?_
        refine lv_iinc (v := 1) (lv' := [(3, .int 1), (2, .int 0), (0, .ref mo), (1, .int wt)]) X.x X.b d_Model_sum_205 hl (k := 1) rfl (by decide) (by decide) rfl (fun ls hl => ?_)
        refine lv_goto (tgt := 4) X.x X.b d_Model_sum_208 (by decide) ?_
        refine lv_iload_n X.x X.b d_Model_sum_4 rfl (lv_at hl 0 rfl) ?_
        refine lv_aload_n X.x X.b d_Model_sum_5 rfl (lv_at hl 2 rfl) ?_
        refine m_get (v := .int 1) X ok_Model hM.1 5 (by decide) k_Model_132 (congrArg (fun z => some (Value.int z)) (show p0 5 = 1 from (by rw [hf5]))) d_Model_sum_6 ?_
        refine lv_icmp_ge (tgt := 211) X.x X.b d_Model_sum_9 (by decide) (fun c20 => ?_) (fun c20 => ?_)
        · skip
          have c20q := Int32.not_lt.mpr c20
          refine lv_iload_n X.x X.b d_Model_sum_211 rfl (lv_at hl 1 rfl) ?_
          exact m_iret X hS (Nat.zero_le _) (Nat.zero_le _) d_Model_sum_212 rfl rfl
        · exact absurd c20 (by decide)
      · skip
        refine lv_aload_n X.x X.b d_Model_sum_129 rfl (lv_at hl 2 rfl) ?_
        refine m_get (v := .ref (mo + 10)) X ok_Model hM.1 15 (by decide) k_Model_37 rfl d_Model_sum_130 ?_
        refine lv_iload_n X.x X.b d_Model_sum_133 rfl (lv_at hl 0 rfl) ?_
        refine m_ild (v := 0) X hM.a15 0 rfl (by omega) (by decide) (show s0 15 0 = 0 from (by rw [g15])) d_Model_sum_134 ?_
        refine lv_goto (tgt := 139) X.x X.b d_Model_sum_135 (by decide) ?_
        refine lv_iadd X.x X.b d_Model_sum_139 ?_
        rw [show (0 + 0 : Int32) = 0 from by decide]
        refine lv_istore_n (lv' := [(2, .int 0), (3, .int 0), (0, .ref mo), (1, .int wt)]) X.x X.b d_Model_sum_140 rfl hl (by decide) rfl (fun ls hl => ?_)
        refine lv_goto (tgt := 205) X.x X.b d_Model_sum_141 (by decide) ?_
        refine lv_iinc (v := 1) (lv' := [(3, .int 1), (2, .int 0), (0, .ref mo), (1, .int wt)]) X.x X.b d_Model_sum_205 hl (k := 1) rfl (by decide) (by decide) rfl (fun ls hl => ?_)
        refine lv_goto (tgt := 4) X.x X.b d_Model_sum_208 (by decide) ?_
        refine lv_iload_n X.x X.b d_Model_sum_4 rfl (lv_at hl 0 rfl) ?_
        refine lv_aload_n X.x X.b d_Model_sum_5 rfl (lv_at hl 2 rfl) ?_
        refine m_get (v := .int 1) X ok_Model hM.1 5 (by decide) k_Model_132 (congrArg (fun z => some (Value.int z)) (show p0 5 = 1 from (by rw [hf5]))) d_Model_sum_6 ?_
        refine lv_icmp_ge (tgt := 211) X.x X.b d_Model_sum_9 (by decide) (fun c21 => ?_) (fun c21 => ?_)
        · skip
          have c21q := Int32.not_lt.mpr c21
          refine lv_iload_n X.x X.b d_Model_sum_211 rfl (lv_at hl 1 rfl) ?_
          exact m_iret X hS (Nat.zero_le _) (Nat.zero_le _) d_Model_sum_212 rfl rfl
        · exact absurd c21 (by decide)
    by_cases k22 : wt = 10
    · skip
      refine lv_tableIn (off := 131) (tgt := 144) X.x X.b d_Model_sum_13 (by rw [k22]; decide) (by rw [k22]; decide) (by rw [k22]; decide) (by decide) ?_
      refine lv_iload_n X.x X.b d_Model_sum_144 rfl (lv_at hl 1 rfl) ?_
      refine lv_aload_n X.x X.b d_Model_sum_145 rfl (lv_at hl 2 rfl) ?_
      refine m_get (v := .ref (mo + 19)) X ok_Model hM.1 24 (by decide) k_Model_65 rfl d_Model_sum_146 ?_
      refine lv_iload_n X.x X.b d_Model_sum_149 rfl (lv_at hl 0 rfl) ?_
      refine m_zld (v := 1) X hM.a24 0 rfl (by omega) (by decide) (show s0 24 0 = 1 from (by rw [g24])) d_Model_sum_150 ?_
      refine lv_if_eq (tgt := 163) X.x X.b d_Model_sum_151 (by decide) (fun c23 => ?_) (fun c23 => ?_)
      · exact absurd c23 (by decide)
      · skip
        refine lv_aload_n X.x X.b d_Model_sum_154 rfl (lv_at hl 2 rfl) ?_
        refine m_get (v := .ref (mo + 10)) X ok_Model hM.1 15 (by decide) k_Model_37 rfl d_Model_sum_155 ?_
        refine lv_iload_n X.x X.b d_Model_sum_158 rfl (lv_at hl 0 rfl) ?_
        refine m_ild (v := 0) X hM.a15 0 rfl (by omega) (by decide) (show s0 15 0 = 0 from (by rw [g15])) d_Model_sum_159 ?_
        refine lv_goto (tgt := 164) X.x X.b d_Model_sum_160 (by decide) ?_
        refine lv_iadd X.x X.b d_Model_sum_164 ?_
        rw [show (0 + 0 : Int32) = 0 from by decide]
        refine lv_istore_n (lv' := [(2, .int 0), (3, .int 0), (0, .ref mo), (1, .int wt)]) X.x X.b d_Model_sum_165 rfl hl (by decide) rfl (fun ls hl => ?_)
        refine lv_goto (tgt := 205) X.x X.b d_Model_sum_166 (by decide) ?_
        refine lv_iinc (v := 1) (lv' := [(3, .int 1), (2, .int 0), (0, .ref mo), (1, .int wt)]) X.x X.b d_Model_sum_205 hl (k := 1) rfl (by decide) (by decide) rfl (fun ls hl => ?_)
        refine lv_goto (tgt := 4) X.x X.b d_Model_sum_208 (by decide) ?_
        refine lv_iload_n X.x X.b d_Model_sum_4 rfl (lv_at hl 0 rfl) ?_
        refine lv_aload_n X.x X.b d_Model_sum_5 rfl (lv_at hl 2 rfl) ?_
        refine m_get (v := .int 1) X ok_Model hM.1 5 (by decide) k_Model_132 (congrArg (fun z => some (Value.int z)) (show p0 5 = 1 from (by rw [hf5]))) d_Model_sum_6 ?_
        refine lv_icmp_ge (tgt := 211) X.x X.b d_Model_sum_9 (by decide) (fun c24 => ?_) (fun c24 => ?_)
        · skip
          have c24q := Int32.not_lt.mpr c24
          refine lv_iload_n X.x X.b d_Model_sum_211 rfl (lv_at hl 1 rfl) ?_
          exact m_iret X hS (Nat.zero_le _) (Nat.zero_le _) d_Model_sum_212 rfl rfl
        · exact absurd c24 (by decide)
    refine lv_tableOut (tgt := 169) X.x X.b d_Model_sum_13 (by have := ne_toInt (k := 4) 4 (by decide) k2; have := ne_toInt (k := 5) 5 (by decide) k5; have := ne_toInt (k := 6) 6 (by decide) k8; have := ne_toInt (k := 7) 7 (by decide) k11; have := ne_toInt (k := 8) 8 (by decide) k14; have := ne_toInt (k := 9) 9 (by decide) k18; have := ne_toInt (k := 10) 10 (by decide) k22; omega) (by decide) ?_
    refine lv_iload_n X.x X.b d_Model_sum_169 rfl (lv_at hl 1 rfl) ?_
    refine lv_aload_n X.x X.b d_Model_sum_170 rfl (lv_at hl 2 rfl) ?_
    refine m_get (v := .ref (mo + 19)) X ok_Model hM.1 24 (by decide) k_Model_65 rfl d_Model_sum_171 ?_
    refine lv_iload_n X.x X.b d_Model_sum_174 rfl (lv_at hl 0 rfl) ?_
    refine m_zld (v := 1) X hM.a24 0 rfl (by omega) (by decide) (show s0 24 0 = 1 from (by rw [g24])) d_Model_sum_175 ?_
    refine lv_if_ne (tgt := 202) X.x X.b d_Model_sum_176 (by decide) (fun c25 => ?_) (fun c25 => ?_)
    · skip
      refine lv_iconst (v := 0) X.x X.b d_Model_sum_202 (by decide) ?_
      refine lv_iadd X.x X.b d_Model_sum_203 ?_
      rw [show (0 + 0 : Int32) = 0 from by decide]
      refine lv_istore_n (lv' := [(2, .int 0), (3, .int 0), (0, .ref mo), (1, .int wt)]) X.x X.b d_Model_sum_204 rfl hl (by decide) rfl (fun ls hl => ?_)
      refine lv_iinc (v := 1) (lv' := [(3, .int 1), (2, .int 0), (0, .ref mo), (1, .int wt)]) X.x X.b d_Model_sum_205 hl (k := 1) rfl (by decide) (by decide) rfl (fun ls hl => ?_)
      refine lv_goto (tgt := 4) X.x X.b d_Model_sum_208 (by decide) ?_
      refine lv_iload_n X.x X.b d_Model_sum_4 rfl (lv_at hl 0 rfl) ?_
      refine lv_aload_n X.x X.b d_Model_sum_5 rfl (lv_at hl 2 rfl) ?_
      refine m_get (v := .int 1) X ok_Model hM.1 5 (by decide) k_Model_132 (congrArg (fun z => some (Value.int z)) (show p0 5 = 1 from (by rw [hf5]))) d_Model_sum_6 ?_
      refine lv_icmp_ge (tgt := 211) X.x X.b d_Model_sum_9 (by decide) (fun c26 => ?_) (fun c26 => ?_)
      · skip
        have c26q := Int32.not_lt.mpr c26
        refine lv_iload_n X.x X.b d_Model_sum_211 rfl (lv_at hl 1 rfl) ?_
        exact m_iret X hS (Nat.zero_le _) (Nat.zero_le _) d_Model_sum_212 rfl rfl
      · exact absurd c26 (by decide)
    · exact absurd c25 (by decide)
set_option maxRecDepth 100000 in
set_option maxHeartbeats 4000000 in
theorem M_Model_manyNow (l : Launch) (g : GG) {mo tq : Nat} {p0 : Nat → Int32} {s0 : Nat → Nat → Int32} {H0 : Heap} (hM : mAt g mo tq p0 s0 H0) (hf : frP p0 s0) (hn : noL s0) (wt : Int32) : MP l y_Model_manyNow c_Model_manyNow 2 (some .int) 3 g H0 [.ref mo, .int wt] (some (.int (mnM wt))) := by
  refine MM.of (by decide +kernel) (Nat.le_of_ble_eq_true rfl) ?_
  intro p e s m below meth cd X hH ls hl
  have X : CX g p s m _ meth cd c_Model_manyNow 2 (some .int) R_Model _ := X
  have hl : lv_has ls 2 [(0, .ref mo), (1, .int wt)] := hl
  have hS : va_S (AA (noA) H0) H0 H0 [] := va_S.rf
  have hlt0 := hM.lt
  have htq0 := hM.tq
  obtain ⟨⟨hf3, hf4, hf5, hf6, hf7⟩, ⟨g8, g11, g12, g13, g14, g141, g15, g23, g24⟩, gj⟩ := hf
  refine lv_iload_n X.x X.b d_Model_manyNow_0 rfl (lv_at hl 1 rfl) ?_
  refine lv_if_ne (tgt := 11) X.x X.b d_Model_manyNow_1 (by decide) (fun c1 => ?_) (fun c1 => ?_)
  · skip
    refine lv_iload_n X.x X.b d_Model_manyNow_11 rfl (lv_at hl 1 rfl) ?_
    refine lv_iconst (v := 1) X.x X.b d_Model_manyNow_12 (by decide) ?_
    refine lv_icmp_ne (tgt := 51) X.x X.b d_Model_manyNow_13 (by decide) (fun c2 => ?_) (fun c2 => ?_)
    · skip
      refine lv_aload_n X.x X.b d_Model_manyNow_51 rfl (lv_at hl 0 rfl) ?_
      refine m_get (v := .int 0) X ok_Model hM.1 3 (by decide) k_Model_126 (congrArg (fun z => some (Value.int z)) (show p0 3 = 0 from (by rw [hf3]))) d_Model_manyNow_52 ?_
      refine lv_if_le (tgt := 60) X.x X.b d_Model_manyNow_55 (by decide) (fun c3 => ?_) (fun c3 => ?_)
      · skip
        have c3q := Int32.not_lt.mpr c3
        refine lv_iload_n X.x X.b d_Model_manyNow_60 rfl (lv_at hl 1 rfl) ?_
        refine lv_iconst (v := 2) X.x X.b d_Model_manyNow_61 (by decide) ?_
        refine lv_icmp_ne (tgt := 72) X.x X.b d_Model_manyNow_62 (by decide) (fun c4 => ?_) (fun c4 => ?_)
        · skip
          refine lv_iload_n X.x X.b d_Model_manyNow_72 rfl (lv_at hl 1 rfl) ?_
          refine lv_iconst (v := 3) X.x X.b d_Model_manyNow_73 (by decide) ?_
          refine lv_icmp_ne (tgt := 84) X.x X.b d_Model_manyNow_74 (by decide) (fun c5 => ?_) (fun c5 => ?_)
          · skip
            refine lv_iload_n X.x X.b d_Model_manyNow_84 rfl (lv_at hl 1 rfl) ?_
            refine lv_bipush (v := 6) X.x X.b d_Model_manyNow_85 (by decide) ?_
            refine lv_icmp_ne (tgt := 97) X.x X.b d_Model_manyNow_87 (by decide) (fun c6 => ?_) (fun c6 => ?_)
            · skip
              refine lv_aload_n X.x X.b d_Model_manyNow_97 rfl (lv_at hl 0 rfl) ?_
              refine lv_iload_n X.x X.b d_Model_manyNow_98 rfl (lv_at hl 1 rfl) ?_
              refine m_callP X hS (M_Model_sum l g hM (show frP p0 s0 from ⟨⟨(by rw [hf3]), (by rw [hf4]), (by rw [hf5]), (by rw [hf6]), (by rw [hf7])⟩, ⟨g8, g11, g12, g13, g14, g141, g15, g23, g24⟩, gj⟩) hn wt) v_Model_225 hM.1 rfl rfl rfl (Nat.le_of_ble_eq_true rfl) hl.1 d_Model_manyNow_99 (by omega) (by decide) ⟨by omega, by omega⟩ (fun locs hS => ?_)
              exact m_iret X hS (by omega) (by omega) d_Model_manyNow_102 (congrArg (fun z => some (Value.int z)) (by simp [mnM, c1, c2, c3, c3q, c4, c5, c6])) rfl
            · skip
              refine lv_aload_n X.x X.b d_Model_manyNow_90 rfl (lv_at hl 0 rfl) ?_
              refine m_get (v := .int 1) X ok_Model hM.1 7 (by decide) k_Model_171 (congrArg (fun z => some (Value.int z)) (show p0 7 = 1 from (by rw [hf7]))) d_Model_manyNow_91 ?_
              refine lv_goto (tgt := 102) X.x X.b d_Model_manyNow_94 (by decide) ?_
              exact m_iret X hS (by omega) (by omega) d_Model_manyNow_102 (congrArg (fun z => some (Value.int z)) (by simp [mnM, c1, c2, c3, c3q, c4, c5, c6])) rfl
          · skip
            refine lv_aload_n X.x X.b d_Model_manyNow_77 rfl (lv_at hl 0 rfl) ?_
            refine m_get (v := .int 0) X ok_Model hM.1 6 (by decide) k_Model_165 (congrArg (fun z => some (Value.int z)) (show p0 6 = 0 from (by rw [hf6]))) d_Model_manyNow_78 ?_
            refine lv_goto (tgt := 102) X.x X.b d_Model_manyNow_81 (by decide) ?_
            exact m_iret X hS (by omega) (by omega) d_Model_manyNow_102 (congrArg (fun z => some (Value.int z)) (by simp [mnM, c1, c2, c3, c3q, c4, c5])) rfl
        · skip
          refine lv_aload_n X.x X.b d_Model_manyNow_65 rfl (lv_at hl 0 rfl) ?_
          refine m_get (v := .int 1) X ok_Model hM.1 5 (by decide) k_Model_132 (congrArg (fun z => some (Value.int z)) (show p0 5 = 1 from (by rw [hf5]))) d_Model_manyNow_66 ?_
          refine lv_goto (tgt := 102) X.x X.b d_Model_manyNow_69 (by decide) ?_
          exact m_iret X hS (by omega) (by omega) d_Model_manyNow_102 (congrArg (fun z => some (Value.int z)) (by simp [mnM, c1, c2, c3, c3q, c4])) rfl
      · exact absurd c3 (by decide)
    · skip
      refine lv_aload_n X.x X.b d_Model_manyNow_16 rfl (lv_at hl 0 rfl) ?_
      refine m_get (v := .ref (mo + 2)) X ok_Model hM.1 2 (by decide) k_Model_13 rfl d_Model_manyNow_17 ?_
      refine lv_iconst (v := 0) X.x X.b d_Model_manyNow_20 (by decide) ?_
      refine m_ild (v := 0) X hM.a2 0 rfl (by omega) (by decide) (show s0 2 0 = 0 from (by rw [hn 0 (by omega)])) d_Model_manyNow_21 ?_
      refine lv_aload_n X.x X.b d_Model_manyNow_22 rfl (lv_at hl 0 rfl) ?_
      refine m_get (v := .ref (mo + 2)) X ok_Model hM.1 2 (by decide) k_Model_13 rfl d_Model_manyNow_23 ?_
      refine lv_iconst (v := 1) X.x X.b d_Model_manyNow_26 (by decide) ?_
      refine m_ild (v := 0) X hM.a2 1 rfl (by omega) (by decide) (show s0 2 1 = 0 from (by rw [hn 1 (by omega)])) d_Model_manyNow_27 ?_
      refine lv_iadd X.x X.b d_Model_manyNow_28 ?_
      rw [show (0 + 0 : Int32) = 0 from by decide]
      refine lv_aload_n X.x X.b d_Model_manyNow_29 rfl (lv_at hl 0 rfl) ?_
      refine m_get (v := .ref (mo + 2)) X ok_Model hM.1 2 (by decide) k_Model_13 rfl d_Model_manyNow_30 ?_
      refine lv_iconst (v := 2) X.x X.b d_Model_manyNow_33 (by decide) ?_
      refine m_ild (v := 0) X hM.a2 2 rfl (by omega) (by decide) (show s0 2 2 = 0 from (by rw [hn 2 (by omega)])) d_Model_manyNow_34 ?_
      refine lv_iadd X.x X.b d_Model_manyNow_35 ?_
      rw [show (0 + 0 : Int32) = 0 from by decide]
      refine lv_aload_n X.x X.b d_Model_manyNow_36 rfl (lv_at hl 0 rfl) ?_
      refine m_get (v := .ref (mo + 2)) X ok_Model hM.1 2 (by decide) k_Model_13 rfl d_Model_manyNow_37 ?_
      refine lv_iconst (v := 3) X.x X.b d_Model_manyNow_40 (by decide) ?_
      refine m_ild (v := 0) X hM.a2 3 rfl (by omega) (by decide) (show s0 2 3 = 0 from (by rw [hn 3 (by omega)])) d_Model_manyNow_41 ?_
      refine lv_iadd X.x X.b d_Model_manyNow_42 ?_
      rw [show (0 + 0 : Int32) = 0 from by decide]
      refine lv_aload_n X.x X.b d_Model_manyNow_43 rfl (lv_at hl 0 rfl) ?_
      refine m_get (v := .ref (mo + 2)) X ok_Model hM.1 2 (by decide) k_Model_13 rfl d_Model_manyNow_44 ?_
      refine lv_iconst (v := 4) X.x X.b d_Model_manyNow_47 (by decide) ?_
      refine m_ild (v := 0) X hM.a2 4 rfl (by omega) (by decide) (show s0 2 4 = 0 from (by rw [hn 4 (by omega)])) d_Model_manyNow_48 ?_
      refine lv_iadd X.x X.b d_Model_manyNow_49 ?_
      rw [show (0 + 0 : Int32) = 0 from by decide]
      exact m_iret X hS (by omega) (by omega) d_Model_manyNow_50 (congrArg (fun z => some (Value.int z)) (by simp [mnM, c1, c2])) rfl
  · skip
    refine lv_aload_n X.x X.b d_Model_manyNow_4 rfl (lv_at hl 0 rfl) ?_
    refine m_get (v := .ref (mo + 2)) X ok_Model hM.1 2 (by decide) k_Model_13 rfl d_Model_manyNow_5 ?_
    refine lv_iconst (v := 0) X.x X.b d_Model_manyNow_8 (by decide) ?_
    refine m_ild (v := 0) X hM.a2 0 rfl (by omega) (by decide) (show s0 2 0 = 0 from (by rw [hn 0 (by omega)])) d_Model_manyNow_9 ?_
    exact m_iret X hS (by omega) (by omega) d_Model_manyNow_10 (congrArg (fun z => some (Value.int z)) (by simp [mnM, c1])) rfl
set_option maxRecDepth 100000 in
set_option maxHeartbeats 4000000 in
theorem M_Model_many_y (l : Launch) (g : GG) {mo tq : Nat} {p0 : Nat → Int32} {s0 : Nat → Nat → Int32} {H0 : Heap} (hM : mAt g mo tq p0 s0 H0) (hf : frP p0 s0) (hn : noL s0) {wt : Int32} (hw : 0 ≤ wt ∧ wt ≤ 11) : MM l y_Model_many c_Model_many 2 (some .int) 4 0 0 g H0 [.ref mo, .int wt] (fun q => mo ≤ q ∧ q < mo + 23) (some (.int (mnM wt))) (fun H1 => ∃ p, mAt g mo tq p s0 H1 ∧ p 0 = 0) := by
  refine MM.of (by decide +kernel) (Nat.le_of_ble_eq_true rfl) ?_
  intro p e s m below meth cd X hH ls hl
  have X : CX g p s m _ meth cd c_Model_many 2 (some .int) R_Model _ := X
  have hl : lv_has ls 2 [(0, .ref mo), (1, .int wt)] := hl
  have hS : va_S (AA (fun q => mo ≤ q ∧ q < mo + 23) H0) H0 H0 [] := va_S.rf
  have hlt0 := hM.lt
  have htq0 := hM.tq
  obtain ⟨⟨hf3, hf4, hf5, hf6, hf7⟩, ⟨g8, g11, g12, g13, g14, g141, g15, g23, g24⟩, gj⟩ := hf
  refine lv_aload_n X.x X.b d_Model_many_0 rfl (lv_at hl 0 rfl) ?_
  refine lv_iconst (v := 0) X.x X.b d_Model_many_1 (by decide) ?_
  refine m_put X ok_Model hS (Or.inl ⟨by omega, by omega⟩) hM.1 0 (by decide) k_Model_80 rfl (ok_Model.2.2.1 _ (by decide)) rfl rfl (Nat.le_of_ble_eq_true rfl) d_Model_many_2 (fun H locs hp hcg hS => ?_)
  have hM := hM.f0 hp hcg
  obtain ⟨p_1, ep_1⟩ : ∃ z, z = upd p0 0 0 := ⟨_, rfl⟩
  rw [← ep_1] at hM
  refine lv_iload_n X.x X.b d_Model_many_5 rfl (lv_at hl 1 rfl) ?_
  refine lv_iconst (v := 0) X.x X.b d_Model_many_6 (by decide) ?_
  refine lv_bipush (v := 11) X.x X.b d_Model_many_7 (by decide) ?_
  refine m_callSP X hS (MP_ans (M_Model_isIn l g wt 0 11) (show b2i (0 ≤ wt ∧ wt ≤ 11) = 1 from b2i_t hw)) s_Model_84 rfl rfl (Nat.le_of_ble_eq_true rfl) hl.1 d_Model_many_9 (by omega) (by decide) ⟨by omega, by omega⟩ (fun locs hS => ?_)
  refine lv_if_eq (tgt := 23) X.x X.b d_Model_many_12 (by decide) (fun c1 => ?_) (fun c1 => ?_)
  · exact absurd c1 (by decide)
  · skip
    refine lv_aload_n X.x X.b d_Model_many_15 rfl (lv_at hl 0 rfl) ?_
    refine lv_iload_n X.x X.b d_Model_many_16 rfl (lv_at hl 1 rfl) ?_
    refine m_callP X hS (M_Model_manyNow l g hM (show frP p_1 s0 from ⟨⟨(by rw [ep_1, upd_mi _ _ _ (show 3 ≠ 0 by decide), hf3]), (by rw [ep_1, upd_mi _ _ _ (show 4 ≠ 0 by decide), hf4]), (by rw [ep_1, upd_mi _ _ _ (show 5 ≠ 0 by decide), hf5]), (by rw [ep_1, upd_mi _ _ _ (show 6 ≠ 0 by decide), hf6]), (by rw [ep_1, upd_mi _ _ _ (show 7 ≠ 0 by decide), hf7])⟩, ⟨g8, g11, g12, g13, g14, g141, g15, g23, g24⟩, gj⟩) hn wt) v_Model_228 hM.1 rfl rfl rfl (Nat.le_of_ble_eq_true rfl) hl.1 d_Model_many_17 (by omega) (by decide) ⟨by omega, by omega⟩ (fun locs hS => ?_)
    refine lv_goto (tgt := 28) X.x X.b d_Model_many_20 (by decide) ?_
    exact m_iret X hS (by omega) (by omega) d_Model_many_28 rfl ⟨_, hM, (by rw [ep_1, upd_hit])⟩
set_option maxRecDepth 100000 in
set_option maxHeartbeats 4000000 in
theorem M_Model_many_n (l : Launch) (g : GG) {mo tq : Nat} {p0 : Nat → Int32} {s0 : Nat → Nat → Int32} {H0 : Heap} (hM : mAt g mo tq p0 s0 H0) (hf : frP p0 s0) (hn : noL s0) {wt : Int32} (hw : ¬ (0 ≤ wt ∧ wt ≤ 11)) : MM l y_Model_many c_Model_many 2 (some .int) 4 0 0 g H0 [.ref mo, .int wt] (fun q => mo ≤ q ∧ q < mo + 23) (some (.int 0)) (fun H1 => ∃ p, mAt g mo tq p s0 H1 ∧ p 0 = 1) := by
  refine MM.of (by decide +kernel) (Nat.le_of_ble_eq_true rfl) ?_
  intro p e s m below meth cd X hH ls hl
  have X : CX g p s m _ meth cd c_Model_many 2 (some .int) R_Model _ := X
  have hl : lv_has ls 2 [(0, .ref mo), (1, .int wt)] := hl
  have hS : va_S (AA (fun q => mo ≤ q ∧ q < mo + 23) H0) H0 H0 [] := va_S.rf
  have hlt0 := hM.lt
  have htq0 := hM.tq
  obtain ⟨⟨hf3, hf4, hf5, hf6, hf7⟩, ⟨g8, g11, g12, g13, g14, g141, g15, g23, g24⟩, gj⟩ := hf
  refine lv_aload_n X.x X.b d_Model_many_0 rfl (lv_at hl 0 rfl) ?_
  refine lv_iconst (v := 0) X.x X.b d_Model_many_1 (by decide) ?_
  refine m_put X ok_Model hS (Or.inl ⟨by omega, by omega⟩) hM.1 0 (by decide) k_Model_80 rfl (ok_Model.2.2.1 _ (by decide)) rfl rfl (Nat.le_of_ble_eq_true rfl) d_Model_many_2 (fun H locs hp hcg hS => ?_)
  have hM := hM.f0 hp hcg
  obtain ⟨p_1, ep_1⟩ : ∃ z, z = upd p0 0 0 := ⟨_, rfl⟩
  rw [← ep_1] at hM
  refine lv_iload_n X.x X.b d_Model_many_5 rfl (lv_at hl 1 rfl) ?_
  refine lv_iconst (v := 0) X.x X.b d_Model_many_6 (by decide) ?_
  refine lv_bipush (v := 11) X.x X.b d_Model_many_7 (by decide) ?_
  refine m_callSP X hS (MP_ans (M_Model_isIn l g wt 0 11) (show b2i (0 ≤ wt ∧ wt ≤ 11) = 0 from b2i_f hw)) s_Model_84 rfl rfl (Nat.le_of_ble_eq_true rfl) hl.1 d_Model_many_9 (by omega) (by decide) ⟨by omega, by omega⟩ (fun locs hS => ?_)
  refine lv_if_eq (tgt := 23) X.x X.b d_Model_many_12 (by decide) (fun c1 => ?_) (fun c1 => ?_)
  · skip
    refine lv_aload_n X.x X.b d_Model_many_23 rfl (lv_at hl 0 rfl) ?_
    refine lv_iconst (v := 1) X.x X.b d_Model_many_24 (by decide) ?_
    have hR := M_Model_no l g hM 1
    refine m_callM X hS hR v_Model_100 hM.1 rfl rfl rfl (Nat.le_of_ble_eq_true rfl) hl.1 d_Model_many_25 (by omega) (by decide) ⟨by omega, by omega⟩ (fun q z => by have z : mo ≤ q ∧ q < mo + 23 := z; exact ⟨by omega, by omega⟩) (fun H locs hM hfr hS => ?_)
    obtain ⟨p_2, ep_2⟩ : ∃ z, z = upd p_1 0 1 := ⟨_, rfl⟩
    rw [← ep_2] at hM
    exact m_iret X hS (by omega) (by omega) d_Model_many_28 rfl ⟨_, hM, (by rw [ep_2, upd_hit])⟩
  · exact absurd c1 (by decide)
set_option maxRecDepth 100000 in
set_option maxHeartbeats 4000000 in
theorem M_Model_meanSize (l : Launch) (g : GG) {mo tq : Nat} {p0 : Nat → Int32} {s0 : Nat → Nat → Int32} {H0 : Heap} (hM : mAt g mo tq p0 s0 H0) (hf : frP p0 s0) (hn : noL s0) : MM l y_Model_meanSize c_Model_meanSize 1 (some .double) 0 0 0 g H0 [.ref mo] (fun q => mo ≤ q ∧ q < mo + 23) (some (.double (FP.ddiv (FP.i2d 0) (FP.i2d 1)))) (fun H1 => ∃ p, mAt g mo tq p s0 H1 ∧ p 0 = 0) := by
  refine MM.of (by decide +kernel) (Nat.le_of_ble_eq_true rfl) ?_
  intro p e s m below meth cd X hH ls hl
  have X : CX g p s m _ meth cd c_Model_meanSize 1 (some .double) R_Model _ := X
  have hl : lv_has ls 1 [(0, .ref mo)] := hl
  have hS : va_S (AA (fun q => mo ≤ q ∧ q < mo + 23) H0) H0 H0 [] := va_S.rf
  have hlt0 := hM.lt
  have htq0 := hM.tq
  obtain ⟨⟨hf3, hf4, hf5, hf6, hf7⟩, ⟨g8, g11, g12, g13, g14, g141, g15, g23, g24⟩, gj⟩ := hf
  refine lv_aload_n X.x X.b d_Model_meanSize_0 rfl (lv_at hl 0 rfl) ?_
  refine lv_iconst (v := 0) X.x X.b d_Model_meanSize_1 (by decide) ?_
  refine m_put X ok_Model hS (Or.inl ⟨by omega, by omega⟩) hM.1 0 (by decide) k_Model_80 rfl (ok_Model.2.2.1 _ (by decide)) rfl rfl (Nat.le_of_ble_eq_true rfl) d_Model_meanSize_2 (fun H locs hp hcg hS => ?_)
  have hM := hM.f0 hp hcg
  obtain ⟨p_1, ep_1⟩ : ∃ z, z = upd p0 0 0 := ⟨_, rfl⟩
  rw [← ep_1] at hM
  refine lv_aload_n X.x X.b d_Model_meanSize_5 rfl (lv_at hl 0 rfl) ?_
  refine m_get (v := .int 0) X ok_Model hM.1 3 (by decide) k_Model_126 (congrArg (fun z => some (Value.int z)) (show p_1 3 = 0 from (by rw [ep_1, upd_mi _ _ _ (show 3 ≠ 0 by decide), hf3]))) d_Model_meanSize_6 ?_
  refine lv_if_le (tgt := 16) X.x X.b d_Model_meanSize_9 (by decide) (fun c1 => ?_) (fun c1 => ?_)
  · skip
    have c1q := Int32.not_lt.mpr c1
    refine lv_aload_n X.x X.b d_Model_meanSize_16 rfl (lv_at hl 0 rfl) ?_
    refine m_get (v := .int 0) X ok_Model hM.1 6 (by decide) k_Model_165 (congrArg (fun z => some (Value.int z)) (show p_1 6 = 0 from (by rw [ep_1, upd_mi _ _ _ (show 6 ≠ 0 by decide), hf6]))) d_Model_meanSize_17 ?_
    refine lv_i2d X.x X.b d_Model_meanSize_20 ?_
    refine lv_aload_n X.x X.b d_Model_meanSize_21 rfl (lv_at hl 0 rfl) ?_
    refine m_get (v := .int 1) X ok_Model hM.1 5 (by decide) k_Model_132 (congrArg (fun z => some (Value.int z)) (show p_1 5 = 1 from (by rw [ep_1, upd_mi _ _ _ (show 5 ≠ 0 by decide), hf5]))) d_Model_meanSize_22 ?_
    refine lv_i2d X.x X.b d_Model_meanSize_25 ?_
    refine lv_ddiv X.x X.b d_Model_meanSize_26 (by unfold vf_n64; decide +kernel) ?_
    exact m_dret X hS (by omega) (by omega) d_Model_meanSize_27 rfl ⟨_, hM, (by rw [ep_1, upd_hit])⟩
  · exact absurd c1 (by decide)
