-- THE LAW'S PRESS: its cell; what it draws
theorem w_Law_cell : Cond.code y_Law_cell c_Law_cell 2 (some .int) ∈ LW := LW_t 807 (by decide +kernel) (by decide +kernel)
theorem wt_Law_cell : Cond.static y_Law_cell ∈ LW := LW_t 806 (by decide +kernel) (by decide +kernel)
theorem w_Law_below : Cond.code y_Law_below c_Law_below 2 (some .int) ∈ LW := LW_t 811 (by decide +kernel) (by decide +kernel)
theorem wt_Law_below : Cond.static y_Law_below ∈ LW := LW_t 810 (by decide +kernel) (by decide +kernel)
theorem ok_Press : clsOK R_Press T_Press 12 ci_Press ty_Press := ⟨rfl, in_Press, tyok_Press, nm_Press, by decide +kernel⟩
/-- the law's press: the class's object B, the script b, the rows RA, d draws so far; what else stands there is V -/
abbrev prAt (g : GG) (P B b RA : Nat) (V : Value × Value × Value) (d : Nat) (H : Heap) : Prop := pt g P (.inr (ci_Press, [.ref B, .ref b, .int (nI d), .ref RA, .int 0, .int 0, .int 0, V.1, V.2.1, .int 0, .int 0, V.2.2])) H
set_option maxRecDepth 100000 in
set_option maxHeartbeats 4000000 in
theorem N_Law_below (l : Launch) (g : GG) {b L : Nat} {xs : Nat → Int32} {v : Int32} {n : Nat} {H0 : Heap} (hn0 : 0 < n) (hn : n < 1000) : MX l y_Law_below c_Law_below 2 (some .int) 0 0 0 g b L xs H0 [.int v, .int (nI n)] noA (fun w H1 => H1 = H0 ∧ ∃ x, x < n ∧ w = some (.int (nI x))) := by
  refine MX.of (by decide +kernel) (Nat.le_of_ble_eq_true rfl) ?_
  intro p e s m below meth cd X hH hx ls hl
  have X : CX g p s m _ meth cd c_Law_below 2 (some .int) R_Law _ := X
  have hl : lv_has ls 2 [(0, .int v), (1, .int (nI n))] := hl
  have hS : va_S (AA noA H0) H0 H0 [] := va_S.rf
  obtain ⟨j, hj, e1⟩ := pk_andE v (m := 2147483647) 31 (by decide +kernel)
  refine lv_iload_n X.x X.b d_Law_below_0 rfl (lv_at hl 0 rfl) ?_
  refine lv_ldc (v := (2147483647 : Int32)) X.x X.b X.wn (X.ts _ (LW_t 812 (by decide +kernel) (by decide +kernel))) d_Law_below_1 ?_
  refine lv_iand X.x X.b d_Law_below_3 ?_
  rw [e1]
  refine lv_iload_n X.x X.b d_Law_below_4 rfl (lv_at hl 1 rfl) ?_
  refine lv_irem X.x X.b d_Law_below_5 (nI_ne0 hn0 (by omega)) ?_
  rw [nI_mod hj (by omega) hn0]
  exact m_iretX X hS (Nat.zero_le _) (Nat.zero_le _) d_Law_below_6 ⟨rfl, j % n, Nat.mod_lt _ hn0, rfl⟩
set_option maxRecDepth 100000 in
set_option maxHeartbeats 4000000 in
theorem N_Law_cell (l : Launch) (g : GG) {b L : Nat} {xs : Nat → Int32} {k : Nat} {H0 : Heap} (hk : k < 1000) (hL : L ≤ 260) : MX l y_Law_cell c_Law_cell 2 (some .int) 0 0 0 g b L xs H0 [.ref b, .int (nI k)] noA (fun w H1 => H1 = H0 ∧ ∃ x, w = some (.int x)) := by
  refine MX.of (by decide +kernel) (Nat.le_of_ble_eq_true rfl) ?_
  intro p e s m below meth cd X hH hx ls hl
  have X : CX g p s m _ meth cd c_Law_cell 2 (some .int) R_Law _ := X
  have hl : lv_has ls 2 [(0, .ref b), (1, .int (nI k))] := hl
  have hS : va_S (AA noA H0) H0 H0 [] := va_S.rf
  refine lv_iload_n X.x X.b d_Law_cell_0 rfl (lv_at hl 1 rfl) ?_
  refine lv_aload_n X.x X.b d_Law_cell_1 rfl (lv_at hl 0 rfl) ?_
  refine m_xlen X hx d_Law_cell_2 ?_
  refine lv_icmp_ge (tgt := 12) X.x X.b d_Law_cell_3 (by decide) (fun c1 => ?_) (fun c1 => ?_)
  · refine lv_ldc (v := (790386105 : Int32)) X.x X.b X.wn (X.ts _ (LW_t 808 (by decide +kernel) (by decide +kernel))) d_Law_cell_12 ?_
    refine lv_iload_n X.x X.b d_Law_cell_14 rfl (lv_at hl 1 rfl) ?_
    refine lv_iconst (v := 3) X.x X.b d_Law_cell_15 (by decide) ?_
    refine lv_iadd X.x X.b d_Law_cell_16 ?_
    refine lv_imul X.x X.b d_Law_cell_17 ?_
    exact m_iretX X hS (Nat.zero_le _) (Nat.zero_le _) d_Law_cell_18 ⟨rfl, _, rfl⟩
  · have hkL : k < L := Nat.lt_of_not_le (fun z => c1 (nI_le z (by omega)))
    refine lv_aload_n X.x X.b d_Law_cell_6 rfl (lv_at hl 0 rfl) ?_
    refine lv_iload_n X.x X.b d_Law_cell_7 rfl (lv_at hl 1 rfl) ?_
    refine m_xld X hx (vp_in_nI hkL (by omega)) d_Law_cell_8 ?_
    refine lv_goto (tgt := 18) X.x X.b d_Law_cell_9 (by decide) ?_
    exact m_iretX X hS (Nat.zero_le _) (Nat.zero_le _) d_Law_cell_18 ⟨rfl, _, rfl⟩
set_option maxRecDepth 100000 in
set_option maxHeartbeats 4000000 in
theorem N_Press_draw (l : Launch) (g : GG) {b L : Nat} {xs : Nat → Int32} {P B RA d n : Nat} {V : Value × Value × Value} {H0 : Heap} (hL : L ≤ 260) (hP : prAt g P B b RA V d H0) (hd : d < 3000) (hn0 : 0 < n) (hn : n < 1000) : MX l y_Press_draw c_Press_draw 3 (some .int) 1 0 0 g b L xs H0 [.ref P, .int (nI n)] (fun q => q = P) (fun w H1 => ∃ x, x < n ∧ w = some (.int (nI x)) ∧ prAt g P B b RA V (d + 1) H1) := by
  refine MX.of (by decide +kernel) (Nat.le_of_ble_eq_true rfl) ?_
  intro p e s m below meth cd X hH hx ls hl
  have X : CX g p s m _ meth cd c_Press_draw 3 (some .int) R_Press _ := X
  have hl : lv_has ls 3 [(0, .ref P), (1, .int (nI n))] := hl
  have hS : va_S (AA (fun q => q = P) H0) H0 H0 [] := va_S.rf
  refine lv_aload_n X.x X.b d_Press_draw_0 rfl (lv_at hl 0 rfl) ?_
  refine m_get (v := .ref b) X ok_Press hP 1 (by decide) k_Press_34 rfl d_Press_draw_1 ?_
  refine lv_aload_n X.x X.b d_Press_draw_4 rfl (lv_at hl 0 rfl) ?_
  refine m_get (v := .int (nI d)) X ok_Press hP 2 (by decide) k_Press_37 rfl d_Press_draw_5 ?_
  refine lv_bipush (v := 24) X.x X.b d_Press_draw_8 (by decide) ?_
  refine lv_irem X.x X.b d_Press_draw_10 (by decide) ?_
  rw [show (nI d - nI d / 24 * 24 : Int32) = nI (d % 24) from nI_mod (a := d) (n := 24) (by omega) (by omega) (by omega)]
  have hm : d % 24 < 24 := Nat.mod_lt _ (by omega)
  refine m_callSNX (k := 2) X hS hx (N_Law_cell (k := d % 24) l g (by omega) hL) X.kx.2.2.2.2.2.2.1 w_Law_cell ini_Law wt_Law_cell ⟨by decide +kernel, by decide +kernel, by decide +kernel⟩ rfl rfl (Nat.le_of_ble_eq_true rfl) hl.1 d_Press_draw_11 (by omega) (by decide) ⟨by omega, by omega⟩ (fun q z => z.elim (fun z => z.elim) (fun z => Or.inr z)) (fun w H1 locs1 hq _ hS => ?_)
  obtain ⟨rfl, y, rfl⟩ := hq
  refine lv_aload_n X.x X.b d_Press_draw_14 rfl (lv_at hl 0 rfl) ?_
  refine m_get (v := .int (nI d)) X ok_Press hP 2 (by decide) k_Press_37 rfl d_Press_draw_15 ?_
  refine lv_bipush (v := 24) X.x X.b d_Press_draw_18 (by decide) ?_
  refine lv_idiv X.x X.b d_Press_draw_20 (by decide) ?_
  refine lv_bipush (v := 8) X.x X.b d_Press_draw_21 (by decide) ?_
  refine lv_irem X.x X.b d_Press_draw_23 (by decide) ?_
  refine lv_ishr X.x X.b d_Press_draw_24 ?_
  refine lv_sipush (v := 227) X.x X.b d_Press_draw_25 (by decide) ?_
  refine lv_aload_n X.x X.b d_Press_draw_28 rfl (lv_at hl 0 rfl) ?_
  refine m_get (v := .int (nI d)) X ok_Press hP 2 (by decide) k_Press_37 rfl d_Press_draw_29 ?_
  refine lv_imul X.x X.b d_Press_draw_32 ?_
  refine lv_iadd X.x X.b d_Press_draw_33 ?_
  refine lv_iload_n X.x X.b d_Press_draw_34 rfl (lv_at hl 1 rfl) ?_
  refine m_callSNX (k := 2) X hS hx (N_Law_below (n := n) l g hn0 hn) X.kx.2.2.2.2.2.2.2.1 w_Law_below ini_Law wt_Law_below ⟨by decide +kernel, by decide +kernel, by decide +kernel⟩ rfl rfl (Nat.le_of_ble_eq_true rfl) hl.1 d_Press_draw_35 (by omega) (by decide) ⟨by omega, by omega⟩ (fun q z => z.elim (fun z => z.elim) (fun z => Or.inr z)) (fun w H2 locs2 hq _ hS => ?_)
  obtain ⟨rfl, x, hxn, rfl⟩ := hq
  refine lv_istore_n (lv' := [(2, .int (nI x)), (0, .ref P), (1, .int (nI n))]) X.x X.b d_Press_draw_38 rfl hl (by decide) rfl (fun ls hl => ?_)
  refine lv_aload_n X.x X.b d_Press_draw_39 rfl (lv_at hl 1 rfl) ?_
  refine lv_dup X.x X.b d_Press_draw_40 rfl ?_
  refine m_get (v := .int (nI d)) X ok_Press hP 2 (by decide) k_Press_37 rfl d_Press_draw_41 ?_
  refine lv_iconst (v := 1) X.x X.b d_Press_draw_44 (by decide) ?_
  refine lv_iadd X.x X.b d_Press_draw_45 ?_
  rw [nI_1]
  refine m_put X ok_Press hS (Or.inl rfl) hP 2 (by decide) k_Press_37 rfl (ok_Press.2.2.1 _ (by decide)) rfl rfl (Nat.le_of_ble_eq_true rfl) d_Press_draw_46 (fun H locs hp hcg hS => ?_)
  refine lv_iload_n X.x X.b d_Press_draw_49 rfl (lv_at hl 0 rfl) ?_
  exact m_iretX X hS (Nat.zero_le _) (Nat.zero_le _) d_Press_draw_50 ⟨x, hxn, rfl, hp⟩
