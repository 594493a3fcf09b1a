-- THE PRESS WHERE IT THROWS
set_option maxRecDepth 100000 in
set_option maxHeartbeats 4000000 in
theorem T_BP_lineThere (l : Launch) (g : GG) (hfl : l.stackTraces = false) {Bz : Nat} {B : Nat} {cnt : Nat → Nat} {f : Nat → Nat → Nat} {D : DT} {y : YS} {H0 : Heap} (hb : bAt g B cnt f D y H0) {row t : Int32} (hnl : ¬ lIn cnt row t) (hBz : Bz ≤ H0.size) : MT l y_BP_lineThere c_BP_lineThere 4 (some (.object "BranchPress$Line")) 6 Bz g H0 [.ref B, .int row, .int t] R_IO := by
  refine MT.of (by decide +kernel) (Nat.le_of_ble_eq_true rfl) ?_
  intro p e s m below meth cd X hH hZ hno ls hl
  have X : CX g p s m _ meth cd c_BP_lineThere 4 (some (.object "BranchPress$Line")) R_BP _ := X
  have hl : lv_has ls 4 [(0, .ref B), (1, .int row), (2, .int t)] := hl
  have hS : va_S (AA noA H0) H0 H0 [] := va_S.rf
  have hb0 := hb
  obtain ⟨hB, hy, hqk, cnt2, f2, D2, y2, hO⟩ := hb
  obtain ⟨S, c, qd, fn, fl, rd⟩ := y
  obtain ⟨hA, hP, ⟨Qf, hQ⟩, ⟨ex, ef, em, hE⟩, hI, ⟨N, hN⟩, hs, hcc, hly, hlw, hhw⟩ := hy
  have hA : asAt g (B + 13) qd fn fl rd H0 := hA
  have hI : iAt g (B + 13 + 1) c S H0 := hI
  have hcc : c ≤ 121 := hcc
  refine lv_aload_n X.x X.b d_BP_lineThere_0 rfl (lv_at hl 0 rfl) ?_
  refine m_get (v := .ref (B + 1)) X ok_BP hB 0 (by decide) k_BP_14 rfl d_BP_lineThere_1 ?_
  refine lv_iload_n X.x X.b d_BP_lineThere_4 rfl (lv_at hl 1 rfl) ?_
  refine lv_iload_n X.x X.b d_BP_lineThere_5 rfl (lv_at hl 2 rfl) ?_
  refine m_callP X hS (show MP l y_Source_lineAt c_Source_lineAt 3 (some (.object "BranchPress$Line")) 3 g _ [.ref (B + 1), .int row, .int t] (some .null) from (by have z := M_Source_lineAt l g hs row t; rw [show lnO cnt row t = none from if_neg hnl] at z; exact z)) v_BP_243 hs.1 rfl rfl rfl (Nat.le_of_ble_eq_true rfl) hl.1 d_BP_lineThere_6 (by omega) (by decide) ⟨by omega, by omega⟩ (fun locs hS => ?_)
  refine lv_astore_nN (lv' := [(3, .null), (0, .ref B), (1, .int row), (2, .int t)]) X.x X.b d_BP_lineThere_9 rfl hl (by decide) rfl (fun ls hl => ?_)
  refine lv_aload_nN X.x X.b d_BP_lineThere_10 rfl (lv_at hl 0 rfl) ?_
  refine lv_ifnonnullN X.x X.b d_BP_lineThere_11 ?_
  exact m_throw (is := 92) (text := "no such LINE") X hfl xok_IO (by decide) hH hZ hBz hno hS hl.1 d_BP_lineThere_14 d_BP_lineThere_17 d_BP_lineThere_18 d_BP_lineThere_20 d_BP_lineThere_23 (by omega) (by decide)
set_option maxRecDepth 100000 in
set_option maxHeartbeats 4000000 in
theorem T_BP_itemThere (l : Launch) (g : GG) (hfl : l.stackTraces = false) {Bz : Nat} {B : Nat} {cnt : Nat → Nat} {f : Nat → Nat → Nat} {D : DT} {y : YS} {H0 : Heap} (hb : bAt g B cnt f D y H0) {it : Int32} (hni : iaO y.2.1 it = none) (hBz : Bz ≤ H0.size) : MT l y_BP_itemThere c_BP_itemThere 3 (some (.object "BranchPress$Item")) 6 Bz g H0 [.ref B, .int it] R_IO := by
  refine MT.of (by decide +kernel) (Nat.le_of_ble_eq_true rfl) ?_
  intro p e s m below meth cd X hH hZ hno ls hl
  have X : CX g p s m _ meth cd c_BP_itemThere 3 (some (.object "BranchPress$Item")) R_BP _ := X
  have hl : lv_has ls 3 [(0, .ref B), (1, .int it)] := hl
  have hS : va_S (AA noA H0) H0 H0 [] := va_S.rf
  have hb0 := hb
  obtain ⟨hB, hy, hqk, cnt2, f2, D2, y2, hO⟩ := hb
  obtain ⟨S, c, qd, fn, fl, rd⟩ := y
  obtain ⟨hA, hP, ⟨Qf, hQ⟩, ⟨ex, ef, em, hE⟩, hI, ⟨N, hN⟩, hs, hcc, hly, hlw, hhw⟩ := hy
  have hA : asAt g (B + 13) qd fn fl rd H0 := hA
  have hI : iAt g (B + 13 + 1) c S H0 := hI
  have hcc : c ≤ 121 := hcc
  have hni : iaO c it = none := hni
  refine lv_aload_n X.x X.b d_BP_itemThere_0 rfl (lv_at hl 0 rfl) ?_
  refine m_get (v := .ref (B + 13)) X ok_BP hB 1 (by decide) k_BP_23 rfl d_BP_itemThere_1 ?_
  refine m_get (v := .ref (B + 13 + 1)) X ok_Assembly hA 0 (by decide) k_BP_147 rfl d_BP_itemThere_4 ?_
  refine lv_iload_n X.x X.b d_BP_itemThere_7 rfl (lv_at hl 1 rfl) ?_
  refine m_callP X hS (show MP l y_Items_itemAt c_Items_itemAt 2 (some (.object "BranchPress$Item")) 0 g _ [.ref (B + 13 + 1), .int it] (some .null) from (by have z := M_Items_itemAt l g hI hcc it; rw [hni] at z; exact z)) v_BP_246 hI.1 rfl rfl rfl (Nat.le_of_ble_eq_true rfl) hl.1 d_BP_itemThere_8 (by omega) (by decide) ⟨by omega, by omega⟩ (fun locs hS => ?_)
  refine lv_astore_nN (lv' := [(2, .null), (0, .ref B), (1, .int it)]) X.x X.b d_BP_itemThere_11 rfl hl (by decide) rfl (fun ls hl => ?_)
  refine lv_aload_nN X.x X.b d_BP_itemThere_12 rfl (lv_at hl 0 rfl) ?_
  refine lv_ifnonnullN X.x X.b d_BP_itemThere_13 ?_
  exact m_throw (is := 249) (text := "no such ITEM") X hfl xok_IO (by decide) hH hZ hBz hno hS hl.1 d_BP_itemThere_16 d_BP_itemThere_19 d_BP_itemThere_20 d_BP_itemThere_22 d_BP_itemThere_25 (by omega) (by decide)
set_option maxRecDepth 100000 in
set_option maxHeartbeats 4000000 in
theorem T_BP_add_IO (l : Launch) (g : GG) (hfl : l.stackTraces = false) {Bz : Nat} {B : Nat} {cnt : Nat → Nat} {f : Nat → Nat → Nat} {D : DT} {y : YS} {H0 : Heap} (hb : bAt g B cnt f D y H0) {row k x y_ n v : Int32} (hnr : ¬ rIn row) (hBz : Bz ≤ H0.size) : MT l y_BP_add c_BP_add 8 (some .int) 6 Bz g H0 [.ref B, .int row, .int k, .int x, .int y_, .int n, .int v] R_IO := by
  refine MT.of (by decide +kernel) (Nat.le_of_ble_eq_true rfl) ?_
  intro p e s m below meth cd X hH hZ hno ls hl
  have X : CX g p s m _ meth cd c_BP_add 8 (some .int) R_BP _ := X
  have hl : lv_has ls 8 [(0, .ref B), (1, .int row), (2, .int k), (3, .int x), (4, .int y_), (5, .int n), (6, .int v)] := hl
  have hS : va_S (AA noA H0) H0 H0 [] := va_S.rf
  have hb0 := hb
  obtain ⟨hB, hy, hqk, cnt2, f2, D2, y2, hO⟩ := hb
  obtain ⟨S, c, qd, fn, fl, rd⟩ := y
  obtain ⟨hA, hP, ⟨Qf, hQ⟩, ⟨ex, ef, em, hE⟩, hI, ⟨N, hN⟩, hs, hcc, hly, hlw, hhw⟩ := hy
  have hA : asAt g (B + 13) qd fn fl rd H0 := hA
  have hI : iAt g (B + 13 + 1) c S H0 := hI
  have hcc : c ≤ 121 := hcc
  refine lv_aload_n X.x X.b d_BP_add_0 rfl (lv_at hl 0 rfl) ?_
  refine m_get (v := .ref (B + 1)) X ok_BP hB 0 (by decide) k_BP_14 rfl d_BP_add_1 ?_
  refine lv_iload_n X.x X.b d_BP_add_4 rfl (lv_at hl 1 rfl) ?_
  refine m_callP X hS (M_Source_hasRow l g hs row) v_BP_36 hs.1 rfl rfl rfl (Nat.le_of_ble_eq_true rfl) hl.1 d_BP_add_5 (by omega) (by decide) ⟨by omega, by omega⟩ (fun locs hS => ?_)
  refine lv_if_ne (tgt := 21) X.x X.b d_BP_add_8 (by decide) (fun c1 => ?_) (fun c1 => ?_)
  · exact absurd (b2i_n0 c1) hnr
  · skip
    have c1 := b2i_0.mp c1
    exact m_throw (is := 42) (text := "no such ROW") X hfl xok_IO (by decide) hH hZ hBz hno hS hl.1 d_BP_add_11 d_BP_add_14 d_BP_add_15 d_BP_add_17 d_BP_add_20 (by omega) (by decide)
set_option maxRecDepth 100000 in
set_option maxHeartbeats 4000000 in
theorem T_BP_add_IA (l : Launch) (g : GG) (hfl : l.stackTraces = false) {Bz : Nat} {B : Nat} {cnt : Nat → Nat} {f : Nat → Nat → Nat} {D : DT} {y : YS} {H0 : Heap} (hb : bAt g B cnt f D y H0) {row k x y_ n v : Int32} (hir : rIn row) (hnl : ¬ lnOk k x y_ n v) (hBz : Bz ≤ H0.size) : MT l y_BP_add c_BP_add 8 (some .int) 6 Bz g H0 [.ref B, .int row, .int k, .int x, .int y_, .int n, .int v] R_IA := by
  refine MT.of (by decide +kernel) (Nat.le_of_ble_eq_true rfl) ?_
  intro p e s m below meth cd X hH hZ hno ls hl
  have X : CX g p s m _ meth cd c_BP_add 8 (some .int) R_BP _ := X
  have hl : lv_has ls 8 [(0, .ref B), (1, .int row), (2, .int k), (3, .int x), (4, .int y_), (5, .int n), (6, .int v)] := hl
  have hS : va_S (AA noA H0) H0 H0 [] := va_S.rf
  have hb0 := hb
  obtain ⟨hB, hy, hqk, cnt2, f2, D2, y2, hO⟩ := hb
  obtain ⟨S, c, qd, fn, fl, rd⟩ := y
  obtain ⟨hA, hP, ⟨Qf, hQ⟩, ⟨ex, ef, em, hE⟩, hI, ⟨N, hN⟩, hs, hcc, hly, hlw, hhw⟩ := hy
  have hA : asAt g (B + 13) qd fn fl rd H0 := hA
  have hI : iAt g (B + 13 + 1) c S H0 := hI
  have hcc : c ≤ 121 := hcc
  refine lv_aload_n X.x X.b d_BP_add_0 rfl (lv_at hl 0 rfl) ?_
  refine m_get (v := .ref (B + 1)) X ok_BP hB 0 (by decide) k_BP_14 rfl d_BP_add_1 ?_
  refine lv_iload_n X.x X.b d_BP_add_4 rfl (lv_at hl 1 rfl) ?_
  refine m_callP X hS (M_Source_hasRow l g hs row) v_BP_36 hs.1 rfl rfl rfl (Nat.le_of_ble_eq_true rfl) hl.1 d_BP_add_5 (by omega) (by decide) ⟨by omega, by omega⟩ (fun locs hS => ?_)
  refine lv_if_ne (tgt := 21) X.x X.b d_BP_add_8 (by decide) (fun c1 => ?_) (fun c1 => ?_)
  · skip
    have c1 := b2i_n0 c1
    refine lv_iload_n X.x X.b d_BP_add_21 rfl (lv_at hl 2 rfl) ?_
    refine lv_iload_n X.x X.b d_BP_add_22 rfl (lv_at hl 3 rfl) ?_
    refine lv_iload X.x X.b d_BP_add_23 (lv_at hl 4 rfl) ?_
    refine lv_iload X.x X.b d_BP_add_25 (lv_at hl 5 rfl) ?_
    refine lv_iload X.x X.b d_BP_add_27 (lv_at hl 6 rfl) ?_
    refine m_callSP X hS (M_Line_isAllowed l g k x y_ n v) s_BP_47 rfl rfl (Nat.le_of_ble_eq_true rfl) hl.1 d_BP_add_29 (by omega) (by decide) ⟨by omega, by omega⟩ (fun locs hS => ?_)
    refine lv_if_ne (tgt := 45) X.x X.b d_BP_add_32 (by decide) (fun c2 => ?_) (fun c2 => ?_)
    · exact absurd (b2i_n0 c2) hnl
    · skip
      have c2 := b2i_0.mp c2
      exact m_throw (is := 55) (text := "no such LINE can be") X hfl xok_IA (by decide) hH hZ hBz hno hS hl.1 d_BP_add_35 d_BP_add_38 d_BP_add_39 d_BP_add_41 d_BP_add_44 (by omega) (by decide)
  · exact absurd hir (b2i_0.mp c1)
set_option maxRecDepth 100000 in
set_option maxHeartbeats 4000000 in
theorem T_BP_put (l : Launch) (g : GG) (hfl : l.stackTraces = false) {Bz : Nat} {B : Nat} {cnt : Nat → Nat} {f : Nat → Nat → Nat} {D : DT} {y : YS} {H0 : Heap} (hb : bAt g B cnt f D y H0) {row t k x y_ n v : Int32} (hnl : ¬ lIn cnt row t) (hBz : Bz ≤ H0.size) : MT l y_BP_put c_BP_put 9 (some .int) 7 Bz g H0 [.ref B, .int row, .int t, .int k, .int x, .int y_, .int n, .int v] R_IO := by
  refine MT.of (by decide +kernel) (Nat.le_of_ble_eq_true rfl) ?_
  intro p e s m below meth cd X hH hZ hno ls hl
  have X : CX g p s m _ meth cd c_BP_put 9 (some .int) R_BP _ := X
  have hl : lv_has ls 9 [(0, .ref B), (1, .int row), (2, .int t), (3, .int k), (4, .int x), (5, .int y_), (6, .int n), (7, .int v)] := hl
  have hS : va_S (AA noA H0) H0 H0 [] := va_S.rf
  have hb0 := hb
  obtain ⟨hB, hy, hqk, cnt2, f2, D2, y2, hO⟩ := hb
  obtain ⟨S, c, qd, fn, fl, rd⟩ := y
  obtain ⟨hA, hP, ⟨Qf, hQ⟩, ⟨ex, ef, em, hE⟩, hI, ⟨N, hN⟩, hs, hcc, hly, hlw, hhw⟩ := hy
  have hA : asAt g (B + 13) qd fn fl rd H0 := hA
  have hI : iAt g (B + 13 + 1) c S H0 := hI
  have hcc : c ≤ 121 := hcc
  refine lv_aload_n X.x X.b d_BP_put_0 rfl (lv_at hl 0 rfl) ?_
  refine lv_iload_n X.x X.b d_BP_put_1 rfl (lv_at hl 1 rfl) ?_
  refine lv_iload_n X.x X.b d_BP_put_2 rfl (lv_at hl 2 rfl) ?_
  refine m_callT X hS (T_BP_lineThere l g hfl hb0 hnl hBz) hZ v_BP_77 hB rfl rfl rfl (Nat.le_of_ble_eq_true rfl) hl.1 d_BP_put_3 (by omega) (by decide) ⟨by omega, by omega⟩ (fun q z => Or.inr z) (fun q ce H1 locs1 hfr hS hce hcv hcl => ?_)
  exact m_outT X hno hce hcv hcl hS (Nat.le_refl _) (Nat.le_refl _)
set_option maxRecDepth 100000 in
set_option maxHeartbeats 4000000 in
theorem T_BP_cut (l : Launch) (g : GG) (hfl : l.stackTraces = false) {Bz : Nat} {B : Nat} {cnt : Nat → Nat} {f : Nat → Nat → Nat} {D : DT} {y : YS} {H0 : Heap} (hb : bAt g B cnt f D y H0) {row t : Int32} (hnl : ¬ lIn cnt row t) (hBz : Bz ≤ H0.size) : MT l y_BP_cut c_BP_cut 3 (some .int) 6 Bz g H0 [.ref B, .int row, .int t] R_IO := by
  refine MT.of (by decide +kernel) (Nat.le_of_ble_eq_true rfl) ?_
  intro p e s m below meth cd X hH hZ hno ls hl
  have X : CX g p s m _ meth cd c_BP_cut 3 (some .int) R_BP _ := X
  have hl : lv_has ls 3 [(0, .ref B), (1, .int row), (2, .int t)] := hl
  have hS : va_S (AA noA H0) H0 H0 [] := va_S.rf
  have hb0 := hb
  obtain ⟨hB, hy, hqk, cnt2, f2, D2, y2, hO⟩ := hb
  obtain ⟨S, c, qd, fn, fl, rd⟩ := y
  obtain ⟨hA, hP, ⟨Qf, hQ⟩, ⟨ex, ef, em, hE⟩, hI, ⟨N, hN⟩, hs, hcc, hly, hlw, hhw⟩ := hy
  have hA : asAt g (B + 13) qd fn fl rd H0 := hA
  have hI : iAt g (B + 13 + 1) c S H0 := hI
  have hcc : c ≤ 121 := hcc
  refine lv_aload_n X.x X.b d_BP_cut_0 rfl (lv_at hl 0 rfl) ?_
  refine m_get (v := .ref (B + 1)) X ok_BP hB 0 (by decide) k_BP_14 rfl d_BP_cut_1 ?_
  refine lv_iload_n X.x X.b d_BP_cut_4 rfl (lv_at hl 1 rfl) ?_
  refine lv_iload_n X.x X.b d_BP_cut_5 rfl (lv_at hl 2 rfl) ?_
  refine m_callP X hS (M_Source_hasLine l g hs row t) v_BP_88 hs.1 rfl rfl rfl (Nat.le_of_ble_eq_true rfl) hl.1 d_BP_cut_6 (by omega) (by decide) ⟨by omega, by omega⟩ (fun locs hS => ?_)
  refine lv_if_ne (tgt := 22) X.x X.b d_BP_cut_9 (by decide) (fun c1 => ?_) (fun c1 => ?_)
  · exact absurd (b2i_n0 c1) hnl
  · skip
    have c1 := b2i_0.mp c1
    exact m_throw (is := 92) (text := "no such LINE") X hfl xok_IO (by decide) hH hZ hBz hno hS hl.1 d_BP_cut_12 d_BP_cut_15 d_BP_cut_16 d_BP_cut_18 d_BP_cut_21 (by omega) (by decide)
set_option maxRecDepth 100000 in
set_option maxHeartbeats 4000000 in
theorem T_BP_ofLine (l : Launch) (g : GG) (hfl : l.stackTraces = false) {Bz : Nat} {B : Nat} {cnt : Nat → Nat} {f : Nat → Nat → Nat} {D : DT} {y : YS} {H0 : Heap} (hb : bAt g B cnt f D y H0) {row t wt : Int32} (hnl : ¬ lIn cnt row t) (hBz : Bz ≤ H0.size) : MT l y_BP_ofLine c_BP_ofLine 5 (some .int) 7 Bz g H0 [.ref B, .int row, .int t, .int wt] R_IO := by
  refine MT.of (by decide +kernel) (Nat.le_of_ble_eq_true rfl) ?_
  intro p e s m below meth cd X hH hZ hno ls hl
  have X : CX g p s m _ meth cd c_BP_ofLine 5 (some .int) R_BP _ := X
  have hl : lv_has ls 5 [(0, .ref B), (1, .int row), (2, .int t), (3, .int wt)] := hl
  have hS : va_S (AA noA H0) H0 H0 [] := va_S.rf
  have hb0 := hb
  obtain ⟨hB, hy, hqk, cnt2, f2, D2, y2, hO⟩ := hb
  obtain ⟨S, c, qd, fn, fl, rd⟩ := y
  obtain ⟨hA, hP, ⟨Qf, hQ⟩, ⟨ex, ef, em, hE⟩, hI, ⟨N, hN⟩, hs, hcc, hly, hlw, hhw⟩ := hy
  have hA : asAt g (B + 13) qd fn fl rd H0 := hA
  have hI : iAt g (B + 13 + 1) c S H0 := hI
  have hcc : c ≤ 121 := hcc
  refine lv_aload_n X.x X.b d_BP_ofLine_0 rfl (lv_at hl 0 rfl) ?_
  refine lv_iload_n X.x X.b d_BP_ofLine_1 rfl (lv_at hl 1 rfl) ?_
  refine lv_iload_n X.x X.b d_BP_ofLine_2 rfl (lv_at hl 2 rfl) ?_
  refine m_callT X hS (T_BP_lineThere l g hfl hb0 hnl hBz) hZ v_BP_77 hB rfl rfl rfl (Nat.le_of_ble_eq_true rfl) hl.1 d_BP_ofLine_3 (by omega) (by decide) ⟨by omega, by omega⟩ (fun q z => Or.inr z) (fun q ce H1 locs1 hfr hS hce hcv hcl => ?_)
  exact m_outT X hno hce hcv hcl hS (Nat.le_refl _) (Nat.le_refl _)
set_option maxRecDepth 100000 in
set_option maxHeartbeats 4000000 in
theorem T_BP_ofItem_IO (l : Launch) (g : GG) (hfl : l.stackTraces = false) {Bz : Nat} {B : Nat} {cnt : Nat → Nat} {f : Nat → Nat → Nat} {D : DT} {y : YS} {H0 : Heap} (hb : bAt g B cnt f D y H0) {it wt : Int32} (hni : iaO y.2.1 it = none) (hBz : Bz ≤ H0.size) : MT l y_BP_ofItem c_BP_ofItem 4 (some .int) 7 Bz g H0 [.ref B, .int it, .int wt] R_IO := by
  refine MT.of (by decide +kernel) (Nat.le_of_ble_eq_true rfl) ?_
  intro p e s m below meth cd X hH hZ hno ls hl
  have X : CX g p s m _ meth cd c_BP_ofItem 4 (some .int) R_BP _ := X
  have hl : lv_has ls 4 [(0, .ref B), (1, .int it), (2, .int wt)] := hl
  have hS : va_S (AA noA H0) H0 H0 [] := va_S.rf
  have hb0 := hb
  obtain ⟨hB, hy, hqk, cnt2, f2, D2, y2, hO⟩ := hb
  obtain ⟨S, c, qd, fn, fl, rd⟩ := y
  obtain ⟨hA, hP, ⟨Qf, hQ⟩, ⟨ex, ef, em, hE⟩, hI, ⟨N, hN⟩, hs, hcc, hly, hlw, hhw⟩ := hy
  have hA : asAt g (B + 13) qd fn fl rd H0 := hA
  have hI : iAt g (B + 13 + 1) c S H0 := hI
  have hcc : c ≤ 121 := hcc
  have hni : iaO c it = none := hni
  refine lv_aload_n X.x X.b d_BP_ofItem_0 rfl (lv_at hl 0 rfl) ?_
  refine lv_iload_n X.x X.b d_BP_ofItem_1 rfl (lv_at hl 1 rfl) ?_
  refine m_callT X hS (T_BP_itemThere (y := (S, c, qd, fn, fl, rd)) (it := it) l g hfl hb0 hni hBz) hZ v_BP_119 hB rfl rfl rfl (Nat.le_of_ble_eq_true rfl) hl.1 d_BP_ofItem_2 (by omega) (by decide) ⟨by omega, by omega⟩ (fun q z => Or.inr z) (fun q ce H1 locs1 hfr hS hce hcv hcl => ?_)
  exact m_outT X hno hce hcv hcl hS (Nat.le_refl _) (Nat.le_refl _)
set_option maxRecDepth 100000 in
set_option maxHeartbeats 4000000 in
theorem T_BP_word (l : Launch) (g : GG) (hfl : l.stackTraces = false) {Bz : Nat} {B : Nat} {cnt : Nat → Nat} {f : Nat → Nat → Nat} {D : DT} {y : YS} {H0 : Heap} (hb : bAt g B cnt f D y H0) {ad : Int32} (hni : iaO y.2.1 (hof y.1 ad y.2.1 0) = none) (hBz : Bz ≤ H0.size) : MT l y_BP_word c_BP_word 3 (some .int) 7 Bz g H0 [.ref B, .int ad] R_IO := by
  refine MT.of (by decide +kernel) (Nat.le_of_ble_eq_true rfl) ?_
  intro p e s m below meth cd X hH hZ hno ls hl
  have X : CX g p s m _ meth cd c_BP_word 3 (some .int) R_BP _ := X
  have hl : lv_has ls 3 [(0, .ref B), (1, .int ad)] := hl
  have hS : va_S (AA noA H0) H0 H0 [] := va_S.rf
  have hb0 := hb
  obtain ⟨hB, hy, hqk, cnt2, f2, D2, y2, hO⟩ := hb
  obtain ⟨S, c, qd, fn, fl, rd⟩ := y
  obtain ⟨hA, hP, ⟨Qf, hQ⟩, ⟨ex, ef, em, hE⟩, hI, ⟨N, hN⟩, hs, hcc, hly, hlw, hhw⟩ := hy
  have hA : asAt g (B + 13) qd fn fl rd H0 := hA
  have hI : iAt g (B + 13 + 1) c S H0 := hI
  have hcc : c ≤ 121 := hcc
  have hni : iaO c (hof S ad c 0) = none := hni
  refine lv_aload_n X.x X.b d_BP_word_0 rfl (lv_at hl 0 rfl) ?_
  refine lv_aload_n X.x X.b d_BP_word_1 rfl (lv_at hl 0 rfl) ?_
  refine m_get (v := .ref (B + 13)) X ok_BP hB 1 (by decide) k_BP_23 rfl d_BP_word_2 ?_
  refine m_get (v := .ref (B + 13 + 1)) X ok_Assembly hA 0 (by decide) k_BP_147 rfl d_BP_word_5 ?_
  refine lv_iload_n X.x X.b d_BP_word_8 rfl (lv_at hl 1 rfl) ?_
  refine m_callP X hS (M_Items_holderOf l g hI hcc ad) v_BP_151 hI.1 rfl rfl rfl (Nat.le_of_ble_eq_true rfl) hl.1 d_BP_word_9 (by omega) (by decide) ⟨by omega, by omega⟩ (fun locs hS => ?_)
  refine m_callT X hS (T_BP_itemThere (y := (S, c, qd, fn, fl, rd)) (it := hof S ad c 0) l g hfl hb0 hni hBz) hZ v_BP_119 hB rfl rfl rfl (Nat.le_of_ble_eq_true rfl) hl.1 d_BP_word_12 (by omega) (by decide) ⟨by omega, by omega⟩ (fun q z => Or.inr z) (fun q ce H1 locs1 hfr hS hce hcv hcl => ?_)
  exact m_outT X hno hce hcv hcl hS (Nat.le_refl _) (Nat.le_refl _)
set_option maxRecDepth 100000 in
set_option maxHeartbeats 4000000 in
theorem T_BP_isCode (l : Launch) (g : GG) (hfl : l.stackTraces = false) {Bz : Nat} {B : Nat} {cnt : Nat → Nat} {f : Nat → Nat → Nat} {D : DT} {y : YS} {H0 : Heap} (hb : bAt g B cnt f D y H0) {ad : Int32} (hni : iaO y.2.1 (hof y.1 ad y.2.1 0) = none) (hBz : Bz ≤ H0.size) : MT l y_BP_isCode c_BP_isCode 2 (some .boolean) 7 Bz g H0 [.ref B, .int ad] R_IO := by
  refine MT.of (by decide +kernel) (Nat.le_of_ble_eq_true rfl) ?_
  intro p e s m below meth cd X hH hZ hno ls hl
  have X : CX g p s m _ meth cd c_BP_isCode 2 (some .boolean) R_BP _ := X
  have hl : lv_has ls 2 [(0, .ref B), (1, .int ad)] := hl
  have hS : va_S (AA noA H0) H0 H0 [] := va_S.rf
  have hb0 := hb
  obtain ⟨hB, hy, hqk, cnt2, f2, D2, y2, hO⟩ := hb
  obtain ⟨S, c, qd, fn, fl, rd⟩ := y
  obtain ⟨hA, hP, ⟨Qf, hQ⟩, ⟨ex, ef, em, hE⟩, hI, ⟨N, hN⟩, hs, hcc, hly, hlw, hhw⟩ := hy
  have hA : asAt g (B + 13) qd fn fl rd H0 := hA
  have hI : iAt g (B + 13 + 1) c S H0 := hI
  have hcc : c ≤ 121 := hcc
  have hni : iaO c (hof S ad c 0) = none := hni
  refine lv_aload_n X.x X.b d_BP_isCode_0 rfl (lv_at hl 0 rfl) ?_
  refine lv_aload_n X.x X.b d_BP_isCode_1 rfl (lv_at hl 0 rfl) ?_
  refine m_get (v := .ref (B + 13)) X ok_BP hB 1 (by decide) k_BP_23 rfl d_BP_isCode_2 ?_
  refine m_get (v := .ref (B + 13 + 1)) X ok_Assembly hA 0 (by decide) k_BP_147 rfl d_BP_isCode_5 ?_
  refine lv_iload_n X.x X.b d_BP_isCode_8 rfl (lv_at hl 1 rfl) ?_
  refine m_callP X hS (M_Items_holderOf l g hI hcc ad) v_BP_151 hI.1 rfl rfl rfl (Nat.le_of_ble_eq_true rfl) hl.1 d_BP_isCode_9 (by omega) (by decide) ⟨by omega, by omega⟩ (fun locs hS => ?_)
  refine m_callT X hS (T_BP_itemThere (y := (S, c, qd, fn, fl, rd)) (it := hof S ad c 0) l g hfl hb0 hni hBz) hZ v_BP_119 hB rfl rfl rfl (Nat.le_of_ble_eq_true rfl) hl.1 d_BP_isCode_12 (by omega) (by decide) ⟨by omega, by omega⟩ (fun q z => Or.inr z) (fun q ce H1 locs1 hfr hS hce hcv hcl => ?_)
  exact m_outT X hno hce hcv hcl hS (Nat.le_refl _) (Nat.le_refl _)
set_option maxRecDepth 100000 in
set_option maxHeartbeats 4000000 in
theorem T_BP_itemOf (l : Launch) (g : GG) (hfl : l.stackTraces = false) {Bz : Nat} {B : Nat} {cnt : Nat → Nat} {f : Nat → Nat → Nat} {D : DT} {y : YS} {H0 : Heap} (hb : bAt g B cnt f D y H0) {ad : Int32} (hk : hof y.1 ad y.2.1 0 = -1) (hBz : Bz ≤ H0.size) : MT l y_BP_itemOf c_BP_itemOf 3 (some .int) 6 Bz g H0 [.ref B, .int ad] R_IO := by
  refine MT.of (by decide +kernel) (Nat.le_of_ble_eq_true rfl) ?_
  intro p e s m below meth cd X hH hZ hno ls hl
  have X : CX g p s m _ meth cd c_BP_itemOf 3 (some .int) R_BP _ := X
  have hl : lv_has ls 3 [(0, .ref B), (1, .int ad)] := hl
  have hS : va_S (AA noA H0) H0 H0 [] := va_S.rf
  have hb0 := hb
  obtain ⟨hB, hy, hqk, cnt2, f2, D2, y2, hO⟩ := hb
  obtain ⟨S, c, qd, fn, fl, rd⟩ := y
  obtain ⟨hA, hP, ⟨Qf, hQ⟩, ⟨ex, ef, em, hE⟩, hI, ⟨N, hN⟩, hs, hcc, hly, hlw, hhw⟩ := hy
  have hA : asAt g (B + 13) qd fn fl rd H0 := hA
  have hI : iAt g (B + 13 + 1) c S H0 := hI
  have hcc : c ≤ 121 := hcc
  have hk : hof S ad c 0 = -1 := hk
  refine lv_aload_n X.x X.b d_BP_itemOf_0 rfl (lv_at hl 0 rfl) ?_
  refine m_get (v := .ref (B + 13)) X ok_BP hB 1 (by decide) k_BP_23 rfl d_BP_itemOf_1 ?_
  refine m_get (v := .ref (B + 13 + 1)) X ok_Assembly hA 0 (by decide) k_BP_147 rfl d_BP_itemOf_4 ?_
  refine lv_iload_n X.x X.b d_BP_itemOf_7 rfl (lv_at hl 1 rfl) ?_
  refine m_callP X hS (M_Items_holderOf l g hI hcc ad) v_BP_151 hI.1 rfl rfl rfl (Nat.le_of_ble_eq_true rfl) hl.1 d_BP_itemOf_8 (by omega) (by decide) ⟨by omega, by omega⟩ (fun locs hS => ?_)
  refine lv_istore_n (lv' := [(2, .int (hof S ad c 0)), (0, .ref B), (1, .int ad)]) X.x X.b d_BP_itemOf_11 rfl hl (by decide) rfl (fun ls hl => ?_)
  refine lv_iload_n X.x X.b d_BP_itemOf_12 rfl (lv_at hl 0 rfl) ?_
  refine lv_iconst (v := -1) X.x X.b d_BP_itemOf_13 (by decide) ?_
  refine lv_icmp_ne (tgt := 27) X.x X.b d_BP_itemOf_14 (by decide) (fun c1 => ?_) (fun c1 => ?_)
  · exact absurd hk c1
  · skip
    exact m_throw (is := 160) (text := "no such word") X hfl xok_IO (by decide) hH hZ hBz hno hS hl.1 d_BP_itemOf_17 d_BP_itemOf_20 d_BP_itemOf_21 d_BP_itemOf_23 d_BP_itemOf_26 (by omega) (by decide)
set_option maxRecDepth 100000 in
set_option maxHeartbeats 4000000 in
theorem T_BP_value_f (l : Launch) (g : GG) (hfl : l.stackTraces = false) {Bz : Nat} {B : Nat} {cnt : Nat → Nat} {f : Nat → Nat → Nat} {D : DT} {y : YS} {H0 : Heap} (hb : bAt g B cnt f D y H0) {x : Int32} (hf : ¬ y.2.2.2.1 = 0) (hBz : Bz ≤ H0.size) : MT l y_BP_value c_BP_value 3 (some .int) 6 Bz g H0 [.ref B, .int x] R_IO := by
  refine MT.of (by decide +kernel) (Nat.le_of_ble_eq_true rfl) ?_
  intro p e s m below meth cd X hH hZ hno ls hl
  have X : CX g p s m _ meth cd c_BP_value 3 (some .int) R_BP _ := X
  have hl : lv_has ls 3 [(0, .ref B), (1, .int x)] := hl
  have hS : va_S (AA noA H0) H0 H0 [] := va_S.rf
  have hb0 := hb
  obtain ⟨hB, hy, hqk, cnt2, f2, D2, y2, hO⟩ := hb
  obtain ⟨S, c, qd, fn, fl, rd⟩ := y
  obtain ⟨hA, hP, ⟨Qf, hQ⟩, ⟨ex, ef, em, hE⟩, hI, ⟨N, hN⟩, hs, hcc, hly, hlw, hhw⟩ := hy
  have hA : asAt g (B + 13) qd fn fl rd H0 := hA
  have hI : iAt g (B + 13 + 1) c S H0 := hI
  have hcc : c ≤ 121 := hcc
  have hf : ¬ fn = 0 := hf
  refine lv_aload_n X.x X.b d_BP_value_0 rfl (lv_at hl 0 rfl) ?_
  refine m_get (v := .ref (B + 13)) X ok_BP hB 1 (by decide) k_BP_23 rfl d_BP_value_1 ?_
  refine m_get (v := .int fn) X ok_Assembly hA 5 (by decide) k_BP_113 rfl d_BP_value_4 ?_
  refine lv_if_eq (tgt := 20) X.x X.b d_BP_value_7 (by decide) (fun c1 => ?_) (fun c1 => ?_)
  · exact absurd c1 hf
  · skip
    exact m_throw (is := 162) (text := "there is a FAULT") X hfl xok_IO (by decide) hH hZ hBz hno hS hl.1 d_BP_value_10 d_BP_value_13 d_BP_value_14 d_BP_value_16 d_BP_value_19 (by omega) (by decide)
set_option maxRecDepth 100000 in
set_option maxHeartbeats 4000000 in
theorem T_BP_value (l : Launch) (g : GG) (hfl : l.stackTraces = false) {Bz : Nat} {B : Nat} {cnt : Nat → Nat} {f : Nat → Nat → Nat} {D : DT} {y : YS} {H0 : Heap} (hb : bAt g B cnt f D y H0) {x : Int32} (hf : y.2.2.2.1 = 0) (hx : x < 0 ∨ ¬ x < 8) (hBz : Bz ≤ H0.size) : MT l y_BP_value c_BP_value 3 (some .int) 6 Bz g H0 [.ref B, .int x] R_IO := by
  refine MT.of (by decide +kernel) (Nat.le_of_ble_eq_true rfl) ?_
  intro p e s m below meth cd X hH hZ hno ls hl
  have X : CX g p s m _ meth cd c_BP_value 3 (some .int) R_BP _ := X
  have hl : lv_has ls 3 [(0, .ref B), (1, .int x)] := hl
  have hS : va_S (AA noA H0) H0 H0 [] := va_S.rf
  have hb0 := hb
  obtain ⟨hB, hy, hqk, cnt2, f2, D2, y2, hO⟩ := hb
  obtain ⟨S, c, qd, fn, fl, rd⟩ := y
  obtain ⟨hA, hP, ⟨Qf, hQ⟩, ⟨ex, ef, em, hE⟩, hI, ⟨N, hN⟩, hs, hcc, hly, hlw, hhw⟩ := hy
  have hA : asAt g (B + 13) qd fn fl rd H0 := hA
  have hI : iAt g (B + 13 + 1) c S H0 := hI
  have hcc : c ≤ 121 := hcc
  have hf : fn = 0 := hf
  refine lv_aload_n X.x X.b d_BP_value_0 rfl (lv_at hl 0 rfl) ?_
  refine m_get (v := .ref (B + 13)) X ok_BP hB 1 (by decide) k_BP_23 rfl d_BP_value_1 ?_
  refine m_get (v := .int fn) X ok_Assembly hA 5 (by decide) k_BP_113 rfl d_BP_value_4 ?_
  refine lv_if_eq (tgt := 20) X.x X.b d_BP_value_7 (by decide) (fun c1 => ?_) (fun c1 => ?_)
  · skip
    refine lv_iload_n X.x X.b d_BP_value_20 rfl (lv_at hl 1 rfl) ?_
    refine lv_if_lt (tgt := 30) X.x X.b d_BP_value_21 (by decide) (fun c2 => ?_) (fun c2 => ?_)
    · skip
      have c2q := Int32.not_le.mpr c2
      exact m_throw (is := 164) (text := "no such NAME") X hfl xok_IO (by decide) hH hZ hBz hno hS hl.1 d_BP_value_30 d_BP_value_33 d_BP_value_34 d_BP_value_36 d_BP_value_39 (by omega) (by decide)
    · skip
      have c2q := Int32.not_lt.mp c2
      refine lv_iload_n X.x X.b d_BP_value_24 rfl (lv_at hl 1 rfl) ?_
      refine lv_bipush (v := 8) X.x X.b d_BP_value_25 (by decide) ?_
      refine lv_icmp_lt (tgt := 40) X.x X.b d_BP_value_27 (by decide) (fun c3 => ?_) (fun c3 => ?_)
      · exact hx.elim (fun z => absurd z (by assumption)) (fun z => absurd c3 z)
      · skip
        have c3q := Int32.not_lt.mp c3
        exact m_throw (is := 164) (text := "no such NAME") X hfl xok_IO (by decide) hH hZ hBz hno hS hl.1 d_BP_value_30 d_BP_value_33 d_BP_value_34 d_BP_value_36 d_BP_value_39 (by omega) (by decide)
  · exact absurd hf c1
set_option maxRecDepth 100000 in
set_option maxHeartbeats 4000000 in
theorem T_BP_many (l : Launch) (g : GG) (hfl : l.stackTraces = false) {Bz : Nat} {B : Nat} {cnt : Nat → Nat} {f : Nat → Nat → Nat} {D : DT} {y : YS} {H0 : Heap} (hb : bAt g B cnt f D y H0) {wt : Int32} (hw : wt < 0 ∨ ¬ wt ≤ 11) (hBz : Bz ≤ H0.size) : MT l y_BP_many c_BP_many 2 (some .int) 6 Bz g H0 [.ref B, .int wt] R_IA := by
  refine MT.of (by decide +kernel) (Nat.le_of_ble_eq_true rfl) ?_
  intro p e s m below meth cd X hH hZ hno ls hl
  have X : CX g p s m _ meth cd c_BP_many 2 (some .int) R_BP _ := X
  have hl : lv_has ls 2 [(0, .ref B), (1, .int wt)] := hl
  have hS : va_S (AA noA H0) H0 H0 [] := va_S.rf
  have hb0 := hb
  obtain ⟨hB, hy, hqk, cnt2, f2, D2, y2, hO⟩ := hb
  obtain ⟨S, c, qd, fn, fl, rd⟩ := y
  obtain ⟨hA, hP, ⟨Qf, hQ⟩, ⟨ex, ef, em, hE⟩, hI, ⟨N, hN⟩, hs, hcc, hly, hlw, hhw⟩ := hy
  have hA : asAt g (B + 13) qd fn fl rd H0 := hA
  have hI : iAt g (B + 13 + 1) c S H0 := hI
  have hcc : c ≤ 121 := hcc
  refine lv_iload_n X.x X.b d_BP_many_0 rfl (lv_at hl 1 rfl) ?_
  refine lv_if_lt (tgt := 10) X.x X.b d_BP_many_1 (by decide) (fun c1 => ?_) (fun c1 => ?_)
  · skip
    have c1q := Int32.not_le.mpr c1
    exact m_throw (is := 176) (text := "what is not 0 to 11") X hfl xok_IA (by decide) hH hZ hBz hno hS hl.1 d_BP_many_10 d_BP_many_13 d_BP_many_14 d_BP_many_16 d_BP_many_19 (by omega) (by decide)
  · skip
    have c1q := Int32.not_lt.mp c1
    refine lv_iload_n X.x X.b d_BP_many_4 rfl (lv_at hl 1 rfl) ?_
    refine lv_bipush (v := 11) X.x X.b d_BP_many_5 (by decide) ?_
    refine lv_icmp_le (tgt := 20) X.x X.b d_BP_many_7 (by decide) (fun c2 => ?_) (fun c2 => ?_)
    · exact hw.elim (fun z => absurd z (by assumption)) (fun z => absurd c2 z)
    · skip
      have c2q := Int32.not_le.mp c2
      exact m_throw (is := 176) (text := "what is not 0 to 11") X hfl xok_IA (by decide) hH hZ hBz hno hS hl.1 d_BP_many_10 d_BP_many_13 d_BP_many_14 d_BP_many_16 d_BP_many_19 (by omega) (by decide)
set_option maxRecDepth 100000 in
set_option maxHeartbeats 4000000 in
theorem T_BP_wordsWithout (l : Launch) (g : GG) (hfl : l.stackTraces = false) {Bz : Nat} {B : Nat} {cnt : Nat → Nat} {f : Nat → Nat → Nat} {D : DT} {y : YS} {H0 : Heap} (hb : bAt g B cnt f D y H0) {row t : Int32} (hnl : ¬ lIn cnt row t) (hBz : Bz ≤ H0.size) : MT l y_BP_wordsWithout c_BP_wordsWithout 3 (some .int) 6 Bz g H0 [.ref B, .int row, .int t] R_IO := by
  refine MT.of (by decide +kernel) (Nat.le_of_ble_eq_true rfl) ?_
  intro p e s m below meth cd X hH hZ hno ls hl
  have X : CX g p s m _ meth cd c_BP_wordsWithout 3 (some .int) R_BP _ := X
  have hl : lv_has ls 3 [(0, .ref B), (1, .int row), (2, .int t)] := hl
  have hS : va_S (AA noA H0) H0 H0 [] := va_S.rf
  have hb0 := hb
  obtain ⟨hB, hy, hqk, cnt2, f2, D2, y2, hO⟩ := hb
  obtain ⟨S, c, qd, fn, fl, rd⟩ := y
  obtain ⟨hA, hP, ⟨Qf, hQ⟩, ⟨ex, ef, em, hE⟩, hI, ⟨N, hN⟩, hs, hcc, hly, hlw, hhw⟩ := hy
  have hA : asAt g (B + 13) qd fn fl rd H0 := hA
  have hI : iAt g (B + 13 + 1) c S H0 := hI
  have hcc : c ≤ 121 := hcc
  refine lv_aload_n X.x X.b d_BP_wordsWithout_0 rfl (lv_at hl 0 rfl) ?_
  refine m_get (v := .ref (B + 1)) X ok_BP hB 0 (by decide) k_BP_14 rfl d_BP_wordsWithout_1 ?_
  refine lv_iload_n X.x X.b d_BP_wordsWithout_4 rfl (lv_at hl 1 rfl) ?_
  refine lv_iload_n X.x X.b d_BP_wordsWithout_5 rfl (lv_at hl 2 rfl) ?_
  refine m_callP X hS (M_Source_hasLine l g hs row t) v_BP_88 hs.1 rfl rfl rfl (Nat.le_of_ble_eq_true rfl) hl.1 d_BP_wordsWithout_6 (by omega) (by decide) ⟨by omega, by omega⟩ (fun locs hS => ?_)
  refine lv_if_ne (tgt := 22) X.x X.b d_BP_wordsWithout_9 (by decide) (fun c1 => ?_) (fun c1 => ?_)
  · exact absurd (b2i_n0 c1) hnl
  · skip
    have c1 := b2i_0.mp c1
    exact m_throw (is := 92) (text := "no such LINE") X hfl xok_IO (by decide) hH hZ hBz hno hS hl.1 d_BP_wordsWithout_12 d_BP_wordsWithout_15 d_BP_wordsWithout_16 d_BP_wordsWithout_18 d_BP_wordsWithout_21 (by omega) (by decide)
set_option maxRecDepth 100000 in
set_option maxHeartbeats 4000000 in
theorem T_BP_wordsWith (l : Launch) (g : GG) (hfl : l.stackTraces = false) {Bz : Nat} {B : Nat} {cnt : Nat → Nat} {f : Nat → Nat → Nat} {D : DT} {y : YS} {H0 : Heap} (hb : bAt g B cnt f D y H0) {row t n : Int32} (hnl : ¬ lIn cnt row t) (hBz : Bz ≤ H0.size) : MT l y_BP_wordsWith c_BP_wordsWith 5 (some .int) 7 Bz g H0 [.ref B, .int row, .int t, .int n] R_IO := by
  refine MT.of (by decide +kernel) (Nat.le_of_ble_eq_true rfl) ?_
  intro p e s m below meth cd X hH hZ hno ls hl
  have X : CX g p s m _ meth cd c_BP_wordsWith 5 (some .int) R_BP _ := X
  have hl : lv_has ls 5 [(0, .ref B), (1, .int row), (2, .int t), (3, .int n)] := hl
  have hS : va_S (AA noA H0) H0 H0 [] := va_S.rf
  have hb0 := hb
  obtain ⟨hB, hy, hqk, cnt2, f2, D2, y2, hO⟩ := hb
  obtain ⟨S, c, qd, fn, fl, rd⟩ := y
  obtain ⟨hA, hP, ⟨Qf, hQ⟩, ⟨ex, ef, em, hE⟩, hI, ⟨N, hN⟩, hs, hcc, hly, hlw, hhw⟩ := hy
  have hA : asAt g (B + 13) qd fn fl rd H0 := hA
  have hI : iAt g (B + 13 + 1) c S H0 := hI
  have hcc : c ≤ 121 := hcc
  refine lv_aload_n X.x X.b d_BP_wordsWith_0 rfl (lv_at hl 0 rfl) ?_
  refine lv_iload_n X.x X.b d_BP_wordsWith_1 rfl (lv_at hl 1 rfl) ?_
  refine lv_iload_n X.x X.b d_BP_wordsWith_2 rfl (lv_at hl 2 rfl) ?_
  refine m_callT X hS (T_BP_lineThere l g hfl hb0 hnl hBz) hZ v_BP_77 hB rfl rfl rfl (Nat.le_of_ble_eq_true rfl) hl.1 d_BP_wordsWith_3 (by omega) (by decide) ⟨by omega, by omega⟩ (fun q z => Or.inr z) (fun q ce H1 locs1 hfr hS hce hcv hcl => ?_)
  exact m_outT X hno hce hcv hcl hS (Nat.le_refl _) (Nat.le_refl _)
set_option maxRecDepth 100000 in
set_option maxHeartbeats 4000000 in
theorem T_BP_distance_IO (l : Launch) (g : GG) (hfl : l.stackTraces = false) {Bz : Nat} {B : Nat} {cnt : Nat → Nat} {f : Nat → Nat → Nat} {D : DT} {y : YS} {H0 : Heap} (hb : bAt g B cnt f D y H0) {it : Int32} (hni : iaO y.2.1 it = none) (hBz : Bz ≤ H0.size) : MT l y_BP_distance c_BP_distance 3 (some .int) 7 Bz g H0 [.ref B, .int it] R_IO := by
  refine MT.of (by decide +kernel) (Nat.le_of_ble_eq_true rfl) ?_
  intro p e s m below meth cd X hH hZ hno ls hl
  have X : CX g p s m _ meth cd c_BP_distance 3 (some .int) R_BP _ := X
  have hl : lv_has ls 3 [(0, .ref B), (1, .int it)] := hl
  have hS : va_S (AA noA H0) H0 H0 [] := va_S.rf
  have hb0 := hb
  obtain ⟨hB, hy, hqk, cnt2, f2, D2, y2, hO⟩ := hb
  obtain ⟨S, c, qd, fn, fl, rd⟩ := y
  obtain ⟨hA, hP, ⟨Qf, hQ⟩, ⟨ex, ef, em, hE⟩, hI, ⟨N, hN⟩, hs, hcc, hly, hlw, hhw⟩ := hy
  have hA : asAt g (B + 13) qd fn fl rd H0 := hA
  have hI : iAt g (B + 13 + 1) c S H0 := hI
  have hcc : c ≤ 121 := hcc
  have hni : iaO c it = none := hni
  refine lv_aload_n X.x X.b d_BP_distance_0 rfl (lv_at hl 0 rfl) ?_
  refine lv_iload_n X.x X.b d_BP_distance_1 rfl (lv_at hl 1 rfl) ?_
  refine m_callT X hS (T_BP_itemThere (y := (S, c, qd, fn, fl, rd)) (it := it) l g hfl hb0 hni hBz) hZ v_BP_119 hB rfl rfl rfl (Nat.le_of_ble_eq_true rfl) hl.1 d_BP_distance_2 (by omega) (by decide) ⟨by omega, by omega⟩ (fun q z => Or.inr z) (fun q ce H1 locs1 hfr hS hce hcv hcl => ?_)
  exact m_outT X hno hce hcv hcl hS (Nat.le_refl _) (Nat.le_refl _)
set_option maxRecDepth 100000 in
set_option maxHeartbeats 4000000 in
theorem T_BP_longBy_IO (l : Launch) (g : GG) (hfl : l.stackTraces = false) {Bz : Nat} {B : Nat} {cnt : Nat → Nat} {f : Nat → Nat → Nat} {D : DT} {y : YS} {H0 : Heap} (hb : bAt g B cnt f D y H0) {t k : Int32} (ht : t < 0 ∨ ¬ t ≤ ctF cnt 0) (hBz : Bz ≤ H0.size) : MT l y_BP_longBy c_BP_longBy 5 (some .int) 6 Bz g H0 [.ref B, .int t, .int k] R_IO := by
  refine MT.of (by decide +kernel) (Nat.le_of_ble_eq_true rfl) ?_
  intro p e s m below meth cd X hH hZ hno ls hl
  have X : CX g p s m _ meth cd c_BP_longBy 5 (some .int) R_BP _ := X
  have hl : lv_has ls 5 [(0, .ref B), (1, .int t), (2, .int k)] := hl
  have hS : va_S (AA noA H0) H0 H0 [] := va_S.rf
  have hb0 := hb
  obtain ⟨hB, hy, hqk, cnt2, f2, D2, y2, hO⟩ := hb
  obtain ⟨S, c, qd, fn, fl, rd⟩ := y
  obtain ⟨hA, hP, ⟨Qf, hQ⟩, ⟨ex, ef, em, hE⟩, hI, ⟨N, hN⟩, hs, hcc, hly, hlw, hhw⟩ := hy
  have hA : asAt g (B + 13) qd fn fl rd H0 := hA
  have hI : iAt g (B + 13 + 1) c S H0 := hI
  have hcc : c ≤ 121 := hcc
  refine lv_iload_n X.x X.b d_BP_longBy_0 rfl (lv_at hl 1 rfl) ?_
  refine lv_if_lt (tgt := 16) X.x X.b d_BP_longBy_1 (by decide) (fun c1 => ?_) (fun c1 => ?_)
  · skip
    have c1q := Int32.not_le.mpr c1
    exact m_throw (is := 92) (text := "no such LINE") X hfl xok_IO (by decide) hH hZ hBz hno hS hl.1 d_BP_longBy_16 d_BP_longBy_19 d_BP_longBy_20 d_BP_longBy_22 d_BP_longBy_25 (by omega) (by decide)
  · skip
    have c1q := Int32.not_lt.mp c1
    refine lv_iload_n X.x X.b d_BP_longBy_4 rfl (lv_at hl 1 rfl) ?_
    refine lv_aload_n X.x X.b d_BP_longBy_5 rfl (lv_at hl 0 rfl) ?_
    refine m_get (v := .ref (B + 1)) X ok_BP hB 0 (by decide) k_BP_14 rfl d_BP_longBy_6 ?_
    refine lv_iconst (v := 0) X.x X.b d_BP_longBy_9 (by decide) ?_
    refine m_callP X hS (M_Source_countOf l g hs 0) v_BP_66 hs.1 rfl rfl rfl (Nat.le_of_ble_eq_true rfl) hl.1 d_BP_longBy_10 (by omega) (by decide) ⟨by omega, by omega⟩ (fun locs hS => ?_)
    refine lv_icmp_le (tgt := 26) X.x X.b d_BP_longBy_13 (by decide) (fun c2 => ?_) (fun c2 => ?_)
    · exact ht.elim (fun z => absurd z (by assumption)) (fun z => absurd c2 z)
    · skip
      have c2q := Int32.not_le.mp c2
      exact m_throw (is := 92) (text := "no such LINE") X hfl xok_IO (by decide) hH hZ hBz hno hS hl.1 d_BP_longBy_16 d_BP_longBy_19 d_BP_longBy_20 d_BP_longBy_22 d_BP_longBy_25 (by omega) (by decide)
set_option maxRecDepth 100000 in
set_option maxHeartbeats 4000000 in
theorem T_BP_longBy_IA (l : Launch) (g : GG) (hfl : l.stackTraces = false) {Bz : Nat} {B : Nat} {cnt : Nat → Nat} {f : Nat → Nat → Nat} {D : DT} {y : YS} {H0 : Heap} (hb : bAt g B cnt f D y H0) {t k : Int32} (ht : ¬ t < 0) (ht2 : t ≤ ctF cnt 0) (hk : k < 1 ∨ ¬ k ≤ 20) (hBz : Bz ≤ H0.size) : MT l y_BP_longBy c_BP_longBy 5 (some .int) 6 Bz g H0 [.ref B, .int t, .int k] R_IA := by
  refine MT.of (by decide +kernel) (Nat.le_of_ble_eq_true rfl) ?_
  intro p e s m below meth cd X hH hZ hno ls hl
  have X : CX g p s m _ meth cd c_BP_longBy 5 (some .int) R_BP _ := X
  have hl : lv_has ls 5 [(0, .ref B), (1, .int t), (2, .int k)] := hl
  have hS : va_S (AA noA H0) H0 H0 [] := va_S.rf
  have hb0 := hb
  obtain ⟨hB, hy, hqk, cnt2, f2, D2, y2, hO⟩ := hb
  obtain ⟨S, c, qd, fn, fl, rd⟩ := y
  obtain ⟨hA, hP, ⟨Qf, hQ⟩, ⟨ex, ef, em, hE⟩, hI, ⟨N, hN⟩, hs, hcc, hly, hlw, hhw⟩ := hy
  have hA : asAt g (B + 13) qd fn fl rd H0 := hA
  have hI : iAt g (B + 13 + 1) c S H0 := hI
  have hcc : c ≤ 121 := hcc
  refine lv_iload_n X.x X.b d_BP_longBy_0 rfl (lv_at hl 1 rfl) ?_
  refine lv_if_lt (tgt := 16) X.x X.b d_BP_longBy_1 (by decide) (fun c1 => ?_) (fun c1 => ?_)
  · exact absurd c1 ht
  · skip
    have c1q := Int32.not_lt.mp c1
    refine lv_iload_n X.x X.b d_BP_longBy_4 rfl (lv_at hl 1 rfl) ?_
    refine lv_aload_n X.x X.b d_BP_longBy_5 rfl (lv_at hl 0 rfl) ?_
    refine m_get (v := .ref (B + 1)) X ok_BP hB 0 (by decide) k_BP_14 rfl d_BP_longBy_6 ?_
    refine lv_iconst (v := 0) X.x X.b d_BP_longBy_9 (by decide) ?_
    refine m_callP X hS (M_Source_countOf l g hs 0) v_BP_66 hs.1 rfl rfl rfl (Nat.le_of_ble_eq_true rfl) hl.1 d_BP_longBy_10 (by omega) (by decide) ⟨by omega, by omega⟩ (fun locs hS => ?_)
    refine lv_icmp_le (tgt := 26) X.x X.b d_BP_longBy_13 (by decide) (fun c2 => ?_) (fun c2 => ?_)
    · skip
      have c2q := Int32.not_lt.mpr c2
      refine lv_iload_n X.x X.b d_BP_longBy_26 rfl (lv_at hl 2 rfl) ?_
      refine lv_iconst (v := 1) X.x X.b d_BP_longBy_27 (by decide) ?_
      refine lv_icmp_lt (tgt := 37) X.x X.b d_BP_longBy_28 (by decide) (fun c3 => ?_) (fun c3 => ?_)
      · skip
        have c3q := Int32.not_le.mpr c3
        exact m_throw (is := 211) (text := "many is not 1 to 20") X hfl xok_IA (by decide) hH hZ hBz hno hS hl.1 d_BP_longBy_37 d_BP_longBy_40 d_BP_longBy_41 d_BP_longBy_43 d_BP_longBy_46 (by omega) (by decide)
      · skip
        have c3q := Int32.not_lt.mp c3
        refine lv_iload_n X.x X.b d_BP_longBy_31 rfl (lv_at hl 2 rfl) ?_
        refine lv_bipush (v := 20) X.x X.b d_BP_longBy_32 (by decide) ?_
        refine lv_icmp_le (tgt := 47) X.x X.b d_BP_longBy_34 (by decide) (fun c4 => ?_) (fun c4 => ?_)
        · exact hk.elim (fun z => absurd z (by assumption)) (fun z => absurd c4 z)
        · skip
          have c4q := Int32.not_le.mp c4
          exact m_throw (is := 211) (text := "many is not 1 to 20") X hfl xok_IA (by decide) hH hZ hBz hno hS hl.1 d_BP_longBy_37 d_BP_longBy_40 d_BP_longBy_41 d_BP_longBy_43 d_BP_longBy_46 (by omega) (by decide)
    · exact absurd ht2 c2
set_option maxRecDepth 100000 in
set_option maxHeartbeats 4000000 in
theorem T_BP_distance_nb (l : Launch) (g : GG) (hfl : l.stackTraces = false) {Bz : Nat} {B : Nat} {cnt : Nat → Nat} {f : Nat → Nat → Nat} {D : DT} {y : YS} {H0 : Heap} (hb : bAt g B cnt f D y H0) {it : Int32} {j : Nat} (hk : iaO y.2.1 it = some j) (hbr : ¬ brF y.1 j) (hBz : Bz ≤ H0.size) : MT l y_BP_distance c_BP_distance 3 (some .int) 6 Bz g H0 [.ref B, .int it] R_IO := by
  refine MT.of (by decide +kernel) (Nat.le_of_ble_eq_true rfl) ?_
  intro p e s m below meth cd X hH hZ hno ls hl
  have X : CX g p s m _ meth cd c_BP_distance 3 (some .int) R_BP _ := X
  have hl : lv_has ls 3 [(0, .ref B), (1, .int it)] := hl
  have hS : va_S (AA noA H0) H0 H0 [] := va_S.rf
  have hb0 := hb
  obtain ⟨hB, hy, hqk, cnt2, f2, D2, y2, hO⟩ := hb
  obtain ⟨S, c, qd, fn, fl, rd⟩ := y
  obtain ⟨hA, hP, ⟨Qf, hQ⟩, ⟨ex, ef, em, hE⟩, hI, ⟨N, hN⟩, hs, hcc, hly, hlw, hhw⟩ := hy
  have hA : asAt g (B + 13) qd fn fl rd H0 := hA
  have hI : iAt g (B + 13 + 1) c S H0 := hI
  have hcc : c ≤ 121 := hcc
  have hk : iaO c it = some j := hk
  have hj : j < 121 := Nat.lt_of_lt_of_le (iaO_lt hk (by omega)) hcc
  have hbr : ¬ brF S j := hbr
  refine lv_aload_n X.x X.b d_BP_distance_0 rfl (lv_at hl 0 rfl) ?_
  refine lv_iload_n X.x X.b d_BP_distance_1 rfl (lv_at hl 1 rfl) ?_
  have hR := M_BP_itemThere (y := (S, c, qd, fn, fl, rd)) (it := it) (j := j) l g hb0 hk
  refine m_callP X hS hR v_BP_119 hB rfl rfl rfl (Nat.le_of_ble_eq_true rfl) hl.1 d_BP_distance_2 (by omega) (by decide) ⟨by omega, by omega⟩ (fun locs hS => ?_)
  refine lv_astore_n (lv' := [(2, .ref (B + 13 + 1 + 2 + j)), (0, .ref B), (1, .int it)]) X.x X.b d_BP_distance_5 rfl hl (by decide) rfl (fun ls hl => ?_)
  refine lv_aload_n X.x X.b d_BP_distance_6 rfl (lv_at hl 0 rfl) ?_
  refine m_callP X hS (M_Item_isBranch l g hI hj) v_BP_199 (hI.2.2.1 j hj) rfl rfl rfl (Nat.le_of_ble_eq_true rfl) hl.1 d_BP_distance_7 (by omega) (by decide) ⟨by omega, by omega⟩ (fun locs hS => ?_)
  refine lv_if_ne (tgt := 23) X.x X.b d_BP_distance_10 (by decide) (fun c1 => ?_) (fun c1 => ?_)
  · exact absurd (b2i_n0 c1) hbr
  · skip
    have c1 := b2i_0.mp c1
    exact m_throw (is := 203) (text := "no such JUMP or IF") X hfl xok_IO (by decide) hH hZ hBz hno hS hl.1 d_BP_distance_13 d_BP_distance_16 d_BP_distance_17 d_BP_distance_19 d_BP_distance_22 (by omega) (by decide)
set_option maxRecDepth 100000 in
set_option maxHeartbeats 4000000 in
theorem T_BP_ofItem_IA (l : Launch) (g : GG) (hfl : l.stackTraces = false) {Bz : Nat} {B : Nat} {cnt : Nat → Nat} {f : Nat → Nat → Nat} {D : DT} {y : YS} {H0 : Heap} (hb : bAt g B cnt f D y H0) {it wt : Int32} {j : Nat} (hk : iaO y.2.1 it = some j) (hw : ¬ wt = 0 ∧ ¬ wt = 1 ∧ ¬ wt = 2 ∧ ¬ wt = 3 ∧ ¬ wt = 4 ∧ ¬ wt = 5 ∧ ¬ wt = 6 ∧ ¬ wt = 7) (hBz : Bz ≤ H0.size) : MT l y_BP_ofItem c_BP_ofItem 4 (some .int) 6 Bz g H0 [.ref B, .int it, .int wt] R_IA := by
  refine MT.of (by decide +kernel) (Nat.le_of_ble_eq_true rfl) ?_
  intro p e s m below meth cd X hH hZ hno ls hl
  have X : CX g p s m _ meth cd c_BP_ofItem 4 (some .int) R_BP _ := X
  have hl : lv_has ls 4 [(0, .ref B), (1, .int it), (2, .int wt)] := hl
  have hS : va_S (AA noA H0) H0 H0 [] := va_S.rf
  have hb0 := hb
  obtain ⟨hB, hy, hqk, cnt2, f2, D2, y2, hO⟩ := hb
  obtain ⟨S, c, qd, fn, fl, rd⟩ := y
  obtain ⟨hA, hP, ⟨Qf, hQ⟩, ⟨ex, ef, em, hE⟩, hI, ⟨N, hN⟩, hs, hcc, hly, hlw, hhw⟩ := hy
  have hA : asAt g (B + 13) qd fn fl rd H0 := hA
  have hI : iAt g (B + 13 + 1) c S H0 := hI
  have hcc : c ≤ 121 := hcc
  have hk : iaO c it = some j := hk
  have hj : j < 121 := Nat.lt_of_lt_of_le (iaO_lt hk (by omega)) hcc
  refine lv_aload_n X.x X.b d_BP_ofItem_0 rfl (lv_at hl 0 rfl) ?_
  refine lv_iload_n X.x X.b d_BP_ofItem_1 rfl (lv_at hl 1 rfl) ?_
  have hR := M_BP_itemThere (y := (S, c, qd, fn, fl, rd)) (it := it) (j := j) l g hb0 hk
  refine m_callP X hS hR v_BP_119 hB rfl rfl rfl (Nat.le_of_ble_eq_true rfl) hl.1 d_BP_ofItem_2 (by omega) (by decide) ⟨by omega, by omega⟩ (fun locs hS => ?_)
  refine lv_astore_n (lv' := [(3, .ref (B + 13 + 1 + 2 + j)), (0, .ref B), (1, .int it), (2, .int wt)]) X.x X.b d_BP_ofItem_5 rfl hl (by decide) rfl (fun ls hl => ?_)
  refine lv_iload_n X.x X.b d_BP_ofItem_6 rfl (lv_at hl 3 rfl) ?_
  by_cases k1 : wt = 0
  · exact absurd k1 (by simp [hw])
  by_cases k2 : wt = 1
  · exact absurd k2 (by simp [hw])
  by_cases k3 : wt = 2
  · exact absurd k3 (by simp [hw])
  by_cases k4 : wt = 3
  · exact absurd k4 (by simp [hw])
  by_cases k5 : wt = 4
  · exact absurd k5 (by simp [hw])
  by_cases k6 : wt = 5
  · exact absurd k6 (by simp [hw])
  by_cases k7 : wt = 6
  · exact absurd k7 (by simp [hw])
  by_cases k8 : wt = 7
  · exact absurd k8 (by simp [hw])
  refine lv_tableOut (tgt := 108) X.x X.b d_BP_ofItem_7 (by have := ne_toInt (k := 0) 0 (by decide) k1; have := ne_toInt (k := 1) 1 (by decide) k2; have := ne_toInt (k := 2) 2 (by decide) k3; have := ne_toInt (k := 3) 3 (by decide) k4; have := ne_toInt (k := 4) 4 (by decide) k5; have := ne_toInt (k := 5) 5 (by decide) k6; have := ne_toInt (k := 6) 6 (by decide) k7; have := ne_toInt (k := 7) 7 (by decide) k8; omega) (by decide) ?_
  exact m_throw (is := 145) (text := "what is not 0 to 7") X hfl xok_IA (by decide) hH hZ hBz hno hS hl.1 d_BP_ofItem_108 d_BP_ofItem_111 d_BP_ofItem_112 d_BP_ofItem_114 d_BP_ofItem_117 (by omega) (by decide)
