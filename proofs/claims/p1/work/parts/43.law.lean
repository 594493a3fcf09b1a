-- THE LAW'S METHODS THAT CATCH
section LAST
variable {g : GG} {p : Program} {l : Launch} {e : Env} {R : Room} {s : State} {m : MethodId} {args : Array Value} {below : List Frame} {meth : Method} {c : Code} {H : Heap} {locs : List Loc} {cells slots : Nat} {Q : State → Prop}
variable {cc : ByteArray} {nL : Nat} {ret : Option FieldType} {own nm : String} {pc : Nat} {ls : Array Slot} {rest : List Value} {a : Nat}
theorem m_last (X : CX g p s m args meth c cc nL ret own nm) {A : Nat → Prop} {H0 : Heap} (hS : va_S A H0 H locs) (hA : A a) {n : Nat} {f : Nat → Int64} (q : pt g a (.inl (g.2 5, n, .inr (.inl f))) H) {i : Int32} {x : Int64} (hin : vp_in i n) (hdg : decode cc pc = .ok (.lastore, 1))
    (kk : ∀ (H1 : Heap) (locs1 : List Loc), pt g a (.inl (g.2 5, n, .inr (.inl (vp_updL f i.toNatClampNeg x)))) H1 → chg a H H1 → va_S A H0 H1 locs1 → W p l e R s m args below meth c H1 locs1 cells slots Q (F0 m (pc + 1) ls rest)) : W p l e R s m args below meth c H locs cells slots Q (F0 m pc ls (.long x :: .int i :: .ref a :: rest)) := by
  refine W.last X.x X.b q ((X.K.2 5 _ rfl).1 n (fun j => .long (f j))) (fun q => by cases q) (by show ¬ (i < 0 ∨ (arrV _ _ _).slots.size ≤ _); rw [arrV_size]; exact hin) rfl rfl hdg fun H1 e z oq => ?_
  refine kk H1 _ ?_ ⟨z, oq⟩ (hS.put z oq hA)
  show H1[a]? = some (vp_cell _ _)
  rw [e, vp_cell_l, vp_cell_l, arrV_store]
  congr 2
  funext q
  by_cases hq : q = i.toNatClampNeg
  · subst hq
    simp [updV, vp_updL]
  · simp [updV, vp_updL, hq]
end LAST
/-- the law's row of one long, and what stands there -/
abbrev ouAt (g : GG) (oq : Nat) (f : Nat → Int64) (H : Heap) : Prop := pt g oq (.inl (g.2 5, 1, .inr (.inl f))) H
abbrev ouIs (g : GG) (oq : Nat) (v : Int64) (H : Heap) : Prop := ∃ f : Nat → Int64, ouAt g oq f H ∧ f 0 = v
theorem bAt.noA {g : GG} {B : Nat} {cnt : Nat → Nat} {f : Nat → Nat → Nat} {D : DT} {y : YS} {H H1 : Heap} (h : bAt g B cnt f D y H) (hf : fr noA H H1) : bAt g B cnt f D y H1 := by
  obtain ⟨h1, h2, h3, cnt2, f2, D2, y2, h4⟩ := h
  exact ⟨h1.fr hf (fun z => z), h2.frame hf (fun q z => z.elim), h3, cnt2, f2, D2, y2, h4.frame hf (fun q z => z.elim)⟩
theorem pass1 {own E nm : String} {s : State} {pc : Nat} {x : ExceptionTableEntry} (h0 : x.catchType ≠ 0) (hl : Cond.classLink own x.catchType nm ∈ LW) (hn : va_Nc E nm s) : ∀ z ∈ [x], covers z pc = false ∨ (z.catchType ≠ 0 ∧ ∃ nm : String, Cond.classLink own z.catchType nm ∈ LW ∧ va_Nc E nm s) := fun z hz => by
  rw [List.mem_singleton.mp hz]
  exact Or.inr ⟨h0, nm, hl, hn⟩
theorem li_IO : Cond.classLink R_Law 13 R_IO ∈ LW := LW_t 687 (by decide +kernel) (by decide +kernel)
theorem li_IA : Cond.classLink R_Law 15 R_IA ∈ LW := LW_t 688 (by decide +kernel) (by decide +kernel)
abbrev wrA (B oq : Nat) : Nat → Prop := fun q => (B ≤ q ∧ q < B + 287) ∨ q = oq
set_option maxRecDepth 100000 in
set_option maxHeartbeats 4000000 in
theorem L_add_IO (l : Launch) (g : GG) (hfl : l.stackTraces = false) {Bz oq : Nat} {fo : Nat → Int64} {B : Nat} {cnt : Nat → Nat} {f : Nat → Nat → Nat} {D : DT} {y : YS} {H0 : Heap} (hb : bAt g B cnt f D y H0) {row k x y_ n v : Int32} (hnr : ¬ rIn row) (hBz : Bz ≤ H0.size) (ho : ouAt g oq fo H0) (hoq : B + 287 ≤ oq) : MWr l y_Law_add c_Law_add 9 hh_Law_add 7 1 6 Bz g H0 [.ref B, .int row, .int k, .int x, .int y_, .int n, .int v, .ref oq] (wrA B oq) (some (.int 1)) (fun _ => True) := by
  refine MWr.of (by decide +kernel) (Nat.le_of_ble_eq_true rfl) ?_
  intro p e s m below meth cd X hH hZ hT ls hl
  have X : CX g p s m _ meth cd c_Law_add 9 (some .int) R_Law _ := X
  have hl : lv_has ls 9 [(0, .ref B), (1, .int row), (2, .int k), (3, .int x), (4, .int y_), (5, .int n), (6, .int v), (7, .ref oq)] := hl
  have hS : va_S (AA (wrA B oq) H0) H0 H0 [] := va_S.rf
  refine lv_aload X.x X.b d_Law_add_0 (lv_at hl 7 rfl) ?_
  refine lv_iconst (v := 0) X.x X.b d_Law_add_2 (by decide) ?_
  refine lv_aload_n X.x X.b d_Law_add_3 rfl (lv_at hl 0 rfl) ?_
  refine lv_iload_n X.x X.b d_Law_add_4 rfl (lv_at hl 1 rfl) ?_
  refine lv_iload_n X.x X.b d_Law_add_5 rfl (lv_at hl 2 rfl) ?_
  refine lv_iload_n X.x X.b d_Law_add_6 rfl (lv_at hl 3 rfl) ?_
  refine lv_iload X.x X.b d_Law_add_7 (lv_at hl 4 rfl) ?_
  refine lv_iload X.x X.b d_Law_add_9 (lv_at hl 5 rfl) ?_
  refine lv_iload X.x X.b d_Law_add_11 (lv_at hl 6 rfl) ?_
  refine m_callT X hS (T_BP_add_IO l g hfl hb hnr hBz) hZ v_Law_7 hb.1 rfl rfl rfl (Nat.le_of_ble_eq_true rfl) hl.1 d_Law_add_13 (by omega) (by decide) ⟨by omega, by omega⟩ (fun q z => Or.inr z) (fun q ce H1 locs1 hfr hS hce hcv hcl => ?_)
  refine m_catch X [] (⟨0, 18, 21, 13⟩ : ExceptionTableEntry) [(⟨0, 18, 25, 15⟩ : ExceptionTableEntry), (⟨0, 18, 29, 17⟩ : ExceptionTableEntry)] hT (fun z hz => nomatch hz) (by decide) (by decide) li_IO hZ.2.1.1.1 hce hcv hcl ?_
  refine lv_astore (lv' := [(8, .ref q), (0, .ref B), (1, .int row), (2, .int k), (3, .int x), (4, .int y_), (5, .int n), (6, .int v), (7, .ref oq)]) X.x X.b d_Law_add_21 hl (by decide) rfl (fun ls hl => ?_)
  refine lv_iconst (v := 1) X.x X.b d_Law_add_23 (by decide) ?_
  exact m_iret X hS (by omega) (by omega) d_Law_add_24 rfl trivial
set_option maxRecDepth 100000 in
set_option maxHeartbeats 4000000 in
theorem L_add_IA (l : Launch) (g : GG) (hfl : l.stackTraces = false) {Bz oq : Nat} {fo : Nat → Int64} {B : Nat} {cnt : Nat → Nat} {f : Nat → Nat → Nat} {D : DT} {y : YS} {H0 : Heap} (hb : bAt g B cnt f D y H0) {row k x y_ n v : Int32} (hir : rIn row) (hnl : ¬ lnOk k x y_ n v) (hBz : Bz ≤ H0.size) (ho : ouAt g oq fo H0) (hoq : B + 287 ≤ oq) : MWr l y_Law_add c_Law_add 9 hh_Law_add 7 1 6 Bz g H0 [.ref B, .int row, .int k, .int x, .int y_, .int n, .int v, .ref oq] (wrA B oq) (some (.int 2)) (fun _ => True) := by
  refine MWr.of (by decide +kernel) (Nat.le_of_ble_eq_true rfl) ?_
  intro p e s m below meth cd X hH hZ hT ls hl
  have X : CX g p s m _ meth cd c_Law_add 9 (some .int) R_Law _ := X
  have hl : lv_has ls 9 [(0, .ref B), (1, .int row), (2, .int k), (3, .int x), (4, .int y_), (5, .int n), (6, .int v), (7, .ref oq)] := hl
  have hS : va_S (AA (wrA B oq) H0) H0 H0 [] := va_S.rf
  refine lv_aload X.x X.b d_Law_add_0 (lv_at hl 7 rfl) ?_
  refine lv_iconst (v := 0) X.x X.b d_Law_add_2 (by decide) ?_
  refine lv_aload_n X.x X.b d_Law_add_3 rfl (lv_at hl 0 rfl) ?_
  refine lv_iload_n X.x X.b d_Law_add_4 rfl (lv_at hl 1 rfl) ?_
  refine lv_iload_n X.x X.b d_Law_add_5 rfl (lv_at hl 2 rfl) ?_
  refine lv_iload_n X.x X.b d_Law_add_6 rfl (lv_at hl 3 rfl) ?_
  refine lv_iload X.x X.b d_Law_add_7 (lv_at hl 4 rfl) ?_
  refine lv_iload X.x X.b d_Law_add_9 (lv_at hl 5 rfl) ?_
  refine lv_iload X.x X.b d_Law_add_11 (lv_at hl 6 rfl) ?_
  refine m_callT X hS (T_BP_add_IA l g hfl hb hir hnl hBz) hZ v_Law_7 hb.1 rfl rfl rfl (Nat.le_of_ble_eq_true rfl) hl.1 d_Law_add_13 (by omega) (by decide) ⟨by omega, by omega⟩ (fun q z => Or.inr z) (fun q ce H1 locs1 hfr hS hce hcv hcl => ?_)
  refine m_catch X [(⟨0, 18, 21, 13⟩ : ExceptionTableEntry)] (⟨0, 18, 25, 15⟩ : ExceptionTableEntry) [(⟨0, 18, 29, 17⟩ : ExceptionTableEntry)] hT (pass1 (by decide) li_IO hZ.2.1.2.2.1) (by decide) (by decide) li_IA hZ.2.1.1.2.1 hce hcv hcl ?_
  refine lv_astore (lv' := [(8, .ref q), (0, .ref B), (1, .int row), (2, .int k), (3, .int x), (4, .int y_), (5, .int n), (6, .int v), (7, .ref oq)]) X.x X.b d_Law_add_25 hl (by decide) rfl (fun ls hl => ?_)
  refine lv_iconst (v := 2) X.x X.b d_Law_add_27 (by decide) ?_
  exact m_iret X hS (by omega) (by omega) d_Law_add_28 rfl trivial
set_option maxRecDepth 100000 in
set_option maxHeartbeats 4000000 in
theorem L_put (l : Launch) (g : GG) (hfl : l.stackTraces = false) {Bz oq : Nat} {fo : Nat → Int64} {B : Nat} {cnt : Nat → Nat} {f : Nat → Nat → Nat} {D : DT} {y : YS} {H0 : Heap} (hb : bAt g B cnt f D y H0) {row t k x y_ n v : Int32} (hnl : ¬ lIn cnt row t) (hBz : Bz ≤ H0.size) (ho : ouAt g oq fo H0) (hoq : B + 287 ≤ oq) : MWr l y_Law_put c_Law_put 10 hh_Law_put 8 1 6 Bz g H0 [.ref B, .int row, .int t, .int k, .int x, .int y_, .int n, .int v, .ref oq] (wrA B oq) (some (.int 1)) (fun _ => True) := by
  refine MWr.of (by decide +kernel) (Nat.le_of_ble_eq_true rfl) ?_
  intro p e s m below meth cd X hH hZ hT ls hl
  have X : CX g p s m _ meth cd c_Law_put 10 (some .int) R_Law _ := X
  have hl : lv_has ls 10 [(0, .ref B), (1, .int row), (2, .int t), (3, .int k), (4, .int x), (5, .int y_), (6, .int n), (7, .int v), (8, .ref oq)] := hl
  have hS : va_S (AA (wrA B oq) H0) H0 H0 [] := va_S.rf
  refine lv_aload X.x X.b d_Law_put_0 (lv_at hl 8 rfl) ?_
  refine lv_iconst (v := 0) X.x X.b d_Law_put_2 (by decide) ?_
  refine lv_aload_n X.x X.b d_Law_put_3 rfl (lv_at hl 0 rfl) ?_
  refine lv_iload_n X.x X.b d_Law_put_4 rfl (lv_at hl 1 rfl) ?_
  refine lv_iload_n X.x X.b d_Law_put_5 rfl (lv_at hl 2 rfl) ?_
  refine lv_iload_n X.x X.b d_Law_put_6 rfl (lv_at hl 3 rfl) ?_
  refine lv_iload X.x X.b d_Law_put_7 (lv_at hl 4 rfl) ?_
  refine lv_iload X.x X.b d_Law_put_9 (lv_at hl 5 rfl) ?_
  refine lv_iload X.x X.b d_Law_put_11 (lv_at hl 6 rfl) ?_
  refine lv_iload X.x X.b d_Law_put_13 (lv_at hl 7 rfl) ?_
  refine m_callT X hS (T_BP_put l g hfl hb hnl hBz) hZ v_Law_19 hb.1 rfl rfl rfl (Nat.le_of_ble_eq_true rfl) hl.1 d_Law_put_15 (by omega) (by decide) ⟨by omega, by omega⟩ (fun q z => Or.inr z) (fun q ce H1 locs1 hfr hS hce hcv hcl => ?_)
  refine m_catch X [] (⟨0, 20, 23, 13⟩ : ExceptionTableEntry) [(⟨0, 20, 27, 15⟩ : ExceptionTableEntry)] hT (fun z hz => nomatch hz) (by decide) (by decide) li_IO hZ.2.1.1.1 hce hcv hcl ?_
  refine lv_astore (lv' := [(9, .ref q), (0, .ref B), (1, .int row), (2, .int t), (3, .int k), (4, .int x), (5, .int y_), (6, .int n), (7, .int v), (8, .ref oq)]) X.x X.b d_Law_put_23 hl (by decide) rfl (fun ls hl => ?_)
  refine lv_iconst (v := 1) X.x X.b d_Law_put_25 (by decide) ?_
  exact m_iret X hS (by omega) (by omega) d_Law_put_26 rfl trivial
set_option maxRecDepth 100000 in
set_option maxHeartbeats 4000000 in
theorem L_cut (l : Launch) (g : GG) (hfl : l.stackTraces = false) {Bz oq : Nat} {fo : Nat → Int64} {B : Nat} {cnt : Nat → Nat} {f : Nat → Nat → Nat} {D : DT} {y : YS} {H0 : Heap} (hb : bAt g B cnt f D y H0) {row t : Int32} (hnl : ¬ lIn cnt row t) (hBz : Bz ≤ H0.size) (ho : ouAt g oq fo H0) (hoq : B + 287 ≤ oq) : MWr l y_Law_cut c_Law_cut 5 hh_Law_cut 7 1 6 Bz g H0 [.ref B, .int row, .int t, .ref oq] (wrA B oq) (some (.int 1)) (fun _ => True) := by
  refine MWr.of (by decide +kernel) (Nat.le_of_ble_eq_true rfl) ?_
  intro p e s m below meth cd X hH hZ hT ls hl
  have X : CX g p s m _ meth cd c_Law_cut 5 (some .int) R_Law _ := X
  have hl : lv_has ls 5 [(0, .ref B), (1, .int row), (2, .int t), (3, .ref oq)] := hl
  have hS : va_S (AA (wrA B oq) H0) H0 H0 [] := va_S.rf
  refine lv_aload_n X.x X.b d_Law_cut_0 rfl (lv_at hl 3 rfl) ?_
  refine lv_iconst (v := 0) X.x X.b d_Law_cut_1 (by decide) ?_
  refine lv_aload_n X.x X.b d_Law_cut_2 rfl (lv_at hl 0 rfl) ?_
  refine lv_iload_n X.x X.b d_Law_cut_3 rfl (lv_at hl 1 rfl) ?_
  refine lv_iload_n X.x X.b d_Law_cut_4 rfl (lv_at hl 2 rfl) ?_
  refine m_callT X hS (T_BP_cut l g hfl hb hnl hBz) hZ v_Law_23 hb.1 rfl rfl rfl (Nat.le_of_ble_eq_true rfl) hl.1 d_Law_cut_5 (by omega) (by decide) ⟨by omega, by omega⟩ (fun q z => Or.inr z) (fun q ce H1 locs1 hfr hS hce hcv hcl => ?_)
  refine m_catch X [] (⟨0, 10, 13, 13⟩ : ExceptionTableEntry) [] hT (fun z hz => nomatch hz) (by decide) (by decide) li_IO hZ.2.1.1.1 hce hcv hcl ?_
  refine lv_astore (lv' := [(4, .ref q), (0, .ref B), (1, .int row), (2, .int t), (3, .ref oq)]) X.x X.b d_Law_cut_13 hl (by decide) rfl (fun ls hl => ?_)
  refine lv_iconst (v := 1) X.x X.b d_Law_cut_15 (by decide) ?_
  exact m_iret X hS (by omega) (by omega) d_Law_cut_16 rfl trivial
set_option maxRecDepth 100000 in
set_option maxHeartbeats 4000000 in
theorem L_ofLine (l : Launch) (g : GG) (hfl : l.stackTraces = false) {Bz oq : Nat} {fo : Nat → Int64} {B : Nat} {cnt : Nat → Nat} {f : Nat → Nat → Nat} {D : DT} {y : YS} {H0 : Heap} (hb : bAt g B cnt f D y H0) {row t wt : Int32} (hnl : ¬ lIn cnt row t) (hBz : Bz ≤ H0.size) (ho : ouAt g oq fo H0) (hoq : B + 287 ≤ oq) : MWr l y_Law_ofLine c_Law_ofLine 6 hh_Law_ofLine 8 1 6 Bz g H0 [.ref B, .int row, .int t, .int wt, .ref oq] (wrA B oq) (some (.int 1)) (fun _ => True) := by
  refine MWr.of (by decide +kernel) (Nat.le_of_ble_eq_true rfl) ?_
  intro p e s m below meth cd X hH hZ hT ls hl
  have X : CX g p s m _ meth cd c_Law_ofLine 6 (some .int) R_Law _ := X
  have hl : lv_has ls 6 [(0, .ref B), (1, .int row), (2, .int t), (3, .int wt), (4, .ref oq)] := hl
  have hS : va_S (AA (wrA B oq) H0) H0 H0 [] := va_S.rf
  refine lv_aload X.x X.b d_Law_ofLine_0 (lv_at hl 4 rfl) ?_
  refine lv_iconst (v := 0) X.x X.b d_Law_ofLine_2 (by decide) ?_
  refine lv_aload_n X.x X.b d_Law_ofLine_3 rfl (lv_at hl 0 rfl) ?_
  refine lv_iload_n X.x X.b d_Law_ofLine_4 rfl (lv_at hl 1 rfl) ?_
  refine lv_iload_n X.x X.b d_Law_ofLine_5 rfl (lv_at hl 2 rfl) ?_
  refine lv_iload_n X.x X.b d_Law_ofLine_6 rfl (lv_at hl 3 rfl) ?_
  refine m_callT X hS (T_BP_ofLine l g hfl hb hnl hBz) hZ v_Law_27 hb.1 rfl rfl rfl (Nat.le_of_ble_eq_true rfl) hl.1 d_Law_ofLine_7 (by omega) (by decide) ⟨by omega, by omega⟩ (fun q z => Or.inr z) (fun q ce H1 locs1 hfr hS hce hcv hcl => ?_)
  refine m_catch X [] (⟨0, 12, 15, 13⟩ : ExceptionTableEntry) [(⟨0, 12, 19, 15⟩ : ExceptionTableEntry)] hT (fun z hz => nomatch hz) (by decide) (by decide) li_IO hZ.2.1.1.1 hce hcv hcl ?_
  refine lv_astore (lv' := [(5, .ref q), (0, .ref B), (1, .int row), (2, .int t), (3, .int wt), (4, .ref oq)]) X.x X.b d_Law_ofLine_15 hl (by decide) rfl (fun ls hl => ?_)
  refine lv_iconst (v := 1) X.x X.b d_Law_ofLine_17 (by decide) ?_
  exact m_iret X hS (by omega) (by omega) d_Law_ofLine_18 rfl trivial
set_option maxRecDepth 100000 in
set_option maxHeartbeats 4000000 in
theorem L_ofItem_IO (l : Launch) (g : GG) (hfl : l.stackTraces = false) {Bz oq : Nat} {fo : Nat → Int64} {B : Nat} {cnt : Nat → Nat} {f : Nat → Nat → Nat} {D : DT} {y : YS} {H0 : Heap} (hb : bAt g B cnt f D y H0) {it wt : Int32} (hni : iaO y.2.1 it = none) (hBz : Bz ≤ H0.size) (ho : ouAt g oq fo H0) (hoq : B + 287 ≤ oq) : MWr l y_Law_ofItem c_Law_ofItem 5 hh_Law_ofItem 8 1 6 Bz g H0 [.ref B, .int it, .int wt, .ref oq] (wrA B oq) (some (.int 1)) (fun _ => True) := by
  refine MWr.of (by decide +kernel) (Nat.le_of_ble_eq_true rfl) ?_
  intro p e s m below meth cd X hH hZ hT ls hl
  have X : CX g p s m _ meth cd c_Law_ofItem 5 (some .int) R_Law _ := X
  have hl : lv_has ls 5 [(0, .ref B), (1, .int it), (2, .int wt), (3, .ref oq)] := hl
  have hS : va_S (AA (wrA B oq) H0) H0 H0 [] := va_S.rf
  refine lv_aload_n X.x X.b d_Law_ofItem_0 rfl (lv_at hl 3 rfl) ?_
  refine lv_iconst (v := 0) X.x X.b d_Law_ofItem_1 (by decide) ?_
  refine lv_aload_n X.x X.b d_Law_ofItem_2 rfl (lv_at hl 0 rfl) ?_
  refine lv_iload_n X.x X.b d_Law_ofItem_3 rfl (lv_at hl 1 rfl) ?_
  refine lv_iload_n X.x X.b d_Law_ofItem_4 rfl (lv_at hl 2 rfl) ?_
  refine m_callT X hS (T_BP_ofItem_IO l g hfl hb hni hBz) hZ v_Law_31 hb.1 rfl rfl rfl (Nat.le_of_ble_eq_true rfl) hl.1 d_Law_ofItem_5 (by omega) (by decide) ⟨by omega, by omega⟩ (fun q z => Or.inr z) (fun q ce H1 locs1 hfr hS hce hcv hcl => ?_)
  refine m_catch X [] (⟨0, 10, 13, 13⟩ : ExceptionTableEntry) [(⟨0, 10, 17, 15⟩ : ExceptionTableEntry)] hT (fun z hz => nomatch hz) (by decide) (by decide) li_IO hZ.2.1.1.1 hce hcv hcl ?_
  refine lv_astore (lv' := [(4, .ref q), (0, .ref B), (1, .int it), (2, .int wt), (3, .ref oq)]) X.x X.b d_Law_ofItem_13 hl (by decide) rfl (fun ls hl => ?_)
  refine lv_iconst (v := 1) X.x X.b d_Law_ofItem_15 (by decide) ?_
  exact m_iret X hS (by omega) (by omega) d_Law_ofItem_16 rfl trivial
set_option maxRecDepth 100000 in
set_option maxHeartbeats 4000000 in
theorem L_ofItem_IA (l : Launch) (g : GG) (hfl : l.stackTraces = false) {Bz oq : Nat} {fo : Nat → Int64} {B : Nat} {cnt : Nat → Nat} {f : Nat → Nat → Nat} {D : DT} {y : YS} {H0 : Heap} (hb : bAt g B cnt f D y H0) {it wt : Int32} {j : Nat} (hk : iaO y.2.1 it = some j) (hw : ¬ wt = 0 ∧ ¬ wt = 1 ∧ ¬ wt = 2 ∧ ¬ wt = 3 ∧ ¬ wt = 4 ∧ ¬ wt = 5 ∧ ¬ wt = 6 ∧ ¬ wt = 7) (hBz : Bz ≤ H0.size) (ho : ouAt g oq fo H0) (hoq : B + 287 ≤ oq) : MWr l y_Law_ofItem c_Law_ofItem 5 hh_Law_ofItem 7 1 6 Bz g H0 [.ref B, .int it, .int wt, .ref oq] (wrA B oq) (some (.int 2)) (fun _ => True) := by
  refine MWr.of (by decide +kernel) (Nat.le_of_ble_eq_true rfl) ?_
  intro p e s m below meth cd X hH hZ hT ls hl
  have X : CX g p s m _ meth cd c_Law_ofItem 5 (some .int) R_Law _ := X
  have hl : lv_has ls 5 [(0, .ref B), (1, .int it), (2, .int wt), (3, .ref oq)] := hl
  have hS : va_S (AA (wrA B oq) H0) H0 H0 [] := va_S.rf
  refine lv_aload_n X.x X.b d_Law_ofItem_0 rfl (lv_at hl 3 rfl) ?_
  refine lv_iconst (v := 0) X.x X.b d_Law_ofItem_1 (by decide) ?_
  refine lv_aload_n X.x X.b d_Law_ofItem_2 rfl (lv_at hl 0 rfl) ?_
  refine lv_iload_n X.x X.b d_Law_ofItem_3 rfl (lv_at hl 1 rfl) ?_
  refine lv_iload_n X.x X.b d_Law_ofItem_4 rfl (lv_at hl 2 rfl) ?_
  refine m_callT X hS (T_BP_ofItem_IA l g hfl hb hk hw hBz) hZ v_Law_31 hb.1 rfl rfl rfl (Nat.le_of_ble_eq_true rfl) hl.1 d_Law_ofItem_5 (by omega) (by decide) ⟨by omega, by omega⟩ (fun q z => Or.inr z) (fun q ce H1 locs1 hfr hS hce hcv hcl => ?_)
  refine m_catch X [(⟨0, 10, 13, 13⟩ : ExceptionTableEntry)] (⟨0, 10, 17, 15⟩ : ExceptionTableEntry) [] hT (pass1 (by decide) li_IO hZ.2.1.2.2.1) (by decide) (by decide) li_IA hZ.2.1.1.2.1 hce hcv hcl ?_
  refine lv_astore (lv' := [(4, .ref q), (0, .ref B), (1, .int it), (2, .int wt), (3, .ref oq)]) X.x X.b d_Law_ofItem_17 hl (by decide) rfl (fun ls hl => ?_)
  refine lv_iconst (v := 2) X.x X.b d_Law_ofItem_19 (by decide) ?_
  exact m_iret X hS (by omega) (by omega) d_Law_ofItem_20 rfl trivial
set_option maxRecDepth 100000 in
set_option maxHeartbeats 4000000 in
theorem L_word (l : Launch) (g : GG) (hfl : l.stackTraces = false) {Bz oq : Nat} {fo : Nat → Int64} {B : Nat} {cnt : Nat → Nat} {f : Nat → Nat → Nat} {D : DT} {y : YS} {H0 : Heap} (hb : bAt g B cnt f D y H0) {ad : Int32} (hni : iaO y.2.1 (hof y.1 ad y.2.1 0) = none) (hBz : Bz ≤ H0.size) (ho : ouAt g oq fo H0) (hoq : B + 287 ≤ oq) : MWr l y_Law_word c_Law_word 4 hh_Law_word 8 1 6 Bz g H0 [.ref B, .int ad, .ref oq] (wrA B oq) (some (.int 1)) (fun _ => True) := by
  refine MWr.of (by decide +kernel) (Nat.le_of_ble_eq_true rfl) ?_
  intro p e s m below meth cd X hH hZ hT ls hl
  have X : CX g p s m _ meth cd c_Law_word 4 (some .int) R_Law _ := X
  have hl : lv_has ls 4 [(0, .ref B), (1, .int ad), (2, .ref oq)] := hl
  have hS : va_S (AA (wrA B oq) H0) H0 H0 [] := va_S.rf
  refine lv_aload_n X.x X.b d_Law_word_0 rfl (lv_at hl 2 rfl) ?_
  refine lv_iconst (v := 0) X.x X.b d_Law_word_1 (by decide) ?_
  refine lv_aload_n X.x X.b d_Law_word_2 rfl (lv_at hl 0 rfl) ?_
  refine lv_iload_n X.x X.b d_Law_word_3 rfl (lv_at hl 1 rfl) ?_
  refine m_callT X hS (T_BP_word l g hfl hb hni hBz) hZ v_Law_34 hb.1 rfl rfl rfl (Nat.le_of_ble_eq_true rfl) hl.1 d_Law_word_4 (by omega) (by decide) ⟨by omega, by omega⟩ (fun q z => Or.inr z) (fun q ce H1 locs1 hfr hS hce hcv hcl => ?_)
  refine m_catch X [] (⟨0, 9, 12, 13⟩ : ExceptionTableEntry) [] hT (fun z hz => nomatch hz) (by decide) (by decide) li_IO hZ.2.1.1.1 hce hcv hcl ?_
  refine lv_astore_n (lv' := [(3, .ref q), (0, .ref B), (1, .int ad), (2, .ref oq)]) X.x X.b d_Law_word_12 rfl hl (by decide) rfl (fun ls hl => ?_)
  refine lv_iconst (v := 1) X.x X.b d_Law_word_13 (by decide) ?_
  exact m_iret X hS (by omega) (by omega) d_Law_word_14 rfl trivial
set_option maxRecDepth 100000 in
set_option maxHeartbeats 4000000 in
theorem L_isCode (l : Launch) (g : GG) (hfl : l.stackTraces = false) {Bz oq : Nat} {fo : Nat → Int64} {B : Nat} {cnt : Nat → Nat} {f : Nat → Nat → Nat} {D : DT} {y : YS} {H0 : Heap} (hb : bAt g B cnt f D y H0) {ad : Int32} (hni : iaO y.2.1 (hof y.1 ad y.2.1 0) = none) (hBz : Bz ≤ H0.size) (ho : ouAt g oq fo H0) (hoq : B + 287 ≤ oq) : MWr l y_Law_isCode c_Law_isCode 4 hh_Law_isCode 8 1 6 Bz g H0 [.ref B, .int ad, .ref oq] (wrA B oq) (some (.int 1)) (fun _ => True) := by
  refine MWr.of (by decide +kernel) (Nat.le_of_ble_eq_true rfl) ?_
  intro p e s m below meth cd X hH hZ hT ls hl
  have X : CX g p s m _ meth cd c_Law_isCode 4 (some .int) R_Law _ := X
  have hl : lv_has ls 4 [(0, .ref B), (1, .int ad), (2, .ref oq)] := hl
  have hS : va_S (AA (wrA B oq) H0) H0 H0 [] := va_S.rf
  refine lv_aload_n X.x X.b d_Law_isCode_0 rfl (lv_at hl 2 rfl) ?_
  refine lv_iconst (v := 0) X.x X.b d_Law_isCode_1 (by decide) ?_
  refine lv_aload_n X.x X.b d_Law_isCode_2 rfl (lv_at hl 0 rfl) ?_
  refine lv_iload_n X.x X.b d_Law_isCode_3 rfl (lv_at hl 1 rfl) ?_
  refine m_callT X hS (T_BP_isCode l g hfl hb hni hBz) hZ v_Law_41 hb.1 rfl rfl rfl (Nat.le_of_ble_eq_true rfl) hl.1 d_Law_isCode_4 (by omega) (by decide) ⟨by omega, by omega⟩ (fun q z => Or.inr z) (fun q ce H1 locs1 hfr hS hce hcv hcl => ?_)
  refine m_catch X [] (⟨0, 16, 19, 13⟩ : ExceptionTableEntry) [] hT (fun z hz => nomatch hz) (by decide) (by decide) li_IO hZ.2.1.1.1 hce hcv hcl ?_
  refine lv_astore_n (lv' := [(3, .ref q), (0, .ref B), (1, .int ad), (2, .ref oq)]) X.x X.b d_Law_isCode_19 rfl hl (by decide) rfl (fun ls hl => ?_)
  refine lv_iconst (v := 1) X.x X.b d_Law_isCode_20 (by decide) ?_
  exact m_iret X hS (by omega) (by omega) d_Law_isCode_21 rfl trivial
set_option maxRecDepth 100000 in
set_option maxHeartbeats 4000000 in
theorem L_itemOf (l : Launch) (g : GG) (hfl : l.stackTraces = false) {Bz oq : Nat} {fo : Nat → Int64} {B : Nat} {cnt : Nat → Nat} {f : Nat → Nat → Nat} {D : DT} {y : YS} {H0 : Heap} (hb : bAt g B cnt f D y H0) {ad : Int32} (hk : hof y.1 ad y.2.1 0 = -1) (hBz : Bz ≤ H0.size) (ho : ouAt g oq fo H0) (hoq : B + 287 ≤ oq) : MWr l y_Law_itemOf c_Law_itemOf 4 hh_Law_itemOf 7 1 6 Bz g H0 [.ref B, .int ad, .ref oq] (wrA B oq) (some (.int 1)) (fun _ => True) := by
  refine MWr.of (by decide +kernel) (Nat.le_of_ble_eq_true rfl) ?_
  intro p e s m below meth cd X hH hZ hT ls hl
  have X : CX g p s m _ meth cd c_Law_itemOf 4 (some .int) R_Law _ := X
  have hl : lv_has ls 4 [(0, .ref B), (1, .int ad), (2, .ref oq)] := hl
  have hS : va_S (AA (wrA B oq) H0) H0 H0 [] := va_S.rf
  refine lv_aload_n X.x X.b d_Law_itemOf_0 rfl (lv_at hl 2 rfl) ?_
  refine lv_iconst (v := 0) X.x X.b d_Law_itemOf_1 (by decide) ?_
  refine lv_aload_n X.x X.b d_Law_itemOf_2 rfl (lv_at hl 0 rfl) ?_
  refine lv_iload_n X.x X.b d_Law_itemOf_3 rfl (lv_at hl 1 rfl) ?_
  refine m_callT X hS (T_BP_itemOf l g hfl hb hk hBz) hZ v_Law_38 hb.1 rfl rfl rfl (Nat.le_of_ble_eq_true rfl) hl.1 d_Law_itemOf_4 (by omega) (by decide) ⟨by omega, by omega⟩ (fun q z => Or.inr z) (fun q ce H1 locs1 hfr hS hce hcv hcl => ?_)
  refine m_catch X [] (⟨0, 9, 12, 13⟩ : ExceptionTableEntry) [] hT (fun z hz => nomatch hz) (by decide) (by decide) li_IO hZ.2.1.1.1 hce hcv hcl ?_
  refine lv_astore_n (lv' := [(3, .ref q), (0, .ref B), (1, .int ad), (2, .ref oq)]) X.x X.b d_Law_itemOf_12 rfl hl (by decide) rfl (fun ls hl => ?_)
  refine lv_iconst (v := 1) X.x X.b d_Law_itemOf_13 (by decide) ?_
  exact m_iret X hS (by omega) (by omega) d_Law_itemOf_14 rfl trivial
set_option maxRecDepth 100000 in
set_option maxHeartbeats 4000000 in
theorem L_value_IO (l : Launch) (g : GG) (hfl : l.stackTraces = false) {Bz oq : Nat} {fo : Nat → Int64} {B : Nat} {cnt : Nat → Nat} {f : Nat → Nat → Nat} {D : DT} {y : YS} {H0 : Heap} (hb : bAt g B cnt f D y H0) {x : Int32} (hf : y.2.2.2.1 = 0) (hx : x < 0 ∨ ¬ x < 8) (hBz : Bz ≤ H0.size) (ho : ouAt g oq fo H0) (hoq : B + 287 ≤ oq) : MWr l y_Law_value c_Law_value 4 hh_Law_value 7 1 6 Bz g H0 [.ref B, .int x, .ref oq] (wrA B oq) (some (.int 1)) (fun _ => True) := by
  refine MWr.of (by decide +kernel) (Nat.le_of_ble_eq_true rfl) ?_
  intro p e s m below meth cd X hH hZ hT ls hl
  have X : CX g p s m _ meth cd c_Law_value 4 (some .int) R_Law _ := X
  have hl : lv_has ls 4 [(0, .ref B), (1, .int x), (2, .ref oq)] := hl
  have hS : va_S (AA (wrA B oq) H0) H0 H0 [] := va_S.rf
  refine lv_aload_n X.x X.b d_Law_value_0 rfl (lv_at hl 2 rfl) ?_
  refine lv_iconst (v := 0) X.x X.b d_Law_value_1 (by decide) ?_
  refine lv_aload_n X.x X.b d_Law_value_2 rfl (lv_at hl 0 rfl) ?_
  refine lv_iload_n X.x X.b d_Law_value_3 rfl (lv_at hl 1 rfl) ?_
  refine m_callT X hS (T_BP_value l g hfl hb hf hx hBz) hZ v_Law_45 hb.1 rfl rfl rfl (Nat.le_of_ble_eq_true rfl) hl.1 d_Law_value_4 (by omega) (by decide) ⟨by omega, by omega⟩ (fun q z => Or.inr z) (fun q ce H1 locs1 hfr hS hce hcv hcl => ?_)
  refine m_catch X [] (⟨0, 9, 12, 13⟩ : ExceptionTableEntry) [] hT (fun z hz => nomatch hz) (by decide) (by decide) li_IO hZ.2.1.1.1 hce hcv hcl ?_
  refine lv_astore_n (lv' := [(3, .ref q), (0, .ref B), (1, .int x), (2, .ref oq)]) X.x X.b d_Law_value_12 rfl hl (by decide) rfl (fun ls hl => ?_)
  refine lv_iconst (v := 1) X.x X.b d_Law_value_13 (by decide) ?_
  exact m_iret X hS (by omega) (by omega) d_Law_value_14 rfl trivial
set_option maxRecDepth 100000 in
set_option maxHeartbeats 4000000 in
theorem L_many_IA (l : Launch) (g : GG) (hfl : l.stackTraces = false) {Bz oq : Nat} {fo : Nat → Int64} {B : Nat} {cnt : Nat → Nat} {f : Nat → Nat → Nat} {D : DT} {y : YS} {H0 : Heap} (hb : bAt g B cnt f D y H0) {wt : Int32} (hw : wt < 0 ∨ ¬ wt ≤ 11) (hBz : Bz ≤ H0.size) (ho : ouAt g oq fo H0) (hoq : B + 287 ≤ oq) : MWr l y_Law_many c_Law_many 4 hh_Law_many 7 1 6 Bz g H0 [.ref B, .int wt, .ref oq] (wrA B oq) (some (.int 1)) (fun _ => True) := by
  refine MWr.of (by decide +kernel) (Nat.le_of_ble_eq_true rfl) ?_
  intro p e s m below meth cd X hH hZ hT ls hl
  have X : CX g p s m _ meth cd c_Law_many 4 (some .int) R_Law _ := X
  have hl : lv_has ls 4 [(0, .ref B), (1, .int wt), (2, .ref oq)] := hl
  have hS : va_S (AA (wrA B oq) H0) H0 H0 [] := va_S.rf
  refine lv_aload_n X.x X.b d_Law_many_0 rfl (lv_at hl 2 rfl) ?_
  refine lv_iconst (v := 0) X.x X.b d_Law_many_1 (by decide) ?_
  refine lv_aload_n X.x X.b d_Law_many_2 rfl (lv_at hl 0 rfl) ?_
  refine lv_iload_n X.x X.b d_Law_many_3 rfl (lv_at hl 1 rfl) ?_
  refine m_callT X hS (T_BP_many l g hfl hb hw hBz) hZ v_Law_48 hb.1 rfl rfl rfl (Nat.le_of_ble_eq_true rfl) hl.1 d_Law_many_4 (by omega) (by decide) ⟨by omega, by omega⟩ (fun q z => Or.inr z) (fun q ce H1 locs1 hfr hS hce hcv hcl => ?_)
  refine m_catch X [] (⟨0, 9, 12, 15⟩ : ExceptionTableEntry) [] hT (fun z hz => nomatch hz) (by decide) (by decide) li_IA hZ.2.1.1.2.1 hce hcv hcl ?_
  refine lv_astore_n (lv' := [(3, .ref q), (0, .ref B), (1, .int wt), (2, .ref oq)]) X.x X.b d_Law_many_12 rfl hl (by decide) rfl (fun ls hl => ?_)
  refine lv_iconst (v := 1) X.x X.b d_Law_many_13 (by decide) ?_
  exact m_iret X hS (by omega) (by omega) d_Law_many_14 rfl trivial
set_option maxRecDepth 100000 in
set_option maxHeartbeats 4000000 in
theorem L_wordsWithout (l : Launch) (g : GG) (hfl : l.stackTraces = false) {Bz oq : Nat} {fo : Nat → Int64} {B : Nat} {cnt : Nat → Nat} {f : Nat → Nat → Nat} {D : DT} {y : YS} {H0 : Heap} (hb : bAt g B cnt f D y H0) {row t : Int32} (hnl : ¬ lIn cnt row t) (hBz : Bz ≤ H0.size) (ho : ouAt g oq fo H0) (hoq : B + 287 ≤ oq) : MWr l y_Law_wordsWithout c_Law_wordsWithout 5 hh_Law_wordsWithout 7 1 6 Bz g H0 [.ref B, .int row, .int t, .ref oq] (wrA B oq) (some (.int 1)) (fun _ => True) := by
  refine MWr.of (by decide +kernel) (Nat.le_of_ble_eq_true rfl) ?_
  intro p e s m below meth cd X hH hZ hT ls hl
  have X : CX g p s m _ meth cd c_Law_wordsWithout 5 (some .int) R_Law _ := X
  have hl : lv_has ls 5 [(0, .ref B), (1, .int row), (2, .int t), (3, .ref oq)] := hl
  have hS : va_S (AA (wrA B oq) H0) H0 H0 [] := va_S.rf
  refine lv_aload_n X.x X.b d_Law_wordsWithout_0 rfl (lv_at hl 3 rfl) ?_
  refine lv_iconst (v := 0) X.x X.b d_Law_wordsWithout_1 (by decide) ?_
  refine lv_aload_n X.x X.b d_Law_wordsWithout_2 rfl (lv_at hl 0 rfl) ?_
  refine lv_iload_n X.x X.b d_Law_wordsWithout_3 rfl (lv_at hl 1 rfl) ?_
  refine lv_iload_n X.x X.b d_Law_wordsWithout_4 rfl (lv_at hl 2 rfl) ?_
  refine m_callT X hS (T_BP_wordsWithout l g hfl hb hnl hBz) hZ v_Law_51 hb.1 rfl rfl rfl (Nat.le_of_ble_eq_true rfl) hl.1 d_Law_wordsWithout_5 (by omega) (by decide) ⟨by omega, by omega⟩ (fun q z => Or.inr z) (fun q ce H1 locs1 hfr hS hce hcv hcl => ?_)
  refine m_catch X [] (⟨0, 10, 13, 13⟩ : ExceptionTableEntry) [] hT (fun z hz => nomatch hz) (by decide) (by decide) li_IO hZ.2.1.1.1 hce hcv hcl ?_
  refine lv_astore (lv' := [(4, .ref q), (0, .ref B), (1, .int row), (2, .int t), (3, .ref oq)]) X.x X.b d_Law_wordsWithout_13 hl (by decide) rfl (fun ls hl => ?_)
  refine lv_iconst (v := 1) X.x X.b d_Law_wordsWithout_15 (by decide) ?_
  exact m_iret X hS (by omega) (by omega) d_Law_wordsWithout_16 rfl trivial
set_option maxRecDepth 100000 in
set_option maxHeartbeats 4000000 in
theorem L_wordsWith (l : Launch) (g : GG) (hfl : l.stackTraces = false) {Bz oq : Nat} {fo : Nat → Int64} {B : Nat} {cnt : Nat → Nat} {f : Nat → Nat → Nat} {D : DT} {y : YS} {H0 : Heap} (hb : bAt g B cnt f D y H0) {row t n : Int32} (hnl : ¬ lIn cnt row t) (hBz : Bz ≤ H0.size) (ho : ouAt g oq fo H0) (hoq : B + 287 ≤ oq) : MWr l y_Law_wordsWith c_Law_wordsWith 6 hh_Law_wordsWith 8 1 6 Bz g H0 [.ref B, .int row, .int t, .int n, .ref oq] (wrA B oq) (some (.int 1)) (fun _ => True) := by
  refine MWr.of (by decide +kernel) (Nat.le_of_ble_eq_true rfl) ?_
  intro p e s m below meth cd X hH hZ hT ls hl
  have X : CX g p s m _ meth cd c_Law_wordsWith 6 (some .int) R_Law _ := X
  have hl : lv_has ls 6 [(0, .ref B), (1, .int row), (2, .int t), (3, .int n), (4, .ref oq)] := hl
  have hS : va_S (AA (wrA B oq) H0) H0 H0 [] := va_S.rf
  refine lv_aload X.x X.b d_Law_wordsWith_0 (lv_at hl 4 rfl) ?_
  refine lv_iconst (v := 0) X.x X.b d_Law_wordsWith_2 (by decide) ?_
  refine lv_aload_n X.x X.b d_Law_wordsWith_3 rfl (lv_at hl 0 rfl) ?_
  refine lv_iload_n X.x X.b d_Law_wordsWith_4 rfl (lv_at hl 1 rfl) ?_
  refine lv_iload_n X.x X.b d_Law_wordsWith_5 rfl (lv_at hl 2 rfl) ?_
  refine lv_iload_n X.x X.b d_Law_wordsWith_6 rfl (lv_at hl 3 rfl) ?_
  refine m_callT X hS (T_BP_wordsWith l g hfl hb hnl hBz) hZ v_Law_54 hb.1 rfl rfl rfl (Nat.le_of_ble_eq_true rfl) hl.1 d_Law_wordsWith_7 (by omega) (by decide) ⟨by omega, by omega⟩ (fun q z => Or.inr z) (fun q ce H1 locs1 hfr hS hce hcv hcl => ?_)
  refine m_catch X [] (⟨0, 12, 15, 13⟩ : ExceptionTableEntry) [(⟨0, 12, 19, 15⟩ : ExceptionTableEntry)] hT (fun z hz => nomatch hz) (by decide) (by decide) li_IO hZ.2.1.1.1 hce hcv hcl ?_
  refine lv_astore (lv' := [(5, .ref q), (0, .ref B), (1, .int row), (2, .int t), (3, .int n), (4, .ref oq)]) X.x X.b d_Law_wordsWith_15 hl (by decide) rfl (fun ls hl => ?_)
  refine lv_iconst (v := 1) X.x X.b d_Law_wordsWith_17 (by decide) ?_
  exact m_iret X hS (by omega) (by omega) d_Law_wordsWith_18 rfl trivial
set_option maxRecDepth 100000 in
set_option maxHeartbeats 4000000 in
theorem L_distance_IO (l : Launch) (g : GG) (hfl : l.stackTraces = false) {Bz oq : Nat} {fo : Nat → Int64} {B : Nat} {cnt : Nat → Nat} {f : Nat → Nat → Nat} {D : DT} {y : YS} {H0 : Heap} (hb : bAt g B cnt f D y H0) {it : Int32} (hni : iaO y.2.1 it = none) (hBz : Bz ≤ H0.size) (ho : ouAt g oq fo H0) (hoq : B + 287 ≤ oq) : MWr l y_Law_distance c_Law_distance 4 hh_Law_distance 8 1 6 Bz g H0 [.ref B, .int it, .ref oq] (wrA B oq) (some (.int 1)) (fun _ => True) := by
  refine MWr.of (by decide +kernel) (Nat.le_of_ble_eq_true rfl) ?_
  intro p e s m below meth cd X hH hZ hT ls hl
  have X : CX g p s m _ meth cd c_Law_distance 4 (some .int) R_Law _ := X
  have hl : lv_has ls 4 [(0, .ref B), (1, .int it), (2, .ref oq)] := hl
  have hS : va_S (AA (wrA B oq) H0) H0 H0 [] := va_S.rf
  refine lv_aload_n X.x X.b d_Law_distance_0 rfl (lv_at hl 2 rfl) ?_
  refine lv_iconst (v := 0) X.x X.b d_Law_distance_1 (by decide) ?_
  refine lv_aload_n X.x X.b d_Law_distance_2 rfl (lv_at hl 0 rfl) ?_
  refine lv_iload_n X.x X.b d_Law_distance_3 rfl (lv_at hl 1 rfl) ?_
  refine m_callT X hS (T_BP_distance_IO l g hfl hb hni hBz) hZ v_Law_57 hb.1 rfl rfl rfl (Nat.le_of_ble_eq_true rfl) hl.1 d_Law_distance_4 (by omega) (by decide) ⟨by omega, by omega⟩ (fun q z => Or.inr z) (fun q ce H1 locs1 hfr hS hce hcv hcl => ?_)
  refine m_catch X [] (⟨0, 9, 12, 13⟩ : ExceptionTableEntry) [] hT (fun z hz => nomatch hz) (by decide) (by decide) li_IO hZ.2.1.1.1 hce hcv hcl ?_
  refine lv_astore_n (lv' := [(3, .ref q), (0, .ref B), (1, .int it), (2, .ref oq)]) X.x X.b d_Law_distance_12 rfl hl (by decide) rfl (fun ls hl => ?_)
  refine lv_iconst (v := 1) X.x X.b d_Law_distance_13 (by decide) ?_
  exact m_iret X hS (by omega) (by omega) d_Law_distance_14 rfl trivial
set_option maxRecDepth 100000 in
set_option maxHeartbeats 4000000 in
theorem L_distance_nb (l : Launch) (g : GG) (hfl : l.stackTraces = false) {Bz oq : Nat} {fo : Nat → Int64} {B : Nat} {cnt : Nat → Nat} {f : Nat → Nat → Nat} {D : DT} {y : YS} {H0 : Heap} (hb : bAt g B cnt f D y H0) {it : Int32} {j : Nat} (hk : iaO y.2.1 it = some j) (hbr : ¬ brF y.1 j) (hBz : Bz ≤ H0.size) (ho : ouAt g oq fo H0) (hoq : B + 287 ≤ oq) : MWr l y_Law_distance c_Law_distance 4 hh_Law_distance 7 1 6 Bz g H0 [.ref B, .int it, .ref oq] (wrA B oq) (some (.int 1)) (fun _ => True) := by
  refine MWr.of (by decide +kernel) (Nat.le_of_ble_eq_true rfl) ?_
  intro p e s m below meth cd X hH hZ hT ls hl
  have X : CX g p s m _ meth cd c_Law_distance 4 (some .int) R_Law _ := X
  have hl : lv_has ls 4 [(0, .ref B), (1, .int it), (2, .ref oq)] := hl
  have hS : va_S (AA (wrA B oq) H0) H0 H0 [] := va_S.rf
  refine lv_aload_n X.x X.b d_Law_distance_0 rfl (lv_at hl 2 rfl) ?_
  refine lv_iconst (v := 0) X.x X.b d_Law_distance_1 (by decide) ?_
  refine lv_aload_n X.x X.b d_Law_distance_2 rfl (lv_at hl 0 rfl) ?_
  refine lv_iload_n X.x X.b d_Law_distance_3 rfl (lv_at hl 1 rfl) ?_
  refine m_callT X hS (T_BP_distance_nb l g hfl hb hk hbr hBz) hZ v_Law_57 hb.1 rfl rfl rfl (Nat.le_of_ble_eq_true rfl) hl.1 d_Law_distance_4 (by omega) (by decide) ⟨by omega, by omega⟩ (fun q z => Or.inr z) (fun q ce H1 locs1 hfr hS hce hcv hcl => ?_)
  refine m_catch X [] (⟨0, 9, 12, 13⟩ : ExceptionTableEntry) [] hT (fun z hz => nomatch hz) (by decide) (by decide) li_IO hZ.2.1.1.1 hce hcv hcl ?_
  refine lv_astore_n (lv' := [(3, .ref q), (0, .ref B), (1, .int it), (2, .ref oq)]) X.x X.b d_Law_distance_12 rfl hl (by decide) rfl (fun ls hl => ?_)
  refine lv_iconst (v := 1) X.x X.b d_Law_distance_13 (by decide) ?_
  exact m_iret X hS (by omega) (by omega) d_Law_distance_14 rfl trivial
set_option maxRecDepth 100000 in
set_option maxHeartbeats 4000000 in
theorem L_longBy_IO (l : Launch) (g : GG) (hfl : l.stackTraces = false) {Bz oq : Nat} {fo : Nat → Int64} {B : Nat} {cnt : Nat → Nat} {f : Nat → Nat → Nat} {D : DT} {y : YS} {H0 : Heap} (hb : bAt g B cnt f D y H0) {t k : Int32} (ht : t < 0 ∨ ¬ t ≤ ctF cnt 0) (hBz : Bz ≤ H0.size) (ho : ouAt g oq fo H0) (hoq : B + 287 ≤ oq) : MWr l y_Law_longBy c_Law_longBy 5 hh_Law_longBy 7 1 6 Bz g H0 [.ref B, .int t, .int k, .ref oq] (wrA B oq) (some (.int 1)) (fun _ => True) := by
  refine MWr.of (by decide +kernel) (Nat.le_of_ble_eq_true rfl) ?_
  intro p e s m below meth cd X hH hZ hT ls hl
  have X : CX g p s m _ meth cd c_Law_longBy 5 (some .int) R_Law _ := X
  have hl : lv_has ls 5 [(0, .ref B), (1, .int t), (2, .int k), (3, .ref oq)] := hl
  have hS : va_S (AA (wrA B oq) H0) H0 H0 [] := va_S.rf
  refine lv_aload_n X.x X.b d_Law_longBy_0 rfl (lv_at hl 3 rfl) ?_
  refine lv_iconst (v := 0) X.x X.b d_Law_longBy_1 (by decide) ?_
  refine lv_aload_n X.x X.b d_Law_longBy_2 rfl (lv_at hl 0 rfl) ?_
  refine lv_iload_n X.x X.b d_Law_longBy_3 rfl (lv_at hl 1 rfl) ?_
  refine lv_iload_n X.x X.b d_Law_longBy_4 rfl (lv_at hl 2 rfl) ?_
  refine m_callT X hS (T_BP_longBy_IO l g hfl hb ht hBz) hZ v_Law_60 hb.1 rfl rfl rfl (Nat.le_of_ble_eq_true rfl) hl.1 d_Law_longBy_5 (by omega) (by decide) ⟨by omega, by omega⟩ (fun q z => Or.inr z) (fun q ce H1 locs1 hfr hS hce hcv hcl => ?_)
  refine m_catch X [] (⟨0, 10, 13, 13⟩ : ExceptionTableEntry) [(⟨0, 10, 17, 15⟩ : ExceptionTableEntry)] hT (fun z hz => nomatch hz) (by decide) (by decide) li_IO hZ.2.1.1.1 hce hcv hcl ?_
  refine lv_astore (lv' := [(4, .ref q), (0, .ref B), (1, .int t), (2, .int k), (3, .ref oq)]) X.x X.b d_Law_longBy_13 hl (by decide) rfl (fun ls hl => ?_)
  refine lv_iconst (v := 1) X.x X.b d_Law_longBy_15 (by decide) ?_
  exact m_iret X hS (by omega) (by omega) d_Law_longBy_16 rfl trivial
set_option maxRecDepth 100000 in
set_option maxHeartbeats 4000000 in
theorem L_longBy_IA (l : Launch) (g : GG) (hfl : l.stackTraces = false) {Bz oq : Nat} {fo : Nat → Int64} {B : Nat} {cnt : Nat → Nat} {f : Nat → Nat → Nat} {D : DT} {y : YS} {H0 : Heap} (hb : bAt g B cnt f D y H0) {t k : Int32} (ht : ¬ t < 0) (ht2 : t ≤ ctF cnt 0) (hk : k < 1 ∨ ¬ k ≤ 20) (hBz : Bz ≤ H0.size) (ho : ouAt g oq fo H0) (hoq : B + 287 ≤ oq) : MWr l y_Law_longBy c_Law_longBy 5 hh_Law_longBy 7 1 6 Bz g H0 [.ref B, .int t, .int k, .ref oq] (wrA B oq) (some (.int 2)) (fun _ => True) := by
  refine MWr.of (by decide +kernel) (Nat.le_of_ble_eq_true rfl) ?_
  intro p e s m below meth cd X hH hZ hT ls hl
  have X : CX g p s m _ meth cd c_Law_longBy 5 (some .int) R_Law _ := X
  have hl : lv_has ls 5 [(0, .ref B), (1, .int t), (2, .int k), (3, .ref oq)] := hl
  have hS : va_S (AA (wrA B oq) H0) H0 H0 [] := va_S.rf
  refine lv_aload_n X.x X.b d_Law_longBy_0 rfl (lv_at hl 3 rfl) ?_
  refine lv_iconst (v := 0) X.x X.b d_Law_longBy_1 (by decide) ?_
  refine lv_aload_n X.x X.b d_Law_longBy_2 rfl (lv_at hl 0 rfl) ?_
  refine lv_iload_n X.x X.b d_Law_longBy_3 rfl (lv_at hl 1 rfl) ?_
  refine lv_iload_n X.x X.b d_Law_longBy_4 rfl (lv_at hl 2 rfl) ?_
  refine m_callT X hS (T_BP_longBy_IA l g hfl hb ht ht2 hk hBz) hZ v_Law_60 hb.1 rfl rfl rfl (Nat.le_of_ble_eq_true rfl) hl.1 d_Law_longBy_5 (by omega) (by decide) ⟨by omega, by omega⟩ (fun q z => Or.inr z) (fun q ce H1 locs1 hfr hS hce hcv hcl => ?_)
  refine m_catch X [(⟨0, 10, 13, 13⟩ : ExceptionTableEntry)] (⟨0, 10, 17, 15⟩ : ExceptionTableEntry) [] hT (pass1 (by decide) li_IO hZ.2.1.2.2.1) (by decide) (by decide) li_IA hZ.2.1.1.2.1 hce hcv hcl ?_
  refine lv_astore (lv' := [(4, .ref q), (0, .ref B), (1, .int t), (2, .int k), (3, .ref oq)]) X.x X.b d_Law_longBy_17 hl (by decide) rfl (fun ls hl => ?_)
  refine lv_iconst (v := 2) X.x X.b d_Law_longBy_19 (by decide) ?_
  exact m_iret X hS (by omega) (by omega) d_Law_longBy_20 rfl trivial
set_option maxRecDepth 100000 in
set_option maxHeartbeats 4000000 in
theorem L_add_ok (l : Launch) (g : GG) (hfl : l.stackTraces = false) {Bz oq : Nat} {fo : Nat → Int64} {B : Nat} {cnt : Nat → Nat} {f : Nat → Nat → Nat} {D : DT} {y : YS} {H0 : Heap} (hb : bAt g B cnt f D y H0) {r : Nat} (hr : r < 5) (hcap : cnt r < capF 40 r) {k x y_ n v : Int32} (hln : lnOk k x y_ n v) (hvb : v = 0 ∨ v = 1) (hBz : Bz ≤ H0.size) (ho : ouAt g oq fo H0) (hoq : B + 287 ≤ oq) : MWr l y_Law_add c_Law_add 9 hh_Law_add 23 1 6 Bz g H0 [.ref B, .int (nI r), .int k, .int x, .int y_, .int n, .int v, .ref oq] (wrA B oq) (some (.int 0)) (fun H1 => ouIs g oq (nI (cnt r)).toInt64 H1) := by
  refine MWr.of (by decide +kernel) (Nat.le_of_ble_eq_true rfl) ?_
  intro p e s m below meth cd X hH hZ hT ls hl
  have X : CX g p s m _ meth cd c_Law_add 9 (some .int) R_Law _ := X
  have hl : lv_has ls 9 [(0, .ref B), (1, .int (nI r)), (2, .int k), (3, .int x), (4, .int y_), (5, .int n), (6, .int v), (7, .ref oq)] := hl
  have hS : va_S (AA (wrA B oq) H0) H0 H0 [] := va_S.rf
  refine lv_aload X.x X.b d_Law_add_0 (lv_at hl 7 rfl) ?_
  refine lv_iconst (v := 0) X.x X.b d_Law_add_2 (by decide) ?_
  refine lv_aload_n X.x X.b d_Law_add_3 rfl (lv_at hl 0 rfl) ?_
  refine lv_iload_n X.x X.b d_Law_add_4 rfl (lv_at hl 1 rfl) ?_
  refine lv_iload_n X.x X.b d_Law_add_5 rfl (lv_at hl 2 rfl) ?_
  refine lv_iload_n X.x X.b d_Law_add_6 rfl (lv_at hl 3 rfl) ?_
  refine lv_iload X.x X.b d_Law_add_7 (lv_at hl 4 rfl) ?_
  refine lv_iload X.x X.b d_Law_add_9 (lv_at hl 5 rfl) ?_
  refine lv_iload X.x X.b d_Law_add_11 (lv_at hl 6 rfl) ?_
  refine m_callV X hS (M_BP_add l g hb hr hcap hln hvb rfl) v_Law_7 hb.1 rfl rfl rfl (Nat.le_of_ble_eq_true rfl) hl.1 d_Law_add_13 (by omega) (by decide) ⟨by omega, by omega⟩ (fun q z => z.elim (fun z => by have z : B ≤ q ∧ q < B + 287 := z; exact Or.inl (Or.inl ⟨by omega, by omega⟩)) (fun z => Or.inr z)) (fun H locs hq hfr hS => ?_)
  have ho := ho.fr hfr (fun z => by have z : B ≤ oq ∧ oq < B + 287 := z; omega)
  refine lv_i2l (v := (nI (cnt r)).toInt64) X.x X.b d_Law_add_16 rfl ?_
  refine m_last X hS (Or.inl (Or.inr rfl)) ho (by unfold vp_in; decide) d_Law_add_17 (fun H locs ho hcg hS => ?_)
  refine lv_goto (tgt := 33) X.x X.b d_Law_add_18 (by decide) ?_
  refine lv_iconst (v := 0) X.x X.b d_Law_add_33 (by decide) ?_
  exact m_iret X hS (by omega) (by omega) d_Law_add_34 rfl ⟨_, ho, rfl⟩
set_option maxRecDepth 100000 in
set_option maxHeartbeats 4000000 in
theorem L_ofItem_ok (l : Launch) (g : GG) (hfl : l.stackTraces = false) {Bz oq : Nat} {fo : Nat → Int64} {B : Nat} {cnt : Nat → Nat} {f : Nat → Nat → Nat} {D : DT} {y : YS} {H0 : Heap} (hb : bAt g B cnt f D y H0) {it wt : Int32} {j : Nat} (hk : iaO y.2.1 it = some j) (hw : wt = 0 ∨ wt = 1 ∨ wt = 2 ∨ wt = 3 ∨ wt = 4 ∨ wt = 5 ∨ wt = 6 ∨ wt = 7) (hBz : Bz ≤ H0.size) (ho : ouAt g oq fo H0) (hoq : B + 287 ≤ oq) : MWr l y_Law_ofItem c_Law_ofItem 5 hh_Law_ofItem 7 1 6 Bz g H0 [.ref B, .int it, .int wt, .ref oq] (wrA B oq) (some (.int 0)) (fun H1 => ouIs g oq (ofiF y.1 j wt).toInt64 H1) := by
  refine MWr.of (by decide +kernel) (Nat.le_of_ble_eq_true rfl) ?_
  intro p e s m below meth cd X hH hZ hT ls hl
  have X : CX g p s m _ meth cd c_Law_ofItem 5 (some .int) R_Law _ := X
  have hl : lv_has ls 5 [(0, .ref B), (1, .int it), (2, .int wt), (3, .ref oq)] := hl
  have hS : va_S (AA (wrA B oq) H0) H0 H0 [] := va_S.rf
  refine lv_aload_n X.x X.b d_Law_ofItem_0 rfl (lv_at hl 3 rfl) ?_
  refine lv_iconst (v := 0) X.x X.b d_Law_ofItem_1 (by decide) ?_
  refine lv_aload_n X.x X.b d_Law_ofItem_2 rfl (lv_at hl 0 rfl) ?_
  refine lv_iload_n X.x X.b d_Law_ofItem_3 rfl (lv_at hl 1 rfl) ?_
  refine lv_iload_n X.x X.b d_Law_ofItem_4 rfl (lv_at hl 2 rfl) ?_
  refine m_callP X hS (M_BP_ofItem l g hb hk hw) v_Law_31 hb.1 rfl rfl rfl (Nat.le_of_ble_eq_true rfl) hl.1 d_Law_ofItem_5 (by omega) (by decide) ⟨by omega, by omega⟩ (fun locs hS => ?_)
  refine lv_i2l (v := (ofiF y.1 j wt).toInt64) X.x X.b d_Law_ofItem_8 rfl ?_
  refine m_last X hS (Or.inl (Or.inr rfl)) ho (by unfold vp_in; decide) d_Law_ofItem_9 (fun H locs ho hcg hS => ?_)
  refine lv_goto (tgt := 21) X.x X.b d_Law_ofItem_10 (by decide) ?_
  refine lv_iconst (v := 0) X.x X.b d_Law_ofItem_21 (by decide) ?_
  exact m_iret X hS (by omega) (by omega) d_Law_ofItem_22 rfl ⟨_, ho, rfl⟩
set_option maxRecDepth 100000 in
set_option maxHeartbeats 4000000 in
theorem L_value_ok (l : Launch) (g : GG) (hfl : l.stackTraces = false) {Bz oq : Nat} {fo : Nat → Int64} {B : Nat} {cnt : Nat → Nat} {f : Nat → Nat → Nat} {D : DT} {y : YS} {H0 : Heap} (hb : bAt g B cnt f D y H0) {x : Int32} (hf : y.2.2.2.1 = 0) (h0 : ¬ x < 0) (h8 : x < 8) (hBz : Bz ≤ H0.size) (ho : ouAt g oq fo H0) (hoq : B + 287 ≤ oq) : MWr l y_Law_value c_Law_value 4 hh_Law_value 7 1 6 Bz g H0 [.ref B, .int x, .ref oq] (wrA B oq) (some (.int 0)) (fun H1 => ouIs g oq (valN y x).toInt64 H1) := by
  refine MWr.of (by decide +kernel) (Nat.le_of_ble_eq_true rfl) ?_
  intro p e s m below meth cd X hH hZ hT ls hl
  have X : CX g p s m _ meth cd c_Law_value 4 (some .int) R_Law _ := X
  have hl : lv_has ls 4 [(0, .ref B), (1, .int x), (2, .ref oq)] := hl
  have hS : va_S (AA (wrA B oq) H0) H0 H0 [] := va_S.rf
  refine lv_aload_n X.x X.b d_Law_value_0 rfl (lv_at hl 2 rfl) ?_
  refine lv_iconst (v := 0) X.x X.b d_Law_value_1 (by decide) ?_
  refine lv_aload_n X.x X.b d_Law_value_2 rfl (lv_at hl 0 rfl) ?_
  refine lv_iload_n X.x X.b d_Law_value_3 rfl (lv_at hl 1 rfl) ?_
  refine m_callP X hS (M_BP_value l g hb hf h0 h8) v_Law_45 hb.1 rfl rfl rfl (Nat.le_of_ble_eq_true rfl) hl.1 d_Law_value_4 (by omega) (by decide) ⟨by omega, by omega⟩ (fun locs hS => ?_)
  refine lv_i2l (v := (valN y x).toInt64) X.x X.b d_Law_value_7 rfl ?_
  refine m_last X hS (Or.inl (Or.inr rfl)) ho (by unfold vp_in; decide) d_Law_value_8 (fun H locs ho hcg hS => ?_)
  refine lv_goto (tgt := 15) X.x X.b d_Law_value_9 (by decide) ?_
  refine lv_iconst (v := 0) X.x X.b d_Law_value_15 (by decide) ?_
  exact m_iret X hS (by omega) (by omega) d_Law_value_16 rfl ⟨_, ho, rfl⟩
set_option maxRecDepth 100000 in
set_option maxHeartbeats 4000000 in
theorem L_many_ok (l : Launch) (g : GG) (hfl : l.stackTraces = false) {Bz oq : Nat} {fo : Nat → Int64} {B : Nat} {cnt : Nat → Nat} {f : Nat → Nat → Nat} {D : DT} {y : YS} {H0 : Heap} (hb : bAt g B cnt f D y H0) {wt : Int32} (h0 : ¬ wt < 0) (h11 : wt ≤ 11) (hBz : Bz ≤ H0.size) (ho : ouAt g oq fo H0) (hoq : B + 287 ≤ oq) : MWr l y_Law_many c_Law_many 4 hh_Law_many 7 1 6 Bz g H0 [.ref B, .int wt, .ref oq] (wrA B oq) (some (.int 0)) (fun H1 => ouIs g oq (manF cnt y wt).toInt64 H1) := by
  refine MWr.of (by decide +kernel) (Nat.le_of_ble_eq_true rfl) ?_
  intro p e s m below meth cd X hH hZ hT ls hl
  have X : CX g p s m _ meth cd c_Law_many 4 (some .int) R_Law _ := X
  have hl : lv_has ls 4 [(0, .ref B), (1, .int wt), (2, .ref oq)] := hl
  have hS : va_S (AA (wrA B oq) H0) H0 H0 [] := va_S.rf
  refine lv_aload_n X.x X.b d_Law_many_0 rfl (lv_at hl 2 rfl) ?_
  refine lv_iconst (v := 0) X.x X.b d_Law_many_1 (by decide) ?_
  refine lv_aload_n X.x X.b d_Law_many_2 rfl (lv_at hl 0 rfl) ?_
  refine lv_iload_n X.x X.b d_Law_many_3 rfl (lv_at hl 1 rfl) ?_
  refine m_callP X hS (M_BP_many l g hb h0 h11) v_Law_48 hb.1 rfl rfl rfl (Nat.le_of_ble_eq_true rfl) hl.1 d_Law_many_4 (by omega) (by decide) ⟨by omega, by omega⟩ (fun locs hS => ?_)
  refine lv_i2l (v := (manF cnt y wt).toInt64) X.x X.b d_Law_many_7 rfl ?_
  refine m_last X hS (Or.inl (Or.inr rfl)) ho (by unfold vp_in; decide) d_Law_many_8 (fun H locs ho hcg hS => ?_)
  refine lv_goto (tgt := 15) X.x X.b d_Law_many_9 (by decide) ?_
  refine lv_iconst (v := 0) X.x X.b d_Law_many_15 (by decide) ?_
  exact m_iret X hS (by omega) (by omega) d_Law_many_16 rfl ⟨_, ho, rfl⟩
set_option maxRecDepth 100000 in
set_option maxHeartbeats 4000000 in
theorem L_longBy_ok (l : Launch) (g : GG) (hfl : l.stackTraces = false) {Bz oq : Nat} {fo : Nat → Int64} {B : Nat} {cnt cnt2 : Nat → Nat} {f f2 : Nat → Nat → Nat} {D D2 : DT} {y y2 : YS} {H0 : Heap} (hb : bQt g B cnt f D y cnt2 f2 D2 y2 H0) {t k : Nat} (ht : t ≤ cnt 0) (hk1 : 1 ≤ k) (hk : k ≤ 20) (hf : y.2.2.2.1 = 0) (hBz : Bz ≤ H0.size) (ho : ouAt g oq fo H0) (hoq : B + 287 ≤ oq) : MWr l y_Law_longBy c_Law_longBy 5 hh_Law_longBy 22 1 6 Bz g H0 [.ref B, .int (nI t), .int (nI k), .ref oq] (wrA B oq) (some (.int 0)) (fun H1 => ouIs g oq (lbA y (asmF (lbX D t (dl 2 (-1) (-1) 0 0) k) (lbC cnt k) y2)).toInt64 H1) := by
  refine MWr.of (by decide +kernel) (Nat.le_of_ble_eq_true rfl) ?_
  intro p e s m below meth cd X hH hZ hT ls hl
  have X : CX g p s m _ meth cd c_Law_longBy 5 (some .int) R_Law _ := X
  have hl : lv_has ls 5 [(0, .ref B), (1, .int (nI t)), (2, .int (nI k)), (3, .ref oq)] := hl
  have hS : va_S (AA (wrA B oq) H0) H0 H0 [] := va_S.rf
  refine lv_aload_n X.x X.b d_Law_longBy_0 rfl (lv_at hl 3 rfl) ?_
  refine lv_iconst (v := 0) X.x X.b d_Law_longBy_1 (by decide) ?_
  refine lv_aload_n X.x X.b d_Law_longBy_2 rfl (lv_at hl 0 rfl) ?_
  refine lv_iload_n X.x X.b d_Law_longBy_3 rfl (lv_at hl 1 rfl) ?_
  refine lv_iload_n X.x X.b d_Law_longBy_4 rfl (lv_at hl 2 rfl) ?_
  refine m_callV X hS (M_BP_longBy l g hb ht hk1 hk hf) v_Law_60 hb.1 rfl rfl rfl (Nat.le_of_ble_eq_true rfl) hl.1 d_Law_longBy_5 (by omega) (by decide) ⟨by omega, by omega⟩ (fun q z => z.elim (fun z => by have z : B + 144 ≤ q ∧ q < B + 287 := z; exact Or.inl (Or.inl ⟨by omega, by omega⟩)) (fun z => Or.inr z)) (fun H locs hq hfr hS => ?_)
  have ho := ho.fr hfr (fun z => by have z : B + 144 ≤ oq ∧ oq < B + 287 := z; omega)
  refine lv_i2l (v := (lbA y (asmF (lbX D t (dl 2 (-1) (-1) 0 0) k) (lbC cnt k) y2)).toInt64) X.x X.b d_Law_longBy_8 rfl ?_
  refine m_last X hS (Or.inl (Or.inr rfl)) ho (by unfold vp_in; decide) d_Law_longBy_9 (fun H locs ho hcg hS => ?_)
  refine lv_goto (tgt := 21) X.x X.b d_Law_longBy_10 (by decide) ?_
  refine lv_iconst (v := 0) X.x X.b d_Law_longBy_21 (by decide) ?_
  exact m_iret X hS (by omega) (by omega) d_Law_longBy_22 rfl ⟨_, ho, rfl⟩
