set_option maxRecDepth 100000 in
set_option maxHeartbeats 4000000 in
theorem M_Expander_expandLabel (l : Launch) (g : GG) {w so cap0 lo hi : Nat} {cnt : Nat → Nat} {f : Nat → Nat → Nat} {D : DT} {xs : XS} {H0 : Heap} (hx : xAt g w so cap0 cnt f D lo hi xs H0) (y : Int32) : MM l y_Expander_expandLabel c_Expander_expandLabel 2 none 1 0 0 g H0 [.ref (w + 124), .int y] (wF w) (none) (fun H1 => xAt g w so cap0 cnt f D lo hi (xLab xs y) H1) := by
  refine MM.of (by decide +kernel) (Nat.le_of_ble_eq_true rfl) ?_
  intro p e s m below meth cd X hH ls hl
  have X : CX g p s m _ meth cd c_Expander_expandLabel 2 none R_Expander _ := X
  have hl : lv_has ls 2 [(0, .ref (w + 124)), (1, .int y)] := hl
  have hS : va_S (AA (wF w) H0) H0 H0 [] := va_S.rf
  obtain ⟨S, c, N, x, fn, ml⟩ := xs
  obtain ⟨hE, hI, hN, hs, hcc, hly, hlw, hhw⟩ := hx
  have hE : exAt g w so x fn ml H0 := hE
  have hI : iAt g (w + 1) c S H0 := hI
  have hN : nAt g (w + 125) N H0 := hN
  have hcc : c ≤ 120 := hcc
  refine lv_aload_n X.x X.b d_Expander_expandLabel_0 rfl (lv_at hl 0 rfl) ?_
  refine m_get (v := .ref (w + 125)) X ok_Expander hE 2 (by decide) k_Expander_22 rfl d_Expander_expandLabel_1 ?_
  refine lv_iload_n X.x X.b d_Expander_expandLabel_4 rfl (lv_at hl 1 rfl) ?_
  refine m_callP X hS (M_Names_isLabel l g hN y) v_Expander_111 hN.1 rfl rfl rfl (Nat.le_of_ble_eq_true rfl) hl.1 d_Expander_expandLabel_5 (by omega) (by decide) ⟨Nat.zero_le _, Nat.zero_le _⟩ (fun locs hS => ?_)
  refine lv_if_ne (tgt := 22) X.x X.b d_Expander_expandLabel_8 (by decide) (fun c1 => ?_) (fun c1 => ?_)
  · skip
    have c1 := b2i_n0 c1
    refine lv_aload_n X.x X.b d_Expander_expandLabel_22 rfl (lv_at hl 0 rfl) ?_
    refine lv_iconst (v := 4) X.x X.b d_Expander_expandLabel_23 (by decide) ?_
    refine m_put X ok_Expander hS (Or.inl ⟨by omega, by omega⟩) hE 4 (by decide) k_Expander_30 rfl (ok_Expander.2.2.1 _ (by decide)) rfl rfl (Nat.le_of_ble_eq_true rfl) d_Expander_expandLabel_24 (fun H locs hp hcg hS => ?_)
    have hE : exAt g w so x 4 ml H := hp
    have hfr := fr.of_chg (A := fun q => q = w + 124) hcg rfl
    have hI := hI.frame hfr (fun q z => by have z : q = w + 124 := z; omega)
    have hN := hN.frame hfr (fun q z => by have z : q = w + 124 := z; omega)
    have hs := hs.frame hfr (fun q z => by have z : q = w + 124 := z; omega)
    have hM : xLab (S, c, N, x, fn, ml) y = (S, c, N, x, 4, ml) := by simp [xLab, xF, xN, c1]
    exact m_vret X hS (Nat.zero_le _) (Nat.zero_le _) d_Expander_expandLabel_27 rfl (by rw [hM]; exact ⟨hE, hI, hN, hs, by omega, hly, hlw, hhw⟩)
  · skip
    have c1 := b2i_0.mp c1
    refine lv_aload_n X.x X.b d_Expander_expandLabel_11 rfl (lv_at hl 0 rfl) ?_
    refine m_get (v := .ref (w + 125)) X ok_Expander hE 2 (by decide) k_Expander_22 rfl d_Expander_expandLabel_12 ?_
    refine lv_iload_n X.x X.b d_Expander_expandLabel_15 rfl (lv_at hl 1 rfl) ?_
    refine m_callP X hS (M_Names_isSetSoFar l g hN y) v_Expander_114 hN.1 rfl rfl rfl (Nat.le_of_ble_eq_true rfl) hl.1 d_Expander_expandLabel_16 (by omega) (by decide) ⟨Nat.zero_le _, Nat.zero_le _⟩ (fun locs hS => ?_)
    refine lv_if_eq (tgt := 28) X.x X.b d_Expander_expandLabel_19 (by decide) (fun c2 => ?_) (fun c2 => ?_)
    · skip
      have c2 := b2i_0.mp c2
      refine lv_aload_n X.x X.b d_Expander_expandLabel_28 rfl (lv_at hl 0 rfl) ?_
      refine m_get (v := .ref (w + 125)) X ok_Expander hE 2 (by decide) k_Expander_22 rfl d_Expander_expandLabel_29 ?_
      refine lv_iload_n X.x X.b d_Expander_expandLabel_32 rfl (lv_at hl 1 rfl) ?_
      refine m_callM X hS (M_Names_noteLabel l g hN y) v_Expander_117 hN.1 rfl rfl rfl (Nat.le_of_ble_eq_true rfl) hl.1 d_Expander_expandLabel_33 (by omega) (by decide) ⟨Nat.zero_le _, Nat.zero_le _⟩ (fun q z => by have z : w + 125 ≤ q ∧ q < w + 125 + 4 := z; exact ⟨by omega, by omega⟩) (fun H locs hN hfr hS => ?_)
      have hE := hE.fr hfr (fun z => by have z : w + 125 ≤ w + 124 ∧ w + 124 < w + 125 + 4 := z; omega)
      have hI := hI.frame hfr (fun q z => by have z : w + 125 ≤ q ∧ q < w + 125 + 4 := z; omega)
      have hs := hs.frame hfr (fun q z => by have z : w + 125 ≤ q ∧ q < w + 125 + 4 := z; omega)
      have hM : xLab (S, c, N, x, fn, ml) y = (S, c, (notl N y), x, fn, ml) := by simp [xLab, xF, xN, c1, c2]
      exact m_vret X hS (Nat.zero_le _) (Nat.zero_le _) d_Expander_expandLabel_36 rfl (by rw [hM]; exact ⟨hE, hI, hN, hs, by omega, hly, hlw, hhw⟩)
    · skip
      have c2 := b2i_n0 c2
      refine lv_aload_n X.x X.b d_Expander_expandLabel_22 rfl (lv_at hl 0 rfl) ?_
      refine lv_iconst (v := 4) X.x X.b d_Expander_expandLabel_23 (by decide) ?_
      refine m_put X ok_Expander hS (Or.inl ⟨by omega, by omega⟩) hE 4 (by decide) k_Expander_30 rfl (ok_Expander.2.2.1 _ (by decide)) rfl rfl (Nat.le_of_ble_eq_true rfl) d_Expander_expandLabel_24 (fun H locs hp hcg hS => ?_)
      have hE : exAt g w so x 4 ml H := hp
      have hfr := fr.of_chg (A := fun q => q = w + 124) hcg rfl
      have hI := hI.frame hfr (fun q z => by have z : q = w + 124 := z; omega)
      have hN := hN.frame hfr (fun q z => by have z : q = w + 124 := z; omega)
      have hs := hs.frame hfr (fun q z => by have z : q = w + 124 := z; omega)
      have hM : xLab (S, c, N, x, fn, ml) y = (S, c, N, x, 4, ml) := by simp [xLab, xF, xN, c1, c2]
      exact m_vret X hS (Nat.zero_le _) (Nat.zero_le _) d_Expander_expandLabel_27 rfl (by rw [hM]; exact ⟨hE, hI, hN, hs, by omega, hly, hlw, hhw⟩)
set_option maxRecDepth 100000 in
set_option maxHeartbeats 4000000 in
theorem M_Expander_expandSet (l : Launch) (g : GG) {w so cap0 lo hi : Nat} {cnt : Nat → Nat} {f : Nat → Nat → Nat} {D : DT} {xs : XS} {H0 : Heap} (hx : xAt g w so cap0 cnt f D lo hi xs H0) {ln : Nat} {d : Nat → Int32} (hL : lnD g ln d H0) (hlo : ln < lo ∨ hi ≤ ln) (n : Int32) : MM l y_Expander_expandSet c_Expander_expandSet 3 none 1 0 0 g H0 [.ref (w + 124), .ref ln, .int n] (wF w) (none) (fun H1 => xAt g w so cap0 cnt f D lo hi (xSet xs (d 1) (d 2) n) H1) := by
  refine MM.of (by decide +kernel) (Nat.le_of_ble_eq_true rfl) ?_
  intro p e s m below meth cd X hH ls hl
  have X : CX g p s m _ meth cd c_Expander_expandSet 3 none R_Expander _ := X
  have hl : lv_has ls 3 [(0, .ref (w + 124)), (1, .ref ln), (2, .int n)] := hl
  have hS : va_S (AA (wF w) H0) H0 H0 [] := va_S.rf
  obtain ⟨S, c, N, x, fn, ml⟩ := xs
  obtain ⟨hE, hI, hN, hs, hcc, hly, hlw, hhw⟩ := hx
  have hE : exAt g w so x fn ml H0 := hE
  have hI : iAt g (w + 1) c S H0 := hI
  have hN : nAt g (w + 125) N H0 := hN
  have hcc : c ≤ 120 := hcc
  refine lv_aload_n X.x X.b d_Expander_expandSet_0 rfl (lv_at hl 0 rfl) ?_
  refine m_get (v := .ref (w + 125)) X ok_Expander hE 2 (by decide) k_Expander_22 rfl d_Expander_expandSet_1 ?_
  refine lv_aload_n X.x X.b d_Expander_expandSet_4 rfl (lv_at hl 1 rfl) ?_
  refine m_get (v := .int (d 2)) X ok_Line hL 2 (by decide) k_Expander_108 rfl d_Expander_expandSet_5 ?_
  refine m_callP X hS (M_Names_isNoneOrSet l g hN (d 2)) v_Expander_104 hN.1 rfl rfl rfl (Nat.le_of_ble_eq_true rfl) hl.1 d_Expander_expandSet_8 (by omega) (by decide) ⟨Nat.zero_le _, Nat.zero_le _⟩ (fun locs hS => ?_)
  refine lv_if_ne (tgt := 22) X.x X.b d_Expander_expandSet_11 (by decide) (fun c1 => ?_) (fun c1 => ?_)
  · skip
    have c1 := b2i_n0 c1
    refine lv_aload_n X.x X.b d_Expander_expandSet_22 rfl (lv_at hl 0 rfl) ?_
    refine m_get (v := .ref (w + 125)) X ok_Expander hE 2 (by decide) k_Expander_22 rfl d_Expander_expandSet_23 ?_
    refine lv_aload_n X.x X.b d_Expander_expandSet_26 rfl (lv_at hl 1 rfl) ?_
    refine m_get (v := .int (d 1)) X ok_Line hL 1 (by decide) k_Expander_75 rfl d_Expander_expandSet_27 ?_
    refine m_callP X hS (M_Names_isLabel l g hN (d 1)) v_Expander_111 hN.1 rfl rfl rfl (Nat.le_of_ble_eq_true rfl) hl.1 d_Expander_expandSet_30 (by omega) (by decide) ⟨Nat.zero_le _, Nat.zero_le _⟩ (fun locs hS => ?_)
    refine lv_if_eq (tgt := 44) X.x X.b d_Expander_expandSet_33 (by decide) (fun c2 => ?_) (fun c2 => ?_)
    · skip
      have c2 := b2i_0.mp c2
      refine lv_aload_n X.x X.b d_Expander_expandSet_44 rfl (lv_at hl 0 rfl) ?_
      refine m_get (v := .ref (w + 125)) X ok_Expander hE 2 (by decide) k_Expander_22 rfl d_Expander_expandSet_45 ?_
      refine lv_aload_n X.x X.b d_Expander_expandSet_48 rfl (lv_at hl 1 rfl) ?_
      refine m_get (v := .int (d 1)) X ok_Line hL 1 (by decide) k_Expander_75 rfl d_Expander_expandSet_49 ?_
      refine lv_aload_n X.x X.b d_Expander_expandSet_52 rfl (lv_at hl 0 rfl) ?_
      refine m_get (v := .ref (w + 125)) X ok_Expander hE 2 (by decide) k_Expander_22 rfl d_Expander_expandSet_53 ?_
      refine lv_aload_n X.x X.b d_Expander_expandSet_56 rfl (lv_at hl 1 rfl) ?_
      refine m_get (v := .int (d 2)) X ok_Line hL 2 (by decide) k_Expander_108 rfl d_Expander_expandSet_57 ?_
      refine m_callP X hS (M_Names_soFar l g hN (d 2)) v_Expander_94 hN.1 rfl rfl rfl (Nat.le_of_ble_eq_true rfl) hl.1 d_Expander_expandSet_60 (by omega) (by decide) ⟨Nat.zero_le _, Nat.zero_le _⟩ (fun locs hS => ?_)
      refine lv_iload_n X.x X.b d_Expander_expandSet_63 rfl (lv_at hl 2 rfl) ?_
      refine lv_iadd X.x X.b d_Expander_expandSet_64 ?_
      refine m_callM X hS (M_Names_noteSet l g hN (d 1) ((sofF N (d 2)) + n)) v_Expander_120 hN.1 rfl rfl rfl (Nat.le_of_ble_eq_true rfl) hl.1 d_Expander_expandSet_65 (by omega) (by decide) ⟨Nat.zero_le _, Nat.zero_le _⟩ (fun q z => by have z : w + 125 ≤ q ∧ q < w + 125 + 4 := z; exact ⟨by omega, by omega⟩) (fun H locs hN hfr hS => ?_)
      have hE := hE.fr hfr (fun z => by have z : w + 125 ≤ w + 124 ∧ w + 124 < w + 125 + 4 := z; omega)
      have hI := hI.frame hfr (fun q z => by have z : w + 125 ≤ q ∧ q < w + 125 + 4 := z; omega)
      have hs := hs.frame hfr (fun q z => by have z : w + 125 ≤ q ∧ q < w + 125 + 4 := z; omega)
      have hL := hL.fr hfr (fun z => by have z : w + 125 ≤ ln ∧ ln < w + 125 + 4 := z; omega)
      have hM : xSet (S, c, N, x, fn, ml) (d 1) (d 2) n = (S, c, (nots N (d 1) ((sofF N (d 2)) + n)), x, fn, ml) := by simp [xSet, xF, xN, c1, c2]
      exact m_vret X hS (Nat.zero_le _) (Nat.zero_le _) d_Expander_expandSet_68 rfl (by rw [hM]; exact ⟨hE, hI, hN, hs, by omega, hly, hlw, hhw⟩)
    · skip
      have c2 := b2i_n0 c2
      refine lv_aload_n X.x X.b d_Expander_expandSet_36 rfl (lv_at hl 0 rfl) ?_
      refine lv_iconst (v := 4) X.x X.b d_Expander_expandSet_37 (by decide) ?_
      refine m_put X ok_Expander hS (Or.inl ⟨by omega, by omega⟩) hE 4 (by decide) k_Expander_30 rfl (ok_Expander.2.2.1 _ (by decide)) rfl rfl (Nat.le_of_ble_eq_true rfl) d_Expander_expandSet_38 (fun H locs hp hcg hS => ?_)
      have hE : exAt g w so x 4 ml H := hp
      have hfr := fr.of_chg (A := fun q => q = w + 124) hcg rfl
      have hI := hI.frame hfr (fun q z => by have z : q = w + 124 := z; omega)
      have hN := hN.frame hfr (fun q z => by have z : q = w + 124 := z; omega)
      have hs := hs.frame hfr (fun q z => by have z : q = w + 124 := z; omega)
      have hL := hL.fr hfr (fun z => by have z : ln = w + 124 := z; omega)
      refine lv_goto (tgt := 68) X.x X.b d_Expander_expandSet_41 (by decide) ?_
      have hM : xSet (S, c, N, x, fn, ml) (d 1) (d 2) n = (S, c, N, x, 4, ml) := by simp [xSet, xF, xN, c1, c2]
      exact m_vret X hS (Nat.zero_le _) (Nat.zero_le _) d_Expander_expandSet_68 rfl (by rw [hM]; exact ⟨hE, hI, hN, hs, by omega, hly, hlw, hhw⟩)
  · skip
    have c1 := b2i_0.mp c1
    refine lv_aload_n X.x X.b d_Expander_expandSet_14 rfl (lv_at hl 0 rfl) ?_
    refine lv_iconst (v := 3) X.x X.b d_Expander_expandSet_15 (by decide) ?_
    refine m_put X ok_Expander hS (Or.inl ⟨by omega, by omega⟩) hE 4 (by decide) k_Expander_30 rfl (ok_Expander.2.2.1 _ (by decide)) rfl rfl (Nat.le_of_ble_eq_true rfl) d_Expander_expandSet_16 (fun H locs hp hcg hS => ?_)
    have hE : exAt g w so x 3 ml H := hp
    have hfr := fr.of_chg (A := fun q => q = w + 124) hcg rfl
    have hI := hI.frame hfr (fun q z => by have z : q = w + 124 := z; omega)
    have hN := hN.frame hfr (fun q z => by have z : q = w + 124 := z; omega)
    have hs := hs.frame hfr (fun q z => by have z : q = w + 124 := z; omega)
    have hL := hL.fr hfr (fun z => by have z : ln = w + 124 := z; omega)
    refine lv_goto (tgt := 68) X.x X.b d_Expander_expandSet_19 (by decide) ?_
    have hM : xSet (S, c, N, x, fn, ml) (d 1) (d 2) n = (S, c, N, x, 3, ml) := by simp [xSet, xF, xN, c1]
    exact m_vret X hS (Nat.zero_le _) (Nat.zero_le _) d_Expander_expandSet_68 rfl (by rw [hM]; exact ⟨hE, hI, hN, hs, by omega, hly, hlw, hhw⟩)
set_option maxRecDepth 100000 in
set_option maxHeartbeats 4000000 in
theorem M_Expander_goesOn (l : Launch) (g : GG) {w so cap0 lo hi : Nat} {cnt : Nat → Nat} {f : Nat → Nat → Nat} {D : DT} {xs : XS} {H0 : Heap} (hx : xAt g w so cap0 cnt f D lo hi xs H0) {ln : Nat} {d : Nat → Int32} (hL : lnD g ln d H0) (hlo : ln < lo ∨ hi ≤ ln) (n : Int32) : MM l y_Expander_goesOn c_Expander_goesOn 3 (some .boolean) 1 0 0 g H0 [.ref (w + 124), .ref ln, .int n] (wF w) (some (.int (xGoR xs (d 1) (d 2) n))) (fun H1 => xAt g w so cap0 cnt f D lo hi (xGoS xs (d 1) (d 2)) H1) := by
  refine MM.of (by decide +kernel) (Nat.le_of_ble_eq_true rfl) ?_
  intro p e s m below meth cd X hH ls hl
  have X : CX g p s m _ meth cd c_Expander_goesOn 3 (some .boolean) R_Expander _ := X
  have hl : lv_has ls 3 [(0, .ref (w + 124)), (1, .ref ln), (2, .int n)] := hl
  have hS : va_S (AA (wF w) H0) H0 H0 [] := va_S.rf
  obtain ⟨S, c, N, x, fn, ml⟩ := xs
  obtain ⟨hE, hI, hN, hs, hcc, hly, hlw, hhw⟩ := hx
  have hE : exAt g w so x fn ml H0 := hE
  have hI : iAt g (w + 1) c S H0 := hI
  have hN : nAt g (w + 125) N H0 := hN
  have hcc : c ≤ 120 := hcc
  refine lv_aload_n X.x X.b d_Expander_goesOn_0 rfl (lv_at hl 0 rfl) ?_
  refine m_get (v := .ref (w + 125)) X ok_Expander hE 2 (by decide) k_Expander_22 rfl d_Expander_goesOn_1 ?_
  refine lv_aload_n X.x X.b d_Expander_goesOn_4 rfl (lv_at hl 1 rfl) ?_
  refine m_get (v := .int (d 1)) X ok_Line hL 1 (by decide) k_Expander_75 rfl d_Expander_goesOn_5 ?_
  refine m_callP X hS (M_Names_isNoneOrSet l g hN (d 1)) v_Expander_104 hN.1 rfl rfl rfl (Nat.le_of_ble_eq_true rfl) hl.1 d_Expander_goesOn_8 (by omega) (by decide) ⟨Nat.zero_le _, Nat.zero_le _⟩ (fun locs hS => ?_)
  refine lv_if_eq (tgt := 28) X.x X.b d_Expander_goesOn_11 (by decide) (fun c1 => ?_) (fun c1 => ?_)
  · skip
    have c1 := b2i_0.mp c1
    refine lv_aload_n X.x X.b d_Expander_goesOn_28 rfl (lv_at hl 0 rfl) ?_
    refine lv_iconst (v := 3) X.x X.b d_Expander_goesOn_29 (by decide) ?_
    refine m_put X ok_Expander hS (Or.inl ⟨by omega, by omega⟩) hE 4 (by decide) k_Expander_30 rfl (ok_Expander.2.2.1 _ (by decide)) rfl rfl (Nat.le_of_ble_eq_true rfl) d_Expander_goesOn_30 (fun H locs hp hcg hS => ?_)
    have hE : exAt g w so x 3 ml H := hp
    have hfr := fr.of_chg (A := fun q => q = w + 124) hcg rfl
    have hI := hI.frame hfr (fun q z => by have z : q = w + 124 := z; omega)
    have hN := hN.frame hfr (fun q z => by have z : q = w + 124 := z; omega)
    have hs := hs.frame hfr (fun q z => by have z : q = w + 124 := z; omega)
    have hL := hL.fr hfr (fun z => by have z : ln = w + 124 := z; omega)
    refine lv_iconst (v := 1) X.x X.b d_Expander_goesOn_33 (by decide) ?_
    have hM : xGoS (S, c, N, x, fn, ml) (d 1) (d 2) = (S, c, N, x, 3, ml) := by simp [xGoS, xF, xN, c1]
    exact m_zret X hS (Nat.zero_le _) (Nat.zero_le _) d_Expander_goesOn_34 rfl (congrArg (fun z => some (Value.int z)) (by simp [xGoR, b2i, c1])) (by rw [hM]; exact ⟨hE, hI, hN, hs, by omega, hly, hlw, hhw⟩)
  · skip
    have c1 := b2i_n0 c1
    refine lv_aload_n X.x X.b d_Expander_goesOn_14 rfl (lv_at hl 0 rfl) ?_
    refine m_get (v := .ref (w + 125)) X ok_Expander hE 2 (by decide) k_Expander_22 rfl d_Expander_goesOn_15 ?_
    refine lv_aload_n X.x X.b d_Expander_goesOn_18 rfl (lv_at hl 1 rfl) ?_
    refine m_get (v := .int (d 2)) X ok_Line hL 2 (by decide) k_Expander_108 rfl d_Expander_goesOn_19 ?_
    refine m_callP X hS (M_Names_isNoneOrSet l g hN (d 2)) v_Expander_104 hN.1 rfl rfl rfl (Nat.le_of_ble_eq_true rfl) hl.1 d_Expander_goesOn_22 (by omega) (by decide) ⟨Nat.zero_le _, Nat.zero_le _⟩ (fun locs hS => ?_)
    refine lv_if_ne (tgt := 35) X.x X.b d_Expander_goesOn_25 (by decide) (fun c2 => ?_) (fun c2 => ?_)
    · skip
      have c2 := b2i_n0 c2
      refine lv_iload_n X.x X.b d_Expander_goesOn_35 rfl (lv_at hl 2 rfl) ?_
      refine lv_aload_n X.x X.b d_Expander_goesOn_36 rfl (lv_at hl 0 rfl) ?_
      refine m_get (v := .ref (w + 125)) X ok_Expander hE 2 (by decide) k_Expander_22 rfl d_Expander_goesOn_37 ?_
      refine lv_aload_n X.x X.b d_Expander_goesOn_40 rfl (lv_at hl 1 rfl) ?_
      refine m_get (v := .int (d 1)) X ok_Line hL 1 (by decide) k_Expander_75 rfl d_Expander_goesOn_41 ?_
      refine m_callP X hS (M_Names_soFar l g hN (d 1)) v_Expander_94 hN.1 rfl rfl rfl (Nat.le_of_ble_eq_true rfl) hl.1 d_Expander_goesOn_44 (by omega) (by decide) ⟨Nat.zero_le _, Nat.zero_le _⟩ (fun locs hS => ?_)
      refine lv_iadd X.x X.b d_Expander_goesOn_47 ?_
      refine lv_aload_n X.x X.b d_Expander_goesOn_48 rfl (lv_at hl 0 rfl) ?_
      refine m_get (v := .ref (w + 125)) X ok_Expander hE 2 (by decide) k_Expander_22 rfl d_Expander_goesOn_49 ?_
      refine lv_aload_n X.x X.b d_Expander_goesOn_52 rfl (lv_at hl 1 rfl) ?_
      refine m_get (v := .int (d 2)) X ok_Line hL 2 (by decide) k_Expander_108 rfl d_Expander_goesOn_53 ?_
      refine m_callP X hS (M_Names_soFar l g hN (d 2)) v_Expander_94 hN.1 rfl rfl rfl (Nat.le_of_ble_eq_true rfl) hl.1 d_Expander_goesOn_56 (by omega) (by decide) ⟨Nat.zero_le _, Nat.zero_le _⟩ (fun locs hS => ?_)
      refine lv_isub X.x X.b d_Expander_goesOn_59 ?_
      refine lv_if_le (tgt := 67) X.x X.b d_Expander_goesOn_60 (by decide) (fun c3 => ?_) (fun c3 => ?_)
      · skip
        have c3q := Int32.not_lt.mpr c3
        refine lv_iconst (v := 0) X.x X.b d_Expander_goesOn_67 (by decide) ?_
        have hM : xGoS (S, c, N, x, fn, ml) (d 1) (d 2) = (S, c, N, x, fn, ml) := by simp [xGoS, xF, xN, c1, c2, c3, c3q]
        exact m_zret X hS (Nat.zero_le _) (Nat.zero_le _) d_Expander_goesOn_68 rfl (congrArg (fun z => some (Value.int z)) (by simp [xGoR, b2i, c1, c2, c3, c3q])) (by rw [hM]; exact ⟨hE, hI, hN, hs, by omega, hly, hlw, hhw⟩)
      · skip
        have c3q := Int32.not_le.mp c3
        refine lv_iconst (v := 1) X.x X.b d_Expander_goesOn_63 (by decide) ?_
        refine lv_goto (tgt := 68) X.x X.b d_Expander_goesOn_64 (by decide) ?_
        have hM : xGoS (S, c, N, x, fn, ml) (d 1) (d 2) = (S, c, N, x, fn, ml) := by simp [xGoS, xF, xN, c1, c2, c3, c3q]
        exact m_zret X hS (Nat.zero_le _) (Nat.zero_le _) d_Expander_goesOn_68 rfl (congrArg (fun z => some (Value.int z)) (by simp [xGoR, b2i, c1, c2, c3, c3q])) (by rw [hM]; exact ⟨hE, hI, hN, hs, by omega, hly, hlw, hhw⟩)
    · skip
      have c2 := b2i_0.mp c2
      refine lv_aload_n X.x X.b d_Expander_goesOn_28 rfl (lv_at hl 0 rfl) ?_
      refine lv_iconst (v := 3) X.x X.b d_Expander_goesOn_29 (by decide) ?_
      refine m_put X ok_Expander hS (Or.inl ⟨by omega, by omega⟩) hE 4 (by decide) k_Expander_30 rfl (ok_Expander.2.2.1 _ (by decide)) rfl rfl (Nat.le_of_ble_eq_true rfl) d_Expander_goesOn_30 (fun H locs hp hcg hS => ?_)
      have hE : exAt g w so x 3 ml H := hp
      have hfr := fr.of_chg (A := fun q => q = w + 124) hcg rfl
      have hI := hI.frame hfr (fun q z => by have z : q = w + 124 := z; omega)
      have hN := hN.frame hfr (fun q z => by have z : q = w + 124 := z; omega)
      have hs := hs.frame hfr (fun q z => by have z : q = w + 124 := z; omega)
      have hL := hL.fr hfr (fun z => by have z : ln = w + 124 := z; omega)
      refine lv_iconst (v := 1) X.x X.b d_Expander_goesOn_33 (by decide) ?_
      have hM : xGoS (S, c, N, x, fn, ml) (d 1) (d 2) = (S, c, N, x, 3, ml) := by simp [xGoS, xF, xN, c1, c2]
      exact m_zret X hS (Nat.zero_le _) (Nat.zero_le _) d_Expander_goesOn_34 rfl (congrArg (fun z => some (Value.int z)) (by simp [xGoR, b2i, c1, c2])) (by rw [hM]; exact ⟨hE, hI, hN, hs, by omega, hly, hlw, hhw⟩)
set_option maxRecDepth 100000 in
set_option maxHeartbeats 4000000 in
theorem M_Expander_startOver (l : Launch) (g : GG) {w so cap0 lo hi : Nat} {cnt : Nat → Nat} {f : Nat → Nat → Nat} {D : DT} {xs : XS} {H0 : Heap} (hx : xAt0 g w so cap0 cnt f D lo hi xs H0) : MM l y_Expander_startOver c_Expander_startOver 1 none 1 0 0 g H0 [.ref (w + 124)] (wF w) (none) (fun H1 => xAt g w so cap0 cnt f D lo hi ((xs.1, 0, nn0, 0, 0, 0)) H1) := by
  refine MM.of (by decide +kernel) (Nat.le_of_ble_eq_true rfl) ?_
  intro p e s m below meth cd X hH ls hl
  have X : CX g p s m _ meth cd c_Expander_startOver 1 none R_Expander _ := X
  have hl : lv_has ls 1 [(0, .ref (w + 124))] := hl
  have hS : va_S (AA (wF w) H0) H0 H0 [] := va_S.rf
  obtain ⟨S, c, N, x, fn, ml⟩ := xs
  obtain ⟨hE, hI, hN, hs, hcc, hly, hlw, hhw⟩ := hx
  have hE : exAt g w so x fn ml H0 := hE
  have hI : iAt g (w + 1) c S H0 := hI
  have hN : nAt g (w + 125) N H0 := hN
  have hcc : c ≤ 121 := hcc
  refine lv_aload_n X.x X.b d_Expander_startOver_0 rfl (lv_at hl 0 rfl) ?_
  refine m_get (v := .ref (w + 1)) X ok_Expander hE 1 (by decide) k_Expander_15 rfl d_Expander_startOver_1 ?_
  refine m_callM X hS (M_Items_clear l g hI (by omega)) v_Expander_36 hI.1 rfl rfl rfl (Nat.le_of_ble_eq_true rfl) hl.1 d_Expander_startOver_4 (by omega) (by decide) ⟨Nat.zero_le _, Nat.zero_le _⟩ (fun q z => by have z : w + 1 ≤ q ∧ q < w + 1 + 123 := z; exact ⟨by omega, by omega⟩) (fun H locs hI hfr hS => ?_)
  have hE := hE.fr hfr (fun z => by have z : w + 1 ≤ w + 124 ∧ w + 124 < w + 1 + 123 := z; omega)
  have hN := hN.frame hfr (fun q z => by have z : w + 1 ≤ q ∧ q < w + 1 + 123 := z; omega)
  have hs := hs.frame hfr (fun q z => by have z : w + 1 ≤ q ∧ q < w + 1 + 123 := z; omega)
  refine lv_aload_n X.x X.b d_Expander_startOver_7 rfl (lv_at hl 0 rfl) ?_
  refine m_get (v := .ref (w + 125)) X ok_Expander hE 2 (by decide) k_Expander_22 rfl d_Expander_startOver_8 ?_
  refine m_callM X hS (M_Names_clear l g hN) v_Expander_41 hN.1 rfl rfl rfl (Nat.le_of_ble_eq_true rfl) hl.1 d_Expander_startOver_11 (by omega) (by decide) ⟨Nat.zero_le _, Nat.zero_le _⟩ (fun q z => by have z : w + 125 ≤ q ∧ q < w + 125 + 4 := z; exact ⟨by omega, by omega⟩) (fun H locs hN hfr hS => ?_)
  have hE := hE.fr hfr (fun z => by have z : w + 125 ≤ w + 124 ∧ w + 124 < w + 125 + 4 := z; omega)
  have hI := hI.frame hfr (fun q z => by have z : w + 125 ≤ q ∧ q < w + 125 + 4 := z; omega)
  have hs := hs.frame hfr (fun q z => by have z : w + 125 ≤ q ∧ q < w + 125 + 4 := z; omega)
  refine lv_aload_n X.x X.b d_Expander_startOver_14 rfl (lv_at hl 0 rfl) ?_
  refine lv_iconst (v := 0) X.x X.b d_Expander_startOver_15 (by decide) ?_
  refine m_put X ok_Expander hS (Or.inl ⟨by omega, by omega⟩) hE 3 (by decide) k_Expander_26 rfl (ok_Expander.2.2.1 _ (by decide)) rfl rfl (Nat.le_of_ble_eq_true rfl) d_Expander_startOver_16 (fun H locs hp hcg hS => ?_)
  have hE : exAt g w so 0 fn ml H := hp
  have hfr := fr.of_chg (A := fun q => q = w + 124) hcg rfl
  have hI := hI.frame hfr (fun q z => by have z : q = w + 124 := z; omega)
  have hN := hN.frame hfr (fun q z => by have z : q = w + 124 := z; omega)
  have hs := hs.frame hfr (fun q z => by have z : q = w + 124 := z; omega)
  refine lv_aload_n X.x X.b d_Expander_startOver_19 rfl (lv_at hl 0 rfl) ?_
  refine lv_iconst (v := 0) X.x X.b d_Expander_startOver_20 (by decide) ?_
  refine m_put X ok_Expander hS (Or.inl ⟨by omega, by omega⟩) hE 4 (by decide) k_Expander_30 rfl (ok_Expander.2.2.1 _ (by decide)) rfl rfl (Nat.le_of_ble_eq_true rfl) d_Expander_startOver_21 (fun H locs hp hcg hS => ?_)
  have hE : exAt g w so 0 0 ml H := hp
  have hfr := fr.of_chg (A := fun q => q = w + 124) hcg rfl
  have hI := hI.frame hfr (fun q z => by have z : q = w + 124 := z; omega)
  have hN := hN.frame hfr (fun q z => by have z : q = w + 124 := z; omega)
  have hs := hs.frame hfr (fun q z => by have z : q = w + 124 := z; omega)
  refine lv_aload_n X.x X.b d_Expander_startOver_24 rfl (lv_at hl 0 rfl) ?_
  refine lv_iconst (v := 0) X.x X.b d_Expander_startOver_25 (by decide) ?_
  refine m_put X ok_Expander hS (Or.inl ⟨by omega, by omega⟩) hE 5 (by decide) k_Expander_33 rfl (ok_Expander.2.2.1 _ (by decide)) rfl rfl (Nat.le_of_ble_eq_true rfl) d_Expander_startOver_26 (fun H locs hp hcg hS => ?_)
  have hE : exAt g w so 0 0 0 H := hp
  have hfr := fr.of_chg (A := fun q => q = w + 124) hcg rfl
  have hI := hI.frame hfr (fun q z => by have z : q = w + 124 := z; omega)
  have hN := hN.frame hfr (fun q z => by have z : q = w + 124 := z; omega)
  have hs := hs.frame hfr (fun q z => by have z : q = w + 124 := z; omega)
  exact m_vret X hS (Nat.zero_le _) (Nat.zero_le _) d_Expander_startOver_29 rfl ⟨hE, hI, hN, hs, Nat.zero_le _, hly, hlw, hhw⟩
set_option maxRecDepth 100000 in
set_option maxHeartbeats 4000000 in
theorem M_Expander_expandCall_0 (l : Launch) (g : GG) {w so cap0 lo hi : Nat} {cnt : Nat → Nat} {f : Nat → Nat → Nat} {D : DT} {xs : XS} {H0 : Heap} (hx : xAt g w so cap0 cnt f D lo hi xs H0) (row arg : Int32) : MM l y_Expander_expandCall c_Expander_expandCall 4 none 2 0 0 g H0 [.ref (w + 124), .int row, .int arg, .int (nI (5 - 0))] (wF w) (none) (fun H1 => xAt g w so cap0 cnt f D lo hi (xCall D cnt 0 row arg xs) H1) := by
  refine MM.of (by decide +kernel) (Nat.le_of_ble_eq_true rfl) ?_
  intro p e s m below meth cd X hH ls hl
  have X : CX g p s m _ meth cd c_Expander_expandCall 4 none R_Expander _ := X
  have hl : lv_has ls 4 [(0, .ref (w + 124)), (1, .int row), (2, .int arg), (3, .int (nI (5 - 0)))] := hl
  have hS : va_S (AA (wF w) H0) H0 H0 [] := va_S.rf
  obtain ⟨S, c, N, x, fn, ml⟩ := xs
  obtain ⟨hE, hI, hN, hs, hcc, hly, hlw, hhw⟩ := hx
  have hE : exAt g w so x fn ml H0 := hE
  have hI : iAt g (w + 1) c S H0 := hI
  have hN : nAt g (w + 125) N H0 := hN
  have hcc : c ≤ 120 := hcc
  refine lv_iload_n X.x X.b d_Expander_expandCall_0 rfl (lv_at hl 3 rfl) ?_
  refine lv_iconst (v := 5) X.x X.b d_Expander_expandCall_1 (by decide) ?_
  refine lv_icmp_lt (tgt := 11) X.x X.b d_Expander_expandCall_2 (by decide) (fun c1 => ?_) (fun c1 => ?_)
  · exact absurd c1 (by decide)
  · skip
    have c1q := Int32.not_lt.mp c1
    refine lv_aload_n X.x X.b d_Expander_expandCall_5 rfl (lv_at hl 0 rfl) ?_
    refine lv_iconst (v := 1) X.x X.b d_Expander_expandCall_6 (by decide) ?_
    refine m_put X ok_Expander hS (Or.inl ⟨by omega, by omega⟩) hE 4 (by decide) k_Expander_30 rfl (ok_Expander.2.2.1 _ (by decide)) rfl rfl (Nat.le_of_ble_eq_true rfl) d_Expander_expandCall_7 (fun H locs hp hcg hS => ?_)
    have hE : exAt g w so x 1 ml H := hp
    have hfr := fr.of_chg (A := fun q => q = w + 124) hcg rfl
    have hI := hI.frame hfr (fun q z => by have z : q = w + 124 := z; omega)
    have hN := hN.frame hfr (fun q z => by have z : q = w + 124 := z; omega)
    have hs := hs.frame hfr (fun q z => by have z : q = w + 124 := z; omega)
    have hM : xCall D cnt 0 row arg (S, c, N, x, fn, ml) = (S, c, N, x, 1, ml) := by simp [xCall, xF, c1, c1q]
    exact m_vret X hS (Nat.zero_le _) (Nat.zero_le _) d_Expander_expandCall_10 rfl (by rw [hM]; exact ⟨hE, hI, hN, hs, by omega, hly, hlw, hhw⟩)
set_option maxRecDepth 100000 in
set_option maxHeartbeats 4000000 in
theorem M_Expander_expandCall_s (l : Launch) (g : GG) {w so cap0 lo hi : Nat} {cnt : Nat → Nat} {f : Nat → Nat → Nat} {D : DT} {xs : XS} {H0 : Heap} (hx : xAt g w so cap0 cnt f D lo hi xs H0) {k : Nat} (hk : k < 5) (hrow : RowOK l g w so cap0 cnt f D lo hi k) (row arg : Int32) : MM l y_Expander_expandCall c_Expander_expandCall 4 none (3 * (k + 1) + 2) 0 0 g H0 [.ref (w + 124), .int row, .int arg, .int (nI (5 - (k + 1)))] (wF w) (none) (fun H1 => xAt g w so cap0 cnt f D lo hi (xCall D cnt (k + 1) row arg xs) H1) := by
  refine MM.of (by decide +kernel) (Nat.le_of_ble_eq_true rfl) ?_
  intro p e s m below meth cd X hH ls hl
  have X : CX g p s m _ meth cd c_Expander_expandCall 4 none R_Expander _ := X
  have hl : lv_has ls 4 [(0, .ref (w + 124)), (1, .int row), (2, .int arg), (3, .int (nI (5 - (k + 1))))] := hl
  have hS : va_S (AA (wF w) H0) H0 H0 [] := va_S.rf
  obtain ⟨S, c, N, x, fn, ml⟩ := xs
  obtain ⟨hE, hI, hN, hs, hcc, hly, hlw, hhw⟩ := hx
  have hE : exAt g w so x fn ml H0 := hE
  have hI : iAt g (w + 1) c S H0 := hI
  have hN : nAt g (w + 125) N H0 := hN
  have hcc : c ≤ 120 := hcc
  refine lv_iload_n X.x X.b d_Expander_expandCall_0 rfl (lv_at hl 3 rfl) ?_
  refine lv_iconst (v := 5) X.x X.b d_Expander_expandCall_1 (by decide) ?_
  refine lv_icmp_lt (tgt := 11) X.x X.b d_Expander_expandCall_2 (by decide) (fun c1 => ?_) (fun c1 => ?_)
  · skip
    have c1q := Int32.not_le.mpr c1
    refine lv_aload_n X.x X.b d_Expander_expandCall_11 rfl (lv_at hl 0 rfl) ?_
    refine lv_iload_n X.x X.b d_Expander_expandCall_12 rfl (lv_at hl 1 rfl) ?_
    refine lv_iload_n X.x X.b d_Expander_expandCall_13 rfl (lv_at hl 2 rfl) ?_
    refine lv_iload_n X.x X.b d_Expander_expandCall_14 rfl (lv_at hl 3 rfl) ?_
    refine lv_iconst (v := 1) X.x X.b d_Expander_expandCall_15 (by decide) ?_
    refine lv_iadd X.x X.b d_Expander_expandCall_16 ?_
    refine lv_topi (fun z ez => ?_)
    rw [nI_1, show 5 - (k + 1) + 1 = 5 - k by omega] at ez
    subst ez
    have hR := hrow (S, c, N, x, fn, ml) H0 row arg ⟨hE, hI, hN, hs, by omega, hly, hlw, hhw⟩
    refine m_callM X hS hR v_Expander_101 hE rfl rfl rfl (Nat.le_of_ble_eq_true rfl) hl.1 d_Expander_expandCall_17 (by omega) (by decide) ⟨Nat.zero_le _, Nat.zero_le _⟩ (fun q z => z) (fun H locs hx hfr hS => ?_)
    exact m_vret X hS (Nat.zero_le _) (Nat.zero_le _) d_Expander_expandCall_20 rfl hx
  · exact absurd (nI_lt (b := 5) (by omega) (by omega)) c1
theorem callOK_0 (l : Launch) (g : GG) (w so cap0 : Nat) (cnt : Nat → Nat) (f : Nat → Nat → Nat) (D : DT) (lo hi : Nat) : CallOK l g w so cap0 cnt f D lo hi 0 := fun xs H0 row arg hx => M_Expander_expandCall_0 l g hx row arg
theorem callOK_s (l : Launch) (g : GG) (w so cap0 : Nat) (cnt : Nat → Nat) (f : Nat → Nat → Nat) (D : DT) (lo hi : Nat) {k : Nat} (hk : k < 5) (hrow : RowOK l g w so cap0 cnt f D lo hi k) : CallOK l g w so cap0 cnt f D lo hi (k + 1) := fun xs H0 row arg hx => M_Expander_expandCall_s l g hx hk hrow row arg
