set_option maxRecDepth 100000 in
set_option maxHeartbeats 4000000 in
theorem M_Expander_expandRow (l : Launch) (g : GG) {w so cap0 lo hi : Nat} {cnt : Nat → Nat} {f : Nat → Nat → Nat} {D : DT} {xs : XS} {H0 : Heap} (hx : xAt g w so cap0 cnt f D lo hi xs H0) {k : Nat} (hk : k ≤ 5) (hcall : CallOK l g w so cap0 cnt f D lo hi k) (row arg : Int32) : MM l y_Expander_expandRow c_Expander_expandRow 8 none (3 * k + 4) 0 0 g H0 [.ref (w + 124), .int row, .int arg, .int (nI (5 - k))] (wF w) (none) (fun H1 => xAt g w so cap0 cnt f D lo hi (xCall D cnt (k + 1) row arg xs) H1) := by
  refine MM.of (by decide +kernel) (Nat.le_of_ble_eq_true rfl) ?_
  intro p e s m below meth cd X hH ls hl
  have X : CX g p s m _ meth cd c_Expander_expandRow 8 none R_Expander _ := X
  have hl : lv_has ls 8 [(0, .ref (w + 124)), (1, .int row), (2, .int arg), (3, .int (nI (5 - k)))] := hl
  have hS : va_S (AA (wF w) H0) H0 H0 [] := va_S.rf
  obtain ⟨S, c, N, x, fn, ml⟩ := xs
  obtain ⟨hE, hI, hN, hs, hcc, hly, hlw, hhw⟩ := hx
  have hE : exAt g w so x fn ml H0 := hE
  have hI : iAt g (w + 1) c S H0 := hI
  have hN : nAt g (w + 125) N H0 := hN
  have hcc : c ≤ 120 := hcc
  have hcx := hs.cnx row
  refine lv_iconst (v := 0) X.x X.b d_Expander_expandRow_0 (by decide) ?_
  refine lv_istore (lv' := [(4, .int 0), (0, .ref (w + 124)), (1, .int row), (2, .int arg), (3, .int (nI (5 - k)))]) X.x X.b d_Expander_expandRow_1 hl (by decide) rfl (fun ls hl => ?_)
  refine lv_aload_n X.x X.b d_Expander_expandRow_3 rfl (lv_at hl 1 rfl) ?_
  refine m_get (v := .ref so) X ok_Expander hE 0 (by decide) k_Expander_9 rfl d_Expander_expandRow_4 ?_
  refine lv_iload_n X.x X.b d_Expander_expandRow_7 rfl (lv_at hl 2 rfl) ?_
  refine m_callP X hS (M_Source_countOf l g hs row) v_Expander_42 hs.1 rfl rfl rfl (Nat.le_of_ble_eq_true rfl) hl.1 d_Expander_expandRow_8 (by omega) (by decide) ⟨Nat.zero_le _, Nat.zero_le _⟩ (fun locs hS => ?_)
  refine lv_topi (fun z ez => ?_)
  rw [ctF_X] at ez
  subst ez
  refine lv_istore (lv' := [(5, .int (nI (cnX cnt row))), (4, .int 0), (0, .ref (w + 124)), (1, .int row), (2, .int arg), (3, .int (nI (5 - k)))]) X.x X.b d_Expander_expandRow_11 hl (by decide) rfl (fun ls hl => ?_)
  refine lv_iconst (v := 0) X.x X.b d_Expander_expandRow_13 (by decide) ?_
  refine lv_istore (lv' := [(6, .int 0), (5, .int (nI (cnX cnt row))), (4, .int 0), (0, .ref (w + 124)), (1, .int row), (2, .int arg), (3, .int (nI (5 - k)))]) X.x X.b d_Expander_expandRow_14 hl (by decide) rfl (fun ls hl => ?_)
  have lp : ∀ (n i : Nat) (o : Int32) (xs2 : XS), n = (cnX cnt row) - i → i < 5000 → (xLoop (xCall D cnt k) (nI (5 - k)) (D row.toNatClampNeg) arg n i o xs2 = xCall D cnt (k + 1) row arg (S, c, N, x, fn, ml)) → ∀ (H : Heap) (locs : List Loc) (ls : Array Slot), xAt g w so cap0 cnt f D lo hi xs2 H → va_S (AA (wF w) H0) H0 H locs → lv_has ls 8 [(0, .ref (w + 124)), (1, .int row), (2, .int arg), (3, .int (nI (5 - k))), (4, .int o), (5, .int (nI (cnX cnt row))), (6, .int (nI i))] → W p l e (rmK (3 * k + 4) 0 0) s m ([.ref (w + 124), .int row, .int arg, .int (nI (5 - k))] : List Value).toArray below meth cd H locs 0 0 (MQ below (QM (none) (fun H1 => xAt g w so cap0 cnt f D lo hi (xCall D cnt (k + 1) row arg (S, c, N, x, fn, ml)) H1) (wF w) H0) ([.ref (w + 124), .int row, .int arg, .int (nI (5 - k))] : List Value).toArray s 0 0 (AA (wF w) H0)) (F0 m 16 ls []) := by
    intro n
    induction n with
    | zero =>
      intro i o xs2 hin hi5 hV H locs ls hx hS hl
      obtain ⟨S2, m2, N2, x2, fn2, ml2⟩ := xs2
      obtain ⟨hE, hI, hN, hs, hcc, -, -, -⟩ := hx
      have hE : exAt g w so x2 fn2 ml2 H := hE
      have hI : iAt g (w + 1) m2 S2 H := hI
      have hN : nAt g (w + 125) N2 H := hN
      have hcc : m2 ≤ 120 := hcc
      refine lv_iload X.x X.b d_Expander_expandRow_16 (lv_at hl 6 rfl) ?_
      refine lv_iload X.x X.b d_Expander_expandRow_18 (lv_at hl 5 rfl) ?_
      refine lv_icmp_ge (tgt := 129) X.x X.b d_Expander_expandRow_20 (by decide) (fun c1 => ?_) (fun c1 => ?_)
      · skip
        have c1q := Int32.not_lt.mpr c1
        exact m_vret X hS (Nat.zero_le _) (Nat.zero_le _) d_Expander_expandRow_129 rfl (by rw [← hV]; first | (rw [xLoop_stop (by assumption)]; exact ⟨hE, hI, hN, hs, hcc, hly, hlw, hhw⟩) | exact ⟨hE, hI, hN, hs, hcc, hly, hlw, hhw⟩)
      · exact absurd ((nI_leI (a := (cnX cnt row)) (b := i) (by omega) (by omega)).mpr (by omega)) c1
    | succ n ih =>
      intro i o xs2 hin hi5 hV H locs ls hx hS hl
      obtain ⟨S2, m2, N2, x2, fn2, ml2⟩ := xs2
      obtain ⟨hE, hI, hN, hs, hcc, -, -, -⟩ := hx
      have hE : exAt g w so x2 fn2 ml2 H := hE
      have hI : iAt g (w + 1) m2 S2 H := hI
      have hN : nAt g (w + 125) N2 H := hN
      have hcc : m2 ≤ 120 := hcc
      refine lv_iload X.x X.b d_Expander_expandRow_16 (lv_at hl 6 rfl) ?_
      refine lv_iload X.x X.b d_Expander_expandRow_18 (lv_at hl 5 rfl) ?_
      refine lv_icmp_ge (tgt := 129) X.x X.b d_Expander_expandRow_20 (by decide) (fun c2 => ?_) (fun c2 => ?_)
      · exact absurd ((nI_leI (a := (cnX cnt row)) (b := i) (by omega) (by omega)).mp c2) (by omega)
      · skip
        have c2q := Int32.not_le.mp c2
        obtain ⟨r, hr, hrow2, hir⟩ := cnX_in (show i < cnX cnt row by omega)
        subst hrow2
        rw [rIn_tn hr] at hV
        rw [rIn_tn hr] at ih
        refine lv_aload_n X.x X.b d_Expander_expandRow_23 rfl (lv_at hl 0 rfl) ?_
        refine m_get (v := .int fn2) X ok_Expander hE 4 (by decide) k_Expander_30 rfl d_Expander_expandRow_24 ?_
        refine lv_if_ne (tgt := 129) X.x X.b d_Expander_expandRow_27 (by decide) (fun c3 => ?_) (fun c3 => ?_)
        · skip
          exact m_vret X hS (Nat.zero_le _) (Nat.zero_le _) d_Expander_expandRow_129 rfl (by rw [← hV]; first | (rw [xLoop_stop (by assumption)]; exact ⟨hE, hI, hN, hs, hcc, hly, hlw, hhw⟩) | exact ⟨hE, hI, hN, hs, hcc, hly, hlw, hhw⟩)
        · skip
          refine lv_aload_n X.x X.b d_Expander_expandRow_30 rfl (lv_at hl 0 rfl) ?_
          refine m_get (v := .ref so) X ok_Expander hE 0 (by decide) k_Expander_9 rfl d_Expander_expandRow_31 ?_
          refine lv_iload_n X.x X.b d_Expander_expandRow_34 rfl (lv_at hl 1 rfl) ?_
          refine lv_iload X.x X.b d_Expander_expandRow_35 (lv_at hl 6 rfl) ?_
          have hR : MP l y_Source_lineAt c_Source_lineAt 3 (some (.object "BranchPress$Line")) 3 g H [.ref so, .int (nI r), .int (nI i)] (some (.ref (f r i))) := by have hR := M_Source_lineAt l g hs (nI r) (nI i); rw [lnO_in hr hir (hs.cap _ hr)] at hR; exact hR
          refine m_callP X hS hR v_Expander_48 hs.1 rfl rfl rfl (Nat.le_of_ble_eq_true rfl) hl.1 d_Expander_expandRow_37 (by omega) (by decide) ⟨Nat.zero_le _, Nat.zero_le _⟩ (fun locs hS => ?_)
          refine lv_astore (lv' := [(7, .ref (f r i)), (0, .ref (w + 124)), (1, .int (nI r)), (2, .int arg), (3, .int (nI (5 - k))), (4, .int o), (5, .int (nI (cnX cnt (nI r)))), (6, .int (nI i))]) X.x X.b d_Expander_expandRow_40 hl (by decide) rfl (fun ls hl => ?_)
          refine lv_aload X.x X.b d_Expander_expandRow_42 (lv_at hl 0 rfl) ?_
          refine lv_ifnonnull (tgt := 48) X.x X.b d_Expander_expandRow_44 (by decide) ?_
          refine lv_aload_n X.x X.b d_Expander_expandRow_48 rfl (lv_at hl 1 rfl) ?_
          refine lv_iload_n X.x X.b d_Expander_expandRow_49 rfl (lv_at hl 4 rfl) ?_
          refine lv_if_ne (tgt := 58) X.x X.b d_Expander_expandRow_50 (by decide) (fun c4 => ?_) (fun c4 => ?_)
          · skip
            refine lv_aload_n X.x X.b d_Expander_expandRow_58 rfl (lv_at hl 1 rfl) ?_
            refine m_get (v := .int ml2) X ok_Expander hE 5 (by decide) k_Expander_33 rfl d_Expander_expandRow_59 ?_
            refine m_put X ok_Expander hS (Or.inl ⟨by omega, by omega⟩) hE 5 (by decide) k_Expander_33 rfl (ok_Expander.2.2.1 _ (by decide)) rfl rfl (Nat.le_of_ble_eq_true rfl) d_Expander_expandRow_62 (fun H locs hp hcg hS => ?_)
            have hE : exAt g w so x2 fn2 ml2 H := hp
            have hfr := fr.of_chg (A := fun q => q = w + 124) hcg rfl
            have hI := hI.frame hfr (fun q z => by have z : q = w + 124 := z; omega)
            have hN := hN.frame hfr (fun q z => by have z : q = w + 124 := z; omega)
            have hs := hs.frame hfr (fun q z => by have z : q = w + 124 := z; omega)
            refine lv_iload X.x X.b d_Expander_expandRow_65 (lv_at hl 5 rfl) ?_
            refine lv_if_le (tgt := 104) X.x X.b d_Expander_expandRow_67 (by decide) (fun c5 => ?_) (fun c5 => ?_)
            · skip
              have c5q := Int32.not_lt.mpr c5
              refine lv_iload X.x X.b d_Expander_expandRow_104 (lv_at hl 5 rfl) ?_
              refine lv_if_ne (tgt := 123) X.x X.b d_Expander_expandRow_106 (by decide) (fun c6 => ?_) (fun c6 => ?_)
              · skip
                refine lv_iinc (v := nI (i + 1)) (lv' := [(6, .int (nI (i + 1))), (7, .ref (f r i)), (0, .ref (w + 124)), (1, .int (nI r)), (2, .int arg), (3, .int (nI (5 - k))), (4, .int o), (5, .int (nI (cnX cnt (nI r))))]) X.x X.b d_Expander_expandRow_123 hl (k := 7) rfl (nI_1 i) (by decide) rfl (fun ls hl => ?_)
                refine lv_goto (tgt := 16) X.x X.b d_Expander_expandRow_126 (by decide) ?_
                exact ih (i + 1) o (S2, m2, N2, x2, fn2, ml2) (by omega) (by omega) (xLoop_skip (E := D r) c3 (show o = xOp o (D r i 0) from by simp [xOp, c2, c2q, c4, c5, c5q, c6]) c6 (by simp [xMl, c4]) hV) _ _ _ ⟨hE, hI, hN, hs, hcc, hly, hlw, hhw⟩ hS (lv_sub hl [2, 3, 4, 5, 6, 7, 0] rfl)
              · skip
                refine lv_aload_n X.x X.b d_Expander_expandRow_109 rfl (lv_at hl 1 rfl) ?_
                refine lv_aload X.x X.b d_Expander_expandRow_110 (lv_at hl 0 rfl) ?_
                refine lv_iload_n X.x X.b d_Expander_expandRow_112 rfl (lv_at hl 3 rfl) ?_
                refine lv_iload_n X.x X.b d_Expander_expandRow_113 rfl (lv_at hl 4 rfl) ?_
                have hR := M_Expander_expandLine (xs := (S2, m2, N2, x2, fn2, ml2)) l g ⟨hE, hI, hN, hs, show m2 ≤ 120 by omega, hly, hlw, hhw⟩ (hs.2.2.2.1 r i hr hir).1 (hs.2.2.2.1 r i hr hir).2 hcall arg
                obtain ⟨⟨⟨SG7, cG7, NG7, xG7, fnG7, mlG7⟩, rG7⟩, hG7⟩ : ∃ z, z = xLin (xCall D cnt k) (nI (5 - k)) (D r i) arg (S2, m2, N2, x2, fn2, ml2) := ⟨_, rfl⟩
                rw [← hG7] at hR
                refine m_callM X hS hR v_Expander_57 hE rfl rfl rfl (Nat.le_of_ble_eq_true rfl) hl.1 d_Expander_expandRow_114 (by omega) (by decide) ⟨Nat.zero_le _, Nat.zero_le _⟩ (fun q z => z) (fun H locs hx hfr hS => ?_)
                obtain ⟨hE, hI, hN, hs, hcc, -, -, -⟩ := hx
                have hE : exAt g w so xG7 fnG7 mlG7 H := hE
                have hI : iAt g (w + 1) cG7 SG7 H := hI
                have hN : nAt g (w + 125) NG7 H := hN
                have hcc : cG7 ≤ 120 := hcc
                refine lv_if_ne (tgt := 123) X.x X.b d_Expander_expandRow_117 (by decide) (fun c8 => ?_) (fun c8 => ?_)
                · skip
                  refine lv_iinc (v := nI (i + 1)) (lv' := [(6, .int (nI (i + 1))), (7, .ref (f r i)), (0, .ref (w + 124)), (1, .int (nI r)), (2, .int arg), (3, .int (nI (5 - k))), (4, .int o), (5, .int (nI (cnX cnt (nI r))))]) X.x X.b d_Expander_expandRow_123 hl (k := 7) rfl (nI_1 i) (by decide) rfl (fun ls hl => ?_)
                  refine lv_goto (tgt := 16) X.x X.b d_Expander_expandRow_126 (by decide) ?_
                  exact ih (i + 1) o (SG7, cG7, NG7, xG7, fnG7, mlG7) (by omega) (by omega) (xLoop_line1 (E := D r) c3 (show o = xOp o (D r i 0) from by simp [xOp, c2, c2q, c4, c5, c5q, c8]) c6 (by simp [xMl, c4]) hG7 c8 hV) _ _ _ ⟨hE, hI, hN, hs, hcc, hly, hlw, hhw⟩ hS (lv_sub hl [2, 3, 4, 5, 6, 7, 0] rfl)
                · skip
                  refine lv_iconst (v := 1) X.x X.b d_Expander_expandRow_120 (by decide) ?_
                  refine lv_istore (lv' := [(4, .int 1), (7, .ref (f r i)), (0, .ref (w + 124)), (1, .int (nI r)), (2, .int arg), (3, .int (nI (5 - k))), (5, .int (nI (cnX cnt (nI r)))), (6, .int (nI i))]) X.x X.b d_Expander_expandRow_121 hl (by decide) rfl (fun ls hl => ?_)
                  refine lv_iinc (v := nI (i + 1)) (lv' := [(6, .int (nI (i + 1))), (4, .int 1), (7, .ref (f r i)), (0, .ref (w + 124)), (1, .int (nI r)), (2, .int arg), (3, .int (nI (5 - k))), (5, .int (nI (cnX cnt (nI r))))]) X.x X.b d_Expander_expandRow_123 hl (k := 7) rfl (nI_1 i) (by decide) rfl (fun ls hl => ?_)
                  refine lv_goto (tgt := 16) X.x X.b d_Expander_expandRow_126 (by decide) ?_
                  exact ih (i + 1) 1 (SG7, cG7, NG7, xG7, fnG7, mlG7) (by omega) (by omega) (xLoop_line0 (E := D r) c3 (show o = xOp o (D r i 0) from by simp [xOp, c2, c2q, c4, c5, c5q, c8]) c6 (by simp [xMl, c4]) hG7 c8 hV) _ _ _ ⟨hE, hI, hN, hs, hcc, hly, hlw, hhw⟩ hS (lv_sub hl [3, 4, 5, 6, 1, 7, 0] rfl)
            · skip
              have c5q := Int32.not_le.mp c5
              refine lv_iload X.x X.b d_Expander_expandRow_70 (lv_at hl 5 rfl) ?_
              refine lv_aload X.x X.b d_Expander_expandRow_72 (lv_at hl 0 rfl) ?_
              refine m_get (v := .int (D r i 0)) X ok_Line (hs.2.2.2.1 r i hr hir).1 0 (by decide) k_Expander_52 rfl d_Expander_expandRow_74 ?_
              refine lv_bipush (v := 8) X.x X.b d_Expander_expandRow_77 (by decide) ?_
              refine lv_icmp_ne (tgt := 86) X.x X.b d_Expander_expandRow_79 (by decide) (fun c9 => ?_) (fun c9 => ?_)
              · skip
                refine lv_aload X.x X.b d_Expander_expandRow_86 (lv_at hl 0 rfl) ?_
                refine m_get (v := .int (D r i 0)) X ok_Line (hs.2.2.2.1 r i hr hir).1 0 (by decide) k_Expander_52 rfl d_Expander_expandRow_88 ?_
                refine lv_bipush (v := 9) X.x X.b d_Expander_expandRow_91 (by decide) ?_
                refine lv_icmp_ne (tgt := 100) X.x X.b d_Expander_expandRow_93 (by decide) (fun c10 => ?_) (fun c10 => ?_)
                · skip
                  refine lv_iconst (v := 0) X.x X.b d_Expander_expandRow_100 (by decide) ?_
                  refine lv_iadd X.x X.b d_Expander_expandRow_101 ?_
                  refine lv_istore (lv' := [(4, .int (o + 0)), (7, .ref (f r i)), (0, .ref (w + 124)), (1, .int (nI r)), (2, .int arg), (3, .int (nI (5 - k))), (5, .int (nI (cnX cnt (nI r)))), (6, .int (nI i))]) X.x X.b d_Expander_expandRow_102 hl (by decide) rfl (fun ls hl => ?_)
                  refine lv_iload X.x X.b d_Expander_expandRow_104 (lv_at hl 0 rfl) ?_
                  refine lv_if_ne (tgt := 123) X.x X.b d_Expander_expandRow_106 (by decide) (fun c11 => ?_) (fun c11 => ?_)
                  · skip
                    refine lv_iinc (v := nI (i + 1)) (lv' := [(6, .int (nI (i + 1))), (4, .int (o + 0)), (7, .ref (f r i)), (0, .ref (w + 124)), (1, .int (nI r)), (2, .int arg), (3, .int (nI (5 - k))), (5, .int (nI (cnX cnt (nI r))))]) X.x X.b d_Expander_expandRow_123 hl (k := 7) rfl (nI_1 i) (by decide) rfl (fun ls hl => ?_)
                    refine lv_goto (tgt := 16) X.x X.b d_Expander_expandRow_126 (by decide) ?_
                    exact ih (i + 1) (o + 0) (S2, m2, N2, x2, fn2, ml2) (by omega) (by omega) (xLoop_skip (E := D r) c3 (show (o + 0) = xOp o (D r i 0) from by simp [xOp, c2, c2q, c4, c5, c5q, c9, c10, c11]) c11 (by simp [xMl, c4]) hV) _ _ _ ⟨hE, hI, hN, hs, hcc, hly, hlw, hhw⟩ hS (lv_sub hl [3, 4, 5, 6, 1, 7, 0] rfl)
                  · skip
                    refine lv_aload_n X.x X.b d_Expander_expandRow_109 rfl (lv_at hl 2 rfl) ?_
                    refine lv_aload X.x X.b d_Expander_expandRow_110 (lv_at hl 1 rfl) ?_
                    refine lv_iload_n X.x X.b d_Expander_expandRow_112 rfl (lv_at hl 4 rfl) ?_
                    refine lv_iload_n X.x X.b d_Expander_expandRow_113 rfl (lv_at hl 5 rfl) ?_
                    have hR := M_Expander_expandLine (xs := (S2, m2, N2, x2, fn2, ml2)) l g ⟨hE, hI, hN, hs, show m2 ≤ 120 by omega, hly, hlw, hhw⟩ (hs.2.2.2.1 r i hr hir).1 (hs.2.2.2.1 r i hr hir).2 hcall arg
                    obtain ⟨⟨⟨SG12, cG12, NG12, xG12, fnG12, mlG12⟩, rG12⟩, hG12⟩ : ∃ z, z = xLin (xCall D cnt k) (nI (5 - k)) (D r i) arg (S2, m2, N2, x2, fn2, ml2) := ⟨_, rfl⟩
                    rw [← hG12] at hR
                    refine m_callM X hS hR v_Expander_57 hE rfl rfl rfl (Nat.le_of_ble_eq_true rfl) hl.1 d_Expander_expandRow_114 (by omega) (by decide) ⟨Nat.zero_le _, Nat.zero_le _⟩ (fun q z => z) (fun H locs hx hfr hS => ?_)
                    obtain ⟨hE, hI, hN, hs, hcc, -, -, -⟩ := hx
                    have hE : exAt g w so xG12 fnG12 mlG12 H := hE
                    have hI : iAt g (w + 1) cG12 SG12 H := hI
                    have hN : nAt g (w + 125) NG12 H := hN
                    have hcc : cG12 ≤ 120 := hcc
                    refine lv_if_ne (tgt := 123) X.x X.b d_Expander_expandRow_117 (by decide) (fun c13 => ?_) (fun c13 => ?_)
                    · skip
                      refine lv_iinc (v := nI (i + 1)) (lv' := [(6, .int (nI (i + 1))), (4, .int (o + 0)), (7, .ref (f r i)), (0, .ref (w + 124)), (1, .int (nI r)), (2, .int arg), (3, .int (nI (5 - k))), (5, .int (nI (cnX cnt (nI r))))]) X.x X.b d_Expander_expandRow_123 hl (k := 7) rfl (nI_1 i) (by decide) rfl (fun ls hl => ?_)
                      refine lv_goto (tgt := 16) X.x X.b d_Expander_expandRow_126 (by decide) ?_
                      exact ih (i + 1) (o + 0) (SG12, cG12, NG12, xG12, fnG12, mlG12) (by omega) (by omega) (xLoop_line1 (E := D r) c3 (show (o + 0) = xOp o (D r i 0) from by simp [xOp, c2, c2q, c4, c5, c5q, c9, c10, c13]) c11 (by simp [xMl, c4]) hG12 c13 hV) _ _ _ ⟨hE, hI, hN, hs, hcc, hly, hlw, hhw⟩ hS (lv_sub hl [3, 4, 5, 6, 1, 7, 0] rfl)
                    · skip
                      refine lv_iconst (v := 1) X.x X.b d_Expander_expandRow_120 (by decide) ?_
                      refine lv_istore (lv' := [(4, .int 1), (7, .ref (f r i)), (0, .ref (w + 124)), (1, .int (nI r)), (2, .int arg), (3, .int (nI (5 - k))), (5, .int (nI (cnX cnt (nI r)))), (6, .int (nI i))]) X.x X.b d_Expander_expandRow_121 hl (by decide) rfl (fun ls hl => ?_)
                      refine lv_iinc (v := nI (i + 1)) (lv' := [(6, .int (nI (i + 1))), (4, .int 1), (7, .ref (f r i)), (0, .ref (w + 124)), (1, .int (nI r)), (2, .int arg), (3, .int (nI (5 - k))), (5, .int (nI (cnX cnt (nI r))))]) X.x X.b d_Expander_expandRow_123 hl (k := 7) rfl (nI_1 i) (by decide) rfl (fun ls hl => ?_)
                      refine lv_goto (tgt := 16) X.x X.b d_Expander_expandRow_126 (by decide) ?_
                      exact ih (i + 1) 1 (SG12, cG12, NG12, xG12, fnG12, mlG12) (by omega) (by omega) (xLoop_line0 (E := D r) c3 (show (o + 0) = xOp o (D r i 0) from by simp [xOp, c2, c2q, c4, c5, c5q, c9, c10, c13]) c11 (by simp [xMl, c4]) hG12 c13 hV) _ _ _ ⟨hE, hI, hN, hs, hcc, hly, hlw, hhw⟩ hS (lv_sub hl [3, 4, 5, 6, 1, 7, 0] rfl)
                · skip
                  refine lv_iconst (v := -1) X.x X.b d_Expander_expandRow_96 (by decide) ?_
                  refine lv_goto (tgt := 101) X.x X.b d_Expander_expandRow_97 (by decide) ?_
                  refine lv_iadd X.x X.b d_Expander_expandRow_101 ?_
                  refine lv_istore (lv' := [(4, .int (o + (-1))), (7, .ref (f r i)), (0, .ref (w + 124)), (1, .int (nI r)), (2, .int arg), (3, .int (nI (5 - k))), (5, .int (nI (cnX cnt (nI r)))), (6, .int (nI i))]) X.x X.b d_Expander_expandRow_102 hl (by decide) rfl (fun ls hl => ?_)
                  refine lv_iload X.x X.b d_Expander_expandRow_104 (lv_at hl 0 rfl) ?_
                  refine lv_if_ne (tgt := 123) X.x X.b d_Expander_expandRow_106 (by decide) (fun c14 => ?_) (fun c14 => ?_)
                  · skip
                    refine lv_iinc (v := nI (i + 1)) (lv' := [(6, .int (nI (i + 1))), (4, .int (o + (-1))), (7, .ref (f r i)), (0, .ref (w + 124)), (1, .int (nI r)), (2, .int arg), (3, .int (nI (5 - k))), (5, .int (nI (cnX cnt (nI r))))]) X.x X.b d_Expander_expandRow_123 hl (k := 7) rfl (nI_1 i) (by decide) rfl (fun ls hl => ?_)
                    refine lv_goto (tgt := 16) X.x X.b d_Expander_expandRow_126 (by decide) ?_
                    exact ih (i + 1) (o + (-1)) (S2, m2, N2, x2, fn2, ml2) (by omega) (by omega) (xLoop_skip (E := D r) c3 (show (o + (-1)) = xOp o (D r i 0) from by simp [xOp, c2, c2q, c4, c5, c5q, c9, c10, c14]) c14 (by simp [xMl, c4]) hV) _ _ _ ⟨hE, hI, hN, hs, hcc, hly, hlw, hhw⟩ hS (lv_sub hl [3, 4, 5, 6, 1, 7, 0] rfl)
                  · skip
                    refine lv_aload_n X.x X.b d_Expander_expandRow_109 rfl (lv_at hl 2 rfl) ?_
                    refine lv_aload X.x X.b d_Expander_expandRow_110 (lv_at hl 1 rfl) ?_
                    refine lv_iload_n X.x X.b d_Expander_expandRow_112 rfl (lv_at hl 4 rfl) ?_
                    refine lv_iload_n X.x X.b d_Expander_expandRow_113 rfl (lv_at hl 5 rfl) ?_
                    have hR := M_Expander_expandLine (xs := (S2, m2, N2, x2, fn2, ml2)) l g ⟨hE, hI, hN, hs, show m2 ≤ 120 by omega, hly, hlw, hhw⟩ (hs.2.2.2.1 r i hr hir).1 (hs.2.2.2.1 r i hr hir).2 hcall arg
                    obtain ⟨⟨⟨SG15, cG15, NG15, xG15, fnG15, mlG15⟩, rG15⟩, hG15⟩ : ∃ z, z = xLin (xCall D cnt k) (nI (5 - k)) (D r i) arg (S2, m2, N2, x2, fn2, ml2) := ⟨_, rfl⟩
                    rw [← hG15] at hR
                    refine m_callM X hS hR v_Expander_57 hE rfl rfl rfl (Nat.le_of_ble_eq_true rfl) hl.1 d_Expander_expandRow_114 (by omega) (by decide) ⟨Nat.zero_le _, Nat.zero_le _⟩ (fun q z => z) (fun H locs hx hfr hS => ?_)
                    obtain ⟨hE, hI, hN, hs, hcc, -, -, -⟩ := hx
                    have hE : exAt g w so xG15 fnG15 mlG15 H := hE
                    have hI : iAt g (w + 1) cG15 SG15 H := hI
                    have hN : nAt g (w + 125) NG15 H := hN
                    have hcc : cG15 ≤ 120 := hcc
                    refine lv_if_ne (tgt := 123) X.x X.b d_Expander_expandRow_117 (by decide) (fun c16 => ?_) (fun c16 => ?_)
                    · skip
                      refine lv_iinc (v := nI (i + 1)) (lv' := [(6, .int (nI (i + 1))), (4, .int (o + (-1))), (7, .ref (f r i)), (0, .ref (w + 124)), (1, .int (nI r)), (2, .int arg), (3, .int (nI (5 - k))), (5, .int (nI (cnX cnt (nI r))))]) X.x X.b d_Expander_expandRow_123 hl (k := 7) rfl (nI_1 i) (by decide) rfl (fun ls hl => ?_)
                      refine lv_goto (tgt := 16) X.x X.b d_Expander_expandRow_126 (by decide) ?_
                      exact ih (i + 1) (o + (-1)) (SG15, cG15, NG15, xG15, fnG15, mlG15) (by omega) (by omega) (xLoop_line1 (E := D r) c3 (show (o + (-1)) = xOp o (D r i 0) from by simp [xOp, c2, c2q, c4, c5, c5q, c9, c10, c16]) c14 (by simp [xMl, c4]) hG15 c16 hV) _ _ _ ⟨hE, hI, hN, hs, hcc, hly, hlw, hhw⟩ hS (lv_sub hl [3, 4, 5, 6, 1, 7, 0] rfl)
                    · skip
                      refine lv_iconst (v := 1) X.x X.b d_Expander_expandRow_120 (by decide) ?_
                      refine lv_istore (lv' := [(4, .int 1), (7, .ref (f r i)), (0, .ref (w + 124)), (1, .int (nI r)), (2, .int arg), (3, .int (nI (5 - k))), (5, .int (nI (cnX cnt (nI r)))), (6, .int (nI i))]) X.x X.b d_Expander_expandRow_121 hl (by decide) rfl (fun ls hl => ?_)
                      refine lv_iinc (v := nI (i + 1)) (lv' := [(6, .int (nI (i + 1))), (4, .int 1), (7, .ref (f r i)), (0, .ref (w + 124)), (1, .int (nI r)), (2, .int arg), (3, .int (nI (5 - k))), (5, .int (nI (cnX cnt (nI r))))]) X.x X.b d_Expander_expandRow_123 hl (k := 7) rfl (nI_1 i) (by decide) rfl (fun ls hl => ?_)
                      refine lv_goto (tgt := 16) X.x X.b d_Expander_expandRow_126 (by decide) ?_
                      exact ih (i + 1) 1 (SG15, cG15, NG15, xG15, fnG15, mlG15) (by omega) (by omega) (xLoop_line0 (E := D r) c3 (show (o + (-1)) = xOp o (D r i 0) from by simp [xOp, c2, c2q, c4, c5, c5q, c9, c10, c16]) c14 (by simp [xMl, c4]) hG15 c16 hV) _ _ _ ⟨hE, hI, hN, hs, hcc, hly, hlw, hhw⟩ hS (lv_sub hl [3, 4, 5, 6, 1, 7, 0] rfl)
              · skip
                refine lv_iconst (v := 1) X.x X.b d_Expander_expandRow_82 (by decide) ?_
                refine lv_goto (tgt := 101) X.x X.b d_Expander_expandRow_83 (by decide) ?_
                refine lv_iadd X.x X.b d_Expander_expandRow_101 ?_
                refine lv_istore (lv' := [(4, .int (o + 1)), (7, .ref (f r i)), (0, .ref (w + 124)), (1, .int (nI r)), (2, .int arg), (3, .int (nI (5 - k))), (5, .int (nI (cnX cnt (nI r)))), (6, .int (nI i))]) X.x X.b d_Expander_expandRow_102 hl (by decide) rfl (fun ls hl => ?_)
                refine lv_iload X.x X.b d_Expander_expandRow_104 (lv_at hl 0 rfl) ?_
                refine lv_if_ne (tgt := 123) X.x X.b d_Expander_expandRow_106 (by decide) (fun c17 => ?_) (fun c17 => ?_)
                · skip
                  refine lv_iinc (v := nI (i + 1)) (lv' := [(6, .int (nI (i + 1))), (4, .int (o + 1)), (7, .ref (f r i)), (0, .ref (w + 124)), (1, .int (nI r)), (2, .int arg), (3, .int (nI (5 - k))), (5, .int (nI (cnX cnt (nI r))))]) X.x X.b d_Expander_expandRow_123 hl (k := 7) rfl (nI_1 i) (by decide) rfl (fun ls hl => ?_)
                  refine lv_goto (tgt := 16) X.x X.b d_Expander_expandRow_126 (by decide) ?_
                  exact ih (i + 1) (o + 1) (S2, m2, N2, x2, fn2, ml2) (by omega) (by omega) (xLoop_skip (E := D r) c3 (show (o + 1) = xOp o (D r i 0) from by simp [xOp, c2, c2q, c4, c5, c5q, c9, c17]) c17 (by simp [xMl, c4]) hV) _ _ _ ⟨hE, hI, hN, hs, hcc, hly, hlw, hhw⟩ hS (lv_sub hl [3, 4, 5, 6, 1, 7, 0] rfl)
                · skip
                  refine lv_aload_n X.x X.b d_Expander_expandRow_109 rfl (lv_at hl 2 rfl) ?_
                  refine lv_aload X.x X.b d_Expander_expandRow_110 (lv_at hl 1 rfl) ?_
                  refine lv_iload_n X.x X.b d_Expander_expandRow_112 rfl (lv_at hl 4 rfl) ?_
                  refine lv_iload_n X.x X.b d_Expander_expandRow_113 rfl (lv_at hl 5 rfl) ?_
                  have hR := M_Expander_expandLine (xs := (S2, m2, N2, x2, fn2, ml2)) l g ⟨hE, hI, hN, hs, show m2 ≤ 120 by omega, hly, hlw, hhw⟩ (hs.2.2.2.1 r i hr hir).1 (hs.2.2.2.1 r i hr hir).2 hcall arg
                  obtain ⟨⟨⟨SG18, cG18, NG18, xG18, fnG18, mlG18⟩, rG18⟩, hG18⟩ : ∃ z, z = xLin (xCall D cnt k) (nI (5 - k)) (D r i) arg (S2, m2, N2, x2, fn2, ml2) := ⟨_, rfl⟩
                  rw [← hG18] at hR
                  refine m_callM X hS hR v_Expander_57 hE rfl rfl rfl (Nat.le_of_ble_eq_true rfl) hl.1 d_Expander_expandRow_114 (by omega) (by decide) ⟨Nat.zero_le _, Nat.zero_le _⟩ (fun q z => z) (fun H locs hx hfr hS => ?_)
                  obtain ⟨hE, hI, hN, hs, hcc, -, -, -⟩ := hx
                  have hE : exAt g w so xG18 fnG18 mlG18 H := hE
                  have hI : iAt g (w + 1) cG18 SG18 H := hI
                  have hN : nAt g (w + 125) NG18 H := hN
                  have hcc : cG18 ≤ 120 := hcc
                  refine lv_if_ne (tgt := 123) X.x X.b d_Expander_expandRow_117 (by decide) (fun c19 => ?_) (fun c19 => ?_)
                  · skip
                    refine lv_iinc (v := nI (i + 1)) (lv' := [(6, .int (nI (i + 1))), (4, .int (o + 1)), (7, .ref (f r i)), (0, .ref (w + 124)), (1, .int (nI r)), (2, .int arg), (3, .int (nI (5 - k))), (5, .int (nI (cnX cnt (nI r))))]) X.x X.b d_Expander_expandRow_123 hl (k := 7) rfl (nI_1 i) (by decide) rfl (fun ls hl => ?_)
                    refine lv_goto (tgt := 16) X.x X.b d_Expander_expandRow_126 (by decide) ?_
                    exact ih (i + 1) (o + 1) (SG18, cG18, NG18, xG18, fnG18, mlG18) (by omega) (by omega) (xLoop_line1 (E := D r) c3 (show (o + 1) = xOp o (D r i 0) from by simp [xOp, c2, c2q, c4, c5, c5q, c9, c19]) c17 (by simp [xMl, c4]) hG18 c19 hV) _ _ _ ⟨hE, hI, hN, hs, hcc, hly, hlw, hhw⟩ hS (lv_sub hl [3, 4, 5, 6, 1, 7, 0] rfl)
                  · skip
                    refine lv_iconst (v := 1) X.x X.b d_Expander_expandRow_120 (by decide) ?_
                    refine lv_istore (lv' := [(4, .int 1), (7, .ref (f r i)), (0, .ref (w + 124)), (1, .int (nI r)), (2, .int arg), (3, .int (nI (5 - k))), (5, .int (nI (cnX cnt (nI r)))), (6, .int (nI i))]) X.x X.b d_Expander_expandRow_121 hl (by decide) rfl (fun ls hl => ?_)
                    refine lv_iinc (v := nI (i + 1)) (lv' := [(6, .int (nI (i + 1))), (4, .int 1), (7, .ref (f r i)), (0, .ref (w + 124)), (1, .int (nI r)), (2, .int arg), (3, .int (nI (5 - k))), (5, .int (nI (cnX cnt (nI r))))]) X.x X.b d_Expander_expandRow_123 hl (k := 7) rfl (nI_1 i) (by decide) rfl (fun ls hl => ?_)
                    refine lv_goto (tgt := 16) X.x X.b d_Expander_expandRow_126 (by decide) ?_
                    exact ih (i + 1) 1 (SG18, cG18, NG18, xG18, fnG18, mlG18) (by omega) (by omega) (xLoop_line0 (E := D r) c3 (show (o + 1) = xOp o (D r i 0) from by simp [xOp, c2, c2q, c4, c5, c5q, c9, c19]) c17 (by simp [xMl, c4]) hG18 c19 hV) _ _ _ ⟨hE, hI, hN, hs, hcc, hly, hlw, hhw⟩ hS (lv_sub hl [3, 4, 5, 6, 1, 7, 0] rfl)
          · skip
            refine lv_iload X.x X.b d_Expander_expandRow_53 (lv_at hl 7 rfl) ?_
            refine lv_goto (tgt := 62) X.x X.b d_Expander_expandRow_55 (by decide) ?_
            refine m_put X ok_Expander hS (Or.inl ⟨by omega, by omega⟩) hE 5 (by decide) k_Expander_33 rfl (ok_Expander.2.2.1 _ (by decide)) rfl rfl (Nat.le_of_ble_eq_true rfl) d_Expander_expandRow_62 (fun H locs hp hcg hS => ?_)
            have hE : exAt g w so x2 fn2 (nI i) H := hp
            have hfr := fr.of_chg (A := fun q => q = w + 124) hcg rfl
            have hI := hI.frame hfr (fun q z => by have z : q = w + 124 := z; omega)
            have hN := hN.frame hfr (fun q z => by have z : q = w + 124 := z; omega)
            have hs := hs.frame hfr (fun q z => by have z : q = w + 124 := z; omega)
            refine lv_iload X.x X.b d_Expander_expandRow_65 (lv_at hl 5 rfl) ?_
            refine lv_if_le (tgt := 104) X.x X.b d_Expander_expandRow_67 (by decide) (fun c20 => ?_) (fun c20 => ?_)
            · skip
              have c20q := Int32.not_lt.mpr c20
              refine lv_iload X.x X.b d_Expander_expandRow_104 (lv_at hl 5 rfl) ?_
              refine lv_if_ne (tgt := 123) X.x X.b d_Expander_expandRow_106 (by decide) (fun c21 => ?_) (fun c21 => ?_)
              · skip
                refine lv_iinc (v := nI (i + 1)) (lv' := [(6, .int (nI (i + 1))), (7, .ref (f r i)), (0, .ref (w + 124)), (1, .int (nI r)), (2, .int arg), (3, .int (nI (5 - k))), (4, .int o), (5, .int (nI (cnX cnt (nI r))))]) X.x X.b d_Expander_expandRow_123 hl (k := 7) rfl (nI_1 i) (by decide) rfl (fun ls hl => ?_)
                refine lv_goto (tgt := 16) X.x X.b d_Expander_expandRow_126 (by decide) ?_
                exact ih (i + 1) o (S2, m2, N2, x2, fn2, nI i) (by omega) (by omega) (xLoop_skip (E := D r) c3 (show o = xOp o (D r i 0) from by simp [xOp, c2, c2q, c4, c20, c20q, c21]) c21 (by simp [xMl, c4]) hV) _ _ _ ⟨hE, hI, hN, hs, hcc, hly, hlw, hhw⟩ hS (lv_sub hl [2, 3, 4, 5, 6, 7, 0] rfl)
              · skip
                refine lv_aload_n X.x X.b d_Expander_expandRow_109 rfl (lv_at hl 1 rfl) ?_
                refine lv_aload X.x X.b d_Expander_expandRow_110 (lv_at hl 0 rfl) ?_
                refine lv_iload_n X.x X.b d_Expander_expandRow_112 rfl (lv_at hl 3 rfl) ?_
                refine lv_iload_n X.x X.b d_Expander_expandRow_113 rfl (lv_at hl 4 rfl) ?_
                have hR := M_Expander_expandLine (xs := (S2, m2, N2, x2, fn2, nI i)) l g ⟨hE, hI, hN, hs, show m2 ≤ 120 by omega, hly, hlw, hhw⟩ (hs.2.2.2.1 r i hr hir).1 (hs.2.2.2.1 r i hr hir).2 hcall arg
                obtain ⟨⟨⟨SG22, cG22, NG22, xG22, fnG22, mlG22⟩, rG22⟩, hG22⟩ : ∃ z, z = xLin (xCall D cnt k) (nI (5 - k)) (D r i) arg (S2, m2, N2, x2, fn2, nI i) := ⟨_, rfl⟩
                rw [← hG22] at hR
                refine m_callM X hS hR v_Expander_57 hE rfl rfl rfl (Nat.le_of_ble_eq_true rfl) hl.1 d_Expander_expandRow_114 (by omega) (by decide) ⟨Nat.zero_le _, Nat.zero_le _⟩ (fun q z => z) (fun H locs hx hfr hS => ?_)
                obtain ⟨hE, hI, hN, hs, hcc, -, -, -⟩ := hx
                have hE : exAt g w so xG22 fnG22 mlG22 H := hE
                have hI : iAt g (w + 1) cG22 SG22 H := hI
                have hN : nAt g (w + 125) NG22 H := hN
                have hcc : cG22 ≤ 120 := hcc
                refine lv_if_ne (tgt := 123) X.x X.b d_Expander_expandRow_117 (by decide) (fun c23 => ?_) (fun c23 => ?_)
                · skip
                  refine lv_iinc (v := nI (i + 1)) (lv' := [(6, .int (nI (i + 1))), (7, .ref (f r i)), (0, .ref (w + 124)), (1, .int (nI r)), (2, .int arg), (3, .int (nI (5 - k))), (4, .int o), (5, .int (nI (cnX cnt (nI r))))]) X.x X.b d_Expander_expandRow_123 hl (k := 7) rfl (nI_1 i) (by decide) rfl (fun ls hl => ?_)
                  refine lv_goto (tgt := 16) X.x X.b d_Expander_expandRow_126 (by decide) ?_
                  exact ih (i + 1) o (SG22, cG22, NG22, xG22, fnG22, mlG22) (by omega) (by omega) (xLoop_line1 (E := D r) c3 (show o = xOp o (D r i 0) from by simp [xOp, c2, c2q, c4, c20, c20q, c23]) c21 (by simp [xMl, c4]) hG22 c23 hV) _ _ _ ⟨hE, hI, hN, hs, hcc, hly, hlw, hhw⟩ hS (lv_sub hl [2, 3, 4, 5, 6, 7, 0] rfl)
                · skip
                  refine lv_iconst (v := 1) X.x X.b d_Expander_expandRow_120 (by decide) ?_
                  refine lv_istore (lv' := [(4, .int 1), (7, .ref (f r i)), (0, .ref (w + 124)), (1, .int (nI r)), (2, .int arg), (3, .int (nI (5 - k))), (5, .int (nI (cnX cnt (nI r)))), (6, .int (nI i))]) X.x X.b d_Expander_expandRow_121 hl (by decide) rfl (fun ls hl => ?_)
                  refine lv_iinc (v := nI (i + 1)) (lv' := [(6, .int (nI (i + 1))), (4, .int 1), (7, .ref (f r i)), (0, .ref (w + 124)), (1, .int (nI r)), (2, .int arg), (3, .int (nI (5 - k))), (5, .int (nI (cnX cnt (nI r))))]) X.x X.b d_Expander_expandRow_123 hl (k := 7) rfl (nI_1 i) (by decide) rfl (fun ls hl => ?_)
                  refine lv_goto (tgt := 16) X.x X.b d_Expander_expandRow_126 (by decide) ?_
                  exact ih (i + 1) 1 (SG22, cG22, NG22, xG22, fnG22, mlG22) (by omega) (by omega) (xLoop_line0 (E := D r) c3 (show o = xOp o (D r i 0) from by simp [xOp, c2, c2q, c4, c20, c20q, c23]) c21 (by simp [xMl, c4]) hG22 c23 hV) _ _ _ ⟨hE, hI, hN, hs, hcc, hly, hlw, hhw⟩ hS (lv_sub hl [3, 4, 5, 6, 1, 7, 0] rfl)
            · skip
              have c20q := Int32.not_le.mp c20
              refine lv_iload X.x X.b d_Expander_expandRow_70 (lv_at hl 5 rfl) ?_
              refine lv_aload X.x X.b d_Expander_expandRow_72 (lv_at hl 0 rfl) ?_
              refine m_get (v := .int (D r i 0)) X ok_Line (hs.2.2.2.1 r i hr hir).1 0 (by decide) k_Expander_52 rfl d_Expander_expandRow_74 ?_
              refine lv_bipush (v := 8) X.x X.b d_Expander_expandRow_77 (by decide) ?_
              refine lv_icmp_ne (tgt := 86) X.x X.b d_Expander_expandRow_79 (by decide) (fun c24 => ?_) (fun c24 => ?_)
              · skip
                refine lv_aload X.x X.b d_Expander_expandRow_86 (lv_at hl 0 rfl) ?_
                refine m_get (v := .int (D r i 0)) X ok_Line (hs.2.2.2.1 r i hr hir).1 0 (by decide) k_Expander_52 rfl d_Expander_expandRow_88 ?_
                refine lv_bipush (v := 9) X.x X.b d_Expander_expandRow_91 (by decide) ?_
                refine lv_icmp_ne (tgt := 100) X.x X.b d_Expander_expandRow_93 (by decide) (fun c25 => ?_) (fun c25 => ?_)
                · skip
                  refine lv_iconst (v := 0) X.x X.b d_Expander_expandRow_100 (by decide) ?_
                  refine lv_iadd X.x X.b d_Expander_expandRow_101 ?_
                  refine lv_istore (lv' := [(4, .int (o + 0)), (7, .ref (f r i)), (0, .ref (w + 124)), (1, .int (nI r)), (2, .int arg), (3, .int (nI (5 - k))), (5, .int (nI (cnX cnt (nI r)))), (6, .int (nI i))]) X.x X.b d_Expander_expandRow_102 hl (by decide) rfl (fun ls hl => ?_)
                  refine lv_iload X.x X.b d_Expander_expandRow_104 (lv_at hl 0 rfl) ?_
                  refine lv_if_ne (tgt := 123) X.x X.b d_Expander_expandRow_106 (by decide) (fun c26 => ?_) (fun c26 => ?_)
                  · skip
                    refine lv_iinc (v := nI (i + 1)) (lv' := [(6, .int (nI (i + 1))), (4, .int (o + 0)), (7, .ref (f r i)), (0, .ref (w + 124)), (1, .int (nI r)), (2, .int arg), (3, .int (nI (5 - k))), (5, .int (nI (cnX cnt (nI r))))]) X.x X.b d_Expander_expandRow_123 hl (k := 7) rfl (nI_1 i) (by decide) rfl (fun ls hl => ?_)
                    refine lv_goto (tgt := 16) X.x X.b d_Expander_expandRow_126 (by decide) ?_
                    exact ih (i + 1) (o + 0) (S2, m2, N2, x2, fn2, nI i) (by omega) (by omega) (xLoop_skip (E := D r) c3 (show (o + 0) = xOp o (D r i 0) from by simp [xOp, c2, c2q, c4, c20, c20q, c24, c25, c26]) c26 (by simp [xMl, c4]) hV) _ _ _ ⟨hE, hI, hN, hs, hcc, hly, hlw, hhw⟩ hS (lv_sub hl [3, 4, 5, 6, 1, 7, 0] rfl)
                  · skip
                    refine lv_aload_n X.x X.b d_Expander_expandRow_109 rfl (lv_at hl 2 rfl) ?_
                    refine lv_aload X.x X.b d_Expander_expandRow_110 (lv_at hl 1 rfl) ?_
                    refine lv_iload_n X.x X.b d_Expander_expandRow_112 rfl (lv_at hl 4 rfl) ?_
                    refine lv_iload_n X.x X.b d_Expander_expandRow_113 rfl (lv_at hl 5 rfl) ?_
                    have hR := M_Expander_expandLine (xs := (S2, m2, N2, x2, fn2, nI i)) l g ⟨hE, hI, hN, hs, show m2 ≤ 120 by omega, hly, hlw, hhw⟩ (hs.2.2.2.1 r i hr hir).1 (hs.2.2.2.1 r i hr hir).2 hcall arg
                    obtain ⟨⟨⟨SG27, cG27, NG27, xG27, fnG27, mlG27⟩, rG27⟩, hG27⟩ : ∃ z, z = xLin (xCall D cnt k) (nI (5 - k)) (D r i) arg (S2, m2, N2, x2, fn2, nI i) := ⟨_, rfl⟩
                    rw [← hG27] at hR
                    refine m_callM X hS hR v_Expander_57 hE rfl rfl rfl (Nat.le_of_ble_eq_true rfl) hl.1 d_Expander_expandRow_114 (by omega) (by decide) ⟨Nat.zero_le _, Nat.zero_le _⟩ (fun q z => z) (fun H locs hx hfr hS => ?_)
                    obtain ⟨hE, hI, hN, hs, hcc, -, -, -⟩ := hx
                    have hE : exAt g w so xG27 fnG27 mlG27 H := hE
                    have hI : iAt g (w + 1) cG27 SG27 H := hI
                    have hN : nAt g (w + 125) NG27 H := hN
                    have hcc : cG27 ≤ 120 := hcc
                    refine lv_if_ne (tgt := 123) X.x X.b d_Expander_expandRow_117 (by decide) (fun c28 => ?_) (fun c28 => ?_)
                    · skip
                      refine lv_iinc (v := nI (i + 1)) (lv' := [(6, .int (nI (i + 1))), (4, .int (o + 0)), (7, .ref (f r i)), (0, .ref (w + 124)), (1, .int (nI r)), (2, .int arg), (3, .int (nI (5 - k))), (5, .int (nI (cnX cnt (nI r))))]) X.x X.b d_Expander_expandRow_123 hl (k := 7) rfl (nI_1 i) (by decide) rfl (fun ls hl => ?_)
                      refine lv_goto (tgt := 16) X.x X.b d_Expander_expandRow_126 (by decide) ?_
                      exact ih (i + 1) (o + 0) (SG27, cG27, NG27, xG27, fnG27, mlG27) (by omega) (by omega) (xLoop_line1 (E := D r) c3 (show (o + 0) = xOp o (D r i 0) from by simp [xOp, c2, c2q, c4, c20, c20q, c24, c25, c28]) c26 (by simp [xMl, c4]) hG27 c28 hV) _ _ _ ⟨hE, hI, hN, hs, hcc, hly, hlw, hhw⟩ hS (lv_sub hl [3, 4, 5, 6, 1, 7, 0] rfl)
                    · skip
                      refine lv_iconst (v := 1) X.x X.b d_Expander_expandRow_120 (by decide) ?_
                      refine lv_istore (lv' := [(4, .int 1), (7, .ref (f r i)), (0, .ref (w + 124)), (1, .int (nI r)), (2, .int arg), (3, .int (nI (5 - k))), (5, .int (nI (cnX cnt (nI r)))), (6, .int (nI i))]) X.x X.b d_Expander_expandRow_121 hl (by decide) rfl (fun ls hl => ?_)
                      refine lv_iinc (v := nI (i + 1)) (lv' := [(6, .int (nI (i + 1))), (4, .int 1), (7, .ref (f r i)), (0, .ref (w + 124)), (1, .int (nI r)), (2, .int arg), (3, .int (nI (5 - k))), (5, .int (nI (cnX cnt (nI r))))]) X.x X.b d_Expander_expandRow_123 hl (k := 7) rfl (nI_1 i) (by decide) rfl (fun ls hl => ?_)
                      refine lv_goto (tgt := 16) X.x X.b d_Expander_expandRow_126 (by decide) ?_
                      exact ih (i + 1) 1 (SG27, cG27, NG27, xG27, fnG27, mlG27) (by omega) (by omega) (xLoop_line0 (E := D r) c3 (show (o + 0) = xOp o (D r i 0) from by simp [xOp, c2, c2q, c4, c20, c20q, c24, c25, c28]) c26 (by simp [xMl, c4]) hG27 c28 hV) _ _ _ ⟨hE, hI, hN, hs, hcc, hly, hlw, hhw⟩ hS (lv_sub hl [3, 4, 5, 6, 1, 7, 0] rfl)
                · skip
                  refine lv_iconst (v := -1) X.x X.b d_Expander_expandRow_96 (by decide) ?_
                  refine lv_goto (tgt := 101) X.x X.b d_Expander_expandRow_97 (by decide) ?_
                  refine lv_iadd X.x X.b d_Expander_expandRow_101 ?_
                  refine lv_istore (lv' := [(4, .int (o + (-1))), (7, .ref (f r i)), (0, .ref (w + 124)), (1, .int (nI r)), (2, .int arg), (3, .int (nI (5 - k))), (5, .int (nI (cnX cnt (nI r)))), (6, .int (nI i))]) X.x X.b d_Expander_expandRow_102 hl (by decide) rfl (fun ls hl => ?_)
                  refine lv_iload X.x X.b d_Expander_expandRow_104 (lv_at hl 0 rfl) ?_
                  refine lv_if_ne (tgt := 123) X.x X.b d_Expander_expandRow_106 (by decide) (fun c29 => ?_) (fun c29 => ?_)
                  · skip
                    refine lv_iinc (v := nI (i + 1)) (lv' := [(6, .int (nI (i + 1))), (4, .int (o + (-1))), (7, .ref (f r i)), (0, .ref (w + 124)), (1, .int (nI r)), (2, .int arg), (3, .int (nI (5 - k))), (5, .int (nI (cnX cnt (nI r))))]) X.x X.b d_Expander_expandRow_123 hl (k := 7) rfl (nI_1 i) (by decide) rfl (fun ls hl => ?_)
                    refine lv_goto (tgt := 16) X.x X.b d_Expander_expandRow_126 (by decide) ?_
                    exact ih (i + 1) (o + (-1)) (S2, m2, N2, x2, fn2, nI i) (by omega) (by omega) (xLoop_skip (E := D r) c3 (show (o + (-1)) = xOp o (D r i 0) from by simp [xOp, c2, c2q, c4, c20, c20q, c24, c25, c29]) c29 (by simp [xMl, c4]) hV) _ _ _ ⟨hE, hI, hN, hs, hcc, hly, hlw, hhw⟩ hS (lv_sub hl [3, 4, 5, 6, 1, 7, 0] rfl)
                  · skip
                    refine lv_aload_n X.x X.b d_Expander_expandRow_109 rfl (lv_at hl 2 rfl) ?_
                    refine lv_aload X.x X.b d_Expander_expandRow_110 (lv_at hl 1 rfl) ?_
                    refine lv_iload_n X.x X.b d_Expander_expandRow_112 rfl (lv_at hl 4 rfl) ?_
                    refine lv_iload_n X.x X.b d_Expander_expandRow_113 rfl (lv_at hl 5 rfl) ?_
                    have hR := M_Expander_expandLine (xs := (S2, m2, N2, x2, fn2, nI i)) l g ⟨hE, hI, hN, hs, show m2 ≤ 120 by omega, hly, hlw, hhw⟩ (hs.2.2.2.1 r i hr hir).1 (hs.2.2.2.1 r i hr hir).2 hcall arg
                    obtain ⟨⟨⟨SG30, cG30, NG30, xG30, fnG30, mlG30⟩, rG30⟩, hG30⟩ : ∃ z, z = xLin (xCall D cnt k) (nI (5 - k)) (D r i) arg (S2, m2, N2, x2, fn2, nI i) := ⟨_, rfl⟩
                    rw [← hG30] at hR
                    refine m_callM X hS hR v_Expander_57 hE rfl rfl rfl (Nat.le_of_ble_eq_true rfl) hl.1 d_Expander_expandRow_114 (by omega) (by decide) ⟨Nat.zero_le _, Nat.zero_le _⟩ (fun q z => z) (fun H locs hx hfr hS => ?_)
                    obtain ⟨hE, hI, hN, hs, hcc, -, -, -⟩ := hx
                    have hE : exAt g w so xG30 fnG30 mlG30 H := hE
                    have hI : iAt g (w + 1) cG30 SG30 H := hI
                    have hN : nAt g (w + 125) NG30 H := hN
                    have hcc : cG30 ≤ 120 := hcc
                    refine lv_if_ne (tgt := 123) X.x X.b d_Expander_expandRow_117 (by decide) (fun c31 => ?_) (fun c31 => ?_)
                    · skip
                      refine lv_iinc (v := nI (i + 1)) (lv' := [(6, .int (nI (i + 1))), (4, .int (o + (-1))), (7, .ref (f r i)), (0, .ref (w + 124)), (1, .int (nI r)), (2, .int arg), (3, .int (nI (5 - k))), (5, .int (nI (cnX cnt (nI r))))]) X.x X.b d_Expander_expandRow_123 hl (k := 7) rfl (nI_1 i) (by decide) rfl (fun ls hl => ?_)
                      refine lv_goto (tgt := 16) X.x X.b d_Expander_expandRow_126 (by decide) ?_
                      exact ih (i + 1) (o + (-1)) (SG30, cG30, NG30, xG30, fnG30, mlG30) (by omega) (by omega) (xLoop_line1 (E := D r) c3 (show (o + (-1)) = xOp o (D r i 0) from by simp [xOp, c2, c2q, c4, c20, c20q, c24, c25, c31]) c29 (by simp [xMl, c4]) hG30 c31 hV) _ _ _ ⟨hE, hI, hN, hs, hcc, hly, hlw, hhw⟩ hS (lv_sub hl [3, 4, 5, 6, 1, 7, 0] rfl)
                    · skip
                      refine lv_iconst (v := 1) X.x X.b d_Expander_expandRow_120 (by decide) ?_
                      refine lv_istore (lv' := [(4, .int 1), (7, .ref (f r i)), (0, .ref (w + 124)), (1, .int (nI r)), (2, .int arg), (3, .int (nI (5 - k))), (5, .int (nI (cnX cnt (nI r)))), (6, .int (nI i))]) X.x X.b d_Expander_expandRow_121 hl (by decide) rfl (fun ls hl => ?_)
                      refine lv_iinc (v := nI (i + 1)) (lv' := [(6, .int (nI (i + 1))), (4, .int 1), (7, .ref (f r i)), (0, .ref (w + 124)), (1, .int (nI r)), (2, .int arg), (3, .int (nI (5 - k))), (5, .int (nI (cnX cnt (nI r))))]) X.x X.b d_Expander_expandRow_123 hl (k := 7) rfl (nI_1 i) (by decide) rfl (fun ls hl => ?_)
                      refine lv_goto (tgt := 16) X.x X.b d_Expander_expandRow_126 (by decide) ?_
                      exact ih (i + 1) 1 (SG30, cG30, NG30, xG30, fnG30, mlG30) (by omega) (by omega) (xLoop_line0 (E := D r) c3 (show (o + (-1)) = xOp o (D r i 0) from by simp [xOp, c2, c2q, c4, c20, c20q, c24, c25, c31]) c29 (by simp [xMl, c4]) hG30 c31 hV) _ _ _ ⟨hE, hI, hN, hs, hcc, hly, hlw, hhw⟩ hS (lv_sub hl [3, 4, 5, 6, 1, 7, 0] rfl)
              · skip
                refine lv_iconst (v := 1) X.x X.b d_Expander_expandRow_82 (by decide) ?_
                refine lv_goto (tgt := 101) X.x X.b d_Expander_expandRow_83 (by decide) ?_
                refine lv_iadd X.x X.b d_Expander_expandRow_101 ?_
                refine lv_istore (lv' := [(4, .int (o + 1)), (7, .ref (f r i)), (0, .ref (w + 124)), (1, .int (nI r)), (2, .int arg), (3, .int (nI (5 - k))), (5, .int (nI (cnX cnt (nI r)))), (6, .int (nI i))]) X.x X.b d_Expander_expandRow_102 hl (by decide) rfl (fun ls hl => ?_)
                refine lv_iload X.x X.b d_Expander_expandRow_104 (lv_at hl 0 rfl) ?_
                refine lv_if_ne (tgt := 123) X.x X.b d_Expander_expandRow_106 (by decide) (fun c32 => ?_) (fun c32 => ?_)
                · skip
                  refine lv_iinc (v := nI (i + 1)) (lv' := [(6, .int (nI (i + 1))), (4, .int (o + 1)), (7, .ref (f r i)), (0, .ref (w + 124)), (1, .int (nI r)), (2, .int arg), (3, .int (nI (5 - k))), (5, .int (nI (cnX cnt (nI r))))]) X.x X.b d_Expander_expandRow_123 hl (k := 7) rfl (nI_1 i) (by decide) rfl (fun ls hl => ?_)
                  refine lv_goto (tgt := 16) X.x X.b d_Expander_expandRow_126 (by decide) ?_
                  exact ih (i + 1) (o + 1) (S2, m2, N2, x2, fn2, nI i) (by omega) (by omega) (xLoop_skip (E := D r) c3 (show (o + 1) = xOp o (D r i 0) from by simp [xOp, c2, c2q, c4, c20, c20q, c24, c32]) c32 (by simp [xMl, c4]) hV) _ _ _ ⟨hE, hI, hN, hs, hcc, hly, hlw, hhw⟩ hS (lv_sub hl [3, 4, 5, 6, 1, 7, 0] rfl)
                · skip
                  refine lv_aload_n X.x X.b d_Expander_expandRow_109 rfl (lv_at hl 2 rfl) ?_
                  refine lv_aload X.x X.b d_Expander_expandRow_110 (lv_at hl 1 rfl) ?_
                  refine lv_iload_n X.x X.b d_Expander_expandRow_112 rfl (lv_at hl 4 rfl) ?_
                  refine lv_iload_n X.x X.b d_Expander_expandRow_113 rfl (lv_at hl 5 rfl) ?_
                  have hR := M_Expander_expandLine (xs := (S2, m2, N2, x2, fn2, nI i)) l g ⟨hE, hI, hN, hs, show m2 ≤ 120 by omega, hly, hlw, hhw⟩ (hs.2.2.2.1 r i hr hir).1 (hs.2.2.2.1 r i hr hir).2 hcall arg
                  obtain ⟨⟨⟨SG33, cG33, NG33, xG33, fnG33, mlG33⟩, rG33⟩, hG33⟩ : ∃ z, z = xLin (xCall D cnt k) (nI (5 - k)) (D r i) arg (S2, m2, N2, x2, fn2, nI i) := ⟨_, rfl⟩
                  rw [← hG33] at hR
                  refine m_callM X hS hR v_Expander_57 hE rfl rfl rfl (Nat.le_of_ble_eq_true rfl) hl.1 d_Expander_expandRow_114 (by omega) (by decide) ⟨Nat.zero_le _, Nat.zero_le _⟩ (fun q z => z) (fun H locs hx hfr hS => ?_)
                  obtain ⟨hE, hI, hN, hs, hcc, -, -, -⟩ := hx
                  have hE : exAt g w so xG33 fnG33 mlG33 H := hE
                  have hI : iAt g (w + 1) cG33 SG33 H := hI
                  have hN : nAt g (w + 125) NG33 H := hN
                  have hcc : cG33 ≤ 120 := hcc
                  refine lv_if_ne (tgt := 123) X.x X.b d_Expander_expandRow_117 (by decide) (fun c34 => ?_) (fun c34 => ?_)
                  · skip
                    refine lv_iinc (v := nI (i + 1)) (lv' := [(6, .int (nI (i + 1))), (4, .int (o + 1)), (7, .ref (f r i)), (0, .ref (w + 124)), (1, .int (nI r)), (2, .int arg), (3, .int (nI (5 - k))), (5, .int (nI (cnX cnt (nI r))))]) X.x X.b d_Expander_expandRow_123 hl (k := 7) rfl (nI_1 i) (by decide) rfl (fun ls hl => ?_)
                    refine lv_goto (tgt := 16) X.x X.b d_Expander_expandRow_126 (by decide) ?_
                    exact ih (i + 1) (o + 1) (SG33, cG33, NG33, xG33, fnG33, mlG33) (by omega) (by omega) (xLoop_line1 (E := D r) c3 (show (o + 1) = xOp o (D r i 0) from by simp [xOp, c2, c2q, c4, c20, c20q, c24, c34]) c32 (by simp [xMl, c4]) hG33 c34 hV) _ _ _ ⟨hE, hI, hN, hs, hcc, hly, hlw, hhw⟩ hS (lv_sub hl [3, 4, 5, 6, 1, 7, 0] rfl)
                  · skip
                    refine lv_iconst (v := 1) X.x X.b d_Expander_expandRow_120 (by decide) ?_
                    refine lv_istore (lv' := [(4, .int 1), (7, .ref (f r i)), (0, .ref (w + 124)), (1, .int (nI r)), (2, .int arg), (3, .int (nI (5 - k))), (5, .int (nI (cnX cnt (nI r)))), (6, .int (nI i))]) X.x X.b d_Expander_expandRow_121 hl (by decide) rfl (fun ls hl => ?_)
                    refine lv_iinc (v := nI (i + 1)) (lv' := [(6, .int (nI (i + 1))), (4, .int 1), (7, .ref (f r i)), (0, .ref (w + 124)), (1, .int (nI r)), (2, .int arg), (3, .int (nI (5 - k))), (5, .int (nI (cnX cnt (nI r))))]) X.x X.b d_Expander_expandRow_123 hl (k := 7) rfl (nI_1 i) (by decide) rfl (fun ls hl => ?_)
                    refine lv_goto (tgt := 16) X.x X.b d_Expander_expandRow_126 (by decide) ?_
                    exact ih (i + 1) 1 (SG33, cG33, NG33, xG33, fnG33, mlG33) (by omega) (by omega) (xLoop_line0 (E := D r) c3 (show (o + 1) = xOp o (D r i 0) from by simp [xOp, c2, c2q, c4, c20, c20q, c24, c34]) c32 (by simp [xMl, c4]) hG33 c34 hV) _ _ _ ⟨hE, hI, hN, hs, hcc, hly, hlw, hhw⟩ hS (lv_sub hl [3, 4, 5, 6, 1, 7, 0] rfl)
  exact lp (cnX cnt row) 0 0 (S, c, N, x, fn, ml) (by omega) (by omega) (rfl) _ _ _ ⟨hE, hI, hN, hs, hcc, hly, hlw, hhw⟩ hS (lv_sub hl [3, 4, 5, 6, 2, 1, 0] rfl)
theorem rowOK_all (l : Launch) (g : GG) (w so cap0 : Nat) (cnt : Nat → Nat) (f : Nat → Nat → Nat) (D : DT) (lo hi : Nat) : ∀ k, k ≤ 5 → RowOK l g w so cap0 cnt f D lo hi k
  | 0, hk => fun xs H0 row arg hx => M_Expander_expandRow l g hx hk (callOK_0 l g w so cap0 cnt f D lo hi) row arg
  | k + 1, hk => fun xs H0 row arg hx => M_Expander_expandRow l g hx hk (callOK_s l g w so cap0 cnt f D lo hi (by omega) (rowOK_all l g w so cap0 cnt f D lo hi k (by omega))) row arg
