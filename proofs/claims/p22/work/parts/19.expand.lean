set_option maxRecDepth 100000 in
set_option maxHeartbeats 4000000 in
theorem M_Expander_expandLine (l : Launch) (g : GG) {w so cap0 lo hi : Nat} {cnt : Nat → Nat} {f : Nat → Nat → Nat} {D : DT} {xs : XS} {H0 : Heap} (hx : xAt g w so cap0 cnt f D lo hi xs H0) {ln : Nat} {d : Nat → Int32} (hL : lnD g ln d H0) (hlo : ln < lo ∨ hi ≤ ln) {k : Nat} (hcall : CallOK l g w so cap0 cnt f D lo hi k) (arg : Int32) : MM l y_Expander_expandLine c_Expander_expandLine 6 (some .boolean) (3 * k + 3) 0 0 g H0 [.ref (w + 124), .ref ln, .int arg, .int (nI (5 - k))] (wF w) (some (.int (xLin (xCall D cnt k) (nI (5 - k)) d arg xs).2)) (fun H1 => xAt g w so cap0 cnt f D lo hi ((xLin (xCall D cnt k) (nI (5 - k)) d arg xs).1) H1) := by
  refine MM.of (by decide +kernel) (Nat.le_of_ble_eq_true rfl) ?_
  intro p e s m below meth cd X hH ls hl
  have X : CX g p s m _ meth cd c_Expander_expandLine 6 (some .boolean) R_Expander _ := X
  have hl : lv_has ls 6 [(0, .ref (w + 124)), (1, .ref ln), (2, .int arg), (3, .int (nI (5 - k)))] := hl
  have hS : va_S (AA (wF w) H0) H0 H0 [] := va_S.rf
  obtain ⟨S, c, N, x, fn, ml⟩ := xs
  obtain ⟨hE, hI, hN, hs, hcc, hly, hlw, hhw⟩ := hx
  have hE : exAt g w so x fn ml H0 := hE
  have hI : iAt g (w + 1) c S H0 := hI
  have hN : nAt g (w + 125) N H0 := hN
  have hcc : c ≤ 120 := hcc
  refine lv_aload_n X.x X.b d_Expander_expandLine_0 rfl (lv_at hl 1 rfl) ?_
  refine m_get (v := .int (d 4)) X ok_Line hL 4 (by decide) k_Expander_61 rfl d_Expander_expandLine_1 ?_
  refine lv_if_eq (tgt := 16) X.x X.b d_Expander_expandLine_4 (by decide) (fun c1 => ?_) (fun c1 => ?_)
  · skip
    refine lv_aload_n X.x X.b d_Expander_expandLine_16 rfl (lv_at hl 1 rfl) ?_
    refine m_get (v := .int (d 3)) X ok_Line hL 3 (by decide) k_Expander_65 rfl d_Expander_expandLine_17 ?_
    refine lv_istore (lv' := [(4, .int (d 3)), (0, .ref (w + 124)), (1, .ref ln), (2, .int arg), (3, .int (nI (5 - k)))]) X.x X.b d_Expander_expandLine_20 hl (by decide) rfl (fun ls hl => ?_)
    refine lv_aload_n X.x X.b d_Expander_expandLine_22 rfl (lv_at hl 1 rfl) ?_
    refine lv_dup X.x X.b d_Expander_expandLine_23 rfl ?_
    refine m_get (v := .int x) X ok_Expander hE 3 (by decide) k_Expander_26 rfl d_Expander_expandLine_24 ?_
    refine lv_iconst (v := 1) X.x X.b d_Expander_expandLine_27 (by decide) ?_
    refine lv_iadd X.x X.b d_Expander_expandLine_28 ?_
    refine m_put X ok_Expander hS (Or.inl ⟨by omega, by omega⟩) hE 3 (by decide) k_Expander_26 rfl (ok_Expander.2.2.1 _ (by decide)) rfl rfl (Nat.le_of_ble_eq_true rfl) d_Expander_expandLine_29 (fun H locs hp hcg hS => ?_)
    have hE : exAt g w so (x + 1) fn ml H := hp
    have hfr := fr.of_chg (A := fun q => q = w + 124) hcg rfl
    have hI := hI.frame hfr (fun q z => by have z : q = w + 124 := z; omega)
    have hN := hN.frame hfr (fun q z => by have z : q = w + 124 := z; omega)
    have hs := hs.frame hfr (fun q z => by have z : q = w + 124 := z; omega)
    have hL := hL.fr hfr (fun z => by have z : ln = w + 124 := z; omega)
    refine lv_aload_n X.x X.b d_Expander_expandLine_32 rfl (lv_at hl 1 rfl) ?_
    refine m_get (v := .int (x + 1)) X ok_Expander hE 3 (by decide) k_Expander_26 rfl d_Expander_expandLine_33 ?_
    refine lv_sipush (v := 400) X.x X.b d_Expander_expandLine_36 (by decide) ?_
    refine lv_icmp_gt (tgt := 61) X.x X.b d_Expander_expandLine_39 (by decide) (fun c2 => ?_) (fun c2 => ?_)
    · skip
      have c2q := Int32.not_le.mpr c2
      refine lv_aload_n X.x X.b d_Expander_expandLine_61 rfl (lv_at hl 1 rfl) ?_
      refine lv_iconst (v := 2) X.x X.b d_Expander_expandLine_62 (by decide) ?_
      refine m_put X ok_Expander hS (Or.inl ⟨by omega, by omega⟩) hE 4 (by decide) k_Expander_30 rfl (ok_Expander.2.2.1 _ (by decide)) rfl rfl (Nat.le_of_ble_eq_true rfl) d_Expander_expandLine_63 (fun H locs hp hcg hS => ?_)
      have hE : exAt g w so (x + 1) 2 ml H := hp
      have hfr := fr.of_chg (A := fun q => q = w + 124) hcg rfl
      have hI := hI.frame hfr (fun q z => by have z : q = w + 124 := z; omega)
      have hN := hN.frame hfr (fun q z => by have z : q = w + 124 := z; omega)
      have hs := hs.frame hfr (fun q z => by have z : q = w + 124 := z; omega)
      have hL := hL.fr hfr (fun z => by have z : ln = w + 124 := z; omega)
      refine lv_iconst (v := 1) X.x X.b d_Expander_expandLine_66 (by decide) ?_
      have hM : xLin (xCall D cnt k) (nI (5 - k)) d arg (S, c, N, x, fn, ml) = ((S, c, N, x + 1, 2, ml), 1) := by simp [xLin, xLin2, xInc, xApp, xF, xOver, itmF, c1, c2, c2q]
      exact m_zret X hS (Nat.zero_le _) (Nat.zero_le _) d_Expander_expandLine_67 rfl (by rw [hM]) (by rw [hM]; exact ⟨hE, hI, hN, hs, show c ≤ 120 by omega, hly, hlw, hhw⟩)
    · skip
      have c2q := Int32.not_lt.mp c2
      refine lv_aload_n X.x X.b d_Expander_expandLine_42 rfl (lv_at hl 2 rfl) ?_
      refine m_callP X hS (M_Line_isItem l g hL) v_Expander_68 hL rfl rfl rfl (Nat.le_of_ble_eq_true rfl) hl.1 d_Expander_expandLine_43 (by omega) (by decide) ⟨Nat.zero_le _, Nat.zero_le _⟩ (fun locs hS => ?_)
      refine lv_if_eq (tgt := 68) X.x X.b d_Expander_expandLine_46 (by decide) (fun c3 => ?_) (fun c3 => ?_)
      · skip
        have c3 := b2i_0.mp c3
        refine lv_aload_n X.x X.b d_Expander_expandLine_68 rfl (lv_at hl 2 rfl) ?_
        refine m_get (v := .int (d 0)) X ok_Line hL 0 (by decide) k_Expander_52 rfl d_Expander_expandLine_69 ?_
        by_cases k4 : d 0 = 0
        · exact absurd (show itmF (d 0) from ⟨by rw [k4]; decide, by rw [k4]; decide, by rw [k4]; decide⟩) c3
        by_cases k5 : d 0 = 1
        · exact absurd (show itmF (d 0) from ⟨by rw [k5]; decide, by rw [k5]; decide, by rw [k5]; decide⟩) c3
        by_cases k6 : d 0 = 2
        · exact absurd (show itmF (d 0) from ⟨by rw [k6]; decide, by rw [k6]; decide, by rw [k6]; decide⟩) c3
        by_cases k7 : d 0 = 3
        · exact absurd (show itmF (d 0) from ⟨by rw [k7]; decide, by rw [k7]; decide, by rw [k7]; decide⟩) c3
        by_cases k8 : d 0 = 4
        · exact absurd (show itmF (d 0) from ⟨by rw [k8]; decide, by rw [k8]; decide, by rw [k8]; decide⟩) c3
        by_cases k9 : d 0 = 5
        · exact absurd (show itmF (d 0) from ⟨by rw [k9]; decide, by rw [k9]; decide, by rw [k9]; decide⟩) c3
        by_cases k10 : d 0 = 6
        · exact absurd (show itmF (d 0) from ⟨by rw [k10]; decide, by rw [k10]; decide, by rw [k10]; decide⟩) c3
        by_cases k11 : d 0 = 7
        · exact absurd (show itmF (d 0) from ⟨by rw [k11]; decide, by rw [k11]; decide, by rw [k11]; decide⟩) c3
        by_cases k12 : d 0 = 8
        · skip
          refine lv_tableIn (off := 73) (tgt := 145) X.x X.b d_Expander_expandLine_72 (by rw [k12]; decide) (by rw [k12]; decide) (by rw [k12]; decide) (by decide) ?_
          refine lv_aload_n X.x X.b d_Expander_expandLine_145 rfl (lv_at hl 1 rfl) ?_
          refine lv_aload_n X.x X.b d_Expander_expandLine_146 rfl (lv_at hl 2 rfl) ?_
          refine lv_iload X.x X.b d_Expander_expandLine_147 (lv_at hl 0 rfl) ?_
          have hR := M_Expander_goesOn l g (xs := (S, c, N, x + 1, fn, ml)) ⟨hE, hI, hN, hs, by omega, hly, hlw, hhw⟩ hL hlo (d 3)
          obtain ⟨⟨SG13, cG13, NG13, xG13, fnG13, mlG13⟩, hG13⟩ : ∃ z, z = xGoS (S, c, N, x + 1, fn, ml) (d 1) (d 2) := ⟨_, rfl⟩
          rw [← hG13] at hR
          refine m_callM X hS hR v_Expander_82 hE rfl rfl rfl (Nat.le_of_ble_eq_true rfl) hl.1 d_Expander_expandLine_149 (by omega) (by decide) ⟨Nat.zero_le _, Nat.zero_le _⟩ (fun q z => z) (fun H locs hx hfr hS => ?_)
          obtain ⟨hE, hI, hN, hs, hcc, -, -, -⟩ := hx
          have hE : exAt g w so xG13 fnG13 mlG13 H := hE
          have hI : iAt g (w + 1) cG13 SG13 H := hI
          have hN : nAt g (w + 125) NG13 H := hN
          have hcc : cG13 ≤ 120 := hcc
          have hL := hL.fr hfr (fun z => by have z : w + 1 ≤ ln ∧ ln < w + 129 := z; omega)
          have hM : xLin (xCall D cnt k) (nI (5 - k)) d arg (S, c, N, x, fn, ml) = ((SG13, cG13, NG13, xG13, fnG13, mlG13), xGoR (S, c, N, x + 1, fn, ml) (d 1) (d 2) (d 3)) := by simp [xLin, xLin2, xInc, xApp, xF, xOver, itmF, c1, c2, c2q, c3, k12, ← hG13]
          exact m_zret X hS (Nat.zero_le _) (Nat.zero_le _) d_Expander_expandLine_152 (xGoR_nar _ _ _ _) (by rw [hM]) (by rw [hM]; exact ⟨hE, hI, hN, hs, show cG13 ≤ 120 by omega, hly, hlw, hhw⟩)
        by_cases k14 : d 0 = 9
        · skip
          refine lv_tableIn (off := 81) (tgt := 153) X.x X.b d_Expander_expandLine_72 (by rw [k14]; decide) (by rw [k14]; decide) (by rw [k14]; decide) (by decide) ?_
          refine lv_iconst (v := 1) X.x X.b d_Expander_expandLine_153 (by decide) ?_
          have hM : xLin (xCall D cnt k) (nI (5 - k)) d arg (S, c, N, x, fn, ml) = ((S, c, N, x + 1, fn, ml), 1) := by simp [xLin, xLin2, xInc, xApp, xF, xOver, itmF, c1, c2, c2q, c3, k14]
          exact m_zret X hS (Nat.zero_le _) (Nat.zero_le _) d_Expander_expandLine_154 rfl (by rw [hM]) (by rw [hM]; exact ⟨hE, hI, hN, hs, show c ≤ 120 by omega, hly, hlw, hhw⟩)
        by_cases k15 : d 0 = 10
        · skip
          refine lv_tableIn (off := 60) (tgt := 132) X.x X.b d_Expander_expandLine_72 (by rw [k15]; decide) (by rw [k15]; decide) (by rw [k15]; decide) (by decide) ?_
          refine lv_aload_n X.x X.b d_Expander_expandLine_132 rfl (lv_at hl 1 rfl) ?_
          refine lv_aload_n X.x X.b d_Expander_expandLine_133 rfl (lv_at hl 2 rfl) ?_
          refine m_get (v := .int (d 1)) X ok_Line hL 1 (by decide) k_Expander_75 rfl d_Expander_expandLine_134 ?_
          refine lv_iload X.x X.b d_Expander_expandLine_137 (lv_at hl 0 rfl) ?_
          refine lv_iload_n X.x X.b d_Expander_expandLine_139 rfl (lv_at hl 4 rfl) ?_
          have hR := hcall (S, c, N, x + 1, fn, ml) _ (d 1) (d 3) ⟨hE, hI, hN, hs, by omega, hly, hlw, hhw⟩
          refine m_callM X hS hR v_Expander_78 hE rfl rfl rfl (Nat.le_of_ble_eq_true rfl) hl.1 d_Expander_expandLine_140 (by omega) (by decide) ⟨Nat.zero_le _, Nat.zero_le _⟩ (fun q z => z) (fun H locs hx hfr hS => ?_)
          refine lv_iconst (v := 1) X.x X.b d_Expander_expandLine_143 (by decide) ?_
          exact m_zret X hS (Nat.zero_le _) (Nat.zero_le _) d_Expander_expandLine_144 rfl (congrArg (fun z => some (Value.int z)) (by simp [xLin, xLin2, xInc, xOver, itmF, c1, c2, c2q, c3, k15])) (by have hM : (xLin (xCall D cnt k) (nI (5 - k)) d arg (S, c, N, x, fn, ml)).1 = xCall D cnt k (d 1) (d 3) (S, c, N, x + 1, fn, ml) := (by simp [xLin, xLin2, xInc, xOver, itmF, c1, c2, c2q, c3, k15]); rw [hM]; exact hx)
        exact absurd (show itmF (d 0) from ⟨k12, k14, k15⟩) c3
      · skip
        have c3 := b2i_n0 c3
        refine lv_aload_n X.x X.b d_Expander_expandLine_49 rfl (lv_at hl 1 rfl) ?_
        refine m_get (v := .ref (w + 1)) X ok_Expander hE 1 (by decide) k_Expander_15 rfl d_Expander_expandLine_50 ?_
        refine m_get (v := .int (nI c)) X ok_Items hI.1 1 (by decide) k_Expander_72 rfl d_Expander_expandLine_53 ?_
        refine lv_bipush (v := 120) X.x X.b d_Expander_expandLine_56 (by decide) ?_
        refine lv_icmp_lt (tgt := 68) X.x X.b d_Expander_expandLine_58 (by decide) (fun c16 => ?_) (fun c16 => ?_)
        · skip
          have c16q := Int32.not_le.mpr c16
          have c16 : c < 120 := (nI_ltI (b := 120) (by omega) (by omega)).mp c16
          have c16q : ¬ 120 ≤ c := by omega
          refine lv_aload_n X.x X.b d_Expander_expandLine_68 rfl (lv_at hl 2 rfl) ?_
          refine m_get (v := .int (d 0)) X ok_Line hL 0 (by decide) k_Expander_52 rfl d_Expander_expandLine_69 ?_
          by_cases k17 : d 0 = 0
          · skip
            refine lv_tableIn (off := 83) (tgt := 155) X.x X.b d_Expander_expandLine_72 (by rw [k17]; decide) (by rw [k17]; decide) (by rw [k17]; decide) (by decide) ?_
            refine lv_aload_n X.x X.b d_Expander_expandLine_155 rfl (lv_at hl 1 rfl) ?_
            refine lv_aload_n X.x X.b d_Expander_expandLine_156 rfl (lv_at hl 2 rfl) ?_
            refine m_get (v := .int (d 1)) X ok_Line hL 1 (by decide) k_Expander_75 rfl d_Expander_expandLine_157 ?_
            have hR := M_Expander_expandLabel l g (xs := (S, c, N, x + 1, fn, ml)) ⟨hE, hI, hN, hs, by omega, hly, hlw, hhw⟩ (d 1)
            obtain ⟨⟨SG18, cG18, NG18, xG18, fnG18, mlG18⟩, hG18⟩ : ∃ z, z = xLab (S, c, N, x + 1, fn, ml) (d 1) := ⟨_, rfl⟩
            rw [← hG18] at hR
            refine m_callM X hS hR v_Expander_86 hE rfl rfl rfl (Nat.le_of_ble_eq_true rfl) hl.1 d_Expander_expandLine_160 (by omega) (by decide) ⟨Nat.zero_le _, Nat.zero_le _⟩ (fun q z => z) (fun H locs hx hfr hS => ?_)
            obtain ⟨hE, hI, hN, hs, hcc, -, -, -⟩ := hx
            have hE : exAt g w so xG18 fnG18 mlG18 H := hE
            have hI : iAt g (w + 1) cG18 SG18 H := hI
            have hN : nAt g (w + 125) NG18 H := hN
            have hcc : cG18 ≤ 120 := hcc
            have hL := hL.fr hfr (fun z => by have z : w + 1 ≤ ln ∧ ln < w + 129 := z; omega)
            have hcG18 : cG18 = c := (congrArg (fun z : XS => z.2.1) hG18).trans (xLab_c _ _)
            refine lv_goto (tgt := 176) X.x X.b d_Expander_expandLine_163 (by decide) ?_
            refine lv_aload_n X.x X.b d_Expander_expandLine_176 rfl (lv_at hl 2 rfl) ?_
            refine m_get (v := .int (d 0)) X ok_Line hL 0 (by decide) k_Expander_52 rfl d_Expander_expandLine_177 ?_
            refine lv_iconst (v := 1) X.x X.b d_Expander_expandLine_180 (by decide) ?_
            refine lv_icmp_ne (tgt := 198) X.x X.b d_Expander_expandLine_181 (by decide) (fun c19 => ?_) (fun c19 => ?_)
            · skip
              refine lv_iconst (v := 0) X.x X.b d_Expander_expandLine_198 (by decide) ?_
              refine lv_istore (lv' := [(5, .int 0), (4, .int (d 3)), (0, .ref (w + 124)), (1, .ref ln), (2, .int arg), (3, .int (nI (5 - k)))]) X.x X.b d_Expander_expandLine_199 hl (by decide) rfl (fun ls hl => ?_)
              refine lv_aload_n X.x X.b d_Expander_expandLine_201 rfl (lv_at hl 2 rfl) ?_
              refine m_get (v := .ref (w + 1)) X ok_Expander hE 1 (by decide) k_Expander_15 rfl d_Expander_expandLine_202 ?_
              refine lv_aload_n X.x X.b d_Expander_expandLine_205 rfl (lv_at hl 3 rfl) ?_
              refine lv_iload X.x X.b d_Expander_expandLine_206 (lv_at hl 1 rfl) ?_
              refine lv_iload X.x X.b d_Expander_expandLine_208 (lv_at hl 0 rfl) ?_
              refine lv_aload_n X.x X.b d_Expander_expandLine_210 rfl (lv_at hl 2 rfl) ?_
              refine m_get (v := .int mlG18) X ok_Expander hE 5 (by decide) k_Expander_33 rfl d_Expander_expandLine_211 ?_
              refine lv_iload_n X.x X.b d_Expander_expandLine_214 rfl (lv_at hl 5 rfl) ?_
              refine m_callM X hS (M_Items_append l g hI (by omega) hL (by omega) (by omega) (d 3) 0 mlG18 (nI (5 - k))) v_Expander_97 hI.1 rfl rfl rfl (Nat.le_of_ble_eq_true rfl) hl.1 d_Expander_expandLine_215 (by omega) (by decide) ⟨Nat.zero_le _, Nat.zero_le _⟩ (fun q z => by have z : w + 1 ≤ q ∧ q < w + 1 + 123 := z; exact ⟨by omega, by omega⟩) (fun H locs hI hfr hS => ?_)
              have hE := hE.fr hfr (fun z => by have z : w + 1 ≤ w + 124 ∧ w + 124 < w + 1 + 123 := z; omega)
              have hN := hN.frame hfr (fun q z => by have z : w + 1 ≤ q ∧ q < w + 1 + 123 := z; omega)
              have hs := hs.frame hfr (fun q z => by have z : w + 1 ≤ q ∧ q < w + 1 + 123 := z; omega)
              have hL := hL.fr hfr (fun z => by have z : w + 1 ≤ ln ∧ ln < w + 1 + 123 := z; omega)
              refine lv_iconst (v := 1) X.x X.b d_Expander_expandLine_218 (by decide) ?_
              have hM : xLin (xCall D cnt k) (nI (5 - k)) d arg (S, c, N, x, fn, ml) = (((telS SG18 cG18 (d 0) (d 1) (d 2) (d 3) 0 mlG18 (nI (5 - k))), (cG18 + 1), NG18, xG18, fnG18, mlG18), 1) := by simp [xLin, xLin2, xInc, xApp, xF, xOver, itmF, c1, c2, c2q, c3, c16, c16q, k17, ← hG18, c19]
              exact m_zret X hS (Nat.zero_le _) (Nat.zero_le _) d_Expander_expandLine_219 rfl (by rw [hM]) (by rw [hM]; exact ⟨hE, hI, hN, hs, show (cG18 + 1) ≤ 120 by omega, hly, hlw, hhw⟩)
            · exact absurd (k17.symm.trans c19) (by decide)
          by_cases k20 : d 0 = 1
          · skip
            refine lv_tableIn (off := 94) (tgt := 166) X.x X.b d_Expander_expandLine_72 (by rw [k20]; decide) (by rw [k20]; decide) (by rw [k20]; decide) (by decide) ?_
            refine lv_aload_n X.x X.b d_Expander_expandLine_166 rfl (lv_at hl 1 rfl) ?_
            refine lv_aload_n X.x X.b d_Expander_expandLine_167 rfl (lv_at hl 2 rfl) ?_
            refine lv_iload X.x X.b d_Expander_expandLine_168 (lv_at hl 0 rfl) ?_
            have hR := M_Expander_expandSet l g (xs := (S, c, N, x + 1, fn, ml)) ⟨hE, hI, hN, hs, by omega, hly, hlw, hhw⟩ hL hlo (d 3)
            obtain ⟨⟨SG21, cG21, NG21, xG21, fnG21, mlG21⟩, hG21⟩ : ∃ z, z = xSet (S, c, N, x + 1, fn, ml) (d 1) (d 2) (d 3) := ⟨_, rfl⟩
            rw [← hG21] at hR
            refine m_callM X hS hR v_Expander_90 hE rfl rfl rfl (Nat.le_of_ble_eq_true rfl) hl.1 d_Expander_expandLine_170 (by omega) (by decide) ⟨Nat.zero_le _, Nat.zero_le _⟩ (fun q z => z) (fun H locs hx hfr hS => ?_)
            obtain ⟨hE, hI, hN, hs, hcc, -, -, -⟩ := hx
            have hE : exAt g w so xG21 fnG21 mlG21 H := hE
            have hI : iAt g (w + 1) cG21 SG21 H := hI
            have hN : nAt g (w + 125) NG21 H := hN
            have hcc : cG21 ≤ 120 := hcc
            have hL := hL.fr hfr (fun z => by have z : w + 1 ≤ ln ∧ ln < w + 129 := z; omega)
            have hcG21 : cG21 = c := (congrArg (fun z : XS => z.2.1) hG21).trans (xSet_c _ _ _ _)
            refine lv_goto (tgt := 176) X.x X.b d_Expander_expandLine_173 (by decide) ?_
            refine lv_aload_n X.x X.b d_Expander_expandLine_176 rfl (lv_at hl 2 rfl) ?_
            refine m_get (v := .int (d 0)) X ok_Line hL 0 (by decide) k_Expander_52 rfl d_Expander_expandLine_177 ?_
            refine lv_iconst (v := 1) X.x X.b d_Expander_expandLine_180 (by decide) ?_
            refine lv_icmp_ne (tgt := 198) X.x X.b d_Expander_expandLine_181 (by decide) (fun c22 => ?_) (fun c22 => ?_)
            · exact absurd k20 c22
            · skip
              refine lv_aload_n X.x X.b d_Expander_expandLine_184 rfl (lv_at hl 1 rfl) ?_
              refine m_get (v := .ref (w + 125)) X ok_Expander hE 2 (by decide) k_Expander_22 rfl d_Expander_expandLine_185 ?_
              refine lv_aload_n X.x X.b d_Expander_expandLine_188 rfl (lv_at hl 2 rfl) ?_
              refine m_get (v := .int (d 1)) X ok_Line hL 1 (by decide) k_Expander_75 rfl d_Expander_expandLine_189 ?_
              refine m_callP X hS (M_Names_soFar l g hN (d 1)) v_Expander_94 hN.1 rfl rfl rfl (Nat.le_of_ble_eq_true rfl) hl.1 d_Expander_expandLine_192 (by omega) (by decide) ⟨Nat.zero_le _, Nat.zero_le _⟩ (fun locs hS => ?_)
              refine lv_goto (tgt := 199) X.x X.b d_Expander_expandLine_195 (by decide) ?_
              refine lv_istore (lv' := [(5, .int (sofF NG21 (d 1))), (4, .int (d 3)), (0, .ref (w + 124)), (1, .ref ln), (2, .int arg), (3, .int (nI (5 - k)))]) X.x X.b d_Expander_expandLine_199 hl (by decide) rfl (fun ls hl => ?_)
              refine lv_aload_n X.x X.b d_Expander_expandLine_201 rfl (lv_at hl 2 rfl) ?_
              refine m_get (v := .ref (w + 1)) X ok_Expander hE 1 (by decide) k_Expander_15 rfl d_Expander_expandLine_202 ?_
              refine lv_aload_n X.x X.b d_Expander_expandLine_205 rfl (lv_at hl 3 rfl) ?_
              refine lv_iload X.x X.b d_Expander_expandLine_206 (lv_at hl 1 rfl) ?_
              refine lv_iload X.x X.b d_Expander_expandLine_208 (lv_at hl 0 rfl) ?_
              refine lv_aload_n X.x X.b d_Expander_expandLine_210 rfl (lv_at hl 2 rfl) ?_
              refine m_get (v := .int mlG21) X ok_Expander hE 5 (by decide) k_Expander_33 rfl d_Expander_expandLine_211 ?_
              refine lv_iload_n X.x X.b d_Expander_expandLine_214 rfl (lv_at hl 5 rfl) ?_
              refine m_callM X hS (M_Items_append l g hI (by omega) hL (by omega) (by omega) (d 3) (sofF NG21 (d 1)) mlG21 (nI (5 - k))) v_Expander_97 hI.1 rfl rfl rfl (Nat.le_of_ble_eq_true rfl) hl.1 d_Expander_expandLine_215 (by omega) (by decide) ⟨Nat.zero_le _, Nat.zero_le _⟩ (fun q z => by have z : w + 1 ≤ q ∧ q < w + 1 + 123 := z; exact ⟨by omega, by omega⟩) (fun H locs hI hfr hS => ?_)
              have hE := hE.fr hfr (fun z => by have z : w + 1 ≤ w + 124 ∧ w + 124 < w + 1 + 123 := z; omega)
              have hN := hN.frame hfr (fun q z => by have z : w + 1 ≤ q ∧ q < w + 1 + 123 := z; omega)
              have hs := hs.frame hfr (fun q z => by have z : w + 1 ≤ q ∧ q < w + 1 + 123 := z; omega)
              have hL := hL.fr hfr (fun z => by have z : w + 1 ≤ ln ∧ ln < w + 1 + 123 := z; omega)
              refine lv_iconst (v := 1) X.x X.b d_Expander_expandLine_218 (by decide) ?_
              have hM : xLin (xCall D cnt k) (nI (5 - k)) d arg (S, c, N, x, fn, ml) = (((telS SG21 cG21 (d 0) (d 1) (d 2) (d 3) (sofF NG21 (d 1)) mlG21 (nI (5 - k))), (cG21 + 1), NG21, xG21, fnG21, mlG21), 1) := by simp [xLin, xLin2, xInc, xApp, xF, xOver, itmF, c1, c2, c2q, c3, c16, c16q, k20, ← hG21, c22]
              exact m_zret X hS (Nat.zero_le _) (Nat.zero_le _) d_Expander_expandLine_219 rfl (by rw [hM]) (by rw [hM]; exact ⟨hE, hI, hN, hs, show (cG21 + 1) ≤ 120 by omega, hly, hlw, hhw⟩)
          by_cases k23 : d 0 = 2
          · skip
            refine lv_tableIn (off := 104) (tgt := 176) X.x X.b d_Expander_expandLine_72 (by rw [k23]; decide) (by rw [k23]; decide) (by rw [k23]; decide) (by decide) ?_
            refine lv_aload_n X.x X.b d_Expander_expandLine_176 rfl (lv_at hl 2 rfl) ?_
            refine m_get (v := .int (d 0)) X ok_Line hL 0 (by decide) k_Expander_52 rfl d_Expander_expandLine_177 ?_
            refine lv_iconst (v := 1) X.x X.b d_Expander_expandLine_180 (by decide) ?_
            refine lv_icmp_ne (tgt := 198) X.x X.b d_Expander_expandLine_181 (by decide) (fun c24 => ?_) (fun c24 => ?_)
            · skip
              refine lv_iconst (v := 0) X.x X.b d_Expander_expandLine_198 (by decide) ?_
              refine lv_istore (lv' := [(5, .int 0), (4, .int (d 3)), (0, .ref (w + 124)), (1, .ref ln), (2, .int arg), (3, .int (nI (5 - k)))]) X.x X.b d_Expander_expandLine_199 hl (by decide) rfl (fun ls hl => ?_)
              refine lv_aload_n X.x X.b d_Expander_expandLine_201 rfl (lv_at hl 2 rfl) ?_
              refine m_get (v := .ref (w + 1)) X ok_Expander hE 1 (by decide) k_Expander_15 rfl d_Expander_expandLine_202 ?_
              refine lv_aload_n X.x X.b d_Expander_expandLine_205 rfl (lv_at hl 3 rfl) ?_
              refine lv_iload X.x X.b d_Expander_expandLine_206 (lv_at hl 1 rfl) ?_
              refine lv_iload X.x X.b d_Expander_expandLine_208 (lv_at hl 0 rfl) ?_
              refine lv_aload_n X.x X.b d_Expander_expandLine_210 rfl (lv_at hl 2 rfl) ?_
              refine m_get (v := .int ml) X ok_Expander hE 5 (by decide) k_Expander_33 rfl d_Expander_expandLine_211 ?_
              refine lv_iload_n X.x X.b d_Expander_expandLine_214 rfl (lv_at hl 5 rfl) ?_
              refine m_callM X hS (M_Items_append l g hI (by omega) hL (by omega) (by omega) (d 3) 0 ml (nI (5 - k))) v_Expander_97 hI.1 rfl rfl rfl (Nat.le_of_ble_eq_true rfl) hl.1 d_Expander_expandLine_215 (by omega) (by decide) ⟨Nat.zero_le _, Nat.zero_le _⟩ (fun q z => by have z : w + 1 ≤ q ∧ q < w + 1 + 123 := z; exact ⟨by omega, by omega⟩) (fun H locs hI hfr hS => ?_)
              have hE := hE.fr hfr (fun z => by have z : w + 1 ≤ w + 124 ∧ w + 124 < w + 1 + 123 := z; omega)
              have hN := hN.frame hfr (fun q z => by have z : w + 1 ≤ q ∧ q < w + 1 + 123 := z; omega)
              have hs := hs.frame hfr (fun q z => by have z : w + 1 ≤ q ∧ q < w + 1 + 123 := z; omega)
              have hL := hL.fr hfr (fun z => by have z : w + 1 ≤ ln ∧ ln < w + 1 + 123 := z; omega)
              refine lv_iconst (v := 1) X.x X.b d_Expander_expandLine_218 (by decide) ?_
              have hM : xLin (xCall D cnt k) (nI (5 - k)) d arg (S, c, N, x, fn, ml) = (((telS S c (d 0) (d 1) (d 2) (d 3) 0 ml (nI (5 - k))), (c + 1), N, x + 1, fn, ml), 1) := by simp [xLin, xLin2, xInc, xApp, xF, xOver, itmF, c1, c2, c2q, c3, c16, c16q, k23, c24]
              exact m_zret X hS (Nat.zero_le _) (Nat.zero_le _) d_Expander_expandLine_219 rfl (by rw [hM]) (by rw [hM]; exact ⟨hE, hI, hN, hs, show (c + 1) ≤ 120 by omega, hly, hlw, hhw⟩)
            · exact absurd (k23.symm.trans c24) (by decide)
          by_cases k25 : d 0 = 3
          · skip
            refine lv_tableIn (off := 104) (tgt := 176) X.x X.b d_Expander_expandLine_72 (by rw [k25]; decide) (by rw [k25]; decide) (by rw [k25]; decide) (by decide) ?_
            refine lv_aload_n X.x X.b d_Expander_expandLine_176 rfl (lv_at hl 2 rfl) ?_
            refine m_get (v := .int (d 0)) X ok_Line hL 0 (by decide) k_Expander_52 rfl d_Expander_expandLine_177 ?_
            refine lv_iconst (v := 1) X.x X.b d_Expander_expandLine_180 (by decide) ?_
            refine lv_icmp_ne (tgt := 198) X.x X.b d_Expander_expandLine_181 (by decide) (fun c26 => ?_) (fun c26 => ?_)
            · skip
              refine lv_iconst (v := 0) X.x X.b d_Expander_expandLine_198 (by decide) ?_
              refine lv_istore (lv' := [(5, .int 0), (4, .int (d 3)), (0, .ref (w + 124)), (1, .ref ln), (2, .int arg), (3, .int (nI (5 - k)))]) X.x X.b d_Expander_expandLine_199 hl (by decide) rfl (fun ls hl => ?_)
              refine lv_aload_n X.x X.b d_Expander_expandLine_201 rfl (lv_at hl 2 rfl) ?_
              refine m_get (v := .ref (w + 1)) X ok_Expander hE 1 (by decide) k_Expander_15 rfl d_Expander_expandLine_202 ?_
              refine lv_aload_n X.x X.b d_Expander_expandLine_205 rfl (lv_at hl 3 rfl) ?_
              refine lv_iload X.x X.b d_Expander_expandLine_206 (lv_at hl 1 rfl) ?_
              refine lv_iload X.x X.b d_Expander_expandLine_208 (lv_at hl 0 rfl) ?_
              refine lv_aload_n X.x X.b d_Expander_expandLine_210 rfl (lv_at hl 2 rfl) ?_
              refine m_get (v := .int ml) X ok_Expander hE 5 (by decide) k_Expander_33 rfl d_Expander_expandLine_211 ?_
              refine lv_iload_n X.x X.b d_Expander_expandLine_214 rfl (lv_at hl 5 rfl) ?_
              refine m_callM X hS (M_Items_append l g hI (by omega) hL (by omega) (by omega) (d 3) 0 ml (nI (5 - k))) v_Expander_97 hI.1 rfl rfl rfl (Nat.le_of_ble_eq_true rfl) hl.1 d_Expander_expandLine_215 (by omega) (by decide) ⟨Nat.zero_le _, Nat.zero_le _⟩ (fun q z => by have z : w + 1 ≤ q ∧ q < w + 1 + 123 := z; exact ⟨by omega, by omega⟩) (fun H locs hI hfr hS => ?_)
              have hE := hE.fr hfr (fun z => by have z : w + 1 ≤ w + 124 ∧ w + 124 < w + 1 + 123 := z; omega)
              have hN := hN.frame hfr (fun q z => by have z : w + 1 ≤ q ∧ q < w + 1 + 123 := z; omega)
              have hs := hs.frame hfr (fun q z => by have z : w + 1 ≤ q ∧ q < w + 1 + 123 := z; omega)
              have hL := hL.fr hfr (fun z => by have z : w + 1 ≤ ln ∧ ln < w + 1 + 123 := z; omega)
              refine lv_iconst (v := 1) X.x X.b d_Expander_expandLine_218 (by decide) ?_
              have hM : xLin (xCall D cnt k) (nI (5 - k)) d arg (S, c, N, x, fn, ml) = (((telS S c (d 0) (d 1) (d 2) (d 3) 0 ml (nI (5 - k))), (c + 1), N, x + 1, fn, ml), 1) := by simp [xLin, xLin2, xInc, xApp, xF, xOver, itmF, c1, c2, c2q, c3, c16, c16q, k25, c26]
              exact m_zret X hS (Nat.zero_le _) (Nat.zero_le _) d_Expander_expandLine_219 rfl (by rw [hM]) (by rw [hM]; exact ⟨hE, hI, hN, hs, show (c + 1) ≤ 120 by omega, hly, hlw, hhw⟩)
            · exact absurd (k25.symm.trans c26) (by decide)
          by_cases k27 : d 0 = 4
          · skip
            refine lv_tableIn (off := 104) (tgt := 176) X.x X.b d_Expander_expandLine_72 (by rw [k27]; decide) (by rw [k27]; decide) (by rw [k27]; decide) (by decide) ?_
            refine lv_aload_n X.x X.b d_Expander_expandLine_176 rfl (lv_at hl 2 rfl) ?_
            refine m_get (v := .int (d 0)) X ok_Line hL 0 (by decide) k_Expander_52 rfl d_Expander_expandLine_177 ?_
            refine lv_iconst (v := 1) X.x X.b d_Expander_expandLine_180 (by decide) ?_
            refine lv_icmp_ne (tgt := 198) X.x X.b d_Expander_expandLine_181 (by decide) (fun c28 => ?_) (fun c28 => ?_)
            · skip
              refine lv_iconst (v := 0) X.x X.b d_Expander_expandLine_198 (by decide) ?_
              refine lv_istore (lv' := [(5, .int 0), (4, .int (d 3)), (0, .ref (w + 124)), (1, .ref ln), (2, .int arg), (3, .int (nI (5 - k)))]) X.x X.b d_Expander_expandLine_199 hl (by decide) rfl (fun ls hl => ?_)
              refine lv_aload_n X.x X.b d_Expander_expandLine_201 rfl (lv_at hl 2 rfl) ?_
              refine m_get (v := .ref (w + 1)) X ok_Expander hE 1 (by decide) k_Expander_15 rfl d_Expander_expandLine_202 ?_
              refine lv_aload_n X.x X.b d_Expander_expandLine_205 rfl (lv_at hl 3 rfl) ?_
              refine lv_iload X.x X.b d_Expander_expandLine_206 (lv_at hl 1 rfl) ?_
              refine lv_iload X.x X.b d_Expander_expandLine_208 (lv_at hl 0 rfl) ?_
              refine lv_aload_n X.x X.b d_Expander_expandLine_210 rfl (lv_at hl 2 rfl) ?_
              refine m_get (v := .int ml) X ok_Expander hE 5 (by decide) k_Expander_33 rfl d_Expander_expandLine_211 ?_
              refine lv_iload_n X.x X.b d_Expander_expandLine_214 rfl (lv_at hl 5 rfl) ?_
              refine m_callM X hS (M_Items_append l g hI (by omega) hL (by omega) (by omega) (d 3) 0 ml (nI (5 - k))) v_Expander_97 hI.1 rfl rfl rfl (Nat.le_of_ble_eq_true rfl) hl.1 d_Expander_expandLine_215 (by omega) (by decide) ⟨Nat.zero_le _, Nat.zero_le _⟩ (fun q z => by have z : w + 1 ≤ q ∧ q < w + 1 + 123 := z; exact ⟨by omega, by omega⟩) (fun H locs hI hfr hS => ?_)
              have hE := hE.fr hfr (fun z => by have z : w + 1 ≤ w + 124 ∧ w + 124 < w + 1 + 123 := z; omega)
              have hN := hN.frame hfr (fun q z => by have z : w + 1 ≤ q ∧ q < w + 1 + 123 := z; omega)
              have hs := hs.frame hfr (fun q z => by have z : w + 1 ≤ q ∧ q < w + 1 + 123 := z; omega)
              have hL := hL.fr hfr (fun z => by have z : w + 1 ≤ ln ∧ ln < w + 1 + 123 := z; omega)
              refine lv_iconst (v := 1) X.x X.b d_Expander_expandLine_218 (by decide) ?_
              have hM : xLin (xCall D cnt k) (nI (5 - k)) d arg (S, c, N, x, fn, ml) = (((telS S c (d 0) (d 1) (d 2) (d 3) 0 ml (nI (5 - k))), (c + 1), N, x + 1, fn, ml), 1) := by simp [xLin, xLin2, xInc, xApp, xF, xOver, itmF, c1, c2, c2q, c3, c16, c16q, k27, c28]
              exact m_zret X hS (Nat.zero_le _) (Nat.zero_le _) d_Expander_expandLine_219 rfl (by rw [hM]) (by rw [hM]; exact ⟨hE, hI, hN, hs, show (c + 1) ≤ 120 by omega, hly, hlw, hhw⟩)
            · exact absurd (k27.symm.trans c28) (by decide)
          by_cases k29 : d 0 = 5
          · skip
            refine lv_tableIn (off := 104) (tgt := 176) X.x X.b d_Expander_expandLine_72 (by rw [k29]; decide) (by rw [k29]; decide) (by rw [k29]; decide) (by decide) ?_
            refine lv_aload_n X.x X.b d_Expander_expandLine_176 rfl (lv_at hl 2 rfl) ?_
            refine m_get (v := .int (d 0)) X ok_Line hL 0 (by decide) k_Expander_52 rfl d_Expander_expandLine_177 ?_
            refine lv_iconst (v := 1) X.x X.b d_Expander_expandLine_180 (by decide) ?_
            refine lv_icmp_ne (tgt := 198) X.x X.b d_Expander_expandLine_181 (by decide) (fun c30 => ?_) (fun c30 => ?_)
            · skip
              refine lv_iconst (v := 0) X.x X.b d_Expander_expandLine_198 (by decide) ?_
              refine lv_istore (lv' := [(5, .int 0), (4, .int (d 3)), (0, .ref (w + 124)), (1, .ref ln), (2, .int arg), (3, .int (nI (5 - k)))]) X.x X.b d_Expander_expandLine_199 hl (by decide) rfl (fun ls hl => ?_)
              refine lv_aload_n X.x X.b d_Expander_expandLine_201 rfl (lv_at hl 2 rfl) ?_
              refine m_get (v := .ref (w + 1)) X ok_Expander hE 1 (by decide) k_Expander_15 rfl d_Expander_expandLine_202 ?_
              refine lv_aload_n X.x X.b d_Expander_expandLine_205 rfl (lv_at hl 3 rfl) ?_
              refine lv_iload X.x X.b d_Expander_expandLine_206 (lv_at hl 1 rfl) ?_
              refine lv_iload X.x X.b d_Expander_expandLine_208 (lv_at hl 0 rfl) ?_
              refine lv_aload_n X.x X.b d_Expander_expandLine_210 rfl (lv_at hl 2 rfl) ?_
              refine m_get (v := .int ml) X ok_Expander hE 5 (by decide) k_Expander_33 rfl d_Expander_expandLine_211 ?_
              refine lv_iload_n X.x X.b d_Expander_expandLine_214 rfl (lv_at hl 5 rfl) ?_
              refine m_callM X hS (M_Items_append l g hI (by omega) hL (by omega) (by omega) (d 3) 0 ml (nI (5 - k))) v_Expander_97 hI.1 rfl rfl rfl (Nat.le_of_ble_eq_true rfl) hl.1 d_Expander_expandLine_215 (by omega) (by decide) ⟨Nat.zero_le _, Nat.zero_le _⟩ (fun q z => by have z : w + 1 ≤ q ∧ q < w + 1 + 123 := z; exact ⟨by omega, by omega⟩) (fun H locs hI hfr hS => ?_)
              have hE := hE.fr hfr (fun z => by have z : w + 1 ≤ w + 124 ∧ w + 124 < w + 1 + 123 := z; omega)
              have hN := hN.frame hfr (fun q z => by have z : w + 1 ≤ q ∧ q < w + 1 + 123 := z; omega)
              have hs := hs.frame hfr (fun q z => by have z : w + 1 ≤ q ∧ q < w + 1 + 123 := z; omega)
              have hL := hL.fr hfr (fun z => by have z : w + 1 ≤ ln ∧ ln < w + 1 + 123 := z; omega)
              refine lv_iconst (v := 1) X.x X.b d_Expander_expandLine_218 (by decide) ?_
              have hM : xLin (xCall D cnt k) (nI (5 - k)) d arg (S, c, N, x, fn, ml) = (((telS S c (d 0) (d 1) (d 2) (d 3) 0 ml (nI (5 - k))), (c + 1), N, x + 1, fn, ml), 1) := by simp [xLin, xLin2, xInc, xApp, xF, xOver, itmF, c1, c2, c2q, c3, c16, c16q, k29, c30]
              exact m_zret X hS (Nat.zero_le _) (Nat.zero_le _) d_Expander_expandLine_219 rfl (by rw [hM]) (by rw [hM]; exact ⟨hE, hI, hN, hs, show (c + 1) ≤ 120 by omega, hly, hlw, hhw⟩)
            · exact absurd (k29.symm.trans c30) (by decide)
          by_cases k31 : d 0 = 6
          · skip
            refine lv_tableIn (off := 104) (tgt := 176) X.x X.b d_Expander_expandLine_72 (by rw [k31]; decide) (by rw [k31]; decide) (by rw [k31]; decide) (by decide) ?_
            refine lv_aload_n X.x X.b d_Expander_expandLine_176 rfl (lv_at hl 2 rfl) ?_
            refine m_get (v := .int (d 0)) X ok_Line hL 0 (by decide) k_Expander_52 rfl d_Expander_expandLine_177 ?_
            refine lv_iconst (v := 1) X.x X.b d_Expander_expandLine_180 (by decide) ?_
            refine lv_icmp_ne (tgt := 198) X.x X.b d_Expander_expandLine_181 (by decide) (fun c32 => ?_) (fun c32 => ?_)
            · skip
              refine lv_iconst (v := 0) X.x X.b d_Expander_expandLine_198 (by decide) ?_
              refine lv_istore (lv' := [(5, .int 0), (4, .int (d 3)), (0, .ref (w + 124)), (1, .ref ln), (2, .int arg), (3, .int (nI (5 - k)))]) X.x X.b d_Expander_expandLine_199 hl (by decide) rfl (fun ls hl => ?_)
              refine lv_aload_n X.x X.b d_Expander_expandLine_201 rfl (lv_at hl 2 rfl) ?_
              refine m_get (v := .ref (w + 1)) X ok_Expander hE 1 (by decide) k_Expander_15 rfl d_Expander_expandLine_202 ?_
              refine lv_aload_n X.x X.b d_Expander_expandLine_205 rfl (lv_at hl 3 rfl) ?_
              refine lv_iload X.x X.b d_Expander_expandLine_206 (lv_at hl 1 rfl) ?_
              refine lv_iload X.x X.b d_Expander_expandLine_208 (lv_at hl 0 rfl) ?_
              refine lv_aload_n X.x X.b d_Expander_expandLine_210 rfl (lv_at hl 2 rfl) ?_
              refine m_get (v := .int ml) X ok_Expander hE 5 (by decide) k_Expander_33 rfl d_Expander_expandLine_211 ?_
              refine lv_iload_n X.x X.b d_Expander_expandLine_214 rfl (lv_at hl 5 rfl) ?_
              refine m_callM X hS (M_Items_append l g hI (by omega) hL (by omega) (by omega) (d 3) 0 ml (nI (5 - k))) v_Expander_97 hI.1 rfl rfl rfl (Nat.le_of_ble_eq_true rfl) hl.1 d_Expander_expandLine_215 (by omega) (by decide) ⟨Nat.zero_le _, Nat.zero_le _⟩ (fun q z => by have z : w + 1 ≤ q ∧ q < w + 1 + 123 := z; exact ⟨by omega, by omega⟩) (fun H locs hI hfr hS => ?_)
              have hE := hE.fr hfr (fun z => by have z : w + 1 ≤ w + 124 ∧ w + 124 < w + 1 + 123 := z; omega)
              have hN := hN.frame hfr (fun q z => by have z : w + 1 ≤ q ∧ q < w + 1 + 123 := z; omega)
              have hs := hs.frame hfr (fun q z => by have z : w + 1 ≤ q ∧ q < w + 1 + 123 := z; omega)
              have hL := hL.fr hfr (fun z => by have z : w + 1 ≤ ln ∧ ln < w + 1 + 123 := z; omega)
              refine lv_iconst (v := 1) X.x X.b d_Expander_expandLine_218 (by decide) ?_
              have hM : xLin (xCall D cnt k) (nI (5 - k)) d arg (S, c, N, x, fn, ml) = (((telS S c (d 0) (d 1) (d 2) (d 3) 0 ml (nI (5 - k))), (c + 1), N, x + 1, fn, ml), 1) := by simp [xLin, xLin2, xInc, xApp, xF, xOver, itmF, c1, c2, c2q, c3, c16, c16q, k31, c32]
              exact m_zret X hS (Nat.zero_le _) (Nat.zero_le _) d_Expander_expandLine_219 rfl (by rw [hM]) (by rw [hM]; exact ⟨hE, hI, hN, hs, show (c + 1) ≤ 120 by omega, hly, hlw, hhw⟩)
            · exact absurd (k31.symm.trans c32) (by decide)
          by_cases k33 : d 0 = 7
          · skip
            refine lv_tableIn (off := 104) (tgt := 176) X.x X.b d_Expander_expandLine_72 (by rw [k33]; decide) (by rw [k33]; decide) (by rw [k33]; decide) (by decide) ?_
            refine lv_aload_n X.x X.b d_Expander_expandLine_176 rfl (lv_at hl 2 rfl) ?_
            refine m_get (v := .int (d 0)) X ok_Line hL 0 (by decide) k_Expander_52 rfl d_Expander_expandLine_177 ?_
            refine lv_iconst (v := 1) X.x X.b d_Expander_expandLine_180 (by decide) ?_
            refine lv_icmp_ne (tgt := 198) X.x X.b d_Expander_expandLine_181 (by decide) (fun c34 => ?_) (fun c34 => ?_)
            · skip
              refine lv_iconst (v := 0) X.x X.b d_Expander_expandLine_198 (by decide) ?_
              refine lv_istore (lv' := [(5, .int 0), (4, .int (d 3)), (0, .ref (w + 124)), (1, .ref ln), (2, .int arg), (3, .int (nI (5 - k)))]) X.x X.b d_Expander_expandLine_199 hl (by decide) rfl (fun ls hl => ?_)
              refine lv_aload_n X.x X.b d_Expander_expandLine_201 rfl (lv_at hl 2 rfl) ?_
              refine m_get (v := .ref (w + 1)) X ok_Expander hE 1 (by decide) k_Expander_15 rfl d_Expander_expandLine_202 ?_
              refine lv_aload_n X.x X.b d_Expander_expandLine_205 rfl (lv_at hl 3 rfl) ?_
              refine lv_iload X.x X.b d_Expander_expandLine_206 (lv_at hl 1 rfl) ?_
              refine lv_iload X.x X.b d_Expander_expandLine_208 (lv_at hl 0 rfl) ?_
              refine lv_aload_n X.x X.b d_Expander_expandLine_210 rfl (lv_at hl 2 rfl) ?_
              refine m_get (v := .int ml) X ok_Expander hE 5 (by decide) k_Expander_33 rfl d_Expander_expandLine_211 ?_
              refine lv_iload_n X.x X.b d_Expander_expandLine_214 rfl (lv_at hl 5 rfl) ?_
              refine m_callM X hS (M_Items_append l g hI (by omega) hL (by omega) (by omega) (d 3) 0 ml (nI (5 - k))) v_Expander_97 hI.1 rfl rfl rfl (Nat.le_of_ble_eq_true rfl) hl.1 d_Expander_expandLine_215 (by omega) (by decide) ⟨Nat.zero_le _, Nat.zero_le _⟩ (fun q z => by have z : w + 1 ≤ q ∧ q < w + 1 + 123 := z; exact ⟨by omega, by omega⟩) (fun H locs hI hfr hS => ?_)
              have hE := hE.fr hfr (fun z => by have z : w + 1 ≤ w + 124 ∧ w + 124 < w + 1 + 123 := z; omega)
              have hN := hN.frame hfr (fun q z => by have z : w + 1 ≤ q ∧ q < w + 1 + 123 := z; omega)
              have hs := hs.frame hfr (fun q z => by have z : w + 1 ≤ q ∧ q < w + 1 + 123 := z; omega)
              have hL := hL.fr hfr (fun z => by have z : w + 1 ≤ ln ∧ ln < w + 1 + 123 := z; omega)
              refine lv_iconst (v := 1) X.x X.b d_Expander_expandLine_218 (by decide) ?_
              have hM : xLin (xCall D cnt k) (nI (5 - k)) d arg (S, c, N, x, fn, ml) = (((telS S c (d 0) (d 1) (d 2) (d 3) 0 ml (nI (5 - k))), (c + 1), N, x + 1, fn, ml), 1) := by simp [xLin, xLin2, xInc, xApp, xF, xOver, itmF, c1, c2, c2q, c3, c16, c16q, k33, c34]
              exact m_zret X hS (Nat.zero_le _) (Nat.zero_le _) d_Expander_expandLine_219 rfl (by rw [hM]) (by rw [hM]; exact ⟨hE, hI, hN, hs, show (c + 1) ≤ 120 by omega, hly, hlw, hhw⟩)
            · exact absurd (k33.symm.trans c34) (by decide)
          by_cases k35 : d 0 = 8
          · exact absurd k35 c3.1
          by_cases k36 : d 0 = 9
          · exact absurd k36 c3.2.1
          by_cases k37 : d 0 = 10
          · exact absurd k37 c3.2.2
          refine lv_tableOut (tgt := 176) X.x X.b d_Expander_expandLine_72 (by have := ne_toInt (k := 0) 0 (by decide) k17; have := ne_toInt (k := 1) 1 (by decide) k20; have := ne_toInt (k := 2) 2 (by decide) k23; have := ne_toInt (k := 3) 3 (by decide) k25; have := ne_toInt (k := 4) 4 (by decide) k27; have := ne_toInt (k := 5) 5 (by decide) k29; have := ne_toInt (k := 6) 6 (by decide) k31; have := ne_toInt (k := 7) 7 (by decide) k33; have := ne_toInt (k := 8) 8 (by decide) k35; have := ne_toInt (k := 9) 9 (by decide) k36; have := ne_toInt (k := 10) 10 (by decide) k37; omega) (by decide) ?_
          refine lv_aload_n X.x X.b d_Expander_expandLine_176 rfl (lv_at hl 2 rfl) ?_
          refine m_get (v := .int (d 0)) X ok_Line hL 0 (by decide) k_Expander_52 rfl d_Expander_expandLine_177 ?_
          refine lv_iconst (v := 1) X.x X.b d_Expander_expandLine_180 (by decide) ?_
          refine lv_icmp_ne (tgt := 198) X.x X.b d_Expander_expandLine_181 (by decide) (fun c38 => ?_) (fun c38 => ?_)
          · skip
            refine lv_iconst (v := 0) X.x X.b d_Expander_expandLine_198 (by decide) ?_
            refine lv_istore (lv' := [(5, .int 0), (4, .int (d 3)), (0, .ref (w + 124)), (1, .ref ln), (2, .int arg), (3, .int (nI (5 - k)))]) X.x X.b d_Expander_expandLine_199 hl (by decide) rfl (fun ls hl => ?_)
            refine lv_aload_n X.x X.b d_Expander_expandLine_201 rfl (lv_at hl 2 rfl) ?_
            refine m_get (v := .ref (w + 1)) X ok_Expander hE 1 (by decide) k_Expander_15 rfl d_Expander_expandLine_202 ?_
            refine lv_aload_n X.x X.b d_Expander_expandLine_205 rfl (lv_at hl 3 rfl) ?_
            refine lv_iload X.x X.b d_Expander_expandLine_206 (lv_at hl 1 rfl) ?_
            refine lv_iload X.x X.b d_Expander_expandLine_208 (lv_at hl 0 rfl) ?_
            refine lv_aload_n X.x X.b d_Expander_expandLine_210 rfl (lv_at hl 2 rfl) ?_
            refine m_get (v := .int ml) X ok_Expander hE 5 (by decide) k_Expander_33 rfl d_Expander_expandLine_211 ?_
            refine lv_iload_n X.x X.b d_Expander_expandLine_214 rfl (lv_at hl 5 rfl) ?_
            refine m_callM X hS (M_Items_append l g hI (by omega) hL (by omega) (by omega) (d 3) 0 ml (nI (5 - k))) v_Expander_97 hI.1 rfl rfl rfl (Nat.le_of_ble_eq_true rfl) hl.1 d_Expander_expandLine_215 (by omega) (by decide) ⟨Nat.zero_le _, Nat.zero_le _⟩ (fun q z => by have z : w + 1 ≤ q ∧ q < w + 1 + 123 := z; exact ⟨by omega, by omega⟩) (fun H locs hI hfr hS => ?_)
            have hE := hE.fr hfr (fun z => by have z : w + 1 ≤ w + 124 ∧ w + 124 < w + 1 + 123 := z; omega)
            have hN := hN.frame hfr (fun q z => by have z : w + 1 ≤ q ∧ q < w + 1 + 123 := z; omega)
            have hs := hs.frame hfr (fun q z => by have z : w + 1 ≤ q ∧ q < w + 1 + 123 := z; omega)
            have hL := hL.fr hfr (fun z => by have z : w + 1 ≤ ln ∧ ln < w + 1 + 123 := z; omega)
            refine lv_iconst (v := 1) X.x X.b d_Expander_expandLine_218 (by decide) ?_
            have hM : xLin (xCall D cnt k) (nI (5 - k)) d arg (S, c, N, x, fn, ml) = (((telS S c (d 0) (d 1) (d 2) (d 3) 0 ml (nI (5 - k))), (c + 1), N, x + 1, fn, ml), 1) := by simp [xLin, xLin2, xInc, xApp, xF, xOver, itmF, c1, c2, c2q, c3, c16, c16q, k17, k20, k23, k25, k27, k29, k31, k33, k35, k36, k37, c38]
            exact m_zret X hS (Nat.zero_le _) (Nat.zero_le _) d_Expander_expandLine_219 rfl (by rw [hM]) (by rw [hM]; exact ⟨hE, hI, hN, hs, show (c + 1) ≤ 120 by omega, hly, hlw, hhw⟩)
          · exact absurd c38 k20
        · skip
          have c16q := Int32.not_lt.mp c16
          have c16 : 120 ≤ c := Nat.le_of_not_lt (fun z => c16 ((nI_ltI (b := 120) (by omega) (by omega)).mpr z))
          have c16q := c16
          refine lv_aload_n X.x X.b d_Expander_expandLine_61 rfl (lv_at hl 1 rfl) ?_
          refine lv_iconst (v := 2) X.x X.b d_Expander_expandLine_62 (by decide) ?_
          refine m_put X ok_Expander hS (Or.inl ⟨by omega, by omega⟩) hE 4 (by decide) k_Expander_30 rfl (ok_Expander.2.2.1 _ (by decide)) rfl rfl (Nat.le_of_ble_eq_true rfl) d_Expander_expandLine_63 (fun H locs hp hcg hS => ?_)
          have hE : exAt g w so (x + 1) 2 ml H := hp
          have hfr := fr.of_chg (A := fun q => q = w + 124) hcg rfl
          have hI := hI.frame hfr (fun q z => by have z : q = w + 124 := z; omega)
          have hN := hN.frame hfr (fun q z => by have z : q = w + 124 := z; omega)
          have hs := hs.frame hfr (fun q z => by have z : q = w + 124 := z; omega)
          have hL := hL.fr hfr (fun z => by have z : ln = w + 124 := z; omega)
          refine lv_iconst (v := 1) X.x X.b d_Expander_expandLine_66 (by decide) ?_
          have hM : xLin (xCall D cnt k) (nI (5 - k)) d arg (S, c, N, x, fn, ml) = ((S, c, N, x + 1, 2, ml), 1) := by simp [xLin, xLin2, xInc, xApp, xF, xOver, itmF, c1, c2, c2q, c3, c16, c16q]
          exact m_zret X hS (Nat.zero_le _) (Nat.zero_le _) d_Expander_expandLine_67 rfl (by rw [hM]) (by rw [hM]; exact ⟨hE, hI, hN, hs, show c ≤ 120 by omega, hly, hlw, hhw⟩)
  · skip
    refine lv_aload_n X.x X.b d_Expander_expandLine_7 rfl (lv_at hl 1 rfl) ?_
    refine m_get (v := .int (d 3)) X ok_Line hL 3 (by decide) k_Expander_65 rfl d_Expander_expandLine_8 ?_
    refine lv_iload_n X.x X.b d_Expander_expandLine_11 rfl (lv_at hl 2 rfl) ?_
    refine lv_iadd X.x X.b d_Expander_expandLine_12 ?_
    refine lv_goto (tgt := 20) X.x X.b d_Expander_expandLine_13 (by decide) ?_
    refine lv_istore (lv' := [(4, .int ((d 3) + arg)), (0, .ref (w + 124)), (1, .ref ln), (2, .int arg), (3, .int (nI (5 - k)))]) X.x X.b d_Expander_expandLine_20 hl (by decide) rfl (fun ls hl => ?_)
    refine lv_aload_n X.x X.b d_Expander_expandLine_22 rfl (lv_at hl 1 rfl) ?_
    refine lv_dup X.x X.b d_Expander_expandLine_23 rfl ?_
    refine m_get (v := .int x) X ok_Expander hE 3 (by decide) k_Expander_26 rfl d_Expander_expandLine_24 ?_
    refine lv_iconst (v := 1) X.x X.b d_Expander_expandLine_27 (by decide) ?_
    refine lv_iadd X.x X.b d_Expander_expandLine_28 ?_
    refine m_put X ok_Expander hS (Or.inl ⟨by omega, by omega⟩) hE 3 (by decide) k_Expander_26 rfl (ok_Expander.2.2.1 _ (by decide)) rfl rfl (Nat.le_of_ble_eq_true rfl) d_Expander_expandLine_29 (fun H locs hp hcg hS => ?_)
    have hE : exAt g w so (x + 1) fn ml H := hp
    have hfr := fr.of_chg (A := fun q => q = w + 124) hcg rfl
    have hI := hI.frame hfr (fun q z => by have z : q = w + 124 := z; omega)
    have hN := hN.frame hfr (fun q z => by have z : q = w + 124 := z; omega)
    have hs := hs.frame hfr (fun q z => by have z : q = w + 124 := z; omega)
    have hL := hL.fr hfr (fun z => by have z : ln = w + 124 := z; omega)
    refine lv_aload_n X.x X.b d_Expander_expandLine_32 rfl (lv_at hl 1 rfl) ?_
    refine m_get (v := .int (x + 1)) X ok_Expander hE 3 (by decide) k_Expander_26 rfl d_Expander_expandLine_33 ?_
    refine lv_sipush (v := 400) X.x X.b d_Expander_expandLine_36 (by decide) ?_
    refine lv_icmp_gt (tgt := 61) X.x X.b d_Expander_expandLine_39 (by decide) (fun c39 => ?_) (fun c39 => ?_)
    · skip
      have c39q := Int32.not_le.mpr c39
      refine lv_aload_n X.x X.b d_Expander_expandLine_61 rfl (lv_at hl 1 rfl) ?_
      refine lv_iconst (v := 2) X.x X.b d_Expander_expandLine_62 (by decide) ?_
      refine m_put X ok_Expander hS (Or.inl ⟨by omega, by omega⟩) hE 4 (by decide) k_Expander_30 rfl (ok_Expander.2.2.1 _ (by decide)) rfl rfl (Nat.le_of_ble_eq_true rfl) d_Expander_expandLine_63 (fun H locs hp hcg hS => ?_)
      have hE : exAt g w so (x + 1) 2 ml H := hp
      have hfr := fr.of_chg (A := fun q => q = w + 124) hcg rfl
      have hI := hI.frame hfr (fun q z => by have z : q = w + 124 := z; omega)
      have hN := hN.frame hfr (fun q z => by have z : q = w + 124 := z; omega)
      have hs := hs.frame hfr (fun q z => by have z : q = w + 124 := z; omega)
      have hL := hL.fr hfr (fun z => by have z : ln = w + 124 := z; omega)
      refine lv_iconst (v := 1) X.x X.b d_Expander_expandLine_66 (by decide) ?_
      have hM : xLin (xCall D cnt k) (nI (5 - k)) d arg (S, c, N, x, fn, ml) = ((S, c, N, x + 1, 2, ml), 1) := by simp [xLin, xLin2, xInc, xApp, xF, xOver, itmF, c1, c39, c39q]
      exact m_zret X hS (Nat.zero_le _) (Nat.zero_le _) d_Expander_expandLine_67 rfl (by rw [hM]) (by rw [hM]; exact ⟨hE, hI, hN, hs, show c ≤ 120 by omega, hly, hlw, hhw⟩)
    · skip
      have c39q := Int32.not_lt.mp c39
      refine lv_aload_n X.x X.b d_Expander_expandLine_42 rfl (lv_at hl 2 rfl) ?_
      refine m_callP X hS (M_Line_isItem l g hL) v_Expander_68 hL rfl rfl rfl (Nat.le_of_ble_eq_true rfl) hl.1 d_Expander_expandLine_43 (by omega) (by decide) ⟨Nat.zero_le _, Nat.zero_le _⟩ (fun locs hS => ?_)
      refine lv_if_eq (tgt := 68) X.x X.b d_Expander_expandLine_46 (by decide) (fun c40 => ?_) (fun c40 => ?_)
      · skip
        have c40 := b2i_0.mp c40
        refine lv_aload_n X.x X.b d_Expander_expandLine_68 rfl (lv_at hl 2 rfl) ?_
        refine m_get (v := .int (d 0)) X ok_Line hL 0 (by decide) k_Expander_52 rfl d_Expander_expandLine_69 ?_
        by_cases k41 : d 0 = 0
        · exact absurd (show itmF (d 0) from ⟨by rw [k41]; decide, by rw [k41]; decide, by rw [k41]; decide⟩) c40
        by_cases k42 : d 0 = 1
        · exact absurd (show itmF (d 0) from ⟨by rw [k42]; decide, by rw [k42]; decide, by rw [k42]; decide⟩) c40
        by_cases k43 : d 0 = 2
        · exact absurd (show itmF (d 0) from ⟨by rw [k43]; decide, by rw [k43]; decide, by rw [k43]; decide⟩) c40
        by_cases k44 : d 0 = 3
        · exact absurd (show itmF (d 0) from ⟨by rw [k44]; decide, by rw [k44]; decide, by rw [k44]; decide⟩) c40
        by_cases k45 : d 0 = 4
        · exact absurd (show itmF (d 0) from ⟨by rw [k45]; decide, by rw [k45]; decide, by rw [k45]; decide⟩) c40
        by_cases k46 : d 0 = 5
        · exact absurd (show itmF (d 0) from ⟨by rw [k46]; decide, by rw [k46]; decide, by rw [k46]; decide⟩) c40
        by_cases k47 : d 0 = 6
        · exact absurd (show itmF (d 0) from ⟨by rw [k47]; decide, by rw [k47]; decide, by rw [k47]; decide⟩) c40
        by_cases k48 : d 0 = 7
        · exact absurd (show itmF (d 0) from ⟨by rw [k48]; decide, by rw [k48]; decide, by rw [k48]; decide⟩) c40
        by_cases k49 : d 0 = 8
        · skip
          refine lv_tableIn (off := 73) (tgt := 145) X.x X.b d_Expander_expandLine_72 (by rw [k49]; decide) (by rw [k49]; decide) (by rw [k49]; decide) (by decide) ?_
          refine lv_aload_n X.x X.b d_Expander_expandLine_145 rfl (lv_at hl 1 rfl) ?_
          refine lv_aload_n X.x X.b d_Expander_expandLine_146 rfl (lv_at hl 2 rfl) ?_
          refine lv_iload X.x X.b d_Expander_expandLine_147 (lv_at hl 0 rfl) ?_
          have hR := M_Expander_goesOn l g (xs := (S, c, N, x + 1, fn, ml)) ⟨hE, hI, hN, hs, by omega, hly, hlw, hhw⟩ hL hlo ((d 3) + arg)
          obtain ⟨⟨SG50, cG50, NG50, xG50, fnG50, mlG50⟩, hG50⟩ : ∃ z, z = xGoS (S, c, N, x + 1, fn, ml) (d 1) (d 2) := ⟨_, rfl⟩
          rw [← hG50] at hR
          refine m_callM X hS hR v_Expander_82 hE rfl rfl rfl (Nat.le_of_ble_eq_true rfl) hl.1 d_Expander_expandLine_149 (by omega) (by decide) ⟨Nat.zero_le _, Nat.zero_le _⟩ (fun q z => z) (fun H locs hx hfr hS => ?_)
          obtain ⟨hE, hI, hN, hs, hcc, -, -, -⟩ := hx
          have hE : exAt g w so xG50 fnG50 mlG50 H := hE
          have hI : iAt g (w + 1) cG50 SG50 H := hI
          have hN : nAt g (w + 125) NG50 H := hN
          have hcc : cG50 ≤ 120 := hcc
          have hL := hL.fr hfr (fun z => by have z : w + 1 ≤ ln ∧ ln < w + 129 := z; omega)
          have hM : xLin (xCall D cnt k) (nI (5 - k)) d arg (S, c, N, x, fn, ml) = ((SG50, cG50, NG50, xG50, fnG50, mlG50), xGoR (S, c, N, x + 1, fn, ml) (d 1) (d 2) ((d 3) + arg)) := by simp [xLin, xLin2, xInc, xApp, xF, xOver, itmF, c1, c39, c39q, c40, k49, ← hG50]
          exact m_zret X hS (Nat.zero_le _) (Nat.zero_le _) d_Expander_expandLine_152 (xGoR_nar _ _ _ _) (by rw [hM]) (by rw [hM]; exact ⟨hE, hI, hN, hs, show cG50 ≤ 120 by omega, hly, hlw, hhw⟩)
        by_cases k51 : d 0 = 9
        · skip
          refine lv_tableIn (off := 81) (tgt := 153) X.x X.b d_Expander_expandLine_72 (by rw [k51]; decide) (by rw [k51]; decide) (by rw [k51]; decide) (by decide) ?_
          refine lv_iconst (v := 1) X.x X.b d_Expander_expandLine_153 (by decide) ?_
          have hM : xLin (xCall D cnt k) (nI (5 - k)) d arg (S, c, N, x, fn, ml) = ((S, c, N, x + 1, fn, ml), 1) := by simp [xLin, xLin2, xInc, xApp, xF, xOver, itmF, c1, c39, c39q, c40, k51]
          exact m_zret X hS (Nat.zero_le _) (Nat.zero_le _) d_Expander_expandLine_154 rfl (by rw [hM]) (by rw [hM]; exact ⟨hE, hI, hN, hs, show c ≤ 120 by omega, hly, hlw, hhw⟩)
        by_cases k52 : d 0 = 10
        · skip
          refine lv_tableIn (off := 60) (tgt := 132) X.x X.b d_Expander_expandLine_72 (by rw [k52]; decide) (by rw [k52]; decide) (by rw [k52]; decide) (by decide) ?_
          refine lv_aload_n X.x X.b d_Expander_expandLine_132 rfl (lv_at hl 1 rfl) ?_
          refine lv_aload_n X.x X.b d_Expander_expandLine_133 rfl (lv_at hl 2 rfl) ?_
          refine m_get (v := .int (d 1)) X ok_Line hL 1 (by decide) k_Expander_75 rfl d_Expander_expandLine_134 ?_
          refine lv_iload X.x X.b d_Expander_expandLine_137 (lv_at hl 0 rfl) ?_
          refine lv_iload_n X.x X.b d_Expander_expandLine_139 rfl (lv_at hl 4 rfl) ?_
          have hR := hcall (S, c, N, x + 1, fn, ml) _ (d 1) ((d 3) + arg) ⟨hE, hI, hN, hs, by omega, hly, hlw, hhw⟩
          refine m_callM X hS hR v_Expander_78 hE rfl rfl rfl (Nat.le_of_ble_eq_true rfl) hl.1 d_Expander_expandLine_140 (by omega) (by decide) ⟨Nat.zero_le _, Nat.zero_le _⟩ (fun q z => z) (fun H locs hx hfr hS => ?_)
          refine lv_iconst (v := 1) X.x X.b d_Expander_expandLine_143 (by decide) ?_
          exact m_zret X hS (Nat.zero_le _) (Nat.zero_le _) d_Expander_expandLine_144 rfl (congrArg (fun z => some (Value.int z)) (by simp [xLin, xLin2, xInc, xOver, itmF, c1, c39, c39q, c40, k52])) (by have hM : (xLin (xCall D cnt k) (nI (5 - k)) d arg (S, c, N, x, fn, ml)).1 = xCall D cnt k (d 1) ((d 3) + arg) (S, c, N, x + 1, fn, ml) := (by simp [xLin, xLin2, xInc, xOver, itmF, c1, c39, c39q, c40, k52]); rw [hM]; exact hx)
        exact absurd (show itmF (d 0) from ⟨k49, k51, k52⟩) c40
      · skip
        have c40 := b2i_n0 c40
        refine lv_aload_n X.x X.b d_Expander_expandLine_49 rfl (lv_at hl 1 rfl) ?_
        refine m_get (v := .ref (w + 1)) X ok_Expander hE 1 (by decide) k_Expander_15 rfl d_Expander_expandLine_50 ?_
        refine m_get (v := .int (nI c)) X ok_Items hI.1 1 (by decide) k_Expander_72 rfl d_Expander_expandLine_53 ?_
        refine lv_bipush (v := 120) X.x X.b d_Expander_expandLine_56 (by decide) ?_
        refine lv_icmp_lt (tgt := 68) X.x X.b d_Expander_expandLine_58 (by decide) (fun c53 => ?_) (fun c53 => ?_)
        · skip
          have c53q := Int32.not_le.mpr c53
          have c53 : c < 120 := (nI_ltI (b := 120) (by omega) (by omega)).mp c53
          have c53q : ¬ 120 ≤ c := by omega
          refine lv_aload_n X.x X.b d_Expander_expandLine_68 rfl (lv_at hl 2 rfl) ?_
          refine m_get (v := .int (d 0)) X ok_Line hL 0 (by decide) k_Expander_52 rfl d_Expander_expandLine_69 ?_
          by_cases k54 : d 0 = 0
          · skip
            refine lv_tableIn (off := 83) (tgt := 155) X.x X.b d_Expander_expandLine_72 (by rw [k54]; decide) (by rw [k54]; decide) (by rw [k54]; decide) (by decide) ?_
            refine lv_aload_n X.x X.b d_Expander_expandLine_155 rfl (lv_at hl 1 rfl) ?_
            refine lv_aload_n X.x X.b d_Expander_expandLine_156 rfl (lv_at hl 2 rfl) ?_
            refine m_get (v := .int (d 1)) X ok_Line hL 1 (by decide) k_Expander_75 rfl d_Expander_expandLine_157 ?_
            have hR := M_Expander_expandLabel l g (xs := (S, c, N, x + 1, fn, ml)) ⟨hE, hI, hN, hs, by omega, hly, hlw, hhw⟩ (d 1)
            obtain ⟨⟨SG55, cG55, NG55, xG55, fnG55, mlG55⟩, hG55⟩ : ∃ z, z = xLab (S, c, N, x + 1, fn, ml) (d 1) := ⟨_, rfl⟩
            rw [← hG55] at hR
            refine m_callM X hS hR v_Expander_86 hE rfl rfl rfl (Nat.le_of_ble_eq_true rfl) hl.1 d_Expander_expandLine_160 (by omega) (by decide) ⟨Nat.zero_le _, Nat.zero_le _⟩ (fun q z => z) (fun H locs hx hfr hS => ?_)
            obtain ⟨hE, hI, hN, hs, hcc, -, -, -⟩ := hx
            have hE : exAt g w so xG55 fnG55 mlG55 H := hE
            have hI : iAt g (w + 1) cG55 SG55 H := hI
            have hN : nAt g (w + 125) NG55 H := hN
            have hcc : cG55 ≤ 120 := hcc
            have hL := hL.fr hfr (fun z => by have z : w + 1 ≤ ln ∧ ln < w + 129 := z; omega)
            have hcG55 : cG55 = c := (congrArg (fun z : XS => z.2.1) hG55).trans (xLab_c _ _)
            refine lv_goto (tgt := 176) X.x X.b d_Expander_expandLine_163 (by decide) ?_
            refine lv_aload_n X.x X.b d_Expander_expandLine_176 rfl (lv_at hl 2 rfl) ?_
            refine m_get (v := .int (d 0)) X ok_Line hL 0 (by decide) k_Expander_52 rfl d_Expander_expandLine_177 ?_
            refine lv_iconst (v := 1) X.x X.b d_Expander_expandLine_180 (by decide) ?_
            refine lv_icmp_ne (tgt := 198) X.x X.b d_Expander_expandLine_181 (by decide) (fun c56 => ?_) (fun c56 => ?_)
            · skip
              refine lv_iconst (v := 0) X.x X.b d_Expander_expandLine_198 (by decide) ?_
              refine lv_istore (lv' := [(5, .int 0), (4, .int ((d 3) + arg)), (0, .ref (w + 124)), (1, .ref ln), (2, .int arg), (3, .int (nI (5 - k)))]) X.x X.b d_Expander_expandLine_199 hl (by decide) rfl (fun ls hl => ?_)
              refine lv_aload_n X.x X.b d_Expander_expandLine_201 rfl (lv_at hl 2 rfl) ?_
              refine m_get (v := .ref (w + 1)) X ok_Expander hE 1 (by decide) k_Expander_15 rfl d_Expander_expandLine_202 ?_
              refine lv_aload_n X.x X.b d_Expander_expandLine_205 rfl (lv_at hl 3 rfl) ?_
              refine lv_iload X.x X.b d_Expander_expandLine_206 (lv_at hl 1 rfl) ?_
              refine lv_iload X.x X.b d_Expander_expandLine_208 (lv_at hl 0 rfl) ?_
              refine lv_aload_n X.x X.b d_Expander_expandLine_210 rfl (lv_at hl 2 rfl) ?_
              refine m_get (v := .int mlG55) X ok_Expander hE 5 (by decide) k_Expander_33 rfl d_Expander_expandLine_211 ?_
              refine lv_iload_n X.x X.b d_Expander_expandLine_214 rfl (lv_at hl 5 rfl) ?_
              refine m_callM X hS (M_Items_append l g hI (by omega) hL (by omega) (by omega) ((d 3) + arg) 0 mlG55 (nI (5 - k))) v_Expander_97 hI.1 rfl rfl rfl (Nat.le_of_ble_eq_true rfl) hl.1 d_Expander_expandLine_215 (by omega) (by decide) ⟨Nat.zero_le _, Nat.zero_le _⟩ (fun q z => by have z : w + 1 ≤ q ∧ q < w + 1 + 123 := z; exact ⟨by omega, by omega⟩) (fun H locs hI hfr hS => ?_)
              have hE := hE.fr hfr (fun z => by have z : w + 1 ≤ w + 124 ∧ w + 124 < w + 1 + 123 := z; omega)
              have hN := hN.frame hfr (fun q z => by have z : w + 1 ≤ q ∧ q < w + 1 + 123 := z; omega)
              have hs := hs.frame hfr (fun q z => by have z : w + 1 ≤ q ∧ q < w + 1 + 123 := z; omega)
              have hL := hL.fr hfr (fun z => by have z : w + 1 ≤ ln ∧ ln < w + 1 + 123 := z; omega)
              refine lv_iconst (v := 1) X.x X.b d_Expander_expandLine_218 (by decide) ?_
              have hM : xLin (xCall D cnt k) (nI (5 - k)) d arg (S, c, N, x, fn, ml) = (((telS SG55 cG55 (d 0) (d 1) (d 2) ((d 3) + arg) 0 mlG55 (nI (5 - k))), (cG55 + 1), NG55, xG55, fnG55, mlG55), 1) := by simp [xLin, xLin2, xInc, xApp, xF, xOver, itmF, c1, c39, c39q, c40, c53, c53q, k54, ← hG55, c56]
              exact m_zret X hS (Nat.zero_le _) (Nat.zero_le _) d_Expander_expandLine_219 rfl (by rw [hM]) (by rw [hM]; exact ⟨hE, hI, hN, hs, show (cG55 + 1) ≤ 120 by omega, hly, hlw, hhw⟩)
            · exact absurd (k54.symm.trans c56) (by decide)
          by_cases k57 : d 0 = 1
          · skip
            refine lv_tableIn (off := 94) (tgt := 166) X.x X.b d_Expander_expandLine_72 (by rw [k57]; decide) (by rw [k57]; decide) (by rw [k57]; decide) (by decide) ?_
            refine lv_aload_n X.x X.b d_Expander_expandLine_166 rfl (lv_at hl 1 rfl) ?_
            refine lv_aload_n X.x X.b d_Expander_expandLine_167 rfl (lv_at hl 2 rfl) ?_
            refine lv_iload X.x X.b d_Expander_expandLine_168 (lv_at hl 0 rfl) ?_
            have hR := M_Expander_expandSet l g (xs := (S, c, N, x + 1, fn, ml)) ⟨hE, hI, hN, hs, by omega, hly, hlw, hhw⟩ hL hlo ((d 3) + arg)
            obtain ⟨⟨SG58, cG58, NG58, xG58, fnG58, mlG58⟩, hG58⟩ : ∃ z, z = xSet (S, c, N, x + 1, fn, ml) (d 1) (d 2) ((d 3) + arg) := ⟨_, rfl⟩
            rw [← hG58] at hR
            refine m_callM X hS hR v_Expander_90 hE rfl rfl rfl (Nat.le_of_ble_eq_true rfl) hl.1 d_Expander_expandLine_170 (by omega) (by decide) ⟨Nat.zero_le _, Nat.zero_le _⟩ (fun q z => z) (fun H locs hx hfr hS => ?_)
            obtain ⟨hE, hI, hN, hs, hcc, -, -, -⟩ := hx
            have hE : exAt g w so xG58 fnG58 mlG58 H := hE
            have hI : iAt g (w + 1) cG58 SG58 H := hI
            have hN : nAt g (w + 125) NG58 H := hN
            have hcc : cG58 ≤ 120 := hcc
            have hL := hL.fr hfr (fun z => by have z : w + 1 ≤ ln ∧ ln < w + 129 := z; omega)
            have hcG58 : cG58 = c := (congrArg (fun z : XS => z.2.1) hG58).trans (xSet_c _ _ _ _)
            refine lv_goto (tgt := 176) X.x X.b d_Expander_expandLine_173 (by decide) ?_
            refine lv_aload_n X.x X.b d_Expander_expandLine_176 rfl (lv_at hl 2 rfl) ?_
            refine m_get (v := .int (d 0)) X ok_Line hL 0 (by decide) k_Expander_52 rfl d_Expander_expandLine_177 ?_
            refine lv_iconst (v := 1) X.x X.b d_Expander_expandLine_180 (by decide) ?_
            refine lv_icmp_ne (tgt := 198) X.x X.b d_Expander_expandLine_181 (by decide) (fun c59 => ?_) (fun c59 => ?_)
            · exact absurd k57 c59
            · skip
              refine lv_aload_n X.x X.b d_Expander_expandLine_184 rfl (lv_at hl 1 rfl) ?_
              refine m_get (v := .ref (w + 125)) X ok_Expander hE 2 (by decide) k_Expander_22 rfl d_Expander_expandLine_185 ?_
              refine lv_aload_n X.x X.b d_Expander_expandLine_188 rfl (lv_at hl 2 rfl) ?_
              refine m_get (v := .int (d 1)) X ok_Line hL 1 (by decide) k_Expander_75 rfl d_Expander_expandLine_189 ?_
              refine m_callP X hS (M_Names_soFar l g hN (d 1)) v_Expander_94 hN.1 rfl rfl rfl (Nat.le_of_ble_eq_true rfl) hl.1 d_Expander_expandLine_192 (by omega) (by decide) ⟨Nat.zero_le _, Nat.zero_le _⟩ (fun locs hS => ?_)
              refine lv_goto (tgt := 199) X.x X.b d_Expander_expandLine_195 (by decide) ?_
              refine lv_istore (lv' := [(5, .int (sofF NG58 (d 1))), (4, .int ((d 3) + arg)), (0, .ref (w + 124)), (1, .ref ln), (2, .int arg), (3, .int (nI (5 - k)))]) X.x X.b d_Expander_expandLine_199 hl (by decide) rfl (fun ls hl => ?_)
              refine lv_aload_n X.x X.b d_Expander_expandLine_201 rfl (lv_at hl 2 rfl) ?_
              refine m_get (v := .ref (w + 1)) X ok_Expander hE 1 (by decide) k_Expander_15 rfl d_Expander_expandLine_202 ?_
              refine lv_aload_n X.x X.b d_Expander_expandLine_205 rfl (lv_at hl 3 rfl) ?_
              refine lv_iload X.x X.b d_Expander_expandLine_206 (lv_at hl 1 rfl) ?_
              refine lv_iload X.x X.b d_Expander_expandLine_208 (lv_at hl 0 rfl) ?_
              refine lv_aload_n X.x X.b d_Expander_expandLine_210 rfl (lv_at hl 2 rfl) ?_
              refine m_get (v := .int mlG58) X ok_Expander hE 5 (by decide) k_Expander_33 rfl d_Expander_expandLine_211 ?_
              refine lv_iload_n X.x X.b d_Expander_expandLine_214 rfl (lv_at hl 5 rfl) ?_
              refine m_callM X hS (M_Items_append l g hI (by omega) hL (by omega) (by omega) ((d 3) + arg) (sofF NG58 (d 1)) mlG58 (nI (5 - k))) v_Expander_97 hI.1 rfl rfl rfl (Nat.le_of_ble_eq_true rfl) hl.1 d_Expander_expandLine_215 (by omega) (by decide) ⟨Nat.zero_le _, Nat.zero_le _⟩ (fun q z => by have z : w + 1 ≤ q ∧ q < w + 1 + 123 := z; exact ⟨by omega, by omega⟩) (fun H locs hI hfr hS => ?_)
              have hE := hE.fr hfr (fun z => by have z : w + 1 ≤ w + 124 ∧ w + 124 < w + 1 + 123 := z; omega)
              have hN := hN.frame hfr (fun q z => by have z : w + 1 ≤ q ∧ q < w + 1 + 123 := z; omega)
              have hs := hs.frame hfr (fun q z => by have z : w + 1 ≤ q ∧ q < w + 1 + 123 := z; omega)
              have hL := hL.fr hfr (fun z => by have z : w + 1 ≤ ln ∧ ln < w + 1 + 123 := z; omega)
              refine lv_iconst (v := 1) X.x X.b d_Expander_expandLine_218 (by decide) ?_
              have hM : xLin (xCall D cnt k) (nI (5 - k)) d arg (S, c, N, x, fn, ml) = (((telS SG58 cG58 (d 0) (d 1) (d 2) ((d 3) + arg) (sofF NG58 (d 1)) mlG58 (nI (5 - k))), (cG58 + 1), NG58, xG58, fnG58, mlG58), 1) := by simp [xLin, xLin2, xInc, xApp, xF, xOver, itmF, c1, c39, c39q, c40, c53, c53q, k57, ← hG58, c59]
              exact m_zret X hS (Nat.zero_le _) (Nat.zero_le _) d_Expander_expandLine_219 rfl (by rw [hM]) (by rw [hM]; exact ⟨hE, hI, hN, hs, show (cG58 + 1) ≤ 120 by omega, hly, hlw, hhw⟩)
          by_cases k60 : d 0 = 2
          · skip
            refine lv_tableIn (off := 104) (tgt := 176) X.x X.b d_Expander_expandLine_72 (by rw [k60]; decide) (by rw [k60]; decide) (by rw [k60]; decide) (by decide) ?_
            refine lv_aload_n X.x X.b d_Expander_expandLine_176 rfl (lv_at hl 2 rfl) ?_
            refine m_get (v := .int (d 0)) X ok_Line hL 0 (by decide) k_Expander_52 rfl d_Expander_expandLine_177 ?_
            refine lv_iconst (v := 1) X.x X.b d_Expander_expandLine_180 (by decide) ?_
            refine lv_icmp_ne (tgt := 198) X.x X.b d_Expander_expandLine_181 (by decide) (fun c61 => ?_) (fun c61 => ?_)
            · skip
              refine lv_iconst (v := 0) X.x X.b d_Expander_expandLine_198 (by decide) ?_
              refine lv_istore (lv' := [(5, .int 0), (4, .int ((d 3) + arg)), (0, .ref (w + 124)), (1, .ref ln), (2, .int arg), (3, .int (nI (5 - k)))]) X.x X.b d_Expander_expandLine_199 hl (by decide) rfl (fun ls hl => ?_)
              refine lv_aload_n X.x X.b d_Expander_expandLine_201 rfl (lv_at hl 2 rfl) ?_
              refine m_get (v := .ref (w + 1)) X ok_Expander hE 1 (by decide) k_Expander_15 rfl d_Expander_expandLine_202 ?_
              refine lv_aload_n X.x X.b d_Expander_expandLine_205 rfl (lv_at hl 3 rfl) ?_
              refine lv_iload X.x X.b d_Expander_expandLine_206 (lv_at hl 1 rfl) ?_
              refine lv_iload X.x X.b d_Expander_expandLine_208 (lv_at hl 0 rfl) ?_
              refine lv_aload_n X.x X.b d_Expander_expandLine_210 rfl (lv_at hl 2 rfl) ?_
              refine m_get (v := .int ml) X ok_Expander hE 5 (by decide) k_Expander_33 rfl d_Expander_expandLine_211 ?_
              refine lv_iload_n X.x X.b d_Expander_expandLine_214 rfl (lv_at hl 5 rfl) ?_
              refine m_callM X hS (M_Items_append l g hI (by omega) hL (by omega) (by omega) ((d 3) + arg) 0 ml (nI (5 - k))) v_Expander_97 hI.1 rfl rfl rfl (Nat.le_of_ble_eq_true rfl) hl.1 d_Expander_expandLine_215 (by omega) (by decide) ⟨Nat.zero_le _, Nat.zero_le _⟩ (fun q z => by have z : w + 1 ≤ q ∧ q < w + 1 + 123 := z; exact ⟨by omega, by omega⟩) (fun H locs hI hfr hS => ?_)
              have hE := hE.fr hfr (fun z => by have z : w + 1 ≤ w + 124 ∧ w + 124 < w + 1 + 123 := z; omega)
              have hN := hN.frame hfr (fun q z => by have z : w + 1 ≤ q ∧ q < w + 1 + 123 := z; omega)
              have hs := hs.frame hfr (fun q z => by have z : w + 1 ≤ q ∧ q < w + 1 + 123 := z; omega)
              have hL := hL.fr hfr (fun z => by have z : w + 1 ≤ ln ∧ ln < w + 1 + 123 := z; omega)
              refine lv_iconst (v := 1) X.x X.b d_Expander_expandLine_218 (by decide) ?_
              have hM : xLin (xCall D cnt k) (nI (5 - k)) d arg (S, c, N, x, fn, ml) = (((telS S c (d 0) (d 1) (d 2) ((d 3) + arg) 0 ml (nI (5 - k))), (c + 1), N, x + 1, fn, ml), 1) := by simp [xLin, xLin2, xInc, xApp, xF, xOver, itmF, c1, c39, c39q, c40, c53, c53q, k60, c61]
              exact m_zret X hS (Nat.zero_le _) (Nat.zero_le _) d_Expander_expandLine_219 rfl (by rw [hM]) (by rw [hM]; exact ⟨hE, hI, hN, hs, show (c + 1) ≤ 120 by omega, hly, hlw, hhw⟩)
            · exact absurd (k60.symm.trans c61) (by decide)
          by_cases k62 : d 0 = 3
          · skip
            refine lv_tableIn (off := 104) (tgt := 176) X.x X.b d_Expander_expandLine_72 (by rw [k62]; decide) (by rw [k62]; decide) (by rw [k62]; decide) (by decide) ?_
            refine lv_aload_n X.x X.b d_Expander_expandLine_176 rfl (lv_at hl 2 rfl) ?_
            refine m_get (v := .int (d 0)) X ok_Line hL 0 (by decide) k_Expander_52 rfl d_Expander_expandLine_177 ?_
            refine lv_iconst (v := 1) X.x X.b d_Expander_expandLine_180 (by decide) ?_
            refine lv_icmp_ne (tgt := 198) X.x X.b d_Expander_expandLine_181 (by decide) (fun c63 => ?_) (fun c63 => ?_)
            · skip
              refine lv_iconst (v := 0) X.x X.b d_Expander_expandLine_198 (by decide) ?_
              refine lv_istore (lv' := [(5, .int 0), (4, .int ((d 3) + arg)), (0, .ref (w + 124)), (1, .ref ln), (2, .int arg), (3, .int (nI (5 - k)))]) X.x X.b d_Expander_expandLine_199 hl (by decide) rfl (fun ls hl => ?_)
              refine lv_aload_n X.x X.b d_Expander_expandLine_201 rfl (lv_at hl 2 rfl) ?_
              refine m_get (v := .ref (w + 1)) X ok_Expander hE 1 (by decide) k_Expander_15 rfl d_Expander_expandLine_202 ?_
              refine lv_aload_n X.x X.b d_Expander_expandLine_205 rfl (lv_at hl 3 rfl) ?_
              refine lv_iload X.x X.b d_Expander_expandLine_206 (lv_at hl 1 rfl) ?_
              refine lv_iload X.x X.b d_Expander_expandLine_208 (lv_at hl 0 rfl) ?_
              refine lv_aload_n X.x X.b d_Expander_expandLine_210 rfl (lv_at hl 2 rfl) ?_
              refine m_get (v := .int ml) X ok_Expander hE 5 (by decide) k_Expander_33 rfl d_Expander_expandLine_211 ?_
              refine lv_iload_n X.x X.b d_Expander_expandLine_214 rfl (lv_at hl 5 rfl) ?_
              refine m_callM X hS (M_Items_append l g hI (by omega) hL (by omega) (by omega) ((d 3) + arg) 0 ml (nI (5 - k))) v_Expander_97 hI.1 rfl rfl rfl (Nat.le_of_ble_eq_true rfl) hl.1 d_Expander_expandLine_215 (by omega) (by decide) ⟨Nat.zero_le _, Nat.zero_le _⟩ (fun q z => by have z : w + 1 ≤ q ∧ q < w + 1 + 123 := z; exact ⟨by omega, by omega⟩) (fun H locs hI hfr hS => ?_)
              have hE := hE.fr hfr (fun z => by have z : w + 1 ≤ w + 124 ∧ w + 124 < w + 1 + 123 := z; omega)
              have hN := hN.frame hfr (fun q z => by have z : w + 1 ≤ q ∧ q < w + 1 + 123 := z; omega)
              have hs := hs.frame hfr (fun q z => by have z : w + 1 ≤ q ∧ q < w + 1 + 123 := z; omega)
              have hL := hL.fr hfr (fun z => by have z : w + 1 ≤ ln ∧ ln < w + 1 + 123 := z; omega)
              refine lv_iconst (v := 1) X.x X.b d_Expander_expandLine_218 (by decide) ?_
              have hM : xLin (xCall D cnt k) (nI (5 - k)) d arg (S, c, N, x, fn, ml) = (((telS S c (d 0) (d 1) (d 2) ((d 3) + arg) 0 ml (nI (5 - k))), (c + 1), N, x + 1, fn, ml), 1) := by simp [xLin, xLin2, xInc, xApp, xF, xOver, itmF, c1, c39, c39q, c40, c53, c53q, k62, c63]
              exact m_zret X hS (Nat.zero_le _) (Nat.zero_le _) d_Expander_expandLine_219 rfl (by rw [hM]) (by rw [hM]; exact ⟨hE, hI, hN, hs, show (c + 1) ≤ 120 by omega, hly, hlw, hhw⟩)
            · exact absurd (k62.symm.trans c63) (by decide)
          by_cases k64 : d 0 = 4
          · skip
            refine lv_tableIn (off := 104) (tgt := 176) X.x X.b d_Expander_expandLine_72 (by rw [k64]; decide) (by rw [k64]; decide) (by rw [k64]; decide) (by decide) ?_
            refine lv_aload_n X.x X.b d_Expander_expandLine_176 rfl (lv_at hl 2 rfl) ?_
            refine m_get (v := .int (d 0)) X ok_Line hL 0 (by decide) k_Expander_52 rfl d_Expander_expandLine_177 ?_
            refine lv_iconst (v := 1) X.x X.b d_Expander_expandLine_180 (by decide) ?_
            refine lv_icmp_ne (tgt := 198) X.x X.b d_Expander_expandLine_181 (by decide) (fun c65 => ?_) (fun c65 => ?_)
            · skip
              refine lv_iconst (v := 0) X.x X.b d_Expander_expandLine_198 (by decide) ?_
              refine lv_istore (lv' := [(5, .int 0), (4, .int ((d 3) + arg)), (0, .ref (w + 124)), (1, .ref ln), (2, .int arg), (3, .int (nI (5 - k)))]) X.x X.b d_Expander_expandLine_199 hl (by decide) rfl (fun ls hl => ?_)
              refine lv_aload_n X.x X.b d_Expander_expandLine_201 rfl (lv_at hl 2 rfl) ?_
              refine m_get (v := .ref (w + 1)) X ok_Expander hE 1 (by decide) k_Expander_15 rfl d_Expander_expandLine_202 ?_
              refine lv_aload_n X.x X.b d_Expander_expandLine_205 rfl (lv_at hl 3 rfl) ?_
              refine lv_iload X.x X.b d_Expander_expandLine_206 (lv_at hl 1 rfl) ?_
              refine lv_iload X.x X.b d_Expander_expandLine_208 (lv_at hl 0 rfl) ?_
              refine lv_aload_n X.x X.b d_Expander_expandLine_210 rfl (lv_at hl 2 rfl) ?_
              refine m_get (v := .int ml) X ok_Expander hE 5 (by decide) k_Expander_33 rfl d_Expander_expandLine_211 ?_
              refine lv_iload_n X.x X.b d_Expander_expandLine_214 rfl (lv_at hl 5 rfl) ?_
              refine m_callM X hS (M_Items_append l g hI (by omega) hL (by omega) (by omega) ((d 3) + arg) 0 ml (nI (5 - k))) v_Expander_97 hI.1 rfl rfl rfl (Nat.le_of_ble_eq_true rfl) hl.1 d_Expander_expandLine_215 (by omega) (by decide) ⟨Nat.zero_le _, Nat.zero_le _⟩ (fun q z => by have z : w + 1 ≤ q ∧ q < w + 1 + 123 := z; exact ⟨by omega, by omega⟩) (fun H locs hI hfr hS => ?_)
              have hE := hE.fr hfr (fun z => by have z : w + 1 ≤ w + 124 ∧ w + 124 < w + 1 + 123 := z; omega)
              have hN := hN.frame hfr (fun q z => by have z : w + 1 ≤ q ∧ q < w + 1 + 123 := z; omega)
              have hs := hs.frame hfr (fun q z => by have z : w + 1 ≤ q ∧ q < w + 1 + 123 := z; omega)
              have hL := hL.fr hfr (fun z => by have z : w + 1 ≤ ln ∧ ln < w + 1 + 123 := z; omega)
              refine lv_iconst (v := 1) X.x X.b d_Expander_expandLine_218 (by decide) ?_
              have hM : xLin (xCall D cnt k) (nI (5 - k)) d arg (S, c, N, x, fn, ml) = (((telS S c (d 0) (d 1) (d 2) ((d 3) + arg) 0 ml (nI (5 - k))), (c + 1), N, x + 1, fn, ml), 1) := by simp [xLin, xLin2, xInc, xApp, xF, xOver, itmF, c1, c39, c39q, c40, c53, c53q, k64, c65]
              exact m_zret X hS (Nat.zero_le _) (Nat.zero_le _) d_Expander_expandLine_219 rfl (by rw [hM]) (by rw [hM]; exact ⟨hE, hI, hN, hs, show (c + 1) ≤ 120 by omega, hly, hlw, hhw⟩)
            · exact absurd (k64.symm.trans c65) (by decide)
          by_cases k66 : d 0 = 5
          · skip
            refine lv_tableIn (off := 104) (tgt := 176) X.x X.b d_Expander_expandLine_72 (by rw [k66]; decide) (by rw [k66]; decide) (by rw [k66]; decide) (by decide) ?_
            refine lv_aload_n X.x X.b d_Expander_expandLine_176 rfl (lv_at hl 2 rfl) ?_
            refine m_get (v := .int (d 0)) X ok_Line hL 0 (by decide) k_Expander_52 rfl d_Expander_expandLine_177 ?_
            refine lv_iconst (v := 1) X.x X.b d_Expander_expandLine_180 (by decide) ?_
            refine lv_icmp_ne (tgt := 198) X.x X.b d_Expander_expandLine_181 (by decide) (fun c67 => ?_) (fun c67 => ?_)
            · skip
              refine lv_iconst (v := 0) X.x X.b d_Expander_expandLine_198 (by decide) ?_
              refine lv_istore (lv' := [(5, .int 0), (4, .int ((d 3) + arg)), (0, .ref (w + 124)), (1, .ref ln), (2, .int arg), (3, .int (nI (5 - k)))]) X.x X.b d_Expander_expandLine_199 hl (by decide) rfl (fun ls hl => ?_)
              refine lv_aload_n X.x X.b d_Expander_expandLine_201 rfl (lv_at hl 2 rfl) ?_
              refine m_get (v := .ref (w + 1)) X ok_Expander hE 1 (by decide) k_Expander_15 rfl d_Expander_expandLine_202 ?_
              refine lv_aload_n X.x X.b d_Expander_expandLine_205 rfl (lv_at hl 3 rfl) ?_
              refine lv_iload X.x X.b d_Expander_expandLine_206 (lv_at hl 1 rfl) ?_
              refine lv_iload X.x X.b d_Expander_expandLine_208 (lv_at hl 0 rfl) ?_
              refine lv_aload_n X.x X.b d_Expander_expandLine_210 rfl (lv_at hl 2 rfl) ?_
              refine m_get (v := .int ml) X ok_Expander hE 5 (by decide) k_Expander_33 rfl d_Expander_expandLine_211 ?_
              refine lv_iload_n X.x X.b d_Expander_expandLine_214 rfl (lv_at hl 5 rfl) ?_
              refine m_callM X hS (M_Items_append l g hI (by omega) hL (by omega) (by omega) ((d 3) + arg) 0 ml (nI (5 - k))) v_Expander_97 hI.1 rfl rfl rfl (Nat.le_of_ble_eq_true rfl) hl.1 d_Expander_expandLine_215 (by omega) (by decide) ⟨Nat.zero_le _, Nat.zero_le _⟩ (fun q z => by have z : w + 1 ≤ q ∧ q < w + 1 + 123 := z; exact ⟨by omega, by omega⟩) (fun H locs hI hfr hS => ?_)
              have hE := hE.fr hfr (fun z => by have z : w + 1 ≤ w + 124 ∧ w + 124 < w + 1 + 123 := z; omega)
              have hN := hN.frame hfr (fun q z => by have z : w + 1 ≤ q ∧ q < w + 1 + 123 := z; omega)
              have hs := hs.frame hfr (fun q z => by have z : w + 1 ≤ q ∧ q < w + 1 + 123 := z; omega)
              have hL := hL.fr hfr (fun z => by have z : w + 1 ≤ ln ∧ ln < w + 1 + 123 := z; omega)
              refine lv_iconst (v := 1) X.x X.b d_Expander_expandLine_218 (by decide) ?_
              have hM : xLin (xCall D cnt k) (nI (5 - k)) d arg (S, c, N, x, fn, ml) = (((telS S c (d 0) (d 1) (d 2) ((d 3) + arg) 0 ml (nI (5 - k))), (c + 1), N, x + 1, fn, ml), 1) := by simp [xLin, xLin2, xInc, xApp, xF, xOver, itmF, c1, c39, c39q, c40, c53, c53q, k66, c67]
              exact m_zret X hS (Nat.zero_le _) (Nat.zero_le _) d_Expander_expandLine_219 rfl (by rw [hM]) (by rw [hM]; exact ⟨hE, hI, hN, hs, show (c + 1) ≤ 120 by omega, hly, hlw, hhw⟩)
            · exact absurd (k66.symm.trans c67) (by decide)
          by_cases k68 : d 0 = 6
          · skip
            refine lv_tableIn (off := 104) (tgt := 176) X.x X.b d_Expander_expandLine_72 (by rw [k68]; decide) (by rw [k68]; decide) (by rw [k68]; decide) (by decide) ?_
            refine lv_aload_n X.x X.b d_Expander_expandLine_176 rfl (lv_at hl 2 rfl) ?_
            refine m_get (v := .int (d 0)) X ok_Line hL 0 (by decide) k_Expander_52 rfl d_Expander_expandLine_177 ?_
            refine lv_iconst (v := 1) X.x X.b d_Expander_expandLine_180 (by decide) ?_
            refine lv_icmp_ne (tgt := 198) X.x X.b d_Expander_expandLine_181 (by decide) (fun c69 => ?_) (fun c69 => ?_)
            · skip
              refine lv_iconst (v := 0) X.x X.b d_Expander_expandLine_198 (by decide) ?_
              refine lv_istore (lv' := [(5, .int 0), (4, .int ((d 3) + arg)), (0, .ref (w + 124)), (1, .ref ln), (2, .int arg), (3, .int (nI (5 - k)))]) X.x X.b d_Expander_expandLine_199 hl (by decide) rfl (fun ls hl => ?_)
              refine lv_aload_n X.x X.b d_Expander_expandLine_201 rfl (lv_at hl 2 rfl) ?_
              refine m_get (v := .ref (w + 1)) X ok_Expander hE 1 (by decide) k_Expander_15 rfl d_Expander_expandLine_202 ?_
              refine lv_aload_n X.x X.b d_Expander_expandLine_205 rfl (lv_at hl 3 rfl) ?_
              refine lv_iload X.x X.b d_Expander_expandLine_206 (lv_at hl 1 rfl) ?_
              refine lv_iload X.x X.b d_Expander_expandLine_208 (lv_at hl 0 rfl) ?_
              refine lv_aload_n X.x X.b d_Expander_expandLine_210 rfl (lv_at hl 2 rfl) ?_
              refine m_get (v := .int ml) X ok_Expander hE 5 (by decide) k_Expander_33 rfl d_Expander_expandLine_211 ?_
              refine lv_iload_n X.x X.b d_Expander_expandLine_214 rfl (lv_at hl 5 rfl) ?_
              refine m_callM X hS (M_Items_append l g hI (by omega) hL (by omega) (by omega) ((d 3) + arg) 0 ml (nI (5 - k))) v_Expander_97 hI.1 rfl rfl rfl (Nat.le_of_ble_eq_true rfl) hl.1 d_Expander_expandLine_215 (by omega) (by decide) ⟨Nat.zero_le _, Nat.zero_le _⟩ (fun q z => by have z : w + 1 ≤ q ∧ q < w + 1 + 123 := z; exact ⟨by omega, by omega⟩) (fun H locs hI hfr hS => ?_)
              have hE := hE.fr hfr (fun z => by have z : w + 1 ≤ w + 124 ∧ w + 124 < w + 1 + 123 := z; omega)
              have hN := hN.frame hfr (fun q z => by have z : w + 1 ≤ q ∧ q < w + 1 + 123 := z; omega)
              have hs := hs.frame hfr (fun q z => by have z : w + 1 ≤ q ∧ q < w + 1 + 123 := z; omega)
              have hL := hL.fr hfr (fun z => by have z : w + 1 ≤ ln ∧ ln < w + 1 + 123 := z; omega)
              refine lv_iconst (v := 1) X.x X.b d_Expander_expandLine_218 (by decide) ?_
              have hM : xLin (xCall D cnt k) (nI (5 - k)) d arg (S, c, N, x, fn, ml) = (((telS S c (d 0) (d 1) (d 2) ((d 3) + arg) 0 ml (nI (5 - k))), (c + 1), N, x + 1, fn, ml), 1) := by simp [xLin, xLin2, xInc, xApp, xF, xOver, itmF, c1, c39, c39q, c40, c53, c53q, k68, c69]
              exact m_zret X hS (Nat.zero_le _) (Nat.zero_le _) d_Expander_expandLine_219 rfl (by rw [hM]) (by rw [hM]; exact ⟨hE, hI, hN, hs, show (c + 1) ≤ 120 by omega, hly, hlw, hhw⟩)
            · exact absurd (k68.symm.trans c69) (by decide)
          by_cases k70 : d 0 = 7
          · skip
            refine lv_tableIn (off := 104) (tgt := 176) X.x X.b d_Expander_expandLine_72 (by rw [k70]; decide) (by rw [k70]; decide) (by rw [k70]; decide) (by decide) ?_
            refine lv_aload_n X.x X.b d_Expander_expandLine_176 rfl (lv_at hl 2 rfl) ?_
            refine m_get (v := .int (d 0)) X ok_Line hL 0 (by decide) k_Expander_52 rfl d_Expander_expandLine_177 ?_
            refine lv_iconst (v := 1) X.x X.b d_Expander_expandLine_180 (by decide) ?_
            refine lv_icmp_ne (tgt := 198) X.x X.b d_Expander_expandLine_181 (by decide) (fun c71 => ?_) (fun c71 => ?_)
            · skip
              refine lv_iconst (v := 0) X.x X.b d_Expander_expandLine_198 (by decide) ?_
              refine lv_istore (lv' := [(5, .int 0), (4, .int ((d 3) + arg)), (0, .ref (w + 124)), (1, .ref ln), (2, .int arg), (3, .int (nI (5 - k)))]) X.x X.b d_Expander_expandLine_199 hl (by decide) rfl (fun ls hl => ?_)
              refine lv_aload_n X.x X.b d_Expander_expandLine_201 rfl (lv_at hl 2 rfl) ?_
              refine m_get (v := .ref (w + 1)) X ok_Expander hE 1 (by decide) k_Expander_15 rfl d_Expander_expandLine_202 ?_
              refine lv_aload_n X.x X.b d_Expander_expandLine_205 rfl (lv_at hl 3 rfl) ?_
              refine lv_iload X.x X.b d_Expander_expandLine_206 (lv_at hl 1 rfl) ?_
              refine lv_iload X.x X.b d_Expander_expandLine_208 (lv_at hl 0 rfl) ?_
              refine lv_aload_n X.x X.b d_Expander_expandLine_210 rfl (lv_at hl 2 rfl) ?_
              refine m_get (v := .int ml) X ok_Expander hE 5 (by decide) k_Expander_33 rfl d_Expander_expandLine_211 ?_
              refine lv_iload_n X.x X.b d_Expander_expandLine_214 rfl (lv_at hl 5 rfl) ?_
              refine m_callM X hS (M_Items_append l g hI (by omega) hL (by omega) (by omega) ((d 3) + arg) 0 ml (nI (5 - k))) v_Expander_97 hI.1 rfl rfl rfl (Nat.le_of_ble_eq_true rfl) hl.1 d_Expander_expandLine_215 (by omega) (by decide) ⟨Nat.zero_le _, Nat.zero_le _⟩ (fun q z => by have z : w + 1 ≤ q ∧ q < w + 1 + 123 := z; exact ⟨by omega, by omega⟩) (fun H locs hI hfr hS => ?_)
              have hE := hE.fr hfr (fun z => by have z : w + 1 ≤ w + 124 ∧ w + 124 < w + 1 + 123 := z; omega)
              have hN := hN.frame hfr (fun q z => by have z : w + 1 ≤ q ∧ q < w + 1 + 123 := z; omega)
              have hs := hs.frame hfr (fun q z => by have z : w + 1 ≤ q ∧ q < w + 1 + 123 := z; omega)
              have hL := hL.fr hfr (fun z => by have z : w + 1 ≤ ln ∧ ln < w + 1 + 123 := z; omega)
              refine lv_iconst (v := 1) X.x X.b d_Expander_expandLine_218 (by decide) ?_
              have hM : xLin (xCall D cnt k) (nI (5 - k)) d arg (S, c, N, x, fn, ml) = (((telS S c (d 0) (d 1) (d 2) ((d 3) + arg) 0 ml (nI (5 - k))), (c + 1), N, x + 1, fn, ml), 1) := by simp [xLin, xLin2, xInc, xApp, xF, xOver, itmF, c1, c39, c39q, c40, c53, c53q, k70, c71]
              exact m_zret X hS (Nat.zero_le _) (Nat.zero_le _) d_Expander_expandLine_219 rfl (by rw [hM]) (by rw [hM]; exact ⟨hE, hI, hN, hs, show (c + 1) ≤ 120 by omega, hly, hlw, hhw⟩)
            · exact absurd (k70.symm.trans c71) (by decide)
          by_cases k72 : d 0 = 8
          · exact absurd k72 c40.1
          by_cases k73 : d 0 = 9
          · exact absurd k73 c40.2.1
          by_cases k74 : d 0 = 10
          · exact absurd k74 c40.2.2
          refine lv_tableOut (tgt := 176) X.x X.b d_Expander_expandLine_72 (by have := ne_toInt (k := 0) 0 (by decide) k54; have := ne_toInt (k := 1) 1 (by decide) k57; have := ne_toInt (k := 2) 2 (by decide) k60; have := ne_toInt (k := 3) 3 (by decide) k62; have := ne_toInt (k := 4) 4 (by decide) k64; have := ne_toInt (k := 5) 5 (by decide) k66; have := ne_toInt (k := 6) 6 (by decide) k68; have := ne_toInt (k := 7) 7 (by decide) k70; have := ne_toInt (k := 8) 8 (by decide) k72; have := ne_toInt (k := 9) 9 (by decide) k73; have := ne_toInt (k := 10) 10 (by decide) k74; omega) (by decide) ?_
          refine lv_aload_n X.x X.b d_Expander_expandLine_176 rfl (lv_at hl 2 rfl) ?_
          refine m_get (v := .int (d 0)) X ok_Line hL 0 (by decide) k_Expander_52 rfl d_Expander_expandLine_177 ?_
          refine lv_iconst (v := 1) X.x X.b d_Expander_expandLine_180 (by decide) ?_
          refine lv_icmp_ne (tgt := 198) X.x X.b d_Expander_expandLine_181 (by decide) (fun c75 => ?_) (fun c75 => ?_)
          · skip
            refine lv_iconst (v := 0) X.x X.b d_Expander_expandLine_198 (by decide) ?_
            refine lv_istore (lv' := [(5, .int 0), (4, .int ((d 3) + arg)), (0, .ref (w + 124)), (1, .ref ln), (2, .int arg), (3, .int (nI (5 - k)))]) X.x X.b d_Expander_expandLine_199 hl (by decide) rfl (fun ls hl => ?_)
            refine lv_aload_n X.x X.b d_Expander_expandLine_201 rfl (lv_at hl 2 rfl) ?_
            refine m_get (v := .ref (w + 1)) X ok_Expander hE 1 (by decide) k_Expander_15 rfl d_Expander_expandLine_202 ?_
            refine lv_aload_n X.x X.b d_Expander_expandLine_205 rfl (lv_at hl 3 rfl) ?_
            refine lv_iload X.x X.b d_Expander_expandLine_206 (lv_at hl 1 rfl) ?_
            refine lv_iload X.x X.b d_Expander_expandLine_208 (lv_at hl 0 rfl) ?_
            refine lv_aload_n X.x X.b d_Expander_expandLine_210 rfl (lv_at hl 2 rfl) ?_
            refine m_get (v := .int ml) X ok_Expander hE 5 (by decide) k_Expander_33 rfl d_Expander_expandLine_211 ?_
            refine lv_iload_n X.x X.b d_Expander_expandLine_214 rfl (lv_at hl 5 rfl) ?_
            refine m_callM X hS (M_Items_append l g hI (by omega) hL (by omega) (by omega) ((d 3) + arg) 0 ml (nI (5 - k))) v_Expander_97 hI.1 rfl rfl rfl (Nat.le_of_ble_eq_true rfl) hl.1 d_Expander_expandLine_215 (by omega) (by decide) ⟨Nat.zero_le _, Nat.zero_le _⟩ (fun q z => by have z : w + 1 ≤ q ∧ q < w + 1 + 123 := z; exact ⟨by omega, by omega⟩) (fun H locs hI hfr hS => ?_)
            have hE := hE.fr hfr (fun z => by have z : w + 1 ≤ w + 124 ∧ w + 124 < w + 1 + 123 := z; omega)
            have hN := hN.frame hfr (fun q z => by have z : w + 1 ≤ q ∧ q < w + 1 + 123 := z; omega)
            have hs := hs.frame hfr (fun q z => by have z : w + 1 ≤ q ∧ q < w + 1 + 123 := z; omega)
            have hL := hL.fr hfr (fun z => by have z : w + 1 ≤ ln ∧ ln < w + 1 + 123 := z; omega)
            refine lv_iconst (v := 1) X.x X.b d_Expander_expandLine_218 (by decide) ?_
            have hM : xLin (xCall D cnt k) (nI (5 - k)) d arg (S, c, N, x, fn, ml) = (((telS S c (d 0) (d 1) (d 2) ((d 3) + arg) 0 ml (nI (5 - k))), (c + 1), N, x + 1, fn, ml), 1) := by simp [xLin, xLin2, xInc, xApp, xF, xOver, itmF, c1, c39, c39q, c40, c53, c53q, k54, k57, k60, k62, k64, k66, k68, k70, k72, k73, k74, c75]
            exact m_zret X hS (Nat.zero_le _) (Nat.zero_le _) d_Expander_expandLine_219 rfl (by rw [hM]) (by rw [hM]; exact ⟨hE, hI, hN, hs, show (c + 1) ≤ 120 by omega, hly, hlw, hhw⟩)
          · exact absurd c75 k57
        · skip
          have c53q := Int32.not_lt.mp c53
          have c53 : 120 ≤ c := Nat.le_of_not_lt (fun z => c53 ((nI_ltI (b := 120) (by omega) (by omega)).mpr z))
          have c53q := c53
          refine lv_aload_n X.x X.b d_Expander_expandLine_61 rfl (lv_at hl 1 rfl) ?_
          refine lv_iconst (v := 2) X.x X.b d_Expander_expandLine_62 (by decide) ?_
          refine m_put X ok_Expander hS (Or.inl ⟨by omega, by omega⟩) hE 4 (by decide) k_Expander_30 rfl (ok_Expander.2.2.1 _ (by decide)) rfl rfl (Nat.le_of_ble_eq_true rfl) d_Expander_expandLine_63 (fun H locs hp hcg hS => ?_)
          have hE : exAt g w so (x + 1) 2 ml H := hp
          have hfr := fr.of_chg (A := fun q => q = w + 124) hcg rfl
          have hI := hI.frame hfr (fun q z => by have z : q = w + 124 := z; omega)
          have hN := hN.frame hfr (fun q z => by have z : q = w + 124 := z; omega)
          have hs := hs.frame hfr (fun q z => by have z : q = w + 124 := z; omega)
          have hL := hL.fr hfr (fun z => by have z : ln = w + 124 := z; omega)
          refine lv_iconst (v := 1) X.x X.b d_Expander_expandLine_66 (by decide) ?_
          have hM : xLin (xCall D cnt k) (nI (5 - k)) d arg (S, c, N, x, fn, ml) = ((S, c, N, x + 1, 2, ml), 1) := by simp [xLin, xLin2, xInc, xApp, xF, xOver, itmF, c1, c39, c39q, c40, c53, c53q]
          exact m_zret X hS (Nat.zero_le _) (Nat.zero_le _) d_Expander_expandLine_67 rfl (by rw [hM]) (by rw [hM]; exact ⟨hE, hI, hN, hs, show c ≤ 120 by omega, hly, hlw, hhw⟩)
