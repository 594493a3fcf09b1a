-- THE REFERENCE ON ONE LINE: VALUES, POOLS, LAYOUT
/-- two ITEMS: one of kind k, and the POOL behind all -/
def twoI (k : Int32) (p : Nat → Int32) (s : Nat → Nat → Int32) : Prop := (p 3 = 0 ∧ p 5 = 2) ∧ s 8 0 = k ∧ s 8 1 = 6
set_option maxRecDepth 100000 in
set_option maxHeartbeats 4000000 in
theorem M_Model_meant_a2 (l : Launch) (g : GG) {mo tq : Nat} {p0 : Nat → Int32} {s0 : Nat → Nat → Int32} {H0 : Heap} (hM : mAt g mo tq p0 s0 H0) (hw : twoI 2 p0 s0) {j : Nat} (hj : j < 8) (h27 : s0 27 j = -1) : MP l y_Model_meant c_Model_meant 6 (some .int) 2 g H0 [.ref mo, .int (nI j), .int 0] (some (.int (-2))) := by
  refine MM.of (by decide +kernel) (Nat.le_of_ble_eq_true rfl) ?_
  intro p e s m below meth cd X hH ls hl
  have X : CX g p s m _ meth cd c_Model_meant 6 (some .int) R_Model _ := X
  have hl : lv_has ls 6 [(0, .ref mo), (1, .int (nI j)), (2, .int 0)] := hl
  have hS : va_S (AA (noA) H0) H0 H0 [] := va_S.rf
  have hlt0 := hM.lt
  have htq0 := hM.tq
  obtain ⟨⟨hw3, hw5⟩, hw8, hw81⟩ := hw
  refine lv_iload_n X.x X.b d_Model_meant_0 rfl (lv_at hl 1 rfl) ?_
  refine lv_iconst (v := -1) X.x X.b d_Model_meant_1 (by decide) ?_
  refine lv_icmp_ne (tgt := 7) X.x X.b d_Model_meant_2 (by decide) (fun c1 => ?_) (fun c1 => ?_)
  · skip
    refine lv_iload_n X.x X.b d_Model_meant_7 rfl (lv_at hl 1 rfl) ?_
    refine lv_bipush (v := 8) X.x X.b d_Model_meant_8 (by decide) ?_
    refine lv_icmp_ge (tgt := 78) X.x X.b d_Model_meant_10 (by decide) (fun c2 => ?_) (fun c2 => ?_)
    · exact absurd (nI_lt (b := 8) hj (by omega)) (Int32.not_lt.mpr c2)
    · skip
      have c2q := Int32.not_le.mp c2
      refine lv_aload_n X.x X.b d_Model_meant_13 rfl (lv_at hl 0 rfl) ?_
      refine m_get (v := .ref (mo + 22)) X ok_Model hM.1 27 (by decide) k_Model_74 rfl d_Model_meant_14 ?_
      refine lv_iload_n X.x X.b d_Model_meant_17 rfl (lv_at hl 1 rfl) ?_
      refine m_ild (v := (-1)) X hM.a27 j rfl (by omega) (by decide) (show s0 27 j = (-1) from (by rw [h27])) d_Model_meant_18 ?_
      refine lv_iconst (v := -1) X.x X.b d_Model_meant_19 (by decide) ?_
      refine lv_icmp_eq (tgt := 30) X.x X.b d_Model_meant_20 (by decide) (fun c3 => ?_) (fun c3 => ?_)
      · skip
        refine lv_iload_n X.x X.b d_Model_meant_30 rfl (lv_at hl 2 rfl) ?_
        refine lv_iconst (v := 1) X.x X.b d_Model_meant_31 (by decide) ?_
        refine lv_isub X.x X.b d_Model_meant_32 ?_
        rw [show (0 - 1 : Int32) = (-1) from by decide]
        refine lv_istore_n (lv' := [(3, .int (-1)), (0, .ref mo), (1, .int (nI j)), (2, .int 0)]) X.x X.b d_Model_meant_33 rfl hl (by decide) rfl (fun ls hl => ?_)
        refine lv_iload_n X.x X.b d_Model_meant_34 rfl (lv_at hl 0 rfl) ?_
        refine lv_if_lt (tgt := 64) X.x X.b d_Model_meant_35 (by decide) (fun c4 => ?_) (fun c4 => ?_)
        · skip
          have c4q := Int32.not_le.mpr c4
          refine lv_iload_n X.x X.b d_Model_meant_64 rfl (lv_at hl 0 rfl) ?_
          refine lv_if_ge (tgt := 73) X.x X.b d_Model_meant_65 (by decide) (fun c5 => ?_) (fun c5 => ?_)
          · exact absurd c5 (by decide)
          · skip
            have c5q := Int32.not_le.mp c5
            refine lv_bipush (v := -2) X.x X.b d_Model_meant_68 (by decide) ?_
            refine lv_goto (tgt := 77) X.x X.b d_Model_meant_70 (by decide) ?_
            exact m_iret X hS (Nat.zero_le _) (Nat.zero_le _) d_Model_meant_77 (congrArg (fun z => some (Value.int z)) (by simp [c1, c2, c2q, c3, c4, c4q, c5, c5q])) rfl
        · exact absurd c4 (by decide)
      · exact absurd c3 (by decide)
  · exact absurd c1 (nI_nm1 (by omega))
set_option maxRecDepth 100000 in
set_option maxHeartbeats 4000000 in
theorem M_Model_meant_b2 (l : Launch) (g : GG) {mo tq : Nat} {p0 : Nat → Int32} {s0 : Nat → Nat → Int32} {H0 : Heap} (hM : mAt g mo tq p0 s0 H0) (hw : twoI 2 p0 s0) {j : Nat} (hj : 8 ≤ j) (hj9 : j ≤ 9) : MP l y_Model_meant c_Model_meant 6 (some .int) 2 g H0 [.ref mo, .int (nI j), .int 0] (some (.int (-2))) := by
  refine MM.of (by decide +kernel) (Nat.le_of_ble_eq_true rfl) ?_
  intro p e s m below meth cd X hH ls hl
  have X : CX g p s m _ meth cd c_Model_meant 6 (some .int) R_Model _ := X
  have hl : lv_has ls 6 [(0, .ref mo), (1, .int (nI j)), (2, .int 0)] := hl
  have hS : va_S (AA (noA) H0) H0 H0 [] := va_S.rf
  have hlt0 := hM.lt
  have htq0 := hM.tq
  obtain ⟨⟨hw3, hw5⟩, hw8, hw81⟩ := hw
  refine lv_iload_n X.x X.b d_Model_meant_0 rfl (lv_at hl 1 rfl) ?_
  refine lv_iconst (v := -1) X.x X.b d_Model_meant_1 (by decide) ?_
  refine lv_icmp_ne (tgt := 7) X.x X.b d_Model_meant_2 (by decide) (fun c1 => ?_) (fun c1 => ?_)
  · skip
    refine lv_iload_n X.x X.b d_Model_meant_7 rfl (lv_at hl 1 rfl) ?_
    refine lv_bipush (v := 8) X.x X.b d_Model_meant_8 (by decide) ?_
    refine lv_icmp_ge (tgt := 78) X.x X.b d_Model_meant_10 (by decide) (fun c2 => ?_) (fun c2 => ?_)
    · skip
      have c2q := Int32.not_lt.mpr c2
      refine lv_iload_n X.x X.b d_Model_meant_78 rfl (lv_at hl 1 rfl) ?_
      refine lv_bipush (v := 9) X.x X.b d_Model_meant_79 (by decide) ?_
      refine lv_icmp_le (tgt := 88) X.x X.b d_Model_meant_81 (by decide) (fun c3 => ?_) (fun c3 => ?_)
      · skip
        have c3q := Int32.not_lt.mpr c3
        refine lv_iconst (v := 0) X.x X.b d_Model_meant_88 (by decide) ?_
        refine lv_istore_n (lv' := [(3, .int 0), (0, .ref mo), (1, .int (nI j)), (2, .int 0)]) X.x X.b d_Model_meant_89 rfl hl (by decide) rfl (fun ls hl => ?_)
        refine lv_iload_n X.x X.b d_Model_meant_90 rfl (lv_at hl 0 rfl) ?_
        refine lv_if_eq (tgt := 100) X.x X.b d_Model_meant_91 (by decide) (fun c4 => ?_) (fun c4 => ?_)
        · skip
          refine lv_iload_n X.x X.b d_Model_meant_100 rfl (lv_at hl 2 rfl) ?_
          refine lv_istore (lv' := [(4, .int (nI j)), (3, .int 0), (0, .ref mo), (1, .int (nI j)), (2, .int 0)]) X.x X.b d_Model_meant_101 hl (by decide) rfl (fun ls hl => ?_)
          refine lv_iload_n X.x X.b d_Model_meant_103 rfl (lv_at hl 4 rfl) ?_
          refine lv_istore (lv' := [(5, .int 0), (4, .int (nI j)), (3, .int 0), (0, .ref mo), (1, .int (nI j)), (2, .int 0)]) X.x X.b d_Model_meant_104 hl (by decide) rfl (fun ls hl => ?_)
          refine lv_iload X.x X.b d_Model_meant_106 (lv_at hl 0 rfl) ?_
          refine lv_iconst (v := 0) X.x X.b d_Model_meant_108 (by decide) ?_
          refine lv_aload_n X.x X.b d_Model_meant_109 rfl (lv_at hl 3 rfl) ?_
          refine m_get (v := .int 2) X ok_Model hM.1 5 (by decide) k_Model_132 (congrArg (fun z => some (Value.int z)) (show p0 5 = 2 from (by rw [hw5]))) d_Model_meant_110 ?_
          refine lv_iconst (v := 1) X.x X.b d_Model_meant_113 (by decide) ?_
          refine lv_isub X.x X.b d_Model_meant_114 ?_
          rw [show (2 - 1 : Int32) = 1 from by decide]
          refine m_callSP X hS (MP_ans (M_Model_isIn l g 0 0 1) (show b2i (0 ≤ 0 ∧ 0 ≤ 1) = 1 from by decide)) s_Model_84 rfl rfl (Nat.le_of_ble_eq_true rfl) hl.1 d_Model_meant_115 (by omega) (by decide) ⟨by omega, by omega⟩ (fun locs hS => ?_)
          refine lv_if_eq (tgt := 160) X.x X.b d_Model_meant_118 (by decide) (fun c5 => ?_) (fun c5 => ?_)
          · exact absurd c5 (by decide)
          · skip
            refine lv_aload_n X.x X.b d_Model_meant_121 rfl (lv_at hl 3 rfl) ?_
            refine m_get (v := .ref (mo + 3)) X ok_Model hM.1 8 (by decide) k_Model_16 rfl d_Model_meant_122 ?_
            refine lv_iload X.x X.b d_Model_meant_125 (lv_at hl 0 rfl) ?_
            refine m_ild (v := 2) X hM.a8 0 rfl (by omega) (by decide) (show s0 8 0 = 2 from (by rw [hw8])) d_Model_meant_127 ?_
            refine lv_if_ne (tgt := 143) X.x X.b d_Model_meant_128 (by decide) (fun c6 => ?_) (fun c6 => ?_)
            · skip
              refine lv_iload X.x X.b d_Model_meant_143 (lv_at hl 0 rfl) ?_
              refine lv_iload_n X.x X.b d_Model_meant_145 rfl (lv_at hl 2 rfl) ?_
              refine lv_if_eq (tgt := 153) X.x X.b d_Model_meant_146 (by decide) (fun c7 => ?_) (fun c7 => ?_)
              · skip
                refine lv_iconst (v := -1) X.x X.b d_Model_meant_153 (by decide) ?_
                refine lv_iadd X.x X.b d_Model_meant_154 ?_
                rw [show (0 + (-1) : Int32) = (-1) from by decide]
                refine lv_istore (lv' := [(5, .int (-1)), (4, .int (nI j)), (3, .int 0), (0, .ref mo), (1, .int (nI j)), (2, .int 0)]) X.x X.b d_Model_meant_155 hl (by decide) rfl (fun ls hl => ?_)
                refine lv_goto (tgt := 106) X.x X.b d_Model_meant_157 (by decide) ?_
                refine lv_iload X.x X.b d_Model_meant_106 (lv_at hl 0 rfl) ?_
                refine lv_iconst (v := 0) X.x X.b d_Model_meant_108 (by decide) ?_
                refine lv_aload_n X.x X.b d_Model_meant_109 rfl (lv_at hl 3 rfl) ?_
                refine m_get (v := .int 2) X ok_Model hM.1 5 (by decide) k_Model_132 (congrArg (fun z => some (Value.int z)) (show p0 5 = 2 from (by rw [hw5]))) d_Model_meant_110 ?_
                refine lv_iconst (v := 1) X.x X.b d_Model_meant_113 (by decide) ?_
                refine lv_isub X.x X.b d_Model_meant_114 ?_
                rw [show (2 - 1 : Int32) = 1 from by decide]
                refine m_callSP X hS (MP_ans (M_Model_isIn l g (-1) 0 1) (show b2i (0 ≤ (-1) ∧ (-1) ≤ 1) = 0 from by decide)) s_Model_84 rfl rfl (Nat.le_of_ble_eq_true rfl) hl.1 d_Model_meant_115 (by omega) (by decide) ⟨by omega, by omega⟩ (fun locs hS => ?_)
                refine lv_if_eq (tgt := 160) X.x X.b d_Model_meant_118 (by decide) (fun c8 => ?_) (fun c8 => ?_)
                · skip
                  refine lv_iload X.x X.b d_Model_meant_160 (lv_at hl 0 rfl) ?_
                  refine lv_iconst (v := 0) X.x X.b d_Model_meant_162 (by decide) ?_
                  refine lv_aload_n X.x X.b d_Model_meant_163 rfl (lv_at hl 3 rfl) ?_
                  refine m_get (v := .int 2) X ok_Model hM.1 5 (by decide) k_Model_132 (congrArg (fun z => some (Value.int z)) (show p0 5 = 2 from (by rw [hw5]))) d_Model_meant_164 ?_
                  refine lv_iconst (v := 1) X.x X.b d_Model_meant_167 (by decide) ?_
                  refine lv_isub X.x X.b d_Model_meant_168 ?_
                  rw [show (2 - 1 : Int32) = 1 from by decide]
                  refine m_callSP X hS (MP_ans (M_Model_isIn l g (-1) 0 1) (show b2i (0 ≤ (-1) ∧ (-1) ≤ 1) = 0 from by decide)) s_Model_84 rfl rfl (Nat.le_of_ble_eq_true rfl) hl.1 d_Model_meant_169 (by omega) (by decide) ⟨by omega, by omega⟩ (fun locs hS => ?_)
                  refine lv_if_eq (tgt := 180) X.x X.b d_Model_meant_172 (by decide) (fun c9 => ?_) (fun c9 => ?_)
                  · skip
                    refine lv_bipush (v := -2) X.x X.b d_Model_meant_180 (by decide) ?_
                    exact m_iret X hS (Nat.zero_le _) (Nat.zero_le _) d_Model_meant_182 (congrArg (fun z => some (Value.int z)) (by simp [c1, c2, c2q, c3, c3q, c4, c5, c6, c7, c8, c9])) rfl
                  · exact absurd c8 c9
                · exact absurd c7 c8
              · exact absurd c4 c7
            · exact absurd c6 (by decide)
        · exact absurd c4 (by decide)
      · exact absurd ((nI_leI (a := j) (b := 9) (by omega) (by omega)).mpr hj9) c3
    · exact absurd ((nI_leI (a := 8) (b := j) (by omega) (by omega)).mpr hj) (by assumption)
  · exact absurd c1 (nI_nm1 (by omega))
set_option maxRecDepth 100000 in
set_option maxHeartbeats 4000000 in
theorem M_Model_meant_c2 (l : Launch) (g : GG) {mo tq : Nat} {p0 : Nat → Int32} {s0 : Nat → Nat → Int32} {H0 : Heap} (hM : mAt g mo tq p0 s0 H0) (hw : twoI 2 p0 s0) {j : Nat} (hj : 10 ≤ j) (hj9 : j ≤ 11) : MP l y_Model_meant c_Model_meant 6 (some .int) 2 g H0 [.ref mo, .int (nI j), .int 0] (some (.int (-2))) := by
  refine MM.of (by decide +kernel) (Nat.le_of_ble_eq_true rfl) ?_
  intro p e s m below meth cd X hH ls hl
  have X : CX g p s m _ meth cd c_Model_meant 6 (some .int) R_Model _ := X
  have hl : lv_has ls 6 [(0, .ref mo), (1, .int (nI j)), (2, .int 0)] := hl
  have hS : va_S (AA (noA) H0) H0 H0 [] := va_S.rf
  have hlt0 := hM.lt
  have htq0 := hM.tq
  obtain ⟨⟨hw3, hw5⟩, hw8, hw81⟩ := hw
  refine lv_iload_n X.x X.b d_Model_meant_0 rfl (lv_at hl 1 rfl) ?_
  refine lv_iconst (v := -1) X.x X.b d_Model_meant_1 (by decide) ?_
  refine lv_icmp_ne (tgt := 7) X.x X.b d_Model_meant_2 (by decide) (fun c1 => ?_) (fun c1 => ?_)
  · skip
    refine lv_iload_n X.x X.b d_Model_meant_7 rfl (lv_at hl 1 rfl) ?_
    refine lv_bipush (v := 8) X.x X.b d_Model_meant_8 (by decide) ?_
    refine lv_icmp_ge (tgt := 78) X.x X.b d_Model_meant_10 (by decide) (fun c2 => ?_) (fun c2 => ?_)
    · skip
      have c2q := Int32.not_lt.mpr c2
      refine lv_iload_n X.x X.b d_Model_meant_78 rfl (lv_at hl 1 rfl) ?_
      refine lv_bipush (v := 9) X.x X.b d_Model_meant_79 (by decide) ?_
      refine lv_icmp_le (tgt := 88) X.x X.b d_Model_meant_81 (by decide) (fun c3 => ?_) (fun c3 => ?_)
      · exact absurd ((nI_leI (a := j) (b := 9) (by omega) (by omega)).mp c3) (by omega)
      · skip
        have c3q := Int32.not_le.mp c3
        refine lv_iconst (v := 1) X.x X.b d_Model_meant_84 (by decide) ?_
        refine lv_goto (tgt := 89) X.x X.b d_Model_meant_85 (by decide) ?_
        refine lv_istore_n (lv' := [(3, .int 1), (0, .ref mo), (1, .int (nI j)), (2, .int 0)]) X.x X.b d_Model_meant_89 rfl hl (by decide) rfl (fun ls hl => ?_)
        refine lv_iload_n X.x X.b d_Model_meant_90 rfl (lv_at hl 0 rfl) ?_
        refine lv_if_eq (tgt := 100) X.x X.b d_Model_meant_91 (by decide) (fun c4 => ?_) (fun c4 => ?_)
        · exact absurd c4 (by decide)
        · skip
          refine lv_iload_n X.x X.b d_Model_meant_94 rfl (lv_at hl 2 rfl) ?_
          refine lv_iconst (v := 2) X.x X.b d_Model_meant_95 (by decide) ?_
          refine lv_isub X.x X.b d_Model_meant_96 ?_
          refine lv_goto (tgt := 101) X.x X.b d_Model_meant_97 (by decide) ?_
          refine lv_istore (lv' := [(4, .int ((nI j) - 2)), (3, .int 1), (0, .ref mo), (1, .int (nI j)), (2, .int 0)]) X.x X.b d_Model_meant_101 hl (by decide) rfl (fun ls hl => ?_)
          refine lv_iload_n X.x X.b d_Model_meant_103 rfl (lv_at hl 4 rfl) ?_
          refine lv_istore (lv' := [(5, .int 0), (4, .int ((nI j) - 2)), (3, .int 1), (0, .ref mo), (1, .int (nI j)), (2, .int 0)]) X.x X.b d_Model_meant_104 hl (by decide) rfl (fun ls hl => ?_)
          refine lv_iload X.x X.b d_Model_meant_106 (lv_at hl 0 rfl) ?_
          refine lv_iconst (v := 0) X.x X.b d_Model_meant_108 (by decide) ?_
          refine lv_aload_n X.x X.b d_Model_meant_109 rfl (lv_at hl 3 rfl) ?_
          refine m_get (v := .int 2) X ok_Model hM.1 5 (by decide) k_Model_132 (congrArg (fun z => some (Value.int z)) (show p0 5 = 2 from (by rw [hw5]))) d_Model_meant_110 ?_
          refine lv_iconst (v := 1) X.x X.b d_Model_meant_113 (by decide) ?_
          refine lv_isub X.x X.b d_Model_meant_114 ?_
          rw [show (2 - 1 : Int32) = 1 from by decide]
          refine m_callSP X hS (MP_ans (M_Model_isIn l g 0 0 1) (show b2i (0 ≤ 0 ∧ 0 ≤ 1) = 1 from by decide)) s_Model_84 rfl rfl (Nat.le_of_ble_eq_true rfl) hl.1 d_Model_meant_115 (by omega) (by decide) ⟨by omega, by omega⟩ (fun locs hS => ?_)
          refine lv_if_eq (tgt := 160) X.x X.b d_Model_meant_118 (by decide) (fun c5 => ?_) (fun c5 => ?_)
          · exact absurd c5 c4
          · skip
            refine lv_aload_n X.x X.b d_Model_meant_121 rfl (lv_at hl 3 rfl) ?_
            refine m_get (v := .ref (mo + 3)) X ok_Model hM.1 8 (by decide) k_Model_16 rfl d_Model_meant_122 ?_
            refine lv_iload X.x X.b d_Model_meant_125 (lv_at hl 0 rfl) ?_
            refine m_ild (v := 2) X hM.a8 0 rfl (by omega) (by decide) (show s0 8 0 = 2 from (by rw [hw8])) d_Model_meant_127 ?_
            refine lv_if_ne (tgt := 143) X.x X.b d_Model_meant_128 (by decide) (fun c6 => ?_) (fun c6 => ?_)
            · skip
              refine lv_iload X.x X.b d_Model_meant_143 (lv_at hl 0 rfl) ?_
              refine lv_iload_n X.x X.b d_Model_meant_145 rfl (lv_at hl 2 rfl) ?_
              refine lv_if_eq (tgt := 153) X.x X.b d_Model_meant_146 (by decide) (fun c7 => ?_) (fun c7 => ?_)
              · exact absurd c7 c5
              · skip
                refine lv_iconst (v := 1) X.x X.b d_Model_meant_149 (by decide) ?_
                refine lv_goto (tgt := 154) X.x X.b d_Model_meant_150 (by decide) ?_
                refine lv_iadd X.x X.b d_Model_meant_154 ?_
                rw [show (0 + 1 : Int32) = 1 from by decide]
                refine lv_istore (lv' := [(5, .int 1), (4, .int ((nI j) - 2)), (3, .int 1), (0, .ref mo), (1, .int (nI j)), (2, .int 0)]) X.x X.b d_Model_meant_155 hl (by decide) rfl (fun ls hl => ?_)
                refine lv_goto (tgt := 106) X.x X.b d_Model_meant_157 (by decide) ?_
                refine lv_iload X.x X.b d_Model_meant_106 (lv_at hl 0 rfl) ?_
                refine lv_iconst (v := 0) X.x X.b d_Model_meant_108 (by decide) ?_
                refine lv_aload_n X.x X.b d_Model_meant_109 rfl (lv_at hl 3 rfl) ?_
                refine m_get (v := .int 2) X ok_Model hM.1 5 (by decide) k_Model_132 (congrArg (fun z => some (Value.int z)) (show p0 5 = 2 from (by rw [hw5]))) d_Model_meant_110 ?_
                refine lv_iconst (v := 1) X.x X.b d_Model_meant_113 (by decide) ?_
                refine lv_isub X.x X.b d_Model_meant_114 ?_
                rw [show (2 - 1 : Int32) = 1 from by decide]
                refine m_callSP X hS (MP_ans (M_Model_isIn l g 1 0 1) (show b2i (0 ≤ 1 ∧ 1 ≤ 1) = 1 from by decide)) s_Model_84 rfl rfl (Nat.le_of_ble_eq_true rfl) hl.1 d_Model_meant_115 (by omega) (by decide) ⟨by omega, by omega⟩ (fun locs hS => ?_)
                refine lv_if_eq (tgt := 160) X.x X.b d_Model_meant_118 (by decide) (fun c8 => ?_) (fun c8 => ?_)
                · exact absurd c8 c7
                · skip
                  refine lv_aload_n X.x X.b d_Model_meant_121 rfl (lv_at hl 3 rfl) ?_
                  refine m_get (v := .ref (mo + 3)) X ok_Model hM.1 8 (by decide) k_Model_16 rfl d_Model_meant_122 ?_
                  refine lv_iload X.x X.b d_Model_meant_125 (lv_at hl 0 rfl) ?_
                  refine m_ild (v := 6) X hM.a8 1 rfl (by omega) (by decide) (show s0 8 1 = 6 from (by rw [hw81])) d_Model_meant_127 ?_
                  refine lv_if_ne (tgt := 143) X.x X.b d_Model_meant_128 (by decide) (fun c9 => ?_) (fun c9 => ?_)
                  · skip
                    refine lv_iload X.x X.b d_Model_meant_143 (lv_at hl 0 rfl) ?_
                    refine lv_iload_n X.x X.b d_Model_meant_145 rfl (lv_at hl 2 rfl) ?_
                    refine lv_if_eq (tgt := 153) X.x X.b d_Model_meant_146 (by decide) (fun c10 => ?_) (fun c10 => ?_)
                    · exact absurd c10 c8
                    · skip
                      refine lv_iconst (v := 1) X.x X.b d_Model_meant_149 (by decide) ?_
                      refine lv_goto (tgt := 154) X.x X.b d_Model_meant_150 (by decide) ?_
                      refine lv_iadd X.x X.b d_Model_meant_154 ?_
                      rw [show (1 + 1 : Int32) = 2 from by decide]
                      refine lv_istore (lv' := [(5, .int 2), (4, .int ((nI j) - 2)), (3, .int 1), (0, .ref mo), (1, .int (nI j)), (2, .int 0)]) X.x X.b d_Model_meant_155 hl (by decide) rfl (fun ls hl => ?_)
                      refine lv_goto (tgt := 106) X.x X.b d_Model_meant_157 (by decide) ?_
                      refine lv_iload X.x X.b d_Model_meant_106 (lv_at hl 0 rfl) ?_
                      refine lv_iconst (v := 0) X.x X.b d_Model_meant_108 (by decide) ?_
                      refine lv_aload_n X.x X.b d_Model_meant_109 rfl (lv_at hl 3 rfl) ?_
                      refine m_get (v := .int 2) X ok_Model hM.1 5 (by decide) k_Model_132 (congrArg (fun z => some (Value.int z)) (show p0 5 = 2 from (by rw [hw5]))) d_Model_meant_110 ?_
                      refine lv_iconst (v := 1) X.x X.b d_Model_meant_113 (by decide) ?_
                      refine lv_isub X.x X.b d_Model_meant_114 ?_
                      rw [show (2 - 1 : Int32) = 1 from by decide]
                      refine m_callSP X hS (MP_ans (M_Model_isIn l g 2 0 1) (show b2i (0 ≤ 2 ∧ 2 ≤ 1) = 0 from by decide)) s_Model_84 rfl rfl (Nat.le_of_ble_eq_true rfl) hl.1 d_Model_meant_115 (by omega) (by decide) ⟨by omega, by omega⟩ (fun locs hS => ?_)
                      refine lv_if_eq (tgt := 160) X.x X.b d_Model_meant_118 (by decide) (fun c11 => ?_) (fun c11 => ?_)
                      · skip
                        refine lv_iload X.x X.b d_Model_meant_160 (lv_at hl 0 rfl) ?_
                        refine lv_iconst (v := 0) X.x X.b d_Model_meant_162 (by decide) ?_
                        refine lv_aload_n X.x X.b d_Model_meant_163 rfl (lv_at hl 3 rfl) ?_
                        refine m_get (v := .int 2) X ok_Model hM.1 5 (by decide) k_Model_132 (congrArg (fun z => some (Value.int z)) (show p0 5 = 2 from (by rw [hw5]))) d_Model_meant_164 ?_
                        refine lv_iconst (v := 1) X.x X.b d_Model_meant_167 (by decide) ?_
                        refine lv_isub X.x X.b d_Model_meant_168 ?_
                        rw [show (2 - 1 : Int32) = 1 from by decide]
                        refine m_callSP X hS (MP_ans (M_Model_isIn l g 2 0 1) (show b2i (0 ≤ 2 ∧ 2 ≤ 1) = 0 from by decide)) s_Model_84 rfl rfl (Nat.le_of_ble_eq_true rfl) hl.1 d_Model_meant_169 (by omega) (by decide) ⟨by omega, by omega⟩ (fun locs hS => ?_)
                        refine lv_if_eq (tgt := 180) X.x X.b d_Model_meant_172 (by decide) (fun c12 => ?_) (fun c12 => ?_)
                        · skip
                          refine lv_bipush (v := -2) X.x X.b d_Model_meant_180 (by decide) ?_
                          exact m_iret X hS (Nat.zero_le _) (Nat.zero_le _) d_Model_meant_182 (congrArg (fun z => some (Value.int z)) (by simp [c1, c2, c2q, c3, c3q, c4, c5, c6, c7, c8, c9, c10, c11, c12])) rfl
                        · exact absurd c11 c12
                      · exact absurd c11 (by decide)
                  · exact absurd c9 (by decide)
            · exact absurd c6 (by decide)
    · exact absurd ((nI_leI (a := 8) (b := j) (by omega) (by omega)).mpr (by omega)) (by assumption)
  · exact absurd c1 (nI_nm1 (by omega))
set_option maxRecDepth 100000 in
set_option maxHeartbeats 4000000 in
theorem M_Model_meant_a3 (l : Launch) (g : GG) {mo tq : Nat} {p0 : Nat → Int32} {s0 : Nat → Nat → Int32} {H0 : Heap} (hM : mAt g mo tq p0 s0 H0) (hw : twoI 3 p0 s0) {j : Nat} (hj : j < 8) (h27 : s0 27 j = -1) : MP l y_Model_meant c_Model_meant 6 (some .int) 2 g H0 [.ref mo, .int (nI j), .int 0] (some (.int (-2))) := by
  refine MM.of (by decide +kernel) (Nat.le_of_ble_eq_true rfl) ?_
  intro p e s m below meth cd X hH ls hl
  have X : CX g p s m _ meth cd c_Model_meant 6 (some .int) R_Model _ := X
  have hl : lv_has ls 6 [(0, .ref mo), (1, .int (nI j)), (2, .int 0)] := hl
  have hS : va_S (AA (noA) H0) H0 H0 [] := va_S.rf
  have hlt0 := hM.lt
  have htq0 := hM.tq
  obtain ⟨⟨hw3, hw5⟩, hw8, hw81⟩ := hw
  refine lv_iload_n X.x X.b d_Model_meant_0 rfl (lv_at hl 1 rfl) ?_
  refine lv_iconst (v := -1) X.x X.b d_Model_meant_1 (by decide) ?_
  refine lv_icmp_ne (tgt := 7) X.x X.b d_Model_meant_2 (by decide) (fun c1 => ?_) (fun c1 => ?_)
  · skip
    refine lv_iload_n X.x X.b d_Model_meant_7 rfl (lv_at hl 1 rfl) ?_
    refine lv_bipush (v := 8) X.x X.b d_Model_meant_8 (by decide) ?_
    refine lv_icmp_ge (tgt := 78) X.x X.b d_Model_meant_10 (by decide) (fun c2 => ?_) (fun c2 => ?_)
    · exact absurd (nI_lt (b := 8) hj (by omega)) (Int32.not_lt.mpr c2)
    · skip
      have c2q := Int32.not_le.mp c2
      refine lv_aload_n X.x X.b d_Model_meant_13 rfl (lv_at hl 0 rfl) ?_
      refine m_get (v := .ref (mo + 22)) X ok_Model hM.1 27 (by decide) k_Model_74 rfl d_Model_meant_14 ?_
      refine lv_iload_n X.x X.b d_Model_meant_17 rfl (lv_at hl 1 rfl) ?_
      refine m_ild (v := (-1)) X hM.a27 j rfl (by omega) (by decide) (show s0 27 j = (-1) from (by rw [h27])) d_Model_meant_18 ?_
      refine lv_iconst (v := -1) X.x X.b d_Model_meant_19 (by decide) ?_
      refine lv_icmp_eq (tgt := 30) X.x X.b d_Model_meant_20 (by decide) (fun c3 => ?_) (fun c3 => ?_)
      · skip
        refine lv_iload_n X.x X.b d_Model_meant_30 rfl (lv_at hl 2 rfl) ?_
        refine lv_iconst (v := 1) X.x X.b d_Model_meant_31 (by decide) ?_
        refine lv_isub X.x X.b d_Model_meant_32 ?_
        rw [show (0 - 1 : Int32) = (-1) from by decide]
        refine lv_istore_n (lv' := [(3, .int (-1)), (0, .ref mo), (1, .int (nI j)), (2, .int 0)]) X.x X.b d_Model_meant_33 rfl hl (by decide) rfl (fun ls hl => ?_)
        refine lv_iload_n X.x X.b d_Model_meant_34 rfl (lv_at hl 0 rfl) ?_
        refine lv_if_lt (tgt := 64) X.x X.b d_Model_meant_35 (by decide) (fun c4 => ?_) (fun c4 => ?_)
        · skip
          have c4q := Int32.not_le.mpr c4
          refine lv_iload_n X.x X.b d_Model_meant_64 rfl (lv_at hl 0 rfl) ?_
          refine lv_if_ge (tgt := 73) X.x X.b d_Model_meant_65 (by decide) (fun c5 => ?_) (fun c5 => ?_)
          · exact absurd c5 (by decide)
          · skip
            have c5q := Int32.not_le.mp c5
            refine lv_bipush (v := -2) X.x X.b d_Model_meant_68 (by decide) ?_
            refine lv_goto (tgt := 77) X.x X.b d_Model_meant_70 (by decide) ?_
            exact m_iret X hS (Nat.zero_le _) (Nat.zero_le _) d_Model_meant_77 (congrArg (fun z => some (Value.int z)) (by simp [c1, c2, c2q, c3, c4, c4q, c5, c5q])) rfl
        · exact absurd c4 (by decide)
      · exact absurd c3 (by decide)
  · exact absurd c1 (nI_nm1 (by omega))
set_option maxRecDepth 100000 in
set_option maxHeartbeats 4000000 in
theorem M_Model_meant_b3 (l : Launch) (g : GG) {mo tq : Nat} {p0 : Nat → Int32} {s0 : Nat → Nat → Int32} {H0 : Heap} (hM : mAt g mo tq p0 s0 H0) (hw : twoI 3 p0 s0) {j : Nat} (hj : 8 ≤ j) (hj9 : j ≤ 9) : MP l y_Model_meant c_Model_meant 6 (some .int) 2 g H0 [.ref mo, .int (nI j), .int 0] (some (.int (-2))) := by
  refine MM.of (by decide +kernel) (Nat.le_of_ble_eq_true rfl) ?_
  intro p e s m below meth cd X hH ls hl
  have X : CX g p s m _ meth cd c_Model_meant 6 (some .int) R_Model _ := X
  have hl : lv_has ls 6 [(0, .ref mo), (1, .int (nI j)), (2, .int 0)] := hl
  have hS : va_S (AA (noA) H0) H0 H0 [] := va_S.rf
  have hlt0 := hM.lt
  have htq0 := hM.tq
  obtain ⟨⟨hw3, hw5⟩, hw8, hw81⟩ := hw
  refine lv_iload_n X.x X.b d_Model_meant_0 rfl (lv_at hl 1 rfl) ?_
  refine lv_iconst (v := -1) X.x X.b d_Model_meant_1 (by decide) ?_
  refine lv_icmp_ne (tgt := 7) X.x X.b d_Model_meant_2 (by decide) (fun c1 => ?_) (fun c1 => ?_)
  · skip
    refine lv_iload_n X.x X.b d_Model_meant_7 rfl (lv_at hl 1 rfl) ?_
    refine lv_bipush (v := 8) X.x X.b d_Model_meant_8 (by decide) ?_
    refine lv_icmp_ge (tgt := 78) X.x X.b d_Model_meant_10 (by decide) (fun c2 => ?_) (fun c2 => ?_)
    · skip
      have c2q := Int32.not_lt.mpr c2
      refine lv_iload_n X.x X.b d_Model_meant_78 rfl (lv_at hl 1 rfl) ?_
      refine lv_bipush (v := 9) X.x X.b d_Model_meant_79 (by decide) ?_
      refine lv_icmp_le (tgt := 88) X.x X.b d_Model_meant_81 (by decide) (fun c3 => ?_) (fun c3 => ?_)
      · skip
        have c3q := Int32.not_lt.mpr c3
        refine lv_iconst (v := 0) X.x X.b d_Model_meant_88 (by decide) ?_
        refine lv_istore_n (lv' := [(3, .int 0), (0, .ref mo), (1, .int (nI j)), (2, .int 0)]) X.x X.b d_Model_meant_89 rfl hl (by decide) rfl (fun ls hl => ?_)
        refine lv_iload_n X.x X.b d_Model_meant_90 rfl (lv_at hl 0 rfl) ?_
        refine lv_if_eq (tgt := 100) X.x X.b d_Model_meant_91 (by decide) (fun c4 => ?_) (fun c4 => ?_)
        · skip
          refine lv_iload_n X.x X.b d_Model_meant_100 rfl (lv_at hl 2 rfl) ?_
          refine lv_istore (lv' := [(4, .int (nI j)), (3, .int 0), (0, .ref mo), (1, .int (nI j)), (2, .int 0)]) X.x X.b d_Model_meant_101 hl (by decide) rfl (fun ls hl => ?_)
          refine lv_iload_n X.x X.b d_Model_meant_103 rfl (lv_at hl 4 rfl) ?_
          refine lv_istore (lv' := [(5, .int 0), (4, .int (nI j)), (3, .int 0), (0, .ref mo), (1, .int (nI j)), (2, .int 0)]) X.x X.b d_Model_meant_104 hl (by decide) rfl (fun ls hl => ?_)
          refine lv_iload X.x X.b d_Model_meant_106 (lv_at hl 0 rfl) ?_
          refine lv_iconst (v := 0) X.x X.b d_Model_meant_108 (by decide) ?_
          refine lv_aload_n X.x X.b d_Model_meant_109 rfl (lv_at hl 3 rfl) ?_
          refine m_get (v := .int 2) X ok_Model hM.1 5 (by decide) k_Model_132 (congrArg (fun z => some (Value.int z)) (show p0 5 = 2 from (by rw [hw5]))) d_Model_meant_110 ?_
          refine lv_iconst (v := 1) X.x X.b d_Model_meant_113 (by decide) ?_
          refine lv_isub X.x X.b d_Model_meant_114 ?_
          rw [show (2 - 1 : Int32) = 1 from by decide]
          refine m_callSP X hS (MP_ans (M_Model_isIn l g 0 0 1) (show b2i (0 ≤ 0 ∧ 0 ≤ 1) = 1 from by decide)) s_Model_84 rfl rfl (Nat.le_of_ble_eq_true rfl) hl.1 d_Model_meant_115 (by omega) (by decide) ⟨by omega, by omega⟩ (fun locs hS => ?_)
          refine lv_if_eq (tgt := 160) X.x X.b d_Model_meant_118 (by decide) (fun c5 => ?_) (fun c5 => ?_)
          · exact absurd c5 (by decide)
          · skip
            refine lv_aload_n X.x X.b d_Model_meant_121 rfl (lv_at hl 3 rfl) ?_
            refine m_get (v := .ref (mo + 3)) X ok_Model hM.1 8 (by decide) k_Model_16 rfl d_Model_meant_122 ?_
            refine lv_iload X.x X.b d_Model_meant_125 (lv_at hl 0 rfl) ?_
            refine m_ild (v := 3) X hM.a8 0 rfl (by omega) (by decide) (show s0 8 0 = 3 from (by rw [hw8])) d_Model_meant_127 ?_
            refine lv_if_ne (tgt := 143) X.x X.b d_Model_meant_128 (by decide) (fun c6 => ?_) (fun c6 => ?_)
            · skip
              refine lv_iload X.x X.b d_Model_meant_143 (lv_at hl 0 rfl) ?_
              refine lv_iload_n X.x X.b d_Model_meant_145 rfl (lv_at hl 2 rfl) ?_
              refine lv_if_eq (tgt := 153) X.x X.b d_Model_meant_146 (by decide) (fun c7 => ?_) (fun c7 => ?_)
              · skip
                refine lv_iconst (v := -1) X.x X.b d_Model_meant_153 (by decide) ?_
                refine lv_iadd X.x X.b d_Model_meant_154 ?_
                rw [show (0 + (-1) : Int32) = (-1) from by decide]
                refine lv_istore (lv' := [(5, .int (-1)), (4, .int (nI j)), (3, .int 0), (0, .ref mo), (1, .int (nI j)), (2, .int 0)]) X.x X.b d_Model_meant_155 hl (by decide) rfl (fun ls hl => ?_)
                refine lv_goto (tgt := 106) X.x X.b d_Model_meant_157 (by decide) ?_
                refine lv_iload X.x X.b d_Model_meant_106 (lv_at hl 0 rfl) ?_
                refine lv_iconst (v := 0) X.x X.b d_Model_meant_108 (by decide) ?_
                refine lv_aload_n X.x X.b d_Model_meant_109 rfl (lv_at hl 3 rfl) ?_
                refine m_get (v := .int 2) X ok_Model hM.1 5 (by decide) k_Model_132 (congrArg (fun z => some (Value.int z)) (show p0 5 = 2 from (by rw [hw5]))) d_Model_meant_110 ?_
                refine lv_iconst (v := 1) X.x X.b d_Model_meant_113 (by decide) ?_
                refine lv_isub X.x X.b d_Model_meant_114 ?_
                rw [show (2 - 1 : Int32) = 1 from by decide]
                refine m_callSP X hS (MP_ans (M_Model_isIn l g (-1) 0 1) (show b2i (0 ≤ (-1) ∧ (-1) ≤ 1) = 0 from by decide)) s_Model_84 rfl rfl (Nat.le_of_ble_eq_true rfl) hl.1 d_Model_meant_115 (by omega) (by decide) ⟨by omega, by omega⟩ (fun locs hS => ?_)
                refine lv_if_eq (tgt := 160) X.x X.b d_Model_meant_118 (by decide) (fun c8 => ?_) (fun c8 => ?_)
                · skip
                  refine lv_iload X.x X.b d_Model_meant_160 (lv_at hl 0 rfl) ?_
                  refine lv_iconst (v := 0) X.x X.b d_Model_meant_162 (by decide) ?_
                  refine lv_aload_n X.x X.b d_Model_meant_163 rfl (lv_at hl 3 rfl) ?_
                  refine m_get (v := .int 2) X ok_Model hM.1 5 (by decide) k_Model_132 (congrArg (fun z => some (Value.int z)) (show p0 5 = 2 from (by rw [hw5]))) d_Model_meant_164 ?_
                  refine lv_iconst (v := 1) X.x X.b d_Model_meant_167 (by decide) ?_
                  refine lv_isub X.x X.b d_Model_meant_168 ?_
                  rw [show (2 - 1 : Int32) = 1 from by decide]
                  refine m_callSP X hS (MP_ans (M_Model_isIn l g (-1) 0 1) (show b2i (0 ≤ (-1) ∧ (-1) ≤ 1) = 0 from by decide)) s_Model_84 rfl rfl (Nat.le_of_ble_eq_true rfl) hl.1 d_Model_meant_169 (by omega) (by decide) ⟨by omega, by omega⟩ (fun locs hS => ?_)
                  refine lv_if_eq (tgt := 180) X.x X.b d_Model_meant_172 (by decide) (fun c9 => ?_) (fun c9 => ?_)
                  · skip
                    refine lv_bipush (v := -2) X.x X.b d_Model_meant_180 (by decide) ?_
                    exact m_iret X hS (Nat.zero_le _) (Nat.zero_le _) d_Model_meant_182 (congrArg (fun z => some (Value.int z)) (by simp [c1, c2, c2q, c3, c3q, c4, c5, c6, c7, c8, c9])) rfl
                  · exact absurd c8 c9
                · exact absurd c7 c8
              · exact absurd c4 c7
            · exact absurd c6 (by decide)
        · exact absurd c4 (by decide)
      · exact absurd ((nI_leI (a := j) (b := 9) (by omega) (by omega)).mpr hj9) c3
    · exact absurd ((nI_leI (a := 8) (b := j) (by omega) (by omega)).mpr hj) (by assumption)
  · exact absurd c1 (nI_nm1 (by omega))
set_option maxRecDepth 100000 in
set_option maxHeartbeats 4000000 in
theorem M_Model_meant_c3 (l : Launch) (g : GG) {mo tq : Nat} {p0 : Nat → Int32} {s0 : Nat → Nat → Int32} {H0 : Heap} (hM : mAt g mo tq p0 s0 H0) (hw : twoI 3 p0 s0) {j : Nat} (hj : 10 ≤ j) (hj9 : j ≤ 11) : MP l y_Model_meant c_Model_meant 6 (some .int) 2 g H0 [.ref mo, .int (nI j), .int 0] (some (.int (-2))) := by
  refine MM.of (by decide +kernel) (Nat.le_of_ble_eq_true rfl) ?_
  intro p e s m below meth cd X hH ls hl
  have X : CX g p s m _ meth cd c_Model_meant 6 (some .int) R_Model _ := X
  have hl : lv_has ls 6 [(0, .ref mo), (1, .int (nI j)), (2, .int 0)] := hl
  have hS : va_S (AA (noA) H0) H0 H0 [] := va_S.rf
  have hlt0 := hM.lt
  have htq0 := hM.tq
  obtain ⟨⟨hw3, hw5⟩, hw8, hw81⟩ := hw
  refine lv_iload_n X.x X.b d_Model_meant_0 rfl (lv_at hl 1 rfl) ?_
  refine lv_iconst (v := -1) X.x X.b d_Model_meant_1 (by decide) ?_
  refine lv_icmp_ne (tgt := 7) X.x X.b d_Model_meant_2 (by decide) (fun c1 => ?_) (fun c1 => ?_)
  · skip
    refine lv_iload_n X.x X.b d_Model_meant_7 rfl (lv_at hl 1 rfl) ?_
    refine lv_bipush (v := 8) X.x X.b d_Model_meant_8 (by decide) ?_
    refine lv_icmp_ge (tgt := 78) X.x X.b d_Model_meant_10 (by decide) (fun c2 => ?_) (fun c2 => ?_)
    · skip
      have c2q := Int32.not_lt.mpr c2
      refine lv_iload_n X.x X.b d_Model_meant_78 rfl (lv_at hl 1 rfl) ?_
      refine lv_bipush (v := 9) X.x X.b d_Model_meant_79 (by decide) ?_
      refine lv_icmp_le (tgt := 88) X.x X.b d_Model_meant_81 (by decide) (fun c3 => ?_) (fun c3 => ?_)
      · exact absurd ((nI_leI (a := j) (b := 9) (by omega) (by omega)).mp c3) (by omega)
      · skip
        have c3q := Int32.not_le.mp c3
        refine lv_iconst (v := 1) X.x X.b d_Model_meant_84 (by decide) ?_
        refine lv_goto (tgt := 89) X.x X.b d_Model_meant_85 (by decide) ?_
        refine lv_istore_n (lv' := [(3, .int 1), (0, .ref mo), (1, .int (nI j)), (2, .int 0)]) X.x X.b d_Model_meant_89 rfl hl (by decide) rfl (fun ls hl => ?_)
        refine lv_iload_n X.x X.b d_Model_meant_90 rfl (lv_at hl 0 rfl) ?_
        refine lv_if_eq (tgt := 100) X.x X.b d_Model_meant_91 (by decide) (fun c4 => ?_) (fun c4 => ?_)
        · exact absurd c4 (by decide)
        · skip
          refine lv_iload_n X.x X.b d_Model_meant_94 rfl (lv_at hl 2 rfl) ?_
          refine lv_iconst (v := 2) X.x X.b d_Model_meant_95 (by decide) ?_
          refine lv_isub X.x X.b d_Model_meant_96 ?_
          refine lv_goto (tgt := 101) X.x X.b d_Model_meant_97 (by decide) ?_
          refine lv_istore (lv' := [(4, .int ((nI j) - 2)), (3, .int 1), (0, .ref mo), (1, .int (nI j)), (2, .int 0)]) X.x X.b d_Model_meant_101 hl (by decide) rfl (fun ls hl => ?_)
          refine lv_iload_n X.x X.b d_Model_meant_103 rfl (lv_at hl 4 rfl) ?_
          refine lv_istore (lv' := [(5, .int 0), (4, .int ((nI j) - 2)), (3, .int 1), (0, .ref mo), (1, .int (nI j)), (2, .int 0)]) X.x X.b d_Model_meant_104 hl (by decide) rfl (fun ls hl => ?_)
          refine lv_iload X.x X.b d_Model_meant_106 (lv_at hl 0 rfl) ?_
          refine lv_iconst (v := 0) X.x X.b d_Model_meant_108 (by decide) ?_
          refine lv_aload_n X.x X.b d_Model_meant_109 rfl (lv_at hl 3 rfl) ?_
          refine m_get (v := .int 2) X ok_Model hM.1 5 (by decide) k_Model_132 (congrArg (fun z => some (Value.int z)) (show p0 5 = 2 from (by rw [hw5]))) d_Model_meant_110 ?_
          refine lv_iconst (v := 1) X.x X.b d_Model_meant_113 (by decide) ?_
          refine lv_isub X.x X.b d_Model_meant_114 ?_
          rw [show (2 - 1 : Int32) = 1 from by decide]
          refine m_callSP X hS (MP_ans (M_Model_isIn l g 0 0 1) (show b2i (0 ≤ 0 ∧ 0 ≤ 1) = 1 from by decide)) s_Model_84 rfl rfl (Nat.le_of_ble_eq_true rfl) hl.1 d_Model_meant_115 (by omega) (by decide) ⟨by omega, by omega⟩ (fun locs hS => ?_)
          refine lv_if_eq (tgt := 160) X.x X.b d_Model_meant_118 (by decide) (fun c5 => ?_) (fun c5 => ?_)
          · exact absurd c5 c4
          · skip
            refine lv_aload_n X.x X.b d_Model_meant_121 rfl (lv_at hl 3 rfl) ?_
            refine m_get (v := .ref (mo + 3)) X ok_Model hM.1 8 (by decide) k_Model_16 rfl d_Model_meant_122 ?_
            refine lv_iload X.x X.b d_Model_meant_125 (lv_at hl 0 rfl) ?_
            refine m_ild (v := 3) X hM.a8 0 rfl (by omega) (by decide) (show s0 8 0 = 3 from (by rw [hw8])) d_Model_meant_127 ?_
            refine lv_if_ne (tgt := 143) X.x X.b d_Model_meant_128 (by decide) (fun c6 => ?_) (fun c6 => ?_)
            · skip
              refine lv_iload X.x X.b d_Model_meant_143 (lv_at hl 0 rfl) ?_
              refine lv_iload_n X.x X.b d_Model_meant_145 rfl (lv_at hl 2 rfl) ?_
              refine lv_if_eq (tgt := 153) X.x X.b d_Model_meant_146 (by decide) (fun c7 => ?_) (fun c7 => ?_)
              · exact absurd c7 c5
              · skip
                refine lv_iconst (v := 1) X.x X.b d_Model_meant_149 (by decide) ?_
                refine lv_goto (tgt := 154) X.x X.b d_Model_meant_150 (by decide) ?_
                refine lv_iadd X.x X.b d_Model_meant_154 ?_
                rw [show (0 + 1 : Int32) = 1 from by decide]
                refine lv_istore (lv' := [(5, .int 1), (4, .int ((nI j) - 2)), (3, .int 1), (0, .ref mo), (1, .int (nI j)), (2, .int 0)]) X.x X.b d_Model_meant_155 hl (by decide) rfl (fun ls hl => ?_)
                refine lv_goto (tgt := 106) X.x X.b d_Model_meant_157 (by decide) ?_
                refine lv_iload X.x X.b d_Model_meant_106 (lv_at hl 0 rfl) ?_
                refine lv_iconst (v := 0) X.x X.b d_Model_meant_108 (by decide) ?_
                refine lv_aload_n X.x X.b d_Model_meant_109 rfl (lv_at hl 3 rfl) ?_
                refine m_get (v := .int 2) X ok_Model hM.1 5 (by decide) k_Model_132 (congrArg (fun z => some (Value.int z)) (show p0 5 = 2 from (by rw [hw5]))) d_Model_meant_110 ?_
                refine lv_iconst (v := 1) X.x X.b d_Model_meant_113 (by decide) ?_
                refine lv_isub X.x X.b d_Model_meant_114 ?_
                rw [show (2 - 1 : Int32) = 1 from by decide]
                refine m_callSP X hS (MP_ans (M_Model_isIn l g 1 0 1) (show b2i (0 ≤ 1 ∧ 1 ≤ 1) = 1 from by decide)) s_Model_84 rfl rfl (Nat.le_of_ble_eq_true rfl) hl.1 d_Model_meant_115 (by omega) (by decide) ⟨by omega, by omega⟩ (fun locs hS => ?_)
                refine lv_if_eq (tgt := 160) X.x X.b d_Model_meant_118 (by decide) (fun c8 => ?_) (fun c8 => ?_)
                · exact absurd c8 c7
                · skip
                  refine lv_aload_n X.x X.b d_Model_meant_121 rfl (lv_at hl 3 rfl) ?_
                  refine m_get (v := .ref (mo + 3)) X ok_Model hM.1 8 (by decide) k_Model_16 rfl d_Model_meant_122 ?_
                  refine lv_iload X.x X.b d_Model_meant_125 (lv_at hl 0 rfl) ?_
                  refine m_ild (v := 6) X hM.a8 1 rfl (by omega) (by decide) (show s0 8 1 = 6 from (by rw [hw81])) d_Model_meant_127 ?_
                  refine lv_if_ne (tgt := 143) X.x X.b d_Model_meant_128 (by decide) (fun c9 => ?_) (fun c9 => ?_)
                  · skip
                    refine lv_iload X.x X.b d_Model_meant_143 (lv_at hl 0 rfl) ?_
                    refine lv_iload_n X.x X.b d_Model_meant_145 rfl (lv_at hl 2 rfl) ?_
                    refine lv_if_eq (tgt := 153) X.x X.b d_Model_meant_146 (by decide) (fun c10 => ?_) (fun c10 => ?_)
                    · exact absurd c10 c8
                    · skip
                      refine lv_iconst (v := 1) X.x X.b d_Model_meant_149 (by decide) ?_
                      refine lv_goto (tgt := 154) X.x X.b d_Model_meant_150 (by decide) ?_
                      refine lv_iadd X.x X.b d_Model_meant_154 ?_
                      rw [show (1 + 1 : Int32) = 2 from by decide]
                      refine lv_istore (lv' := [(5, .int 2), (4, .int ((nI j) - 2)), (3, .int 1), (0, .ref mo), (1, .int (nI j)), (2, .int 0)]) X.x X.b d_Model_meant_155 hl (by decide) rfl (fun ls hl => ?_)
                      refine lv_goto (tgt := 106) X.x X.b d_Model_meant_157 (by decide) ?_
                      refine lv_iload X.x X.b d_Model_meant_106 (lv_at hl 0 rfl) ?_
                      refine lv_iconst (v := 0) X.x X.b d_Model_meant_108 (by decide) ?_
                      refine lv_aload_n X.x X.b d_Model_meant_109 rfl (lv_at hl 3 rfl) ?_
                      refine m_get (v := .int 2) X ok_Model hM.1 5 (by decide) k_Model_132 (congrArg (fun z => some (Value.int z)) (show p0 5 = 2 from (by rw [hw5]))) d_Model_meant_110 ?_
                      refine lv_iconst (v := 1) X.x X.b d_Model_meant_113 (by decide) ?_
                      refine lv_isub X.x X.b d_Model_meant_114 ?_
                      rw [show (2 - 1 : Int32) = 1 from by decide]
                      refine m_callSP X hS (MP_ans (M_Model_isIn l g 2 0 1) (show b2i (0 ≤ 2 ∧ 2 ≤ 1) = 0 from by decide)) s_Model_84 rfl rfl (Nat.le_of_ble_eq_true rfl) hl.1 d_Model_meant_115 (by omega) (by decide) ⟨by omega, by omega⟩ (fun locs hS => ?_)
                      refine lv_if_eq (tgt := 160) X.x X.b d_Model_meant_118 (by decide) (fun c11 => ?_) (fun c11 => ?_)
                      · skip
                        refine lv_iload X.x X.b d_Model_meant_160 (lv_at hl 0 rfl) ?_
                        refine lv_iconst (v := 0) X.x X.b d_Model_meant_162 (by decide) ?_
                        refine lv_aload_n X.x X.b d_Model_meant_163 rfl (lv_at hl 3 rfl) ?_
                        refine m_get (v := .int 2) X ok_Model hM.1 5 (by decide) k_Model_132 (congrArg (fun z => some (Value.int z)) (show p0 5 = 2 from (by rw [hw5]))) d_Model_meant_164 ?_
                        refine lv_iconst (v := 1) X.x X.b d_Model_meant_167 (by decide) ?_
                        refine lv_isub X.x X.b d_Model_meant_168 ?_
                        rw [show (2 - 1 : Int32) = 1 from by decide]
                        refine m_callSP X hS (MP_ans (M_Model_isIn l g 2 0 1) (show b2i (0 ≤ 2 ∧ 2 ≤ 1) = 0 from by decide)) s_Model_84 rfl rfl (Nat.le_of_ble_eq_true rfl) hl.1 d_Model_meant_169 (by omega) (by decide) ⟨by omega, by omega⟩ (fun locs hS => ?_)
                        refine lv_if_eq (tgt := 180) X.x X.b d_Model_meant_172 (by decide) (fun c12 => ?_) (fun c12 => ?_)
                        · skip
                          refine lv_bipush (v := -2) X.x X.b d_Model_meant_180 (by decide) ?_
                          exact m_iret X hS (Nat.zero_le _) (Nat.zero_le _) d_Model_meant_182 (congrArg (fun z => some (Value.int z)) (by simp [c1, c2, c2q, c3, c3q, c4, c5, c6, c7, c8, c9, c10, c11, c12])) rfl
                        · exact absurd c11 c12
                      · exact absurd c11 (by decide)
                  · exact absurd c9 (by decide)
            · exact absurd c6 (by decide)
    · exact absurd ((nI_leI (a := 8) (b := j) (by omega) (by omega)).mpr (by omega)) (by assumption)
  · exact absurd c1 (nI_nm1 (by omega))
set_option maxRecDepth 100000 in
set_option maxHeartbeats 4000000 in
theorem M_Model_meant_a4 (l : Launch) (g : GG) {mo tq : Nat} {p0 : Nat → Int32} {s0 : Nat → Nat → Int32} {H0 : Heap} (hM : mAt g mo tq p0 s0 H0) (hw : twoI 4 p0 s0) {j : Nat} (hj : j < 8) (h27 : s0 27 j = -1) : MP l y_Model_meant c_Model_meant 6 (some .int) 2 g H0 [.ref mo, .int (nI j), .int 0] (some (.int (-2))) := by
  refine MM.of (by decide +kernel) (Nat.le_of_ble_eq_true rfl) ?_
  intro p e s m below meth cd X hH ls hl
  have X : CX g p s m _ meth cd c_Model_meant 6 (some .int) R_Model _ := X
  have hl : lv_has ls 6 [(0, .ref mo), (1, .int (nI j)), (2, .int 0)] := hl
  have hS : va_S (AA (noA) H0) H0 H0 [] := va_S.rf
  have hlt0 := hM.lt
  have htq0 := hM.tq
  obtain ⟨⟨hw3, hw5⟩, hw8, hw81⟩ := hw
  refine lv_iload_n X.x X.b d_Model_meant_0 rfl (lv_at hl 1 rfl) ?_
  refine lv_iconst (v := -1) X.x X.b d_Model_meant_1 (by decide) ?_
  refine lv_icmp_ne (tgt := 7) X.x X.b d_Model_meant_2 (by decide) (fun c1 => ?_) (fun c1 => ?_)
  · skip
    refine lv_iload_n X.x X.b d_Model_meant_7 rfl (lv_at hl 1 rfl) ?_
    refine lv_bipush (v := 8) X.x X.b d_Model_meant_8 (by decide) ?_
    refine lv_icmp_ge (tgt := 78) X.x X.b d_Model_meant_10 (by decide) (fun c2 => ?_) (fun c2 => ?_)
    · exact absurd (nI_lt (b := 8) hj (by omega)) (Int32.not_lt.mpr c2)
    · skip
      have c2q := Int32.not_le.mp c2
      refine lv_aload_n X.x X.b d_Model_meant_13 rfl (lv_at hl 0 rfl) ?_
      refine m_get (v := .ref (mo + 22)) X ok_Model hM.1 27 (by decide) k_Model_74 rfl d_Model_meant_14 ?_
      refine lv_iload_n X.x X.b d_Model_meant_17 rfl (lv_at hl 1 rfl) ?_
      refine m_ild (v := (-1)) X hM.a27 j rfl (by omega) (by decide) (show s0 27 j = (-1) from (by rw [h27])) d_Model_meant_18 ?_
      refine lv_iconst (v := -1) X.x X.b d_Model_meant_19 (by decide) ?_
      refine lv_icmp_eq (tgt := 30) X.x X.b d_Model_meant_20 (by decide) (fun c3 => ?_) (fun c3 => ?_)
      · skip
        refine lv_iload_n X.x X.b d_Model_meant_30 rfl (lv_at hl 2 rfl) ?_
        refine lv_iconst (v := 1) X.x X.b d_Model_meant_31 (by decide) ?_
        refine lv_isub X.x X.b d_Model_meant_32 ?_
        rw [show (0 - 1 : Int32) = (-1) from by decide]
        refine lv_istore_n (lv' := [(3, .int (-1)), (0, .ref mo), (1, .int (nI j)), (2, .int 0)]) X.x X.b d_Model_meant_33 rfl hl (by decide) rfl (fun ls hl => ?_)
        refine lv_iload_n X.x X.b d_Model_meant_34 rfl (lv_at hl 0 rfl) ?_
        refine lv_if_lt (tgt := 64) X.x X.b d_Model_meant_35 (by decide) (fun c4 => ?_) (fun c4 => ?_)
        · skip
          have c4q := Int32.not_le.mpr c4
          refine lv_iload_n X.x X.b d_Model_meant_64 rfl (lv_at hl 0 rfl) ?_
          refine lv_if_ge (tgt := 73) X.x X.b d_Model_meant_65 (by decide) (fun c5 => ?_) (fun c5 => ?_)
          · exact absurd c5 (by decide)
          · skip
            have c5q := Int32.not_le.mp c5
            refine lv_bipush (v := -2) X.x X.b d_Model_meant_68 (by decide) ?_
            refine lv_goto (tgt := 77) X.x X.b d_Model_meant_70 (by decide) ?_
            exact m_iret X hS (Nat.zero_le _) (Nat.zero_le _) d_Model_meant_77 (congrArg (fun z => some (Value.int z)) (by simp [c1, c2, c2q, c3, c4, c4q, c5, c5q])) rfl
        · exact absurd c4 (by decide)
      · exact absurd c3 (by decide)
  · exact absurd c1 (nI_nm1 (by omega))
set_option maxRecDepth 100000 in
set_option maxHeartbeats 4000000 in
theorem M_Model_meant_b4 (l : Launch) (g : GG) {mo tq : Nat} {p0 : Nat → Int32} {s0 : Nat → Nat → Int32} {H0 : Heap} (hM : mAt g mo tq p0 s0 H0) (hw : twoI 4 p0 s0) {j : Nat} (hj : 8 ≤ j) (hj9 : j ≤ 9) : MP l y_Model_meant c_Model_meant 6 (some .int) 2 g H0 [.ref mo, .int (nI j), .int 0] (some (.int (-2))) := by
  refine MM.of (by decide +kernel) (Nat.le_of_ble_eq_true rfl) ?_
  intro p e s m below meth cd X hH ls hl
  have X : CX g p s m _ meth cd c_Model_meant 6 (some .int) R_Model _ := X
  have hl : lv_has ls 6 [(0, .ref mo), (1, .int (nI j)), (2, .int 0)] := hl
  have hS : va_S (AA (noA) H0) H0 H0 [] := va_S.rf
  have hlt0 := hM.lt
  have htq0 := hM.tq
  obtain ⟨⟨hw3, hw5⟩, hw8, hw81⟩ := hw
  refine lv_iload_n X.x X.b d_Model_meant_0 rfl (lv_at hl 1 rfl) ?_
  refine lv_iconst (v := -1) X.x X.b d_Model_meant_1 (by decide) ?_
  refine lv_icmp_ne (tgt := 7) X.x X.b d_Model_meant_2 (by decide) (fun c1 => ?_) (fun c1 => ?_)
  · skip
    refine lv_iload_n X.x X.b d_Model_meant_7 rfl (lv_at hl 1 rfl) ?_
    refine lv_bipush (v := 8) X.x X.b d_Model_meant_8 (by decide) ?_
    refine lv_icmp_ge (tgt := 78) X.x X.b d_Model_meant_10 (by decide) (fun c2 => ?_) (fun c2 => ?_)
    · skip
      have c2q := Int32.not_lt.mpr c2
      refine lv_iload_n X.x X.b d_Model_meant_78 rfl (lv_at hl 1 rfl) ?_
      refine lv_bipush (v := 9) X.x X.b d_Model_meant_79 (by decide) ?_
      refine lv_icmp_le (tgt := 88) X.x X.b d_Model_meant_81 (by decide) (fun c3 => ?_) (fun c3 => ?_)
      · skip
        have c3q := Int32.not_lt.mpr c3
        refine lv_iconst (v := 0) X.x X.b d_Model_meant_88 (by decide) ?_
        refine lv_istore_n (lv' := [(3, .int 0), (0, .ref mo), (1, .int (nI j)), (2, .int 0)]) X.x X.b d_Model_meant_89 rfl hl (by decide) rfl (fun ls hl => ?_)
        refine lv_iload_n X.x X.b d_Model_meant_90 rfl (lv_at hl 0 rfl) ?_
        refine lv_if_eq (tgt := 100) X.x X.b d_Model_meant_91 (by decide) (fun c4 => ?_) (fun c4 => ?_)
        · skip
          refine lv_iload_n X.x X.b d_Model_meant_100 rfl (lv_at hl 2 rfl) ?_
          refine lv_istore (lv' := [(4, .int (nI j)), (3, .int 0), (0, .ref mo), (1, .int (nI j)), (2, .int 0)]) X.x X.b d_Model_meant_101 hl (by decide) rfl (fun ls hl => ?_)
          refine lv_iload_n X.x X.b d_Model_meant_103 rfl (lv_at hl 4 rfl) ?_
          refine lv_istore (lv' := [(5, .int 0), (4, .int (nI j)), (3, .int 0), (0, .ref mo), (1, .int (nI j)), (2, .int 0)]) X.x X.b d_Model_meant_104 hl (by decide) rfl (fun ls hl => ?_)
          refine lv_iload X.x X.b d_Model_meant_106 (lv_at hl 0 rfl) ?_
          refine lv_iconst (v := 0) X.x X.b d_Model_meant_108 (by decide) ?_
          refine lv_aload_n X.x X.b d_Model_meant_109 rfl (lv_at hl 3 rfl) ?_
          refine m_get (v := .int 2) X ok_Model hM.1 5 (by decide) k_Model_132 (congrArg (fun z => some (Value.int z)) (show p0 5 = 2 from (by rw [hw5]))) d_Model_meant_110 ?_
          refine lv_iconst (v := 1) X.x X.b d_Model_meant_113 (by decide) ?_
          refine lv_isub X.x X.b d_Model_meant_114 ?_
          rw [show (2 - 1 : Int32) = 1 from by decide]
          refine m_callSP X hS (MP_ans (M_Model_isIn l g 0 0 1) (show b2i (0 ≤ 0 ∧ 0 ≤ 1) = 1 from by decide)) s_Model_84 rfl rfl (Nat.le_of_ble_eq_true rfl) hl.1 d_Model_meant_115 (by omega) (by decide) ⟨by omega, by omega⟩ (fun locs hS => ?_)
          refine lv_if_eq (tgt := 160) X.x X.b d_Model_meant_118 (by decide) (fun c5 => ?_) (fun c5 => ?_)
          · exact absurd c5 (by decide)
          · skip
            refine lv_aload_n X.x X.b d_Model_meant_121 rfl (lv_at hl 3 rfl) ?_
            refine m_get (v := .ref (mo + 3)) X ok_Model hM.1 8 (by decide) k_Model_16 rfl d_Model_meant_122 ?_
            refine lv_iload X.x X.b d_Model_meant_125 (lv_at hl 0 rfl) ?_
            refine m_ild (v := 4) X hM.a8 0 rfl (by omega) (by decide) (show s0 8 0 = 4 from (by rw [hw8])) d_Model_meant_127 ?_
            refine lv_if_ne (tgt := 143) X.x X.b d_Model_meant_128 (by decide) (fun c6 => ?_) (fun c6 => ?_)
            · skip
              refine lv_iload X.x X.b d_Model_meant_143 (lv_at hl 0 rfl) ?_
              refine lv_iload_n X.x X.b d_Model_meant_145 rfl (lv_at hl 2 rfl) ?_
              refine lv_if_eq (tgt := 153) X.x X.b d_Model_meant_146 (by decide) (fun c7 => ?_) (fun c7 => ?_)
              · skip
                refine lv_iconst (v := -1) X.x X.b d_Model_meant_153 (by decide) ?_
                refine lv_iadd X.x X.b d_Model_meant_154 ?_
                rw [show (0 + (-1) : Int32) = (-1) from by decide]
                refine lv_istore (lv' := [(5, .int (-1)), (4, .int (nI j)), (3, .int 0), (0, .ref mo), (1, .int (nI j)), (2, .int 0)]) X.x X.b d_Model_meant_155 hl (by decide) rfl (fun ls hl => ?_)
                refine lv_goto (tgt := 106) X.x X.b d_Model_meant_157 (by decide) ?_
                refine lv_iload X.x X.b d_Model_meant_106 (lv_at hl 0 rfl) ?_
                refine lv_iconst (v := 0) X.x X.b d_Model_meant_108 (by decide) ?_
                refine lv_aload_n X.x X.b d_Model_meant_109 rfl (lv_at hl 3 rfl) ?_
                refine m_get (v := .int 2) X ok_Model hM.1 5 (by decide) k_Model_132 (congrArg (fun z => some (Value.int z)) (show p0 5 = 2 from (by rw [hw5]))) d_Model_meant_110 ?_
                refine lv_iconst (v := 1) X.x X.b d_Model_meant_113 (by decide) ?_
                refine lv_isub X.x X.b d_Model_meant_114 ?_
                rw [show (2 - 1 : Int32) = 1 from by decide]
                refine m_callSP X hS (MP_ans (M_Model_isIn l g (-1) 0 1) (show b2i (0 ≤ (-1) ∧ (-1) ≤ 1) = 0 from by decide)) s_Model_84 rfl rfl (Nat.le_of_ble_eq_true rfl) hl.1 d_Model_meant_115 (by omega) (by decide) ⟨by omega, by omega⟩ (fun locs hS => ?_)
                refine lv_if_eq (tgt := 160) X.x X.b d_Model_meant_118 (by decide) (fun c8 => ?_) (fun c8 => ?_)
                · skip
                  refine lv_iload X.x X.b d_Model_meant_160 (lv_at hl 0 rfl) ?_
                  refine lv_iconst (v := 0) X.x X.b d_Model_meant_162 (by decide) ?_
                  refine lv_aload_n X.x X.b d_Model_meant_163 rfl (lv_at hl 3 rfl) ?_
                  refine m_get (v := .int 2) X ok_Model hM.1 5 (by decide) k_Model_132 (congrArg (fun z => some (Value.int z)) (show p0 5 = 2 from (by rw [hw5]))) d_Model_meant_164 ?_
                  refine lv_iconst (v := 1) X.x X.b d_Model_meant_167 (by decide) ?_
                  refine lv_isub X.x X.b d_Model_meant_168 ?_
                  rw [show (2 - 1 : Int32) = 1 from by decide]
                  refine m_callSP X hS (MP_ans (M_Model_isIn l g (-1) 0 1) (show b2i (0 ≤ (-1) ∧ (-1) ≤ 1) = 0 from by decide)) s_Model_84 rfl rfl (Nat.le_of_ble_eq_true rfl) hl.1 d_Model_meant_169 (by omega) (by decide) ⟨by omega, by omega⟩ (fun locs hS => ?_)
                  refine lv_if_eq (tgt := 180) X.x X.b d_Model_meant_172 (by decide) (fun c9 => ?_) (fun c9 => ?_)
                  · skip
                    refine lv_bipush (v := -2) X.x X.b d_Model_meant_180 (by decide) ?_
                    exact m_iret X hS (Nat.zero_le _) (Nat.zero_le _) d_Model_meant_182 (congrArg (fun z => some (Value.int z)) (by simp [c1, c2, c2q, c3, c3q, c4, c5, c6, c7, c8, c9])) rfl
                  · exact absurd c8 c9
                · exact absurd c7 c8
              · exact absurd c4 c7
            · exact absurd c6 (by decide)
        · exact absurd c4 (by decide)
      · exact absurd ((nI_leI (a := j) (b := 9) (by omega) (by omega)).mpr hj9) c3
    · exact absurd ((nI_leI (a := 8) (b := j) (by omega) (by omega)).mpr hj) (by assumption)
  · exact absurd c1 (nI_nm1 (by omega))
set_option maxRecDepth 100000 in
set_option maxHeartbeats 4000000 in
theorem M_Model_meant_c4 (l : Launch) (g : GG) {mo tq : Nat} {p0 : Nat → Int32} {s0 : Nat → Nat → Int32} {H0 : Heap} (hM : mAt g mo tq p0 s0 H0) (hw : twoI 4 p0 s0) {j : Nat} (hj : 10 ≤ j) (hj9 : j ≤ 11) : MP l y_Model_meant c_Model_meant 6 (some .int) 2 g H0 [.ref mo, .int (nI j), .int 0] (some (.int (-2))) := by
  refine MM.of (by decide +kernel) (Nat.le_of_ble_eq_true rfl) ?_
  intro p e s m below meth cd X hH ls hl
  have X : CX g p s m _ meth cd c_Model_meant 6 (some .int) R_Model _ := X
  have hl : lv_has ls 6 [(0, .ref mo), (1, .int (nI j)), (2, .int 0)] := hl
  have hS : va_S (AA (noA) H0) H0 H0 [] := va_S.rf
  have hlt0 := hM.lt
  have htq0 := hM.tq
  obtain ⟨⟨hw3, hw5⟩, hw8, hw81⟩ := hw
  refine lv_iload_n X.x X.b d_Model_meant_0 rfl (lv_at hl 1 rfl) ?_
  refine lv_iconst (v := -1) X.x X.b d_Model_meant_1 (by decide) ?_
  refine lv_icmp_ne (tgt := 7) X.x X.b d_Model_meant_2 (by decide) (fun c1 => ?_) (fun c1 => ?_)
  · skip
    refine lv_iload_n X.x X.b d_Model_meant_7 rfl (lv_at hl 1 rfl) ?_
    refine lv_bipush (v := 8) X.x X.b d_Model_meant_8 (by decide) ?_
    refine lv_icmp_ge (tgt := 78) X.x X.b d_Model_meant_10 (by decide) (fun c2 => ?_) (fun c2 => ?_)
    · skip
      have c2q := Int32.not_lt.mpr c2
      refine lv_iload_n X.x X.b d_Model_meant_78 rfl (lv_at hl 1 rfl) ?_
      refine lv_bipush (v := 9) X.x X.b d_Model_meant_79 (by decide) ?_
      refine lv_icmp_le (tgt := 88) X.x X.b d_Model_meant_81 (by decide) (fun c3 => ?_) (fun c3 => ?_)
      · exact absurd ((nI_leI (a := j) (b := 9) (by omega) (by omega)).mp c3) (by omega)
      · skip
        have c3q := Int32.not_le.mp c3
        refine lv_iconst (v := 1) X.x X.b d_Model_meant_84 (by decide) ?_
        refine lv_goto (tgt := 89) X.x X.b d_Model_meant_85 (by decide) ?_
        refine lv_istore_n (lv' := [(3, .int 1), (0, .ref mo), (1, .int (nI j)), (2, .int 0)]) X.x X.b d_Model_meant_89 rfl hl (by decide) rfl (fun ls hl => ?_)
        refine lv_iload_n X.x X.b d_Model_meant_90 rfl (lv_at hl 0 rfl) ?_
        refine lv_if_eq (tgt := 100) X.x X.b d_Model_meant_91 (by decide) (fun c4 => ?_) (fun c4 => ?_)
        · exact absurd c4 (by decide)
        · skip
          refine lv_iload_n X.x X.b d_Model_meant_94 rfl (lv_at hl 2 rfl) ?_
          refine lv_iconst (v := 2) X.x X.b d_Model_meant_95 (by decide) ?_
          refine lv_isub X.x X.b d_Model_meant_96 ?_
          refine lv_goto (tgt := 101) X.x X.b d_Model_meant_97 (by decide) ?_
          refine lv_istore (lv' := [(4, .int ((nI j) - 2)), (3, .int 1), (0, .ref mo), (1, .int (nI j)), (2, .int 0)]) X.x X.b d_Model_meant_101 hl (by decide) rfl (fun ls hl => ?_)
          refine lv_iload_n X.x X.b d_Model_meant_103 rfl (lv_at hl 4 rfl) ?_
          refine lv_istore (lv' := [(5, .int 0), (4, .int ((nI j) - 2)), (3, .int 1), (0, .ref mo), (1, .int (nI j)), (2, .int 0)]) X.x X.b d_Model_meant_104 hl (by decide) rfl (fun ls hl => ?_)
          refine lv_iload X.x X.b d_Model_meant_106 (lv_at hl 0 rfl) ?_
          refine lv_iconst (v := 0) X.x X.b d_Model_meant_108 (by decide) ?_
          refine lv_aload_n X.x X.b d_Model_meant_109 rfl (lv_at hl 3 rfl) ?_
          refine m_get (v := .int 2) X ok_Model hM.1 5 (by decide) k_Model_132 (congrArg (fun z => some (Value.int z)) (show p0 5 = 2 from (by rw [hw5]))) d_Model_meant_110 ?_
          refine lv_iconst (v := 1) X.x X.b d_Model_meant_113 (by decide) ?_
          refine lv_isub X.x X.b d_Model_meant_114 ?_
          rw [show (2 - 1 : Int32) = 1 from by decide]
          refine m_callSP X hS (MP_ans (M_Model_isIn l g 0 0 1) (show b2i (0 ≤ 0 ∧ 0 ≤ 1) = 1 from by decide)) s_Model_84 rfl rfl (Nat.le_of_ble_eq_true rfl) hl.1 d_Model_meant_115 (by omega) (by decide) ⟨by omega, by omega⟩ (fun locs hS => ?_)
          refine lv_if_eq (tgt := 160) X.x X.b d_Model_meant_118 (by decide) (fun c5 => ?_) (fun c5 => ?_)
          · exact absurd c5 c4
          · skip
            refine lv_aload_n X.x X.b d_Model_meant_121 rfl (lv_at hl 3 rfl) ?_
            refine m_get (v := .ref (mo + 3)) X ok_Model hM.1 8 (by decide) k_Model_16 rfl d_Model_meant_122 ?_
            refine lv_iload X.x X.b d_Model_meant_125 (lv_at hl 0 rfl) ?_
            refine m_ild (v := 4) X hM.a8 0 rfl (by omega) (by decide) (show s0 8 0 = 4 from (by rw [hw8])) d_Model_meant_127 ?_
            refine lv_if_ne (tgt := 143) X.x X.b d_Model_meant_128 (by decide) (fun c6 => ?_) (fun c6 => ?_)
            · skip
              refine lv_iload X.x X.b d_Model_meant_143 (lv_at hl 0 rfl) ?_
              refine lv_iload_n X.x X.b d_Model_meant_145 rfl (lv_at hl 2 rfl) ?_
              refine lv_if_eq (tgt := 153) X.x X.b d_Model_meant_146 (by decide) (fun c7 => ?_) (fun c7 => ?_)
              · exact absurd c7 c5
              · skip
                refine lv_iconst (v := 1) X.x X.b d_Model_meant_149 (by decide) ?_
                refine lv_goto (tgt := 154) X.x X.b d_Model_meant_150 (by decide) ?_
                refine lv_iadd X.x X.b d_Model_meant_154 ?_
                rw [show (0 + 1 : Int32) = 1 from by decide]
                refine lv_istore (lv' := [(5, .int 1), (4, .int ((nI j) - 2)), (3, .int 1), (0, .ref mo), (1, .int (nI j)), (2, .int 0)]) X.x X.b d_Model_meant_155 hl (by decide) rfl (fun ls hl => ?_)
                refine lv_goto (tgt := 106) X.x X.b d_Model_meant_157 (by decide) ?_
                refine lv_iload X.x X.b d_Model_meant_106 (lv_at hl 0 rfl) ?_
                refine lv_iconst (v := 0) X.x X.b d_Model_meant_108 (by decide) ?_
                refine lv_aload_n X.x X.b d_Model_meant_109 rfl (lv_at hl 3 rfl) ?_
                refine m_get (v := .int 2) X ok_Model hM.1 5 (by decide) k_Model_132 (congrArg (fun z => some (Value.int z)) (show p0 5 = 2 from (by rw [hw5]))) d_Model_meant_110 ?_
                refine lv_iconst (v := 1) X.x X.b d_Model_meant_113 (by decide) ?_
                refine lv_isub X.x X.b d_Model_meant_114 ?_
                rw [show (2 - 1 : Int32) = 1 from by decide]
                refine m_callSP X hS (MP_ans (M_Model_isIn l g 1 0 1) (show b2i (0 ≤ 1 ∧ 1 ≤ 1) = 1 from by decide)) s_Model_84 rfl rfl (Nat.le_of_ble_eq_true rfl) hl.1 d_Model_meant_115 (by omega) (by decide) ⟨by omega, by omega⟩ (fun locs hS => ?_)
                refine lv_if_eq (tgt := 160) X.x X.b d_Model_meant_118 (by decide) (fun c8 => ?_) (fun c8 => ?_)
                · exact absurd c8 c7
                · skip
                  refine lv_aload_n X.x X.b d_Model_meant_121 rfl (lv_at hl 3 rfl) ?_
                  refine m_get (v := .ref (mo + 3)) X ok_Model hM.1 8 (by decide) k_Model_16 rfl d_Model_meant_122 ?_
                  refine lv_iload X.x X.b d_Model_meant_125 (lv_at hl 0 rfl) ?_
                  refine m_ild (v := 6) X hM.a8 1 rfl (by omega) (by decide) (show s0 8 1 = 6 from (by rw [hw81])) d_Model_meant_127 ?_
                  refine lv_if_ne (tgt := 143) X.x X.b d_Model_meant_128 (by decide) (fun c9 => ?_) (fun c9 => ?_)
                  · skip
                    refine lv_iload X.x X.b d_Model_meant_143 (lv_at hl 0 rfl) ?_
                    refine lv_iload_n X.x X.b d_Model_meant_145 rfl (lv_at hl 2 rfl) ?_
                    refine lv_if_eq (tgt := 153) X.x X.b d_Model_meant_146 (by decide) (fun c10 => ?_) (fun c10 => ?_)
                    · exact absurd c10 c8
                    · skip
                      refine lv_iconst (v := 1) X.x X.b d_Model_meant_149 (by decide) ?_
                      refine lv_goto (tgt := 154) X.x X.b d_Model_meant_150 (by decide) ?_
                      refine lv_iadd X.x X.b d_Model_meant_154 ?_
                      rw [show (1 + 1 : Int32) = 2 from by decide]
                      refine lv_istore (lv' := [(5, .int 2), (4, .int ((nI j) - 2)), (3, .int 1), (0, .ref mo), (1, .int (nI j)), (2, .int 0)]) X.x X.b d_Model_meant_155 hl (by decide) rfl (fun ls hl => ?_)
                      refine lv_goto (tgt := 106) X.x X.b d_Model_meant_157 (by decide) ?_
                      refine lv_iload X.x X.b d_Model_meant_106 (lv_at hl 0 rfl) ?_
                      refine lv_iconst (v := 0) X.x X.b d_Model_meant_108 (by decide) ?_
                      refine lv_aload_n X.x X.b d_Model_meant_109 rfl (lv_at hl 3 rfl) ?_
                      refine m_get (v := .int 2) X ok_Model hM.1 5 (by decide) k_Model_132 (congrArg (fun z => some (Value.int z)) (show p0 5 = 2 from (by rw [hw5]))) d_Model_meant_110 ?_
                      refine lv_iconst (v := 1) X.x X.b d_Model_meant_113 (by decide) ?_
                      refine lv_isub X.x X.b d_Model_meant_114 ?_
                      rw [show (2 - 1 : Int32) = 1 from by decide]
                      refine m_callSP X hS (MP_ans (M_Model_isIn l g 2 0 1) (show b2i (0 ≤ 2 ∧ 2 ≤ 1) = 0 from by decide)) s_Model_84 rfl rfl (Nat.le_of_ble_eq_true rfl) hl.1 d_Model_meant_115 (by omega) (by decide) ⟨by omega, by omega⟩ (fun locs hS => ?_)
                      refine lv_if_eq (tgt := 160) X.x X.b d_Model_meant_118 (by decide) (fun c11 => ?_) (fun c11 => ?_)
                      · skip
                        refine lv_iload X.x X.b d_Model_meant_160 (lv_at hl 0 rfl) ?_
                        refine lv_iconst (v := 0) X.x X.b d_Model_meant_162 (by decide) ?_
                        refine lv_aload_n X.x X.b d_Model_meant_163 rfl (lv_at hl 3 rfl) ?_
                        refine m_get (v := .int 2) X ok_Model hM.1 5 (by decide) k_Model_132 (congrArg (fun z => some (Value.int z)) (show p0 5 = 2 from (by rw [hw5]))) d_Model_meant_164 ?_
                        refine lv_iconst (v := 1) X.x X.b d_Model_meant_167 (by decide) ?_
                        refine lv_isub X.x X.b d_Model_meant_168 ?_
                        rw [show (2 - 1 : Int32) = 1 from by decide]
                        refine m_callSP X hS (MP_ans (M_Model_isIn l g 2 0 1) (show b2i (0 ≤ 2 ∧ 2 ≤ 1) = 0 from by decide)) s_Model_84 rfl rfl (Nat.le_of_ble_eq_true rfl) hl.1 d_Model_meant_169 (by omega) (by decide) ⟨by omega, by omega⟩ (fun locs hS => ?_)
                        refine lv_if_eq (tgt := 180) X.x X.b d_Model_meant_172 (by decide) (fun c12 => ?_) (fun c12 => ?_)
                        · skip
                          refine lv_bipush (v := -2) X.x X.b d_Model_meant_180 (by decide) ?_
                          exact m_iret X hS (Nat.zero_le _) (Nat.zero_le _) d_Model_meant_182 (congrArg (fun z => some (Value.int z)) (by simp [c1, c2, c2q, c3, c3q, c4, c5, c6, c7, c8, c9, c10, c11, c12])) rfl
                        · exact absurd c11 c12
                      · exact absurd c11 (by decide)
                  · exact absurd c9 (by decide)
            · exact absurd c6 (by decide)
    · exact absurd ((nI_leI (a := 8) (b := j) (by omega) (by omega)).mpr (by omega)) (by assumption)
  · exact absurd c1 (nI_nm1 (by omega))
theorem M_Model_meant_2 (l : Launch) (g : GG) {mo tq : Nat} {p0 : Nat → Int32} {s0 : Nat → Nat → Int32} {H0 : Heap} (hM : mAt g mo tq p0 s0 H0) (hw : twoI 2 p0 s0) {j : Nat} (hj : j ≤ 11) (h27 : ∀ j, j < 8 → s0 27 j = -1) : MP l y_Model_meant c_Model_meant 6 (some .int) 2 g H0 [.ref mo, .int (nI j), .int 0] (some (.int (-2))) := by
  rcases (show j < 8 ∨ (8 ≤ j ∧ j ≤ 9) ∨ 10 ≤ j by omega) with z | z | z
  · exact M_Model_meant_a2 l g hM hw z (h27 j z)
  · exact M_Model_meant_b2 l g hM hw z.1 z.2
  · exact M_Model_meant_c2 l g hM hw z hj
theorem M_Model_meant_3 (l : Launch) (g : GG) {mo tq : Nat} {p0 : Nat → Int32} {s0 : Nat → Nat → Int32} {H0 : Heap} (hM : mAt g mo tq p0 s0 H0) (hw : twoI 3 p0 s0) {j : Nat} (hj : j ≤ 11) (h27 : ∀ j, j < 8 → s0 27 j = -1) : MP l y_Model_meant c_Model_meant 6 (some .int) 2 g H0 [.ref mo, .int (nI j), .int 0] (some (.int (-2))) := by
  rcases (show j < 8 ∨ (8 ≤ j ∧ j ≤ 9) ∨ 10 ≤ j by omega) with z | z | z
  · exact M_Model_meant_a3 l g hM hw z (h27 j z)
  · exact M_Model_meant_b3 l g hM hw z.1 z.2
  · exact M_Model_meant_c3 l g hM hw z hj
theorem M_Model_meant_4 (l : Launch) (g : GG) {mo tq : Nat} {p0 : Nat → Int32} {s0 : Nat → Nat → Int32} {H0 : Heap} (hM : mAt g mo tq p0 s0 H0) (hw : twoI 4 p0 s0) {j : Nat} (hj : j ≤ 11) (h27 : ∀ j, j < 8 → s0 27 j = -1) : MP l y_Model_meant c_Model_meant 6 (some .int) 2 g H0 [.ref mo, .int (nI j), .int 0] (some (.int (-2))) := by
  rcases (show j < 8 ∨ (8 ≤ j ∧ j ≤ 9) ∨ 10 ≤ j by omega) with z | z | z
  · exact M_Model_meant_a4 l g hM hw z (h27 j z)
  · exact M_Model_meant_b4 l g hM hw z.1 z.2
  · exact M_Model_meant_c4 l g hM hw z hj
set_option maxRecDepth 100000 in
set_option maxHeartbeats 4000000 in
theorem M_Model_refer_s0 (l : Launch) (g : GG) {mo tq : Nat} {p0 : Nat → Int32} {s0 : Nat → Nat → Int32} {H0 : Heap} (hM : mAt g mo tq p0 s0 H0) (hw : twoI 0 p0 s0) : MP l y_Model_refer c_Model_refer 4 none 3 g H0 [.ref mo] (none) := by
  refine MM.of (by decide +kernel) (Nat.le_of_ble_eq_true rfl) ?_
  intro p e s m below meth cd X hH ls hl
  have X : CX g p s m _ meth cd c_Model_refer 4 none R_Model _ := X
  have hl : lv_has ls 4 [(0, .ref mo)] := hl
  have hS : va_S (AA (noA) H0) H0 H0 [] := va_S.rf
  have hlt0 := hM.lt
  have htq0 := hM.tq
  obtain ⟨⟨hw3, hw5⟩, hw8, hw81⟩ := hw
  refine lv_iconst (v := 0) X.x X.b d_Model_refer_0 (by decide) ?_
  refine lv_istore_n (lv' := [(1, .int 0), (0, .ref mo)]) X.x X.b d_Model_refer_1 rfl hl (by decide) rfl (fun ls hl => ?_)
  refine lv_iload_n X.x X.b d_Model_refer_2 rfl (lv_at hl 0 rfl) ?_
  refine lv_aload_n X.x X.b d_Model_refer_3 rfl (lv_at hl 1 rfl) ?_
  refine m_get (v := .int 2) X ok_Model hM.1 5 (by decide) k_Model_132 (congrArg (fun z => some (Value.int z)) (show p0 5 = 2 from (by rw [hw5]))) d_Model_refer_4 ?_
  refine lv_icmp_ge (tgt := 166) X.x X.b d_Model_refer_7 (by decide) (fun c1 => ?_) (fun c1 => ?_)
  · exact absurd c1 (by decide)
  · skip
    have c1q := Int32.not_le.mp c1
    refine lv_aload_n X.x X.b d_Model_refer_10 rfl (lv_at hl 1 rfl) ?_
    refine m_get (v := .int 0) X ok_Model hM.1 3 (by decide) k_Model_126 (congrArg (fun z => some (Value.int z)) (show p0 3 = 0 from (by rw [hw3]))) d_Model_refer_11 ?_
    refine lv_if_ne (tgt := 166) X.x X.b d_Model_refer_14 (by decide) (fun c2 => ?_) (fun c2 => ?_)
    · exact absurd c2 (by decide)
    · skip
      refine lv_aload_n X.x X.b d_Model_refer_17 rfl (lv_at hl 1 rfl) ?_
      refine m_get (v := .ref (mo + 3)) X ok_Model hM.1 8 (by decide) k_Model_16 rfl d_Model_refer_18 ?_
      refine lv_iload_n X.x X.b d_Model_refer_21 rfl (lv_at hl 0 rfl) ?_
      refine m_ild (v := 0) X hM.a8 0 rfl (by omega) (by decide) (show s0 8 0 = 0 from (by rw [hw8])) d_Model_refer_22 ?_
      refine lv_iconst (v := 2) X.x X.b d_Model_refer_23 (by decide) ?_
      refine lv_icmp_lt (tgt := 160) X.x X.b d_Model_refer_24 (by decide) (fun c3 => ?_) (fun c3 => ?_)
      · skip
        have c3q := Int32.not_le.mpr c3
        refine lv_iinc (v := 1) (lv' := [(1, .int 1), (0, .ref mo)]) X.x X.b d_Model_refer_160 hl (k := 0) rfl (by decide) (by decide) rfl (fun ls hl => ?_)
        refine lv_goto (tgt := 2) X.x X.b d_Model_refer_163 (by decide) ?_
        refine lv_iload_n X.x X.b d_Model_refer_2 rfl (lv_at hl 0 rfl) ?_
        refine lv_aload_n X.x X.b d_Model_refer_3 rfl (lv_at hl 1 rfl) ?_
        refine m_get (v := .int 2) X ok_Model hM.1 5 (by decide) k_Model_132 (congrArg (fun z => some (Value.int z)) (show p0 5 = 2 from (by rw [hw5]))) d_Model_refer_4 ?_
        refine lv_icmp_ge (tgt := 166) X.x X.b d_Model_refer_7 (by decide) (fun c4 => ?_) (fun c4 => ?_)
        · exact absurd c4 (by decide)
        · skip
          have c4q := Int32.not_le.mp c4
          refine lv_aload_n X.x X.b d_Model_refer_10 rfl (lv_at hl 1 rfl) ?_
          refine m_get (v := .int 0) X ok_Model hM.1 3 (by decide) k_Model_126 (congrArg (fun z => some (Value.int z)) (show p0 3 = 0 from (by rw [hw3]))) d_Model_refer_11 ?_
          refine lv_if_ne (tgt := 166) X.x X.b d_Model_refer_14 (by decide) (fun c5 => ?_) (fun c5 => ?_)
          · exact absurd c2 c5
          · skip
            refine lv_aload_n X.x X.b d_Model_refer_17 rfl (lv_at hl 1 rfl) ?_
            refine m_get (v := .ref (mo + 3)) X ok_Model hM.1 8 (by decide) k_Model_16 rfl d_Model_refer_18 ?_
            refine lv_iload_n X.x X.b d_Model_refer_21 rfl (lv_at hl 0 rfl) ?_
            refine m_ild (v := 6) X hM.a8 1 rfl (by omega) (by decide) (show s0 8 1 = 6 from (by rw [hw81])) d_Model_refer_22 ?_
            refine lv_iconst (v := 2) X.x X.b d_Model_refer_23 (by decide) ?_
            refine lv_icmp_lt (tgt := 160) X.x X.b d_Model_refer_24 (by decide) (fun c6 => ?_) (fun c6 => ?_)
            · exact absurd c6 (by decide)
            · skip
              have c6q := Int32.not_lt.mp c6
              refine lv_aload_n X.x X.b d_Model_refer_27 rfl (lv_at hl 1 rfl) ?_
              refine m_get (v := .ref (mo + 3)) X ok_Model hM.1 8 (by decide) k_Model_16 rfl d_Model_refer_28 ?_
              refine lv_iload_n X.x X.b d_Model_refer_31 rfl (lv_at hl 0 rfl) ?_
              refine m_ild (v := 6) X hM.a8 1 rfl (by omega) (by decide) (show s0 8 1 = 6 from (by rw [hw81])) d_Model_refer_32 ?_
              refine lv_iconst (v := 4) X.x X.b d_Model_refer_33 (by decide) ?_
              refine lv_icmp_le (tgt := 40) X.x X.b d_Model_refer_34 (by decide) (fun c7 => ?_) (fun c7 => ?_)
              · exact absurd c7 (by decide)
              · skip
                have c7q := Int32.not_le.mp c7
                refine lv_goto (tgt := 160) X.x X.b d_Model_refer_37 (by decide) ?_
                refine lv_iinc (v := 2) (lv' := [(1, .int 2), (0, .ref mo)]) X.x X.b d_Model_refer_160 hl (k := 0) rfl (by decide) (by decide) rfl (fun ls hl => ?_)
                refine lv_goto (tgt := 2) X.x X.b d_Model_refer_163 (by decide) ?_
                refine lv_iload_n X.x X.b d_Model_refer_2 rfl (lv_at hl 0 rfl) ?_
                refine lv_aload_n X.x X.b d_Model_refer_3 rfl (lv_at hl 1 rfl) ?_
                refine m_get (v := .int 2) X ok_Model hM.1 5 (by decide) k_Model_132 (congrArg (fun z => some (Value.int z)) (show p0 5 = 2 from (by rw [hw5]))) d_Model_refer_4 ?_
                refine lv_icmp_ge (tgt := 166) X.x X.b d_Model_refer_7 (by decide) (fun c8 => ?_) (fun c8 => ?_)
                · skip
                  have c8q := Int32.not_lt.mpr c8
                  exact m_vret X hS (by omega) (by omega) d_Model_refer_166 rfl rfl
                · exact absurd c8 (by decide)
      · exact absurd c3 (by decide)
set_option maxRecDepth 100000 in
set_option maxHeartbeats 4000000 in
theorem M_Model_refer_s1 (l : Launch) (g : GG) {mo tq : Nat} {p0 : Nat → Int32} {s0 : Nat → Nat → Int32} {H0 : Heap} (hM : mAt g mo tq p0 s0 H0) (hw : twoI 1 p0 s0) : MP l y_Model_refer c_Model_refer 4 none 3 g H0 [.ref mo] (none) := by
  refine MM.of (by decide +kernel) (Nat.le_of_ble_eq_true rfl) ?_
  intro p e s m below meth cd X hH ls hl
  have X : CX g p s m _ meth cd c_Model_refer 4 none R_Model _ := X
  have hl : lv_has ls 4 [(0, .ref mo)] := hl
  have hS : va_S (AA (noA) H0) H0 H0 [] := va_S.rf
  have hlt0 := hM.lt
  have htq0 := hM.tq
  obtain ⟨⟨hw3, hw5⟩, hw8, hw81⟩ := hw
  refine lv_iconst (v := 0) X.x X.b d_Model_refer_0 (by decide) ?_
  refine lv_istore_n (lv' := [(1, .int 0), (0, .ref mo)]) X.x X.b d_Model_refer_1 rfl hl (by decide) rfl (fun ls hl => ?_)
  refine lv_iload_n X.x X.b d_Model_refer_2 rfl (lv_at hl 0 rfl) ?_
  refine lv_aload_n X.x X.b d_Model_refer_3 rfl (lv_at hl 1 rfl) ?_
  refine m_get (v := .int 2) X ok_Model hM.1 5 (by decide) k_Model_132 (congrArg (fun z => some (Value.int z)) (show p0 5 = 2 from (by rw [hw5]))) d_Model_refer_4 ?_
  refine lv_icmp_ge (tgt := 166) X.x X.b d_Model_refer_7 (by decide) (fun c1 => ?_) (fun c1 => ?_)
  · exact absurd c1 (by decide)
  · skip
    have c1q := Int32.not_le.mp c1
    refine lv_aload_n X.x X.b d_Model_refer_10 rfl (lv_at hl 1 rfl) ?_
    refine m_get (v := .int 0) X ok_Model hM.1 3 (by decide) k_Model_126 (congrArg (fun z => some (Value.int z)) (show p0 3 = 0 from (by rw [hw3]))) d_Model_refer_11 ?_
    refine lv_if_ne (tgt := 166) X.x X.b d_Model_refer_14 (by decide) (fun c2 => ?_) (fun c2 => ?_)
    · exact absurd c2 (by decide)
    · skip
      refine lv_aload_n X.x X.b d_Model_refer_17 rfl (lv_at hl 1 rfl) ?_
      refine m_get (v := .ref (mo + 3)) X ok_Model hM.1 8 (by decide) k_Model_16 rfl d_Model_refer_18 ?_
      refine lv_iload_n X.x X.b d_Model_refer_21 rfl (lv_at hl 0 rfl) ?_
      refine m_ild (v := 1) X hM.a8 0 rfl (by omega) (by decide) (show s0 8 0 = 1 from (by rw [hw8])) d_Model_refer_22 ?_
      refine lv_iconst (v := 2) X.x X.b d_Model_refer_23 (by decide) ?_
      refine lv_icmp_lt (tgt := 160) X.x X.b d_Model_refer_24 (by decide) (fun c3 => ?_) (fun c3 => ?_)
      · skip
        have c3q := Int32.not_le.mpr c3
        refine lv_iinc (v := 1) (lv' := [(1, .int 1), (0, .ref mo)]) X.x X.b d_Model_refer_160 hl (k := 0) rfl (by decide) (by decide) rfl (fun ls hl => ?_)
        refine lv_goto (tgt := 2) X.x X.b d_Model_refer_163 (by decide) ?_
        refine lv_iload_n X.x X.b d_Model_refer_2 rfl (lv_at hl 0 rfl) ?_
        refine lv_aload_n X.x X.b d_Model_refer_3 rfl (lv_at hl 1 rfl) ?_
        refine m_get (v := .int 2) X ok_Model hM.1 5 (by decide) k_Model_132 (congrArg (fun z => some (Value.int z)) (show p0 5 = 2 from (by rw [hw5]))) d_Model_refer_4 ?_
        refine lv_icmp_ge (tgt := 166) X.x X.b d_Model_refer_7 (by decide) (fun c4 => ?_) (fun c4 => ?_)
        · exact absurd c4 (by decide)
        · skip
          have c4q := Int32.not_le.mp c4
          refine lv_aload_n X.x X.b d_Model_refer_10 rfl (lv_at hl 1 rfl) ?_
          refine m_get (v := .int 0) X ok_Model hM.1 3 (by decide) k_Model_126 (congrArg (fun z => some (Value.int z)) (show p0 3 = 0 from (by rw [hw3]))) d_Model_refer_11 ?_
          refine lv_if_ne (tgt := 166) X.x X.b d_Model_refer_14 (by decide) (fun c5 => ?_) (fun c5 => ?_)
          · exact absurd c2 c5
          · skip
            refine lv_aload_n X.x X.b d_Model_refer_17 rfl (lv_at hl 1 rfl) ?_
            refine m_get (v := .ref (mo + 3)) X ok_Model hM.1 8 (by decide) k_Model_16 rfl d_Model_refer_18 ?_
            refine lv_iload_n X.x X.b d_Model_refer_21 rfl (lv_at hl 0 rfl) ?_
            refine m_ild (v := 6) X hM.a8 1 rfl (by omega) (by decide) (show s0 8 1 = 6 from (by rw [hw81])) d_Model_refer_22 ?_
            refine lv_iconst (v := 2) X.x X.b d_Model_refer_23 (by decide) ?_
            refine lv_icmp_lt (tgt := 160) X.x X.b d_Model_refer_24 (by decide) (fun c6 => ?_) (fun c6 => ?_)
            · exact absurd c6 (by decide)
            · skip
              have c6q := Int32.not_lt.mp c6
              refine lv_aload_n X.x X.b d_Model_refer_27 rfl (lv_at hl 1 rfl) ?_
              refine m_get (v := .ref (mo + 3)) X ok_Model hM.1 8 (by decide) k_Model_16 rfl d_Model_refer_28 ?_
              refine lv_iload_n X.x X.b d_Model_refer_31 rfl (lv_at hl 0 rfl) ?_
              refine m_ild (v := 6) X hM.a8 1 rfl (by omega) (by decide) (show s0 8 1 = 6 from (by rw [hw81])) d_Model_refer_32 ?_
              refine lv_iconst (v := 4) X.x X.b d_Model_refer_33 (by decide) ?_
              refine lv_icmp_le (tgt := 40) X.x X.b d_Model_refer_34 (by decide) (fun c7 => ?_) (fun c7 => ?_)
              · exact absurd c7 (by decide)
              · skip
                have c7q := Int32.not_le.mp c7
                refine lv_goto (tgt := 160) X.x X.b d_Model_refer_37 (by decide) ?_
                refine lv_iinc (v := 2) (lv' := [(1, .int 2), (0, .ref mo)]) X.x X.b d_Model_refer_160 hl (k := 0) rfl (by decide) (by decide) rfl (fun ls hl => ?_)
                refine lv_goto (tgt := 2) X.x X.b d_Model_refer_163 (by decide) ?_
                refine lv_iload_n X.x X.b d_Model_refer_2 rfl (lv_at hl 0 rfl) ?_
                refine lv_aload_n X.x X.b d_Model_refer_3 rfl (lv_at hl 1 rfl) ?_
                refine m_get (v := .int 2) X ok_Model hM.1 5 (by decide) k_Model_132 (congrArg (fun z => some (Value.int z)) (show p0 5 = 2 from (by rw [hw5]))) d_Model_refer_4 ?_
                refine lv_icmp_ge (tgt := 166) X.x X.b d_Model_refer_7 (by decide) (fun c8 => ?_) (fun c8 => ?_)
                · skip
                  have c8q := Int32.not_lt.mpr c8
                  exact m_vret X hS (by omega) (by omega) d_Model_refer_166 rfl rfl
                · exact absurd c8 (by decide)
      · exact absurd c3 (by decide)
set_option maxRecDepth 100000 in
set_option maxHeartbeats 4000000 in
theorem M_Model_refer_s5 (l : Launch) (g : GG) {mo tq : Nat} {p0 : Nat → Int32} {s0 : Nat → Nat → Int32} {H0 : Heap} (hM : mAt g mo tq p0 s0 H0) (hw : twoI 5 p0 s0) : MP l y_Model_refer c_Model_refer 4 none 3 g H0 [.ref mo] (none) := by
  refine MM.of (by decide +kernel) (Nat.le_of_ble_eq_true rfl) ?_
  intro p e s m below meth cd X hH ls hl
  have X : CX g p s m _ meth cd c_Model_refer 4 none R_Model _ := X
  have hl : lv_has ls 4 [(0, .ref mo)] := hl
  have hS : va_S (AA (noA) H0) H0 H0 [] := va_S.rf
  have hlt0 := hM.lt
  have htq0 := hM.tq
  obtain ⟨⟨hw3, hw5⟩, hw8, hw81⟩ := hw
  refine lv_iconst (v := 0) X.x X.b d_Model_refer_0 (by decide) ?_
  refine lv_istore_n (lv' := [(1, .int 0), (0, .ref mo)]) X.x X.b d_Model_refer_1 rfl hl (by decide) rfl (fun ls hl => ?_)
  refine lv_iload_n X.x X.b d_Model_refer_2 rfl (lv_at hl 0 rfl) ?_
  refine lv_aload_n X.x X.b d_Model_refer_3 rfl (lv_at hl 1 rfl) ?_
  refine m_get (v := .int 2) X ok_Model hM.1 5 (by decide) k_Model_132 (congrArg (fun z => some (Value.int z)) (show p0 5 = 2 from (by rw [hw5]))) d_Model_refer_4 ?_
  refine lv_icmp_ge (tgt := 166) X.x X.b d_Model_refer_7 (by decide) (fun c1 => ?_) (fun c1 => ?_)
  · exact absurd c1 (by decide)
  · skip
    have c1q := Int32.not_le.mp c1
    refine lv_aload_n X.x X.b d_Model_refer_10 rfl (lv_at hl 1 rfl) ?_
    refine m_get (v := .int 0) X ok_Model hM.1 3 (by decide) k_Model_126 (congrArg (fun z => some (Value.int z)) (show p0 3 = 0 from (by rw [hw3]))) d_Model_refer_11 ?_
    refine lv_if_ne (tgt := 166) X.x X.b d_Model_refer_14 (by decide) (fun c2 => ?_) (fun c2 => ?_)
    · exact absurd c2 (by decide)
    · skip
      refine lv_aload_n X.x X.b d_Model_refer_17 rfl (lv_at hl 1 rfl) ?_
      refine m_get (v := .ref (mo + 3)) X ok_Model hM.1 8 (by decide) k_Model_16 rfl d_Model_refer_18 ?_
      refine lv_iload_n X.x X.b d_Model_refer_21 rfl (lv_at hl 0 rfl) ?_
      refine m_ild (v := 5) X hM.a8 0 rfl (by omega) (by decide) (show s0 8 0 = 5 from (by rw [hw8])) d_Model_refer_22 ?_
      refine lv_iconst (v := 2) X.x X.b d_Model_refer_23 (by decide) ?_
      refine lv_icmp_lt (tgt := 160) X.x X.b d_Model_refer_24 (by decide) (fun c3 => ?_) (fun c3 => ?_)
      · exact absurd c3 (by decide)
      · skip
        have c3q := Int32.not_lt.mp c3
        refine lv_aload_n X.x X.b d_Model_refer_27 rfl (lv_at hl 1 rfl) ?_
        refine m_get (v := .ref (mo + 3)) X ok_Model hM.1 8 (by decide) k_Model_16 rfl d_Model_refer_28 ?_
        refine lv_iload_n X.x X.b d_Model_refer_31 rfl (lv_at hl 0 rfl) ?_
        refine m_ild (v := 5) X hM.a8 0 rfl (by omega) (by decide) (show s0 8 0 = 5 from (by rw [hw8])) d_Model_refer_32 ?_
        refine lv_iconst (v := 4) X.x X.b d_Model_refer_33 (by decide) ?_
        refine lv_icmp_le (tgt := 40) X.x X.b d_Model_refer_34 (by decide) (fun c4 => ?_) (fun c4 => ?_)
        · exact absurd c4 (by decide)
        · skip
          have c4q := Int32.not_le.mp c4
          refine lv_goto (tgt := 160) X.x X.b d_Model_refer_37 (by decide) ?_
          refine lv_iinc (v := 1) (lv' := [(1, .int 1), (0, .ref mo)]) X.x X.b d_Model_refer_160 hl (k := 0) rfl (by decide) (by decide) rfl (fun ls hl => ?_)
          refine lv_goto (tgt := 2) X.x X.b d_Model_refer_163 (by decide) ?_
          refine lv_iload_n X.x X.b d_Model_refer_2 rfl (lv_at hl 0 rfl) ?_
          refine lv_aload_n X.x X.b d_Model_refer_3 rfl (lv_at hl 1 rfl) ?_
          refine m_get (v := .int 2) X ok_Model hM.1 5 (by decide) k_Model_132 (congrArg (fun z => some (Value.int z)) (show p0 5 = 2 from (by rw [hw5]))) d_Model_refer_4 ?_
          refine lv_icmp_ge (tgt := 166) X.x X.b d_Model_refer_7 (by decide) (fun c5 => ?_) (fun c5 => ?_)
          · exact absurd c5 (by decide)
          · skip
            have c5q := Int32.not_le.mp c5
            refine lv_aload_n X.x X.b d_Model_refer_10 rfl (lv_at hl 1 rfl) ?_
            refine m_get (v := .int 0) X ok_Model hM.1 3 (by decide) k_Model_126 (congrArg (fun z => some (Value.int z)) (show p0 3 = 0 from (by rw [hw3]))) d_Model_refer_11 ?_
            refine lv_if_ne (tgt := 166) X.x X.b d_Model_refer_14 (by decide) (fun c6 => ?_) (fun c6 => ?_)
            · exact absurd c2 c6
            · skip
              refine lv_aload_n X.x X.b d_Model_refer_17 rfl (lv_at hl 1 rfl) ?_
              refine m_get (v := .ref (mo + 3)) X ok_Model hM.1 8 (by decide) k_Model_16 rfl d_Model_refer_18 ?_
              refine lv_iload_n X.x X.b d_Model_refer_21 rfl (lv_at hl 0 rfl) ?_
              refine m_ild (v := 6) X hM.a8 1 rfl (by omega) (by decide) (show s0 8 1 = 6 from (by rw [hw81])) d_Model_refer_22 ?_
              refine lv_iconst (v := 2) X.x X.b d_Model_refer_23 (by decide) ?_
              refine lv_icmp_lt (tgt := 160) X.x X.b d_Model_refer_24 (by decide) (fun c7 => ?_) (fun c7 => ?_)
              · exact absurd c7 (by decide)
              · skip
                have c7q := Int32.not_lt.mp c7
                refine lv_aload_n X.x X.b d_Model_refer_27 rfl (lv_at hl 1 rfl) ?_
                refine m_get (v := .ref (mo + 3)) X ok_Model hM.1 8 (by decide) k_Model_16 rfl d_Model_refer_28 ?_
                refine lv_iload_n X.x X.b d_Model_refer_31 rfl (lv_at hl 0 rfl) ?_
                refine m_ild (v := 6) X hM.a8 1 rfl (by omega) (by decide) (show s0 8 1 = 6 from (by rw [hw81])) d_Model_refer_32 ?_
                refine lv_iconst (v := 4) X.x X.b d_Model_refer_33 (by decide) ?_
                refine lv_icmp_le (tgt := 40) X.x X.b d_Model_refer_34 (by decide) (fun c8 => ?_) (fun c8 => ?_)
                · exact absurd c8 (by decide)
                · skip
                  have c8q := Int32.not_le.mp c8
                  refine lv_goto (tgt := 160) X.x X.b d_Model_refer_37 (by decide) ?_
                  refine lv_iinc (v := 2) (lv' := [(1, .int 2), (0, .ref mo)]) X.x X.b d_Model_refer_160 hl (k := 0) rfl (by decide) (by decide) rfl (fun ls hl => ?_)
                  refine lv_goto (tgt := 2) X.x X.b d_Model_refer_163 (by decide) ?_
                  refine lv_iload_n X.x X.b d_Model_refer_2 rfl (lv_at hl 0 rfl) ?_
                  refine lv_aload_n X.x X.b d_Model_refer_3 rfl (lv_at hl 1 rfl) ?_
                  refine m_get (v := .int 2) X ok_Model hM.1 5 (by decide) k_Model_132 (congrArg (fun z => some (Value.int z)) (show p0 5 = 2 from (by rw [hw5]))) d_Model_refer_4 ?_
                  refine lv_icmp_ge (tgt := 166) X.x X.b d_Model_refer_7 (by decide) (fun c9 => ?_) (fun c9 => ?_)
                  · skip
                    have c9q := Int32.not_lt.mpr c9
                    exact m_vret X hS (by omega) (by omega) d_Model_refer_166 rfl rfl
                  · exact absurd c9 (by decide)
set_option maxRecDepth 100000 in
set_option maxHeartbeats 4000000 in
theorem M_Model_refer_s6 (l : Launch) (g : GG) {mo tq : Nat} {p0 : Nat → Int32} {s0 : Nat → Nat → Int32} {H0 : Heap} (hM : mAt g mo tq p0 s0 H0) (hw : twoI 6 p0 s0) : MP l y_Model_refer c_Model_refer 4 none 3 g H0 [.ref mo] (none) := by
  refine MM.of (by decide +kernel) (Nat.le_of_ble_eq_true rfl) ?_
  intro p e s m below meth cd X hH ls hl
  have X : CX g p s m _ meth cd c_Model_refer 4 none R_Model _ := X
  have hl : lv_has ls 4 [(0, .ref mo)] := hl
  have hS : va_S (AA (noA) H0) H0 H0 [] := va_S.rf
  have hlt0 := hM.lt
  have htq0 := hM.tq
  obtain ⟨⟨hw3, hw5⟩, hw8, hw81⟩ := hw
  refine lv_iconst (v := 0) X.x X.b d_Model_refer_0 (by decide) ?_
  refine lv_istore_n (lv' := [(1, .int 0), (0, .ref mo)]) X.x X.b d_Model_refer_1 rfl hl (by decide) rfl (fun ls hl => ?_)
  refine lv_iload_n X.x X.b d_Model_refer_2 rfl (lv_at hl 0 rfl) ?_
  refine lv_aload_n X.x X.b d_Model_refer_3 rfl (lv_at hl 1 rfl) ?_
  refine m_get (v := .int 2) X ok_Model hM.1 5 (by decide) k_Model_132 (congrArg (fun z => some (Value.int z)) (show p0 5 = 2 from (by rw [hw5]))) d_Model_refer_4 ?_
  refine lv_icmp_ge (tgt := 166) X.x X.b d_Model_refer_7 (by decide) (fun c1 => ?_) (fun c1 => ?_)
  · exact absurd c1 (by decide)
  · skip
    have c1q := Int32.not_le.mp c1
    refine lv_aload_n X.x X.b d_Model_refer_10 rfl (lv_at hl 1 rfl) ?_
    refine m_get (v := .int 0) X ok_Model hM.1 3 (by decide) k_Model_126 (congrArg (fun z => some (Value.int z)) (show p0 3 = 0 from (by rw [hw3]))) d_Model_refer_11 ?_
    refine lv_if_ne (tgt := 166) X.x X.b d_Model_refer_14 (by decide) (fun c2 => ?_) (fun c2 => ?_)
    · exact absurd c2 (by decide)
    · skip
      refine lv_aload_n X.x X.b d_Model_refer_17 rfl (lv_at hl 1 rfl) ?_
      refine m_get (v := .ref (mo + 3)) X ok_Model hM.1 8 (by decide) k_Model_16 rfl d_Model_refer_18 ?_
      refine lv_iload_n X.x X.b d_Model_refer_21 rfl (lv_at hl 0 rfl) ?_
      refine m_ild (v := 6) X hM.a8 0 rfl (by omega) (by decide) (show s0 8 0 = 6 from (by rw [hw8])) d_Model_refer_22 ?_
      refine lv_iconst (v := 2) X.x X.b d_Model_refer_23 (by decide) ?_
      refine lv_icmp_lt (tgt := 160) X.x X.b d_Model_refer_24 (by decide) (fun c3 => ?_) (fun c3 => ?_)
      · exact absurd c3 (by decide)
      · skip
        have c3q := Int32.not_lt.mp c3
        refine lv_aload_n X.x X.b d_Model_refer_27 rfl (lv_at hl 1 rfl) ?_
        refine m_get (v := .ref (mo + 3)) X ok_Model hM.1 8 (by decide) k_Model_16 rfl d_Model_refer_28 ?_
        refine lv_iload_n X.x X.b d_Model_refer_31 rfl (lv_at hl 0 rfl) ?_
        refine m_ild (v := 6) X hM.a8 0 rfl (by omega) (by decide) (show s0 8 0 = 6 from (by rw [hw8])) d_Model_refer_32 ?_
        refine lv_iconst (v := 4) X.x X.b d_Model_refer_33 (by decide) ?_
        refine lv_icmp_le (tgt := 40) X.x X.b d_Model_refer_34 (by decide) (fun c4 => ?_) (fun c4 => ?_)
        · exact absurd c4 (by decide)
        · skip
          have c4q := Int32.not_le.mp c4
          refine lv_goto (tgt := 160) X.x X.b d_Model_refer_37 (by decide) ?_
          refine lv_iinc (v := 1) (lv' := [(1, .int 1), (0, .ref mo)]) X.x X.b d_Model_refer_160 hl (k := 0) rfl (by decide) (by decide) rfl (fun ls hl => ?_)
          refine lv_goto (tgt := 2) X.x X.b d_Model_refer_163 (by decide) ?_
          refine lv_iload_n X.x X.b d_Model_refer_2 rfl (lv_at hl 0 rfl) ?_
          refine lv_aload_n X.x X.b d_Model_refer_3 rfl (lv_at hl 1 rfl) ?_
          refine m_get (v := .int 2) X ok_Model hM.1 5 (by decide) k_Model_132 (congrArg (fun z => some (Value.int z)) (show p0 5 = 2 from (by rw [hw5]))) d_Model_refer_4 ?_
          refine lv_icmp_ge (tgt := 166) X.x X.b d_Model_refer_7 (by decide) (fun c5 => ?_) (fun c5 => ?_)
          · exact absurd c5 (by decide)
          · skip
            have c5q := Int32.not_le.mp c5
            refine lv_aload_n X.x X.b d_Model_refer_10 rfl (lv_at hl 1 rfl) ?_
            refine m_get (v := .int 0) X ok_Model hM.1 3 (by decide) k_Model_126 (congrArg (fun z => some (Value.int z)) (show p0 3 = 0 from (by rw [hw3]))) d_Model_refer_11 ?_
            refine lv_if_ne (tgt := 166) X.x X.b d_Model_refer_14 (by decide) (fun c6 => ?_) (fun c6 => ?_)
            · exact absurd c2 c6
            · skip
              refine lv_aload_n X.x X.b d_Model_refer_17 rfl (lv_at hl 1 rfl) ?_
              refine m_get (v := .ref (mo + 3)) X ok_Model hM.1 8 (by decide) k_Model_16 rfl d_Model_refer_18 ?_
              refine lv_iload_n X.x X.b d_Model_refer_21 rfl (lv_at hl 0 rfl) ?_
              refine m_ild (v := 6) X hM.a8 1 rfl (by omega) (by decide) (show s0 8 1 = 6 from (by rw [hw81])) d_Model_refer_22 ?_
              refine lv_iconst (v := 2) X.x X.b d_Model_refer_23 (by decide) ?_
              refine lv_icmp_lt (tgt := 160) X.x X.b d_Model_refer_24 (by decide) (fun c7 => ?_) (fun c7 => ?_)
              · exact absurd c7 c3
              · skip
                have c7q := Int32.not_lt.mp c7
                refine lv_aload_n X.x X.b d_Model_refer_27 rfl (lv_at hl 1 rfl) ?_
                refine m_get (v := .ref (mo + 3)) X ok_Model hM.1 8 (by decide) k_Model_16 rfl d_Model_refer_28 ?_
                refine lv_iload_n X.x X.b d_Model_refer_31 rfl (lv_at hl 0 rfl) ?_
                refine m_ild (v := 6) X hM.a8 1 rfl (by omega) (by decide) (show s0 8 1 = 6 from (by rw [hw81])) d_Model_refer_32 ?_
                refine lv_iconst (v := 4) X.x X.b d_Model_refer_33 (by decide) ?_
                refine lv_icmp_le (tgt := 40) X.x X.b d_Model_refer_34 (by decide) (fun c8 => ?_) (fun c8 => ?_)
                · exact absurd c8 c4
                · skip
                  have c8q := Int32.not_le.mp c8
                  refine lv_goto (tgt := 160) X.x X.b d_Model_refer_37 (by decide) ?_
                  refine lv_iinc (v := 2) (lv' := [(1, .int 2), (0, .ref mo)]) X.x X.b d_Model_refer_160 hl (k := 0) rfl (by decide) (by decide) rfl (fun ls hl => ?_)
                  refine lv_goto (tgt := 2) X.x X.b d_Model_refer_163 (by decide) ?_
                  refine lv_iload_n X.x X.b d_Model_refer_2 rfl (lv_at hl 0 rfl) ?_
                  refine lv_aload_n X.x X.b d_Model_refer_3 rfl (lv_at hl 1 rfl) ?_
                  refine m_get (v := .int 2) X ok_Model hM.1 5 (by decide) k_Model_132 (congrArg (fun z => some (Value.int z)) (show p0 5 = 2 from (by rw [hw5]))) d_Model_refer_4 ?_
                  refine lv_icmp_ge (tgt := 166) X.x X.b d_Model_refer_7 (by decide) (fun c9 => ?_) (fun c9 => ?_)
                  · skip
                    have c9q := Int32.not_lt.mpr c9
                    exact m_vret X hS (by omega) (by omega) d_Model_refer_166 rfl rfl
                  · exact absurd c9 (by decide)
set_option maxRecDepth 100000 in
set_option maxHeartbeats 4000000 in
theorem M_Model_refer_s7 (l : Launch) (g : GG) {mo tq : Nat} {p0 : Nat → Int32} {s0 : Nat → Nat → Int32} {H0 : Heap} (hM : mAt g mo tq p0 s0 H0) (hw : twoI 7 p0 s0) : MP l y_Model_refer c_Model_refer 4 none 3 g H0 [.ref mo] (none) := by
  refine MM.of (by decide +kernel) (Nat.le_of_ble_eq_true rfl) ?_
  intro p e s m below meth cd X hH ls hl
  have X : CX g p s m _ meth cd c_Model_refer 4 none R_Model _ := X
  have hl : lv_has ls 4 [(0, .ref mo)] := hl
  have hS : va_S (AA (noA) H0) H0 H0 [] := va_S.rf
  have hlt0 := hM.lt
  have htq0 := hM.tq
  obtain ⟨⟨hw3, hw5⟩, hw8, hw81⟩ := hw
  refine lv_iconst (v := 0) X.x X.b d_Model_refer_0 (by decide) ?_
  refine lv_istore_n (lv' := [(1, .int 0), (0, .ref mo)]) X.x X.b d_Model_refer_1 rfl hl (by decide) rfl (fun ls hl => ?_)
  refine lv_iload_n X.x X.b d_Model_refer_2 rfl (lv_at hl 0 rfl) ?_
  refine lv_aload_n X.x X.b d_Model_refer_3 rfl (lv_at hl 1 rfl) ?_
  refine m_get (v := .int 2) X ok_Model hM.1 5 (by decide) k_Model_132 (congrArg (fun z => some (Value.int z)) (show p0 5 = 2 from (by rw [hw5]))) d_Model_refer_4 ?_
  refine lv_icmp_ge (tgt := 166) X.x X.b d_Model_refer_7 (by decide) (fun c1 => ?_) (fun c1 => ?_)
  · exact absurd c1 (by decide)
  · skip
    have c1q := Int32.not_le.mp c1
    refine lv_aload_n X.x X.b d_Model_refer_10 rfl (lv_at hl 1 rfl) ?_
    refine m_get (v := .int 0) X ok_Model hM.1 3 (by decide) k_Model_126 (congrArg (fun z => some (Value.int z)) (show p0 3 = 0 from (by rw [hw3]))) d_Model_refer_11 ?_
    refine lv_if_ne (tgt := 166) X.x X.b d_Model_refer_14 (by decide) (fun c2 => ?_) (fun c2 => ?_)
    · exact absurd c2 (by decide)
    · skip
      refine lv_aload_n X.x X.b d_Model_refer_17 rfl (lv_at hl 1 rfl) ?_
      refine m_get (v := .ref (mo + 3)) X ok_Model hM.1 8 (by decide) k_Model_16 rfl d_Model_refer_18 ?_
      refine lv_iload_n X.x X.b d_Model_refer_21 rfl (lv_at hl 0 rfl) ?_
      refine m_ild (v := 7) X hM.a8 0 rfl (by omega) (by decide) (show s0 8 0 = 7 from (by rw [hw8])) d_Model_refer_22 ?_
      refine lv_iconst (v := 2) X.x X.b d_Model_refer_23 (by decide) ?_
      refine lv_icmp_lt (tgt := 160) X.x X.b d_Model_refer_24 (by decide) (fun c3 => ?_) (fun c3 => ?_)
      · exact absurd c3 (by decide)
      · skip
        have c3q := Int32.not_lt.mp c3
        refine lv_aload_n X.x X.b d_Model_refer_27 rfl (lv_at hl 1 rfl) ?_
        refine m_get (v := .ref (mo + 3)) X ok_Model hM.1 8 (by decide) k_Model_16 rfl d_Model_refer_28 ?_
        refine lv_iload_n X.x X.b d_Model_refer_31 rfl (lv_at hl 0 rfl) ?_
        refine m_ild (v := 7) X hM.a8 0 rfl (by omega) (by decide) (show s0 8 0 = 7 from (by rw [hw8])) d_Model_refer_32 ?_
        refine lv_iconst (v := 4) X.x X.b d_Model_refer_33 (by decide) ?_
        refine lv_icmp_le (tgt := 40) X.x X.b d_Model_refer_34 (by decide) (fun c4 => ?_) (fun c4 => ?_)
        · exact absurd c4 (by decide)
        · skip
          have c4q := Int32.not_le.mp c4
          refine lv_goto (tgt := 160) X.x X.b d_Model_refer_37 (by decide) ?_
          refine lv_iinc (v := 1) (lv' := [(1, .int 1), (0, .ref mo)]) X.x X.b d_Model_refer_160 hl (k := 0) rfl (by decide) (by decide) rfl (fun ls hl => ?_)
          refine lv_goto (tgt := 2) X.x X.b d_Model_refer_163 (by decide) ?_
          refine lv_iload_n X.x X.b d_Model_refer_2 rfl (lv_at hl 0 rfl) ?_
          refine lv_aload_n X.x X.b d_Model_refer_3 rfl (lv_at hl 1 rfl) ?_
          refine m_get (v := .int 2) X ok_Model hM.1 5 (by decide) k_Model_132 (congrArg (fun z => some (Value.int z)) (show p0 5 = 2 from (by rw [hw5]))) d_Model_refer_4 ?_
          refine lv_icmp_ge (tgt := 166) X.x X.b d_Model_refer_7 (by decide) (fun c5 => ?_) (fun c5 => ?_)
          · exact absurd c5 (by decide)
          · skip
            have c5q := Int32.not_le.mp c5
            refine lv_aload_n X.x X.b d_Model_refer_10 rfl (lv_at hl 1 rfl) ?_
            refine m_get (v := .int 0) X ok_Model hM.1 3 (by decide) k_Model_126 (congrArg (fun z => some (Value.int z)) (show p0 3 = 0 from (by rw [hw3]))) d_Model_refer_11 ?_
            refine lv_if_ne (tgt := 166) X.x X.b d_Model_refer_14 (by decide) (fun c6 => ?_) (fun c6 => ?_)
            · exact absurd c2 c6
            · skip
              refine lv_aload_n X.x X.b d_Model_refer_17 rfl (lv_at hl 1 rfl) ?_
              refine m_get (v := .ref (mo + 3)) X ok_Model hM.1 8 (by decide) k_Model_16 rfl d_Model_refer_18 ?_
              refine lv_iload_n X.x X.b d_Model_refer_21 rfl (lv_at hl 0 rfl) ?_
              refine m_ild (v := 6) X hM.a8 1 rfl (by omega) (by decide) (show s0 8 1 = 6 from (by rw [hw81])) d_Model_refer_22 ?_
              refine lv_iconst (v := 2) X.x X.b d_Model_refer_23 (by decide) ?_
              refine lv_icmp_lt (tgt := 160) X.x X.b d_Model_refer_24 (by decide) (fun c7 => ?_) (fun c7 => ?_)
              · exact absurd c7 (by decide)
              · skip
                have c7q := Int32.not_lt.mp c7
                refine lv_aload_n X.x X.b d_Model_refer_27 rfl (lv_at hl 1 rfl) ?_
                refine m_get (v := .ref (mo + 3)) X ok_Model hM.1 8 (by decide) k_Model_16 rfl d_Model_refer_28 ?_
                refine lv_iload_n X.x X.b d_Model_refer_31 rfl (lv_at hl 0 rfl) ?_
                refine m_ild (v := 6) X hM.a8 1 rfl (by omega) (by decide) (show s0 8 1 = 6 from (by rw [hw81])) d_Model_refer_32 ?_
                refine lv_iconst (v := 4) X.x X.b d_Model_refer_33 (by decide) ?_
                refine lv_icmp_le (tgt := 40) X.x X.b d_Model_refer_34 (by decide) (fun c8 => ?_) (fun c8 => ?_)
                · exact absurd c8 (by decide)
                · skip
                  have c8q := Int32.not_le.mp c8
                  refine lv_goto (tgt := 160) X.x X.b d_Model_refer_37 (by decide) ?_
                  refine lv_iinc (v := 2) (lv' := [(1, .int 2), (0, .ref mo)]) X.x X.b d_Model_refer_160 hl (k := 0) rfl (by decide) (by decide) rfl (fun ls hl => ?_)
                  refine lv_goto (tgt := 2) X.x X.b d_Model_refer_163 (by decide) ?_
                  refine lv_iload_n X.x X.b d_Model_refer_2 rfl (lv_at hl 0 rfl) ?_
                  refine lv_aload_n X.x X.b d_Model_refer_3 rfl (lv_at hl 1 rfl) ?_
                  refine m_get (v := .int 2) X ok_Model hM.1 5 (by decide) k_Model_132 (congrArg (fun z => some (Value.int z)) (show p0 5 = 2 from (by rw [hw5]))) d_Model_refer_4 ?_
                  refine lv_icmp_ge (tgt := 166) X.x X.b d_Model_refer_7 (by decide) (fun c9 => ?_) (fun c9 => ?_)
                  · skip
                    have c9q := Int32.not_lt.mpr c9
                    exact m_vret X hS (by omega) (by omega) d_Model_refer_166 rfl rfl
                  · exact absurd c9 (by decide)
set_option maxRecDepth 100000 in
set_option maxHeartbeats 4000000 in
theorem M_Model_refer_o3 (l : Launch) (g : GG) {mo tq : Nat} {p0 : Nat → Int32} {s0 : Nat → Nat → Int32} {H0 : Heap} (hM : mAt g mo tq p0 s0 H0) (hw : twoI 3 p0 s0) (hx : s0 9 0 = -1) (hy : s0 10 0 = -1) : MM l y_Model_refer c_Model_refer 4 none 3 0 0 g H0 [.ref mo] (fun q => mo ≤ q ∧ q < mo + 23) (none) (fun H1 => ∃ s, mAt g mo tq p0 s H1 ∧ same [16, 17, 18, 19] s0 s ∧ s 16 0 = -1 ∧ s 17 0 = -1) := by
  refine MM.of (by decide +kernel) (Nat.le_of_ble_eq_true rfl) ?_
  intro p e s m below meth cd X hH ls hl
  have X : CX g p s m _ meth cd c_Model_refer 4 none R_Model _ := X
  have hl : lv_has ls 4 [(0, .ref mo)] := hl
  have hS : va_S (AA (fun q => mo ≤ q ∧ q < mo + 23) H0) H0 H0 [] := va_S.rf
  have hlt0 := hM.lt
  have htq0 := hM.tq
  obtain ⟨⟨hw3, hw5⟩, hw8, hw81⟩ := hw
  refine lv_iconst (v := 0) X.x X.b d_Model_refer_0 (by decide) ?_
  refine lv_istore_n (lv' := [(1, .int 0), (0, .ref mo)]) X.x X.b d_Model_refer_1 rfl hl (by decide) rfl (fun ls hl => ?_)
  refine lv_iload_n X.x X.b d_Model_refer_2 rfl (lv_at hl 0 rfl) ?_
  refine lv_aload_n X.x X.b d_Model_refer_3 rfl (lv_at hl 1 rfl) ?_
  refine m_get (v := .int 2) X ok_Model hM.1 5 (by decide) k_Model_132 (congrArg (fun z => some (Value.int z)) (show p0 5 = 2 from (by rw [hw5]))) d_Model_refer_4 ?_
  refine lv_icmp_ge (tgt := 166) X.x X.b d_Model_refer_7 (by decide) (fun c1 => ?_) (fun c1 => ?_)
  · exact absurd c1 (by decide)
  · skip
    have c1q := Int32.not_le.mp c1
    refine lv_aload_n X.x X.b d_Model_refer_10 rfl (lv_at hl 1 rfl) ?_
    refine m_get (v := .int 0) X ok_Model hM.1 3 (by decide) k_Model_126 (congrArg (fun z => some (Value.int z)) (show p0 3 = 0 from (by rw [hw3]))) d_Model_refer_11 ?_
    refine lv_if_ne (tgt := 166) X.x X.b d_Model_refer_14 (by decide) (fun c2 => ?_) (fun c2 => ?_)
    · exact absurd c2 (by decide)
    · skip
      refine lv_aload_n X.x X.b d_Model_refer_17 rfl (lv_at hl 1 rfl) ?_
      refine m_get (v := .ref (mo + 3)) X ok_Model hM.1 8 (by decide) k_Model_16 rfl d_Model_refer_18 ?_
      refine lv_iload_n X.x X.b d_Model_refer_21 rfl (lv_at hl 0 rfl) ?_
      refine m_ild (v := 3) X hM.a8 0 rfl (by omega) (by decide) (show s0 8 0 = 3 from (by rw [hw8])) d_Model_refer_22 ?_
      refine lv_iconst (v := 2) X.x X.b d_Model_refer_23 (by decide) ?_
      refine lv_icmp_lt (tgt := 160) X.x X.b d_Model_refer_24 (by decide) (fun c3 => ?_) (fun c3 => ?_)
      · exact absurd c3 (by decide)
      · skip
        have c3q := Int32.not_lt.mp c3
        refine lv_aload_n X.x X.b d_Model_refer_27 rfl (lv_at hl 1 rfl) ?_
        refine m_get (v := .ref (mo + 3)) X ok_Model hM.1 8 (by decide) k_Model_16 rfl d_Model_refer_28 ?_
        refine lv_iload_n X.x X.b d_Model_refer_31 rfl (lv_at hl 0 rfl) ?_
        refine m_ild (v := 3) X hM.a8 0 rfl (by omega) (by decide) (show s0 8 0 = 3 from (by rw [hw8])) d_Model_refer_32 ?_
        refine lv_iconst (v := 4) X.x X.b d_Model_refer_33 (by decide) ?_
        refine lv_icmp_le (tgt := 40) X.x X.b d_Model_refer_34 (by decide) (fun c4 => ?_) (fun c4 => ?_)
        · skip
          have c4q := Int32.not_lt.mpr c4
          refine lv_aload_n X.x X.b d_Model_refer_40 rfl (lv_at hl 1 rfl) ?_
          refine lv_aload_n X.x X.b d_Model_refer_41 rfl (lv_at hl 1 rfl) ?_
          refine m_get (v := .ref (mo + 4)) X ok_Model hM.1 9 (by decide) k_Model_19 rfl d_Model_refer_42 ?_
          refine lv_iload_n X.x X.b d_Model_refer_45 rfl (lv_at hl 0 rfl) ?_
          refine m_ild (v := (-1)) X hM.a9 0 rfl (by omega) (by decide) (show s0 9 0 = (-1) from (by rw [hx])) d_Model_refer_46 ?_
          refine lv_iload_n X.x X.b d_Model_refer_47 rfl (lv_at hl 0 rfl) ?_
          refine m_callP X hS (M_Model_meant_n l g hM 0) v_Model_154 hM.1 rfl rfl rfl (Nat.le_of_ble_eq_true rfl) hl.1 d_Model_refer_48 (by omega) (by decide) ⟨by omega, by omega⟩ (fun locs hS => ?_)
          refine lv_istore_n (lv' := [(2, .int (-1)), (1, .int 0), (0, .ref mo)]) X.x X.b d_Model_refer_51 rfl hl (by decide) rfl (fun ls hl => ?_)
          refine lv_aload_n X.x X.b d_Model_refer_52 rfl (lv_at hl 2 rfl) ?_
          refine lv_aload_n X.x X.b d_Model_refer_53 rfl (lv_at hl 2 rfl) ?_
          refine m_get (v := .ref (mo + 5)) X ok_Model hM.1 10 (by decide) k_Model_22 rfl d_Model_refer_54 ?_
          refine lv_iload_n X.x X.b d_Model_refer_57 rfl (lv_at hl 1 rfl) ?_
          refine m_ild (v := (-1)) X hM.a10 0 rfl (by omega) (by decide) (show s0 10 0 = (-1) from (by rw [hy])) d_Model_refer_58 ?_
          refine lv_iload_n X.x X.b d_Model_refer_59 rfl (lv_at hl 1 rfl) ?_
          refine m_callP X hS (M_Model_meant_n l g hM 0) v_Model_154 hM.1 rfl rfl rfl (Nat.le_of_ble_eq_true rfl) hl.1 d_Model_refer_60 (by omega) (by decide) ⟨by omega, by omega⟩ (fun locs hS => ?_)
          refine lv_istore_n (lv' := [(3, .int (-1)), (2, .int (-1)), (1, .int 0), (0, .ref mo)]) X.x X.b d_Model_refer_63 rfl hl (by decide) rfl (fun ls hl => ?_)
          refine lv_iload_n X.x X.b d_Model_refer_64 rfl (lv_at hl 1 rfl) ?_
          refine lv_bipush (v := -2) X.x X.b d_Model_refer_65 (by decide) ?_
          refine lv_icmp_eq (tgt := 76) X.x X.b d_Model_refer_67 (by decide) (fun c5 => ?_) (fun c5 => ?_)
          · exact absurd c5 (by decide)
          · skip
            refine lv_iload_n X.x X.b d_Model_refer_70 rfl (lv_at hl 0 rfl) ?_
            refine lv_bipush (v := -2) X.x X.b d_Model_refer_71 (by decide) ?_
            refine lv_icmp_ne (tgt := 88) X.x X.b d_Model_refer_73 (by decide) (fun c6 => ?_) (fun c6 => ?_)
            · skip
              refine lv_aload_n X.x X.b d_Model_refer_88 rfl (lv_at hl 3 rfl) ?_
              refine m_get (v := .ref (mo + 11)) X ok_Model hM.1 16 (by decide) k_Model_40 rfl d_Model_refer_89 ?_
              refine lv_iload_n X.x X.b d_Model_refer_92 rfl (lv_at hl 2 rfl) ?_
              refine lv_iconst (v := -1) X.x X.b d_Model_refer_93 (by decide) ?_
              refine lv_iload_n X.x X.b d_Model_refer_94 rfl (lv_at hl 1 rfl) ?_
              refine m_max (v := (-1)) X (by decide) wmaxM (Nat.le_of_ble_eq_true rfl) hl.1 ⟨Nat.zero_le _, Nat.zero_le _⟩ (by decide) d_Model_refer_95 ?_
              refine m_ist X hS (Or.inl ⟨by omega, by omega⟩) hM.a16 0 rfl (by omega) (by decide) d_Model_refer_98 (fun H locs hp hcg hS => ?_)
              have hM := hM.s16 hp hcg
              obtain ⟨s_1, es_1⟩ : ∃ z, z = updR s0 16 (upd (s0 16) 0 (-1)) := ⟨_, rfl⟩
              rw [← es_1] at hM
              refine lv_aload_n X.x X.b d_Model_refer_99 rfl (lv_at hl 3 rfl) ?_
              refine m_get (v := .ref (mo + 12)) X ok_Model hM.1 17 (by decide) k_Model_43 rfl d_Model_refer_100 ?_
              refine lv_iload_n X.x X.b d_Model_refer_103 rfl (lv_at hl 2 rfl) ?_
              refine lv_iconst (v := -1) X.x X.b d_Model_refer_104 (by decide) ?_
              refine lv_iload_n X.x X.b d_Model_refer_105 rfl (lv_at hl 0 rfl) ?_
              refine m_max (v := (-1)) X (by decide) wmaxM (Nat.le_of_ble_eq_true rfl) hl.1 ⟨Nat.zero_le _, Nat.zero_le _⟩ (by decide) d_Model_refer_106 ?_
              refine m_ist X hS (Or.inl ⟨by omega, by omega⟩) hM.a17 0 rfl (by omega) (by decide) d_Model_refer_109 (fun H locs hp hcg hS => ?_)
              have hM := hM.s17 hp hcg
              obtain ⟨s_2, es_2⟩ : ∃ z, z = updR s_1 17 (upd (s_1 17) 0 (-1)) := ⟨_, rfl⟩
              rw [← es_2] at hM
              refine lv_aload_n X.x X.b d_Model_refer_110 rfl (lv_at hl 3 rfl) ?_
              refine m_get (v := .ref (mo + 13)) X ok_Model hM.1 18 (by decide) k_Model_46 rfl d_Model_refer_111 ?_
              refine lv_iload_n X.x X.b d_Model_refer_114 rfl (lv_at hl 2 rfl) ?_
              refine lv_iload_n X.x X.b d_Model_refer_115 rfl (lv_at hl 1 rfl) ?_
              refine lv_bipush (v := -2) X.x X.b d_Model_refer_116 (by decide) ?_
              refine lv_icmp_ge (tgt := 133) X.x X.b d_Model_refer_118 (by decide) (fun c7 => ?_) (fun c7 => ?_)
              · skip
                have c7q := Int32.not_lt.mpr c7
                refine lv_iconst (v := 0) X.x X.b d_Model_refer_133 (by decide) ?_
                refine m_ist X hS (Or.inl ⟨by omega, by omega⟩) hM.a18 0 rfl (by omega) (by decide) d_Model_refer_134 (fun H locs hp hcg hS => ?_)
                have hM := hM.s18 hp hcg
                obtain ⟨s_3, es_3⟩ : ∃ z, z = updR s_2 18 (upd (s_2 18) 0 0) := ⟨_, rfl⟩
                rw [← es_3] at hM
                refine lv_aload_n X.x X.b d_Model_refer_135 rfl (lv_at hl 3 rfl) ?_
                refine m_get (v := .ref (mo + 14)) X ok_Model hM.1 19 (by decide) k_Model_49 rfl d_Model_refer_136 ?_
                refine lv_iload_n X.x X.b d_Model_refer_139 rfl (lv_at hl 2 rfl) ?_
                refine lv_iload_n X.x X.b d_Model_refer_140 rfl (lv_at hl 0 rfl) ?_
                refine lv_bipush (v := -2) X.x X.b d_Model_refer_141 (by decide) ?_
                refine lv_icmp_ge (tgt := 158) X.x X.b d_Model_refer_143 (by decide) (fun c8 => ?_) (fun c8 => ?_)
                · skip
                  have c8q := Int32.not_lt.mpr c8
                  refine lv_iconst (v := 0) X.x X.b d_Model_refer_158 (by decide) ?_
                  refine m_ist X hS (Or.inl ⟨by omega, by omega⟩) hM.a19 0 rfl (by omega) (by decide) d_Model_refer_159 (fun H locs hp hcg hS => ?_)
                  have hM := hM.s19 hp hcg
                  obtain ⟨s_4, es_4⟩ : ∃ z, z = updR s_3 19 (upd (s_3 19) 0 0) := ⟨_, rfl⟩
                  rw [← es_4] at hM
                  refine lv_iinc (v := 1) (lv' := [(1, .int 1), (3, .int (-1)), (2, .int (-1)), (0, .ref mo)]) X.x X.b d_Model_refer_160 hl (k := 2) rfl (by decide) (by decide) rfl (fun ls hl => ?_)
                  refine lv_goto (tgt := 2) X.x X.b d_Model_refer_163 (by decide) ?_
                  refine lv_iload_n X.x X.b d_Model_refer_2 rfl (lv_at hl 0 rfl) ?_
                  refine lv_aload_n X.x X.b d_Model_refer_3 rfl (lv_at hl 3 rfl) ?_
                  refine m_get (v := .int 2) X ok_Model hM.1 5 (by decide) k_Model_132 (congrArg (fun z => some (Value.int z)) (show p0 5 = 2 from (by rw [hw5]))) d_Model_refer_4 ?_
                  refine lv_icmp_ge (tgt := 166) X.x X.b d_Model_refer_7 (by decide) (fun c9 => ?_) (fun c9 => ?_)
                  · exact absurd c9 (by decide)
                  · skip
                    have c9q := Int32.not_le.mp c9
                    refine lv_aload_n X.x X.b d_Model_refer_10 rfl (lv_at hl 3 rfl) ?_
                    refine m_get (v := .int 0) X ok_Model hM.1 3 (by decide) k_Model_126 (congrArg (fun z => some (Value.int z)) (show p0 3 = 0 from (by rw [hw3]))) d_Model_refer_11 ?_
                    refine lv_if_ne (tgt := 166) X.x X.b d_Model_refer_14 (by decide) (fun c10 => ?_) (fun c10 => ?_)
                    · exact absurd c2 c10
                    · skip
                      refine lv_aload_n X.x X.b d_Model_refer_17 rfl (lv_at hl 3 rfl) ?_
                      refine m_get (v := .ref (mo + 3)) X ok_Model hM.1 8 (by decide) k_Model_16 rfl d_Model_refer_18 ?_
                      refine lv_iload_n X.x X.b d_Model_refer_21 rfl (lv_at hl 0 rfl) ?_
                      refine m_ild (v := 6) X hM.a8 1 rfl (by omega) (by decide) (show s_4 8 1 = 6 from (by rw [es_4, updR_mf _ _ _ (show 8 ≠ 19 by decide), es_3, updR_mf _ _ _ (show 8 ≠ 18 by decide), es_2, updR_mf _ _ _ (show 8 ≠ 17 by decide), es_1, updR_mf _ _ _ (show 8 ≠ 16 by decide), hw81])) d_Model_refer_22 ?_
                      refine lv_iconst (v := 2) X.x X.b d_Model_refer_23 (by decide) ?_
                      refine lv_icmp_lt (tgt := 160) X.x X.b d_Model_refer_24 (by decide) (fun c11 => ?_) (fun c11 => ?_)
                      · exact absurd c11 (by decide)
                      · skip
                        have c11q := Int32.not_lt.mp c11
                        refine lv_aload_n X.x X.b d_Model_refer_27 rfl (lv_at hl 3 rfl) ?_
                        refine m_get (v := .ref (mo + 3)) X ok_Model hM.1 8 (by decide) k_Model_16 rfl d_Model_refer_28 ?_
                        refine lv_iload_n X.x X.b d_Model_refer_31 rfl (lv_at hl 0 rfl) ?_
                        refine m_ild (v := 6) X hM.a8 1 rfl (by omega) (by decide) (show s_4 8 1 = 6 from (by rw [es_4, updR_mf _ _ _ (show 8 ≠ 19 by decide), es_3, updR_mf _ _ _ (show 8 ≠ 18 by decide), es_2, updR_mf _ _ _ (show 8 ≠ 17 by decide), es_1, updR_mf _ _ _ (show 8 ≠ 16 by decide), hw81])) d_Model_refer_32 ?_
                        refine lv_iconst (v := 4) X.x X.b d_Model_refer_33 (by decide) ?_
                        refine lv_icmp_le (tgt := 40) X.x X.b d_Model_refer_34 (by decide) (fun c12 => ?_) (fun c12 => ?_)
                        · exact absurd c12 (by decide)
                        · skip
                          have c12q := Int32.not_le.mp c12
                          refine lv_goto (tgt := 160) X.x X.b d_Model_refer_37 (by decide) ?_
                          refine lv_iinc (v := 2) (lv' := [(1, .int 2), (3, .int (-1)), (2, .int (-1)), (0, .ref mo)]) X.x X.b d_Model_refer_160 hl (k := 0) rfl (by decide) (by decide) rfl (fun ls hl => ?_)
                          refine lv_goto (tgt := 2) X.x X.b d_Model_refer_163 (by decide) ?_
                          refine lv_iload_n X.x X.b d_Model_refer_2 rfl (lv_at hl 0 rfl) ?_
                          refine lv_aload_n X.x X.b d_Model_refer_3 rfl (lv_at hl 3 rfl) ?_
                          refine m_get (v := .int 2) X ok_Model hM.1 5 (by decide) k_Model_132 (congrArg (fun z => some (Value.int z)) (show p0 5 = 2 from (by rw [hw5]))) d_Model_refer_4 ?_
                          refine lv_icmp_ge (tgt := 166) X.x X.b d_Model_refer_7 (by decide) (fun c13 => ?_) (fun c13 => ?_)
                          · skip
                            have c13q := Int32.not_lt.mpr c13
                            exact m_vret X hS (by omega) (by omega) d_Model_refer_166 rfl ⟨_, hM, by rw [es_4]; rw [es_3]; rw [es_2]; rw [es_1]; exact (((((same.rf _ _).up _ _ (by decide)).up _ _ (by decide)).up _ _ (by decide)).up _ _ (by decide)), (by rw [es_4, updR_mf _ _ _ (show 16 ≠ 19 by decide), es_3, updR_mf _ _ _ (show 16 ≠ 18 by decide), es_2, updR_mf _ _ _ (show 16 ≠ 17 by decide), es_1, updR_hit]), (by rw [es_4, updR_mf _ _ _ (show 17 ≠ 19 by decide), es_3, updR_mf _ _ _ (show 17 ≠ 18 by decide), es_2, updR_hit])⟩
                          · exact absurd c13 (by decide)
                · exact absurd c7 c8
              · exact absurd c7 (by decide)
            · exact absurd c6 c5
        · exact absurd c4 (by decide)
set_option maxRecDepth 100000 in
set_option maxHeartbeats 4000000 in
theorem M_Model_refer_o4 (l : Launch) (g : GG) {mo tq : Nat} {p0 : Nat → Int32} {s0 : Nat → Nat → Int32} {H0 : Heap} (hM : mAt g mo tq p0 s0 H0) (hw : twoI 4 p0 s0) (hx : s0 9 0 = -1) (hy : s0 10 0 = -1) : MM l y_Model_refer c_Model_refer 4 none 3 0 0 g H0 [.ref mo] (fun q => mo ≤ q ∧ q < mo + 23) (none) (fun H1 => ∃ s, mAt g mo tq p0 s H1 ∧ same [16, 17, 18, 19] s0 s ∧ s 16 0 = -1 ∧ s 17 0 = -1) := by
  refine MM.of (by decide +kernel) (Nat.le_of_ble_eq_true rfl) ?_
  intro p e s m below meth cd X hH ls hl
  have X : CX g p s m _ meth cd c_Model_refer 4 none R_Model _ := X
  have hl : lv_has ls 4 [(0, .ref mo)] := hl
  have hS : va_S (AA (fun q => mo ≤ q ∧ q < mo + 23) H0) H0 H0 [] := va_S.rf
  have hlt0 := hM.lt
  have htq0 := hM.tq
  obtain ⟨⟨hw3, hw5⟩, hw8, hw81⟩ := hw
  refine lv_iconst (v := 0) X.x X.b d_Model_refer_0 (by decide) ?_
  refine lv_istore_n (lv' := [(1, .int 0), (0, .ref mo)]) X.x X.b d_Model_refer_1 rfl hl (by decide) rfl (fun ls hl => ?_)
  refine lv_iload_n X.x X.b d_Model_refer_2 rfl (lv_at hl 0 rfl) ?_
  refine lv_aload_n X.x X.b d_Model_refer_3 rfl (lv_at hl 1 rfl) ?_
  refine m_get (v := .int 2) X ok_Model hM.1 5 (by decide) k_Model_132 (congrArg (fun z => some (Value.int z)) (show p0 5 = 2 from (by rw [hw5]))) d_Model_refer_4 ?_
  refine lv_icmp_ge (tgt := 166) X.x X.b d_Model_refer_7 (by decide) (fun c1 => ?_) (fun c1 => ?_)
  · exact absurd c1 (by decide)
  · skip
    have c1q := Int32.not_le.mp c1
    refine lv_aload_n X.x X.b d_Model_refer_10 rfl (lv_at hl 1 rfl) ?_
    refine m_get (v := .int 0) X ok_Model hM.1 3 (by decide) k_Model_126 (congrArg (fun z => some (Value.int z)) (show p0 3 = 0 from (by rw [hw3]))) d_Model_refer_11 ?_
    refine lv_if_ne (tgt := 166) X.x X.b d_Model_refer_14 (by decide) (fun c2 => ?_) (fun c2 => ?_)
    · exact absurd c2 (by decide)
    · skip
      refine lv_aload_n X.x X.b d_Model_refer_17 rfl (lv_at hl 1 rfl) ?_
      refine m_get (v := .ref (mo + 3)) X ok_Model hM.1 8 (by decide) k_Model_16 rfl d_Model_refer_18 ?_
      refine lv_iload_n X.x X.b d_Model_refer_21 rfl (lv_at hl 0 rfl) ?_
      refine m_ild (v := 4) X hM.a8 0 rfl (by omega) (by decide) (show s0 8 0 = 4 from (by rw [hw8])) d_Model_refer_22 ?_
      refine lv_iconst (v := 2) X.x X.b d_Model_refer_23 (by decide) ?_
      refine lv_icmp_lt (tgt := 160) X.x X.b d_Model_refer_24 (by decide) (fun c3 => ?_) (fun c3 => ?_)
      · exact absurd c3 (by decide)
      · skip
        have c3q := Int32.not_lt.mp c3
        refine lv_aload_n X.x X.b d_Model_refer_27 rfl (lv_at hl 1 rfl) ?_
        refine m_get (v := .ref (mo + 3)) X ok_Model hM.1 8 (by decide) k_Model_16 rfl d_Model_refer_28 ?_
        refine lv_iload_n X.x X.b d_Model_refer_31 rfl (lv_at hl 0 rfl) ?_
        refine m_ild (v := 4) X hM.a8 0 rfl (by omega) (by decide) (show s0 8 0 = 4 from (by rw [hw8])) d_Model_refer_32 ?_
        refine lv_iconst (v := 4) X.x X.b d_Model_refer_33 (by decide) ?_
        refine lv_icmp_le (tgt := 40) X.x X.b d_Model_refer_34 (by decide) (fun c4 => ?_) (fun c4 => ?_)
        · skip
          have c4q := Int32.not_lt.mpr c4
          refine lv_aload_n X.x X.b d_Model_refer_40 rfl (lv_at hl 1 rfl) ?_
          refine lv_aload_n X.x X.b d_Model_refer_41 rfl (lv_at hl 1 rfl) ?_
          refine m_get (v := .ref (mo + 4)) X ok_Model hM.1 9 (by decide) k_Model_19 rfl d_Model_refer_42 ?_
          refine lv_iload_n X.x X.b d_Model_refer_45 rfl (lv_at hl 0 rfl) ?_
          refine m_ild (v := (-1)) X hM.a9 0 rfl (by omega) (by decide) (show s0 9 0 = (-1) from (by rw [hx])) d_Model_refer_46 ?_
          refine lv_iload_n X.x X.b d_Model_refer_47 rfl (lv_at hl 0 rfl) ?_
          refine m_callP X hS (M_Model_meant_n l g hM 0) v_Model_154 hM.1 rfl rfl rfl (Nat.le_of_ble_eq_true rfl) hl.1 d_Model_refer_48 (by omega) (by decide) ⟨by omega, by omega⟩ (fun locs hS => ?_)
          refine lv_istore_n (lv' := [(2, .int (-1)), (1, .int 0), (0, .ref mo)]) X.x X.b d_Model_refer_51 rfl hl (by decide) rfl (fun ls hl => ?_)
          refine lv_aload_n X.x X.b d_Model_refer_52 rfl (lv_at hl 2 rfl) ?_
          refine lv_aload_n X.x X.b d_Model_refer_53 rfl (lv_at hl 2 rfl) ?_
          refine m_get (v := .ref (mo + 5)) X ok_Model hM.1 10 (by decide) k_Model_22 rfl d_Model_refer_54 ?_
          refine lv_iload_n X.x X.b d_Model_refer_57 rfl (lv_at hl 1 rfl) ?_
          refine m_ild (v := (-1)) X hM.a10 0 rfl (by omega) (by decide) (show s0 10 0 = (-1) from (by rw [hy])) d_Model_refer_58 ?_
          refine lv_iload_n X.x X.b d_Model_refer_59 rfl (lv_at hl 1 rfl) ?_
          refine m_callP X hS (M_Model_meant_n l g hM 0) v_Model_154 hM.1 rfl rfl rfl (Nat.le_of_ble_eq_true rfl) hl.1 d_Model_refer_60 (by omega) (by decide) ⟨by omega, by omega⟩ (fun locs hS => ?_)
          refine lv_istore_n (lv' := [(3, .int (-1)), (2, .int (-1)), (1, .int 0), (0, .ref mo)]) X.x X.b d_Model_refer_63 rfl hl (by decide) rfl (fun ls hl => ?_)
          refine lv_iload_n X.x X.b d_Model_refer_64 rfl (lv_at hl 1 rfl) ?_
          refine lv_bipush (v := -2) X.x X.b d_Model_refer_65 (by decide) ?_
          refine lv_icmp_eq (tgt := 76) X.x X.b d_Model_refer_67 (by decide) (fun c5 => ?_) (fun c5 => ?_)
          · exact absurd c5 (by decide)
          · skip
            refine lv_iload_n X.x X.b d_Model_refer_70 rfl (lv_at hl 0 rfl) ?_
            refine lv_bipush (v := -2) X.x X.b d_Model_refer_71 (by decide) ?_
            refine lv_icmp_ne (tgt := 88) X.x X.b d_Model_refer_73 (by decide) (fun c6 => ?_) (fun c6 => ?_)
            · skip
              refine lv_aload_n X.x X.b d_Model_refer_88 rfl (lv_at hl 3 rfl) ?_
              refine m_get (v := .ref (mo + 11)) X ok_Model hM.1 16 (by decide) k_Model_40 rfl d_Model_refer_89 ?_
              refine lv_iload_n X.x X.b d_Model_refer_92 rfl (lv_at hl 2 rfl) ?_
              refine lv_iconst (v := -1) X.x X.b d_Model_refer_93 (by decide) ?_
              refine lv_iload_n X.x X.b d_Model_refer_94 rfl (lv_at hl 1 rfl) ?_
              refine m_max (v := (-1)) X (by decide) wmaxM (Nat.le_of_ble_eq_true rfl) hl.1 ⟨Nat.zero_le _, Nat.zero_le _⟩ (by decide) d_Model_refer_95 ?_
              refine m_ist X hS (Or.inl ⟨by omega, by omega⟩) hM.a16 0 rfl (by omega) (by decide) d_Model_refer_98 (fun H locs hp hcg hS => ?_)
              have hM := hM.s16 hp hcg
              obtain ⟨s_1, es_1⟩ : ∃ z, z = updR s0 16 (upd (s0 16) 0 (-1)) := ⟨_, rfl⟩
              rw [← es_1] at hM
              refine lv_aload_n X.x X.b d_Model_refer_99 rfl (lv_at hl 3 rfl) ?_
              refine m_get (v := .ref (mo + 12)) X ok_Model hM.1 17 (by decide) k_Model_43 rfl d_Model_refer_100 ?_
              refine lv_iload_n X.x X.b d_Model_refer_103 rfl (lv_at hl 2 rfl) ?_
              refine lv_iconst (v := -1) X.x X.b d_Model_refer_104 (by decide) ?_
              refine lv_iload_n X.x X.b d_Model_refer_105 rfl (lv_at hl 0 rfl) ?_
              refine m_max (v := (-1)) X (by decide) wmaxM (Nat.le_of_ble_eq_true rfl) hl.1 ⟨Nat.zero_le _, Nat.zero_le _⟩ (by decide) d_Model_refer_106 ?_
              refine m_ist X hS (Or.inl ⟨by omega, by omega⟩) hM.a17 0 rfl (by omega) (by decide) d_Model_refer_109 (fun H locs hp hcg hS => ?_)
              have hM := hM.s17 hp hcg
              obtain ⟨s_2, es_2⟩ : ∃ z, z = updR s_1 17 (upd (s_1 17) 0 (-1)) := ⟨_, rfl⟩
              rw [← es_2] at hM
              refine lv_aload_n X.x X.b d_Model_refer_110 rfl (lv_at hl 3 rfl) ?_
              refine m_get (v := .ref (mo + 13)) X ok_Model hM.1 18 (by decide) k_Model_46 rfl d_Model_refer_111 ?_
              refine lv_iload_n X.x X.b d_Model_refer_114 rfl (lv_at hl 2 rfl) ?_
              refine lv_iload_n X.x X.b d_Model_refer_115 rfl (lv_at hl 1 rfl) ?_
              refine lv_bipush (v := -2) X.x X.b d_Model_refer_116 (by decide) ?_
              refine lv_icmp_ge (tgt := 133) X.x X.b d_Model_refer_118 (by decide) (fun c7 => ?_) (fun c7 => ?_)
              · skip
                have c7q := Int32.not_lt.mpr c7
                refine lv_iconst (v := 0) X.x X.b d_Model_refer_133 (by decide) ?_
                refine m_ist X hS (Or.inl ⟨by omega, by omega⟩) hM.a18 0 rfl (by omega) (by decide) d_Model_refer_134 (fun H locs hp hcg hS => ?_)
                have hM := hM.s18 hp hcg
                obtain ⟨s_3, es_3⟩ : ∃ z, z = updR s_2 18 (upd (s_2 18) 0 0) := ⟨_, rfl⟩
                rw [← es_3] at hM
                refine lv_aload_n X.x X.b d_Model_refer_135 rfl (lv_at hl 3 rfl) ?_
                refine m_get (v := .ref (mo + 14)) X ok_Model hM.1 19 (by decide) k_Model_49 rfl d_Model_refer_136 ?_
                refine lv_iload_n X.x X.b d_Model_refer_139 rfl (lv_at hl 2 rfl) ?_
                refine lv_iload_n X.x X.b d_Model_refer_140 rfl (lv_at hl 0 rfl) ?_
                refine lv_bipush (v := -2) X.x X.b d_Model_refer_141 (by decide) ?_
                refine lv_icmp_ge (tgt := 158) X.x X.b d_Model_refer_143 (by decide) (fun c8 => ?_) (fun c8 => ?_)
                · skip
                  have c8q := Int32.not_lt.mpr c8
                  refine lv_iconst (v := 0) X.x X.b d_Model_refer_158 (by decide) ?_
                  refine m_ist X hS (Or.inl ⟨by omega, by omega⟩) hM.a19 0 rfl (by omega) (by decide) d_Model_refer_159 (fun H locs hp hcg hS => ?_)
                  have hM := hM.s19 hp hcg
                  obtain ⟨s_4, es_4⟩ : ∃ z, z = updR s_3 19 (upd (s_3 19) 0 0) := ⟨_, rfl⟩
                  rw [← es_4] at hM
                  refine lv_iinc (v := 1) (lv' := [(1, .int 1), (3, .int (-1)), (2, .int (-1)), (0, .ref mo)]) X.x X.b d_Model_refer_160 hl (k := 2) rfl (by decide) (by decide) rfl (fun ls hl => ?_)
                  refine lv_goto (tgt := 2) X.x X.b d_Model_refer_163 (by decide) ?_
                  refine lv_iload_n X.x X.b d_Model_refer_2 rfl (lv_at hl 0 rfl) ?_
                  refine lv_aload_n X.x X.b d_Model_refer_3 rfl (lv_at hl 3 rfl) ?_
                  refine m_get (v := .int 2) X ok_Model hM.1 5 (by decide) k_Model_132 (congrArg (fun z => some (Value.int z)) (show p0 5 = 2 from (by rw [hw5]))) d_Model_refer_4 ?_
                  refine lv_icmp_ge (tgt := 166) X.x X.b d_Model_refer_7 (by decide) (fun c9 => ?_) (fun c9 => ?_)
                  · exact absurd c9 (by decide)
                  · skip
                    have c9q := Int32.not_le.mp c9
                    refine lv_aload_n X.x X.b d_Model_refer_10 rfl (lv_at hl 3 rfl) ?_
                    refine m_get (v := .int 0) X ok_Model hM.1 3 (by decide) k_Model_126 (congrArg (fun z => some (Value.int z)) (show p0 3 = 0 from (by rw [hw3]))) d_Model_refer_11 ?_
                    refine lv_if_ne (tgt := 166) X.x X.b d_Model_refer_14 (by decide) (fun c10 => ?_) (fun c10 => ?_)
                    · exact absurd c2 c10
                    · skip
                      refine lv_aload_n X.x X.b d_Model_refer_17 rfl (lv_at hl 3 rfl) ?_
                      refine m_get (v := .ref (mo + 3)) X ok_Model hM.1 8 (by decide) k_Model_16 rfl d_Model_refer_18 ?_
                      refine lv_iload_n X.x X.b d_Model_refer_21 rfl (lv_at hl 0 rfl) ?_
                      refine m_ild (v := 6) X hM.a8 1 rfl (by omega) (by decide) (show s_4 8 1 = 6 from (by rw [es_4, updR_mf _ _ _ (show 8 ≠ 19 by decide), es_3, updR_mf _ _ _ (show 8 ≠ 18 by decide), es_2, updR_mf _ _ _ (show 8 ≠ 17 by decide), es_1, updR_mf _ _ _ (show 8 ≠ 16 by decide), hw81])) d_Model_refer_22 ?_
                      refine lv_iconst (v := 2) X.x X.b d_Model_refer_23 (by decide) ?_
                      refine lv_icmp_lt (tgt := 160) X.x X.b d_Model_refer_24 (by decide) (fun c11 => ?_) (fun c11 => ?_)
                      · exact absurd c11 (by decide)
                      · skip
                        have c11q := Int32.not_lt.mp c11
                        refine lv_aload_n X.x X.b d_Model_refer_27 rfl (lv_at hl 3 rfl) ?_
                        refine m_get (v := .ref (mo + 3)) X ok_Model hM.1 8 (by decide) k_Model_16 rfl d_Model_refer_28 ?_
                        refine lv_iload_n X.x X.b d_Model_refer_31 rfl (lv_at hl 0 rfl) ?_
                        refine m_ild (v := 6) X hM.a8 1 rfl (by omega) (by decide) (show s_4 8 1 = 6 from (by rw [es_4, updR_mf _ _ _ (show 8 ≠ 19 by decide), es_3, updR_mf _ _ _ (show 8 ≠ 18 by decide), es_2, updR_mf _ _ _ (show 8 ≠ 17 by decide), es_1, updR_mf _ _ _ (show 8 ≠ 16 by decide), hw81])) d_Model_refer_32 ?_
                        refine lv_iconst (v := 4) X.x X.b d_Model_refer_33 (by decide) ?_
                        refine lv_icmp_le (tgt := 40) X.x X.b d_Model_refer_34 (by decide) (fun c12 => ?_) (fun c12 => ?_)
                        · exact absurd c12 (by decide)
                        · skip
                          have c12q := Int32.not_le.mp c12
                          refine lv_goto (tgt := 160) X.x X.b d_Model_refer_37 (by decide) ?_
                          refine lv_iinc (v := 2) (lv' := [(1, .int 2), (3, .int (-1)), (2, .int (-1)), (0, .ref mo)]) X.x X.b d_Model_refer_160 hl (k := 0) rfl (by decide) (by decide) rfl (fun ls hl => ?_)
                          refine lv_goto (tgt := 2) X.x X.b d_Model_refer_163 (by decide) ?_
                          refine lv_iload_n X.x X.b d_Model_refer_2 rfl (lv_at hl 0 rfl) ?_
                          refine lv_aload_n X.x X.b d_Model_refer_3 rfl (lv_at hl 3 rfl) ?_
                          refine m_get (v := .int 2) X ok_Model hM.1 5 (by decide) k_Model_132 (congrArg (fun z => some (Value.int z)) (show p0 5 = 2 from (by rw [hw5]))) d_Model_refer_4 ?_
                          refine lv_icmp_ge (tgt := 166) X.x X.b d_Model_refer_7 (by decide) (fun c13 => ?_) (fun c13 => ?_)
                          · skip
                            have c13q := Int32.not_lt.mpr c13
                            exact m_vret X hS (by omega) (by omega) d_Model_refer_166 rfl ⟨_, hM, by rw [es_4]; rw [es_3]; rw [es_2]; rw [es_1]; exact (((((same.rf _ _).up _ _ (by decide)).up _ _ (by decide)).up _ _ (by decide)).up _ _ (by decide)), (by rw [es_4, updR_mf _ _ _ (show 16 ≠ 19 by decide), es_3, updR_mf _ _ _ (show 16 ≠ 18 by decide), es_2, updR_mf _ _ _ (show 16 ≠ 17 by decide), es_1, updR_hit]), (by rw [es_4, updR_mf _ _ _ (show 17 ≠ 19 by decide), es_3, updR_mf _ _ _ (show 17 ≠ 18 by decide), es_2, updR_hit])⟩
                          · exact absurd c13 (by decide)
                · exact absurd c7 c8
              · exact absurd c7 (by decide)
            · exact absurd c6 c5
        · exact absurd c4 (by decide)
set_option maxRecDepth 100000 in
set_option maxHeartbeats 4000000 in
theorem M_Model_refer_f2x (l : Launch) (g : GG) {mo tq : Nat} {p0 : Nat → Int32} {s0 : Nat → Nat → Int32} {H0 : Heap} (hM : mAt g mo tq p0 s0 H0) (hw : twoI 2 p0 s0) {j : Nat} (hj : j ≤ 11) (h27 : ∀ j, j < 8 → s0 27 j = -1) (hx : s0 9 0 = nI j) (hy : s0 10 0 = (-1)) : MM l y_Model_refer c_Model_refer 4 none 3 0 0 g H0 [.ref mo] (fun q => mo ≤ q ∧ q < mo + 23) (none) (fun H1 => ∃ p, mAt g mo tq p s0 H1 ∧ p 0 = p0 0 ∧ p 3 = 5) := by
  refine MM.of (by decide +kernel) (Nat.le_of_ble_eq_true rfl) ?_
  intro p e s m below meth cd X hH ls hl
  have X : CX g p s m _ meth cd c_Model_refer 4 none R_Model _ := X
  have hl : lv_has ls 4 [(0, .ref mo)] := hl
  have hS : va_S (AA (fun q => mo ≤ q ∧ q < mo + 23) H0) H0 H0 [] := va_S.rf
  have hlt0 := hM.lt
  have htq0 := hM.tq
  have hw0 := hw
  obtain ⟨⟨hw3, hw5⟩, hw8, hw81⟩ := hw
  refine lv_iconst (v := 0) X.x X.b d_Model_refer_0 (by decide) ?_
  refine lv_istore_n (lv' := [(1, .int 0), (0, .ref mo)]) X.x X.b d_Model_refer_1 rfl hl (by decide) rfl (fun ls hl => ?_)
  refine lv_iload_n X.x X.b d_Model_refer_2 rfl (lv_at hl 0 rfl) ?_
  refine lv_aload_n X.x X.b d_Model_refer_3 rfl (lv_at hl 1 rfl) ?_
  refine m_get (v := .int 2) X ok_Model hM.1 5 (by decide) k_Model_132 (congrArg (fun z => some (Value.int z)) (show p0 5 = 2 from (by rw [hw5]))) d_Model_refer_4 ?_
  refine lv_icmp_ge (tgt := 166) X.x X.b d_Model_refer_7 (by decide) (fun c1 => ?_) (fun c1 => ?_)
  · exact absurd c1 (by decide)
  · skip
    have c1q := Int32.not_le.mp c1
    refine lv_aload_n X.x X.b d_Model_refer_10 rfl (lv_at hl 1 rfl) ?_
    refine m_get (v := .int 0) X ok_Model hM.1 3 (by decide) k_Model_126 (congrArg (fun z => some (Value.int z)) (show p0 3 = 0 from (by rw [hw3]))) d_Model_refer_11 ?_
    refine lv_if_ne (tgt := 166) X.x X.b d_Model_refer_14 (by decide) (fun c2 => ?_) (fun c2 => ?_)
    · exact absurd c2 (by decide)
    · skip
      refine lv_aload_n X.x X.b d_Model_refer_17 rfl (lv_at hl 1 rfl) ?_
      refine m_get (v := .ref (mo + 3)) X ok_Model hM.1 8 (by decide) k_Model_16 rfl d_Model_refer_18 ?_
      refine lv_iload_n X.x X.b d_Model_refer_21 rfl (lv_at hl 0 rfl) ?_
      refine m_ild (v := 2) X hM.a8 0 rfl (by omega) (by decide) (show s0 8 0 = 2 from (by rw [hw8])) d_Model_refer_22 ?_
      refine lv_iconst (v := 2) X.x X.b d_Model_refer_23 (by decide) ?_
      refine lv_icmp_lt (tgt := 160) X.x X.b d_Model_refer_24 (by decide) (fun c3 => ?_) (fun c3 => ?_)
      · exact absurd c3 (by decide)
      · skip
        have c3q := Int32.not_lt.mp c3
        refine lv_aload_n X.x X.b d_Model_refer_27 rfl (lv_at hl 1 rfl) ?_
        refine m_get (v := .ref (mo + 3)) X ok_Model hM.1 8 (by decide) k_Model_16 rfl d_Model_refer_28 ?_
        refine lv_iload_n X.x X.b d_Model_refer_31 rfl (lv_at hl 0 rfl) ?_
        refine m_ild (v := 2) X hM.a8 0 rfl (by omega) (by decide) (show s0 8 0 = 2 from (by rw [hw8])) d_Model_refer_32 ?_
        refine lv_iconst (v := 4) X.x X.b d_Model_refer_33 (by decide) ?_
        refine lv_icmp_le (tgt := 40) X.x X.b d_Model_refer_34 (by decide) (fun c4 => ?_) (fun c4 => ?_)
        · skip
          have c4q := Int32.not_lt.mpr c4
          refine lv_aload_n X.x X.b d_Model_refer_40 rfl (lv_at hl 1 rfl) ?_
          refine lv_aload_n X.x X.b d_Model_refer_41 rfl (lv_at hl 1 rfl) ?_
          refine m_get (v := .ref (mo + 4)) X ok_Model hM.1 9 (by decide) k_Model_19 rfl d_Model_refer_42 ?_
          refine lv_iload_n X.x X.b d_Model_refer_45 rfl (lv_at hl 0 rfl) ?_
          refine m_ild (v := nI j) X hM.a9 0 rfl (by omega) (by decide) (show s0 9 0 = nI j from (by rw [hx])) d_Model_refer_46 ?_
          refine lv_iload_n X.x X.b d_Model_refer_47 rfl (lv_at hl 0 rfl) ?_
          refine m_callP X hS (M_Model_meant_2 l g hM hw0 hj h27) v_Model_154 hM.1 rfl rfl rfl (Nat.le_of_ble_eq_true rfl) hl.1 d_Model_refer_48 (by omega) (by decide) ⟨by omega, by omega⟩ (fun locs hS => ?_)
          refine lv_istore_n (lv' := [(2, .int (-2)), (1, .int 0), (0, .ref mo)]) X.x X.b d_Model_refer_51 rfl hl (by decide) rfl (fun ls hl => ?_)
          refine lv_aload_n X.x X.b d_Model_refer_52 rfl (lv_at hl 2 rfl) ?_
          refine lv_aload_n X.x X.b d_Model_refer_53 rfl (lv_at hl 2 rfl) ?_
          refine m_get (v := .ref (mo + 5)) X ok_Model hM.1 10 (by decide) k_Model_22 rfl d_Model_refer_54 ?_
          refine lv_iload_n X.x X.b d_Model_refer_57 rfl (lv_at hl 1 rfl) ?_
          refine m_ild (v := (-1)) X hM.a10 0 rfl (by omega) (by decide) (show s0 10 0 = (-1) from (by rw [hy])) d_Model_refer_58 ?_
          refine lv_iload_n X.x X.b d_Model_refer_59 rfl (lv_at hl 1 rfl) ?_
          refine m_callP X hS (M_Model_meant_n l g hM 0) v_Model_154 hM.1 rfl rfl rfl (Nat.le_of_ble_eq_true rfl) hl.1 d_Model_refer_60 (by omega) (by decide) ⟨by omega, by omega⟩ (fun locs hS => ?_)
          refine lv_istore_n (lv' := [(3, .int (-1)), (2, .int (-2)), (1, .int 0), (0, .ref mo)]) X.x X.b d_Model_refer_63 rfl hl (by decide) rfl (fun ls hl => ?_)
          refine lv_iload_n X.x X.b d_Model_refer_64 rfl (lv_at hl 1 rfl) ?_
          refine lv_bipush (v := -2) X.x X.b d_Model_refer_65 (by decide) ?_
          refine lv_icmp_eq (tgt := 76) X.x X.b d_Model_refer_67 (by decide) (fun c5 => ?_) (fun c5 => ?_)
          · skip
            refine lv_aload_n X.x X.b d_Model_refer_76 rfl (lv_at hl 3 rfl) ?_
            refine lv_iconst (v := 5) X.x X.b d_Model_refer_77 (by decide) ?_
            refine lv_aload_n X.x X.b d_Model_refer_78 rfl (lv_at hl 3 rfl) ?_
            refine m_get (v := .ref (mo + 7)) X ok_Model hM.1 12 (by decide) k_Model_28 rfl d_Model_refer_79 ?_
            refine lv_iload_n X.x X.b d_Model_refer_82 rfl (lv_at hl 2 rfl) ?_
            refine m_ild (v := s0 12 0) X hM.a12 0 rfl (by omega) (by decide) (show s0 12 0 = s0 12 0 from rfl) d_Model_refer_83 ?_
            have hR := M_Model_stop l g hM 5 (s0 12 0)
            refine m_callM X hS hR v_Model_135 hM.1 rfl rfl rfl (Nat.le_of_ble_eq_true rfl) hl.1 d_Model_refer_84 (by omega) (by decide) ⟨by omega, by omega⟩ (fun q z => by have z : mo ≤ q ∧ q < mo + 23 := z; exact ⟨by omega, by omega⟩) (fun H locs hM hfr hS => ?_)
            obtain ⟨p_1, ep_1⟩ : ∃ z, z = upd p0 3 5 := ⟨_, rfl⟩
            rw [← ep_1] at hM
            obtain ⟨p_2, ep_2⟩ : ∃ z, z = upd p_1 4 (s0 12 0) := ⟨_, rfl⟩
            rw [← ep_2] at hM
            exact m_vret X hS (by omega) (by omega) d_Model_refer_87 rfl ⟨_, hM, (by rw [ep_2, upd_mi _ _ _ (show 0 ≠ 4 by decide), ep_1, upd_mi _ _ _ (show 0 ≠ 3 by decide)]), (by rw [ep_2, upd_mi _ _ _ (show 3 ≠ 4 by decide), ep_1, upd_hit])⟩
          · exact absurd c5 (by decide)
        · exact absurd c4 (by decide)
set_option maxRecDepth 100000 in
set_option maxHeartbeats 4000000 in
theorem M_Model_refer_f3x (l : Launch) (g : GG) {mo tq : Nat} {p0 : Nat → Int32} {s0 : Nat → Nat → Int32} {H0 : Heap} (hM : mAt g mo tq p0 s0 H0) (hw : twoI 3 p0 s0) {j : Nat} (hj : j ≤ 11) (h27 : ∀ j, j < 8 → s0 27 j = -1) (hx : s0 9 0 = nI j) (hy : s0 10 0 = (-1)) : MM l y_Model_refer c_Model_refer 4 none 3 0 0 g H0 [.ref mo] (fun q => mo ≤ q ∧ q < mo + 23) (none) (fun H1 => ∃ p, mAt g mo tq p s0 H1 ∧ p 0 = p0 0 ∧ p 3 = 5) := by
  refine MM.of (by decide +kernel) (Nat.le_of_ble_eq_true rfl) ?_
  intro p e s m below meth cd X hH ls hl
  have X : CX g p s m _ meth cd c_Model_refer 4 none R_Model _ := X
  have hl : lv_has ls 4 [(0, .ref mo)] := hl
  have hS : va_S (AA (fun q => mo ≤ q ∧ q < mo + 23) H0) H0 H0 [] := va_S.rf
  have hlt0 := hM.lt
  have htq0 := hM.tq
  have hw0 := hw
  obtain ⟨⟨hw3, hw5⟩, hw8, hw81⟩ := hw
  refine lv_iconst (v := 0) X.x X.b d_Model_refer_0 (by decide) ?_
  refine lv_istore_n (lv' := [(1, .int 0), (0, .ref mo)]) X.x X.b d_Model_refer_1 rfl hl (by decide) rfl (fun ls hl => ?_)
  refine lv_iload_n X.x X.b d_Model_refer_2 rfl (lv_at hl 0 rfl) ?_
  refine lv_aload_n X.x X.b d_Model_refer_3 rfl (lv_at hl 1 rfl) ?_
  refine m_get (v := .int 2) X ok_Model hM.1 5 (by decide) k_Model_132 (congrArg (fun z => some (Value.int z)) (show p0 5 = 2 from (by rw [hw5]))) d_Model_refer_4 ?_
  refine lv_icmp_ge (tgt := 166) X.x X.b d_Model_refer_7 (by decide) (fun c1 => ?_) (fun c1 => ?_)
  · exact absurd c1 (by decide)
  · skip
    have c1q := Int32.not_le.mp c1
    refine lv_aload_n X.x X.b d_Model_refer_10 rfl (lv_at hl 1 rfl) ?_
    refine m_get (v := .int 0) X ok_Model hM.1 3 (by decide) k_Model_126 (congrArg (fun z => some (Value.int z)) (show p0 3 = 0 from (by rw [hw3]))) d_Model_refer_11 ?_
    refine lv_if_ne (tgt := 166) X.x X.b d_Model_refer_14 (by decide) (fun c2 => ?_) (fun c2 => ?_)
    · exact absurd c2 (by decide)
    · skip
      refine lv_aload_n X.x X.b d_Model_refer_17 rfl (lv_at hl 1 rfl) ?_
      refine m_get (v := .ref (mo + 3)) X ok_Model hM.1 8 (by decide) k_Model_16 rfl d_Model_refer_18 ?_
      refine lv_iload_n X.x X.b d_Model_refer_21 rfl (lv_at hl 0 rfl) ?_
      refine m_ild (v := 3) X hM.a8 0 rfl (by omega) (by decide) (show s0 8 0 = 3 from (by rw [hw8])) d_Model_refer_22 ?_
      refine lv_iconst (v := 2) X.x X.b d_Model_refer_23 (by decide) ?_
      refine lv_icmp_lt (tgt := 160) X.x X.b d_Model_refer_24 (by decide) (fun c3 => ?_) (fun c3 => ?_)
      · exact absurd c3 (by decide)
      · skip
        have c3q := Int32.not_lt.mp c3
        refine lv_aload_n X.x X.b d_Model_refer_27 rfl (lv_at hl 1 rfl) ?_
        refine m_get (v := .ref (mo + 3)) X ok_Model hM.1 8 (by decide) k_Model_16 rfl d_Model_refer_28 ?_
        refine lv_iload_n X.x X.b d_Model_refer_31 rfl (lv_at hl 0 rfl) ?_
        refine m_ild (v := 3) X hM.a8 0 rfl (by omega) (by decide) (show s0 8 0 = 3 from (by rw [hw8])) d_Model_refer_32 ?_
        refine lv_iconst (v := 4) X.x X.b d_Model_refer_33 (by decide) ?_
        refine lv_icmp_le (tgt := 40) X.x X.b d_Model_refer_34 (by decide) (fun c4 => ?_) (fun c4 => ?_)
        · skip
          have c4q := Int32.not_lt.mpr c4
          refine lv_aload_n X.x X.b d_Model_refer_40 rfl (lv_at hl 1 rfl) ?_
          refine lv_aload_n X.x X.b d_Model_refer_41 rfl (lv_at hl 1 rfl) ?_
          refine m_get (v := .ref (mo + 4)) X ok_Model hM.1 9 (by decide) k_Model_19 rfl d_Model_refer_42 ?_
          refine lv_iload_n X.x X.b d_Model_refer_45 rfl (lv_at hl 0 rfl) ?_
          refine m_ild (v := nI j) X hM.a9 0 rfl (by omega) (by decide) (show s0 9 0 = nI j from (by rw [hx])) d_Model_refer_46 ?_
          refine lv_iload_n X.x X.b d_Model_refer_47 rfl (lv_at hl 0 rfl) ?_
          refine m_callP X hS (M_Model_meant_3 l g hM hw0 hj h27) v_Model_154 hM.1 rfl rfl rfl (Nat.le_of_ble_eq_true rfl) hl.1 d_Model_refer_48 (by omega) (by decide) ⟨by omega, by omega⟩ (fun locs hS => ?_)
          refine lv_istore_n (lv' := [(2, .int (-2)), (1, .int 0), (0, .ref mo)]) X.x X.b d_Model_refer_51 rfl hl (by decide) rfl (fun ls hl => ?_)
          refine lv_aload_n X.x X.b d_Model_refer_52 rfl (lv_at hl 2 rfl) ?_
          refine lv_aload_n X.x X.b d_Model_refer_53 rfl (lv_at hl 2 rfl) ?_
          refine m_get (v := .ref (mo + 5)) X ok_Model hM.1 10 (by decide) k_Model_22 rfl d_Model_refer_54 ?_
          refine lv_iload_n X.x X.b d_Model_refer_57 rfl (lv_at hl 1 rfl) ?_
          refine m_ild (v := (-1)) X hM.a10 0 rfl (by omega) (by decide) (show s0 10 0 = (-1) from (by rw [hy])) d_Model_refer_58 ?_
          refine lv_iload_n X.x X.b d_Model_refer_59 rfl (lv_at hl 1 rfl) ?_
          refine m_callP X hS (M_Model_meant_n l g hM 0) v_Model_154 hM.1 rfl rfl rfl (Nat.le_of_ble_eq_true rfl) hl.1 d_Model_refer_60 (by omega) (by decide) ⟨by omega, by omega⟩ (fun locs hS => ?_)
          refine lv_istore_n (lv' := [(3, .int (-1)), (2, .int (-2)), (1, .int 0), (0, .ref mo)]) X.x X.b d_Model_refer_63 rfl hl (by decide) rfl (fun ls hl => ?_)
          refine lv_iload_n X.x X.b d_Model_refer_64 rfl (lv_at hl 1 rfl) ?_
          refine lv_bipush (v := -2) X.x X.b d_Model_refer_65 (by decide) ?_
          refine lv_icmp_eq (tgt := 76) X.x X.b d_Model_refer_67 (by decide) (fun c5 => ?_) (fun c5 => ?_)
          · skip
            refine lv_aload_n X.x X.b d_Model_refer_76 rfl (lv_at hl 3 rfl) ?_
            refine lv_iconst (v := 5) X.x X.b d_Model_refer_77 (by decide) ?_
            refine lv_aload_n X.x X.b d_Model_refer_78 rfl (lv_at hl 3 rfl) ?_
            refine m_get (v := .ref (mo + 7)) X ok_Model hM.1 12 (by decide) k_Model_28 rfl d_Model_refer_79 ?_
            refine lv_iload_n X.x X.b d_Model_refer_82 rfl (lv_at hl 2 rfl) ?_
            refine m_ild (v := s0 12 0) X hM.a12 0 rfl (by omega) (by decide) (show s0 12 0 = s0 12 0 from rfl) d_Model_refer_83 ?_
            have hR := M_Model_stop l g hM 5 (s0 12 0)
            refine m_callM X hS hR v_Model_135 hM.1 rfl rfl rfl (Nat.le_of_ble_eq_true rfl) hl.1 d_Model_refer_84 (by omega) (by decide) ⟨by omega, by omega⟩ (fun q z => by have z : mo ≤ q ∧ q < mo + 23 := z; exact ⟨by omega, by omega⟩) (fun H locs hM hfr hS => ?_)
            obtain ⟨p_1, ep_1⟩ : ∃ z, z = upd p0 3 5 := ⟨_, rfl⟩
            rw [← ep_1] at hM
            obtain ⟨p_2, ep_2⟩ : ∃ z, z = upd p_1 4 (s0 12 0) := ⟨_, rfl⟩
            rw [← ep_2] at hM
            exact m_vret X hS (by omega) (by omega) d_Model_refer_87 rfl ⟨_, hM, (by rw [ep_2, upd_mi _ _ _ (show 0 ≠ 4 by decide), ep_1, upd_mi _ _ _ (show 0 ≠ 3 by decide)]), (by rw [ep_2, upd_mi _ _ _ (show 3 ≠ 4 by decide), ep_1, upd_hit])⟩
          · exact absurd c5 (by decide)
        · exact absurd c4 (by decide)
set_option maxRecDepth 100000 in
set_option maxHeartbeats 4000000 in
theorem M_Model_refer_f4x (l : Launch) (g : GG) {mo tq : Nat} {p0 : Nat → Int32} {s0 : Nat → Nat → Int32} {H0 : Heap} (hM : mAt g mo tq p0 s0 H0) (hw : twoI 4 p0 s0) {j : Nat} (hj : j ≤ 11) (h27 : ∀ j, j < 8 → s0 27 j = -1) (hx : s0 9 0 = nI j) (hy : s0 10 0 = (-1)) : MM l y_Model_refer c_Model_refer 4 none 3 0 0 g H0 [.ref mo] (fun q => mo ≤ q ∧ q < mo + 23) (none) (fun H1 => ∃ p, mAt g mo tq p s0 H1 ∧ p 0 = p0 0 ∧ p 3 = 5) := by
  refine MM.of (by decide +kernel) (Nat.le_of_ble_eq_true rfl) ?_
  intro p e s m below meth cd X hH ls hl
  have X : CX g p s m _ meth cd c_Model_refer 4 none R_Model _ := X
  have hl : lv_has ls 4 [(0, .ref mo)] := hl
  have hS : va_S (AA (fun q => mo ≤ q ∧ q < mo + 23) H0) H0 H0 [] := va_S.rf
  have hlt0 := hM.lt
  have htq0 := hM.tq
  have hw0 := hw
  obtain ⟨⟨hw3, hw5⟩, hw8, hw81⟩ := hw
  refine lv_iconst (v := 0) X.x X.b d_Model_refer_0 (by decide) ?_
  refine lv_istore_n (lv' := [(1, .int 0), (0, .ref mo)]) X.x X.b d_Model_refer_1 rfl hl (by decide) rfl (fun ls hl => ?_)
  refine lv_iload_n X.x X.b d_Model_refer_2 rfl (lv_at hl 0 rfl) ?_
  refine lv_aload_n X.x X.b d_Model_refer_3 rfl (lv_at hl 1 rfl) ?_
  refine m_get (v := .int 2) X ok_Model hM.1 5 (by decide) k_Model_132 (congrArg (fun z => some (Value.int z)) (show p0 5 = 2 from (by rw [hw5]))) d_Model_refer_4 ?_
  refine lv_icmp_ge (tgt := 166) X.x X.b d_Model_refer_7 (by decide) (fun c1 => ?_) (fun c1 => ?_)
  · exact absurd c1 (by decide)
  · skip
    have c1q := Int32.not_le.mp c1
    refine lv_aload_n X.x X.b d_Model_refer_10 rfl (lv_at hl 1 rfl) ?_
    refine m_get (v := .int 0) X ok_Model hM.1 3 (by decide) k_Model_126 (congrArg (fun z => some (Value.int z)) (show p0 3 = 0 from (by rw [hw3]))) d_Model_refer_11 ?_
    refine lv_if_ne (tgt := 166) X.x X.b d_Model_refer_14 (by decide) (fun c2 => ?_) (fun c2 => ?_)
    · exact absurd c2 (by decide)
    · skip
      refine lv_aload_n X.x X.b d_Model_refer_17 rfl (lv_at hl 1 rfl) ?_
      refine m_get (v := .ref (mo + 3)) X ok_Model hM.1 8 (by decide) k_Model_16 rfl d_Model_refer_18 ?_
      refine lv_iload_n X.x X.b d_Model_refer_21 rfl (lv_at hl 0 rfl) ?_
      refine m_ild (v := 4) X hM.a8 0 rfl (by omega) (by decide) (show s0 8 0 = 4 from (by rw [hw8])) d_Model_refer_22 ?_
      refine lv_iconst (v := 2) X.x X.b d_Model_refer_23 (by decide) ?_
      refine lv_icmp_lt (tgt := 160) X.x X.b d_Model_refer_24 (by decide) (fun c3 => ?_) (fun c3 => ?_)
      · exact absurd c3 (by decide)
      · skip
        have c3q := Int32.not_lt.mp c3
        refine lv_aload_n X.x X.b d_Model_refer_27 rfl (lv_at hl 1 rfl) ?_
        refine m_get (v := .ref (mo + 3)) X ok_Model hM.1 8 (by decide) k_Model_16 rfl d_Model_refer_28 ?_
        refine lv_iload_n X.x X.b d_Model_refer_31 rfl (lv_at hl 0 rfl) ?_
        refine m_ild (v := 4) X hM.a8 0 rfl (by omega) (by decide) (show s0 8 0 = 4 from (by rw [hw8])) d_Model_refer_32 ?_
        refine lv_iconst (v := 4) X.x X.b d_Model_refer_33 (by decide) ?_
        refine lv_icmp_le (tgt := 40) X.x X.b d_Model_refer_34 (by decide) (fun c4 => ?_) (fun c4 => ?_)
        · skip
          have c4q := Int32.not_lt.mpr c4
          refine lv_aload_n X.x X.b d_Model_refer_40 rfl (lv_at hl 1 rfl) ?_
          refine lv_aload_n X.x X.b d_Model_refer_41 rfl (lv_at hl 1 rfl) ?_
          refine m_get (v := .ref (mo + 4)) X ok_Model hM.1 9 (by decide) k_Model_19 rfl d_Model_refer_42 ?_
          refine lv_iload_n X.x X.b d_Model_refer_45 rfl (lv_at hl 0 rfl) ?_
          refine m_ild (v := nI j) X hM.a9 0 rfl (by omega) (by decide) (show s0 9 0 = nI j from (by rw [hx])) d_Model_refer_46 ?_
          refine lv_iload_n X.x X.b d_Model_refer_47 rfl (lv_at hl 0 rfl) ?_
          refine m_callP X hS (M_Model_meant_4 l g hM hw0 hj h27) v_Model_154 hM.1 rfl rfl rfl (Nat.le_of_ble_eq_true rfl) hl.1 d_Model_refer_48 (by omega) (by decide) ⟨by omega, by omega⟩ (fun locs hS => ?_)
          refine lv_istore_n (lv' := [(2, .int (-2)), (1, .int 0), (0, .ref mo)]) X.x X.b d_Model_refer_51 rfl hl (by decide) rfl (fun ls hl => ?_)
          refine lv_aload_n X.x X.b d_Model_refer_52 rfl (lv_at hl 2 rfl) ?_
          refine lv_aload_n X.x X.b d_Model_refer_53 rfl (lv_at hl 2 rfl) ?_
          refine m_get (v := .ref (mo + 5)) X ok_Model hM.1 10 (by decide) k_Model_22 rfl d_Model_refer_54 ?_
          refine lv_iload_n X.x X.b d_Model_refer_57 rfl (lv_at hl 1 rfl) ?_
          refine m_ild (v := (-1)) X hM.a10 0 rfl (by omega) (by decide) (show s0 10 0 = (-1) from (by rw [hy])) d_Model_refer_58 ?_
          refine lv_iload_n X.x X.b d_Model_refer_59 rfl (lv_at hl 1 rfl) ?_
          refine m_callP X hS (M_Model_meant_n l g hM 0) v_Model_154 hM.1 rfl rfl rfl (Nat.le_of_ble_eq_true rfl) hl.1 d_Model_refer_60 (by omega) (by decide) ⟨by omega, by omega⟩ (fun locs hS => ?_)
          refine lv_istore_n (lv' := [(3, .int (-1)), (2, .int (-2)), (1, .int 0), (0, .ref mo)]) X.x X.b d_Model_refer_63 rfl hl (by decide) rfl (fun ls hl => ?_)
          refine lv_iload_n X.x X.b d_Model_refer_64 rfl (lv_at hl 1 rfl) ?_
          refine lv_bipush (v := -2) X.x X.b d_Model_refer_65 (by decide) ?_
          refine lv_icmp_eq (tgt := 76) X.x X.b d_Model_refer_67 (by decide) (fun c5 => ?_) (fun c5 => ?_)
          · skip
            refine lv_aload_n X.x X.b d_Model_refer_76 rfl (lv_at hl 3 rfl) ?_
            refine lv_iconst (v := 5) X.x X.b d_Model_refer_77 (by decide) ?_
            refine lv_aload_n X.x X.b d_Model_refer_78 rfl (lv_at hl 3 rfl) ?_
            refine m_get (v := .ref (mo + 7)) X ok_Model hM.1 12 (by decide) k_Model_28 rfl d_Model_refer_79 ?_
            refine lv_iload_n X.x X.b d_Model_refer_82 rfl (lv_at hl 2 rfl) ?_
            refine m_ild (v := s0 12 0) X hM.a12 0 rfl (by omega) (by decide) (show s0 12 0 = s0 12 0 from rfl) d_Model_refer_83 ?_
            have hR := M_Model_stop l g hM 5 (s0 12 0)
            refine m_callM X hS hR v_Model_135 hM.1 rfl rfl rfl (Nat.le_of_ble_eq_true rfl) hl.1 d_Model_refer_84 (by omega) (by decide) ⟨by omega, by omega⟩ (fun q z => by have z : mo ≤ q ∧ q < mo + 23 := z; exact ⟨by omega, by omega⟩) (fun H locs hM hfr hS => ?_)
            obtain ⟨p_1, ep_1⟩ : ∃ z, z = upd p0 3 5 := ⟨_, rfl⟩
            rw [← ep_1] at hM
            obtain ⟨p_2, ep_2⟩ : ∃ z, z = upd p_1 4 (s0 12 0) := ⟨_, rfl⟩
            rw [← ep_2] at hM
            exact m_vret X hS (by omega) (by omega) d_Model_refer_87 rfl ⟨_, hM, (by rw [ep_2, upd_mi _ _ _ (show 0 ≠ 4 by decide), ep_1, upd_mi _ _ _ (show 0 ≠ 3 by decide)]), (by rw [ep_2, upd_mi _ _ _ (show 3 ≠ 4 by decide), ep_1, upd_hit])⟩
          · exact absurd c5 (by decide)
        · exact absurd c4 (by decide)
set_option maxRecDepth 100000 in
set_option maxHeartbeats 4000000 in
theorem M_Model_refer_f2y (l : Launch) (g : GG) {mo tq : Nat} {p0 : Nat → Int32} {s0 : Nat → Nat → Int32} {H0 : Heap} (hM : mAt g mo tq p0 s0 H0) (hw : twoI 2 p0 s0) {i2 : Nat} (hi2 : i2 ≤ 11) (h27 : ∀ j, j < 8 → s0 27 j = -1) (hx : s0 9 0 = (-1)) (hy : s0 10 0 = nI i2) : MM l y_Model_refer c_Model_refer 4 none 3 0 0 g H0 [.ref mo] (fun q => mo ≤ q ∧ q < mo + 23) (none) (fun H1 => ∃ p, mAt g mo tq p s0 H1 ∧ p 0 = p0 0 ∧ p 3 = 5) := by
  refine MM.of (by decide +kernel) (Nat.le_of_ble_eq_true rfl) ?_
  intro p e s m below meth cd X hH ls hl
  have X : CX g p s m _ meth cd c_Model_refer 4 none R_Model _ := X
  have hl : lv_has ls 4 [(0, .ref mo)] := hl
  have hS : va_S (AA (fun q => mo ≤ q ∧ q < mo + 23) H0) H0 H0 [] := va_S.rf
  have hlt0 := hM.lt
  have htq0 := hM.tq
  have hw0 := hw
  obtain ⟨⟨hw3, hw5⟩, hw8, hw81⟩ := hw
  refine lv_iconst (v := 0) X.x X.b d_Model_refer_0 (by decide) ?_
  refine lv_istore_n (lv' := [(1, .int 0), (0, .ref mo)]) X.x X.b d_Model_refer_1 rfl hl (by decide) rfl (fun ls hl => ?_)
  refine lv_iload_n X.x X.b d_Model_refer_2 rfl (lv_at hl 0 rfl) ?_
  refine lv_aload_n X.x X.b d_Model_refer_3 rfl (lv_at hl 1 rfl) ?_
  refine m_get (v := .int 2) X ok_Model hM.1 5 (by decide) k_Model_132 (congrArg (fun z => some (Value.int z)) (show p0 5 = 2 from (by rw [hw5]))) d_Model_refer_4 ?_
  refine lv_icmp_ge (tgt := 166) X.x X.b d_Model_refer_7 (by decide) (fun c1 => ?_) (fun c1 => ?_)
  · exact absurd c1 (by decide)
  · skip
    have c1q := Int32.not_le.mp c1
    refine lv_aload_n X.x X.b d_Model_refer_10 rfl (lv_at hl 1 rfl) ?_
    refine m_get (v := .int 0) X ok_Model hM.1 3 (by decide) k_Model_126 (congrArg (fun z => some (Value.int z)) (show p0 3 = 0 from (by rw [hw3]))) d_Model_refer_11 ?_
    refine lv_if_ne (tgt := 166) X.x X.b d_Model_refer_14 (by decide) (fun c2 => ?_) (fun c2 => ?_)
    · exact absurd c2 (by decide)
    · skip
      refine lv_aload_n X.x X.b d_Model_refer_17 rfl (lv_at hl 1 rfl) ?_
      refine m_get (v := .ref (mo + 3)) X ok_Model hM.1 8 (by decide) k_Model_16 rfl d_Model_refer_18 ?_
      refine lv_iload_n X.x X.b d_Model_refer_21 rfl (lv_at hl 0 rfl) ?_
      refine m_ild (v := 2) X hM.a8 0 rfl (by omega) (by decide) (show s0 8 0 = 2 from (by rw [hw8])) d_Model_refer_22 ?_
      refine lv_iconst (v := 2) X.x X.b d_Model_refer_23 (by decide) ?_
      refine lv_icmp_lt (tgt := 160) X.x X.b d_Model_refer_24 (by decide) (fun c3 => ?_) (fun c3 => ?_)
      · exact absurd c3 (by decide)
      · skip
        have c3q := Int32.not_lt.mp c3
        refine lv_aload_n X.x X.b d_Model_refer_27 rfl (lv_at hl 1 rfl) ?_
        refine m_get (v := .ref (mo + 3)) X ok_Model hM.1 8 (by decide) k_Model_16 rfl d_Model_refer_28 ?_
        refine lv_iload_n X.x X.b d_Model_refer_31 rfl (lv_at hl 0 rfl) ?_
        refine m_ild (v := 2) X hM.a8 0 rfl (by omega) (by decide) (show s0 8 0 = 2 from (by rw [hw8])) d_Model_refer_32 ?_
        refine lv_iconst (v := 4) X.x X.b d_Model_refer_33 (by decide) ?_
        refine lv_icmp_le (tgt := 40) X.x X.b d_Model_refer_34 (by decide) (fun c4 => ?_) (fun c4 => ?_)
        · skip
          have c4q := Int32.not_lt.mpr c4
          refine lv_aload_n X.x X.b d_Model_refer_40 rfl (lv_at hl 1 rfl) ?_
          refine lv_aload_n X.x X.b d_Model_refer_41 rfl (lv_at hl 1 rfl) ?_
          refine m_get (v := .ref (mo + 4)) X ok_Model hM.1 9 (by decide) k_Model_19 rfl d_Model_refer_42 ?_
          refine lv_iload_n X.x X.b d_Model_refer_45 rfl (lv_at hl 0 rfl) ?_
          refine m_ild (v := (-1)) X hM.a9 0 rfl (by omega) (by decide) (show s0 9 0 = (-1) from (by rw [hx])) d_Model_refer_46 ?_
          refine lv_iload_n X.x X.b d_Model_refer_47 rfl (lv_at hl 0 rfl) ?_
          refine m_callP X hS (M_Model_meant_n l g hM 0) v_Model_154 hM.1 rfl rfl rfl (Nat.le_of_ble_eq_true rfl) hl.1 d_Model_refer_48 (by omega) (by decide) ⟨by omega, by omega⟩ (fun locs hS => ?_)
          refine lv_istore_n (lv' := [(2, .int (-1)), (1, .int 0), (0, .ref mo)]) X.x X.b d_Model_refer_51 rfl hl (by decide) rfl (fun ls hl => ?_)
          refine lv_aload_n X.x X.b d_Model_refer_52 rfl (lv_at hl 2 rfl) ?_
          refine lv_aload_n X.x X.b d_Model_refer_53 rfl (lv_at hl 2 rfl) ?_
          refine m_get (v := .ref (mo + 5)) X ok_Model hM.1 10 (by decide) k_Model_22 rfl d_Model_refer_54 ?_
          refine lv_iload_n X.x X.b d_Model_refer_57 rfl (lv_at hl 1 rfl) ?_
          refine m_ild (v := nI i2) X hM.a10 0 rfl (by omega) (by decide) (show s0 10 0 = nI i2 from (by rw [hy])) d_Model_refer_58 ?_
          refine lv_iload_n X.x X.b d_Model_refer_59 rfl (lv_at hl 1 rfl) ?_
          refine m_callP X hS (M_Model_meant_2 l g hM hw0 hi2 h27) v_Model_154 hM.1 rfl rfl rfl (Nat.le_of_ble_eq_true rfl) hl.1 d_Model_refer_60 (by omega) (by decide) ⟨by omega, by omega⟩ (fun locs hS => ?_)
          refine lv_istore_n (lv' := [(3, .int (-2)), (2, .int (-1)), (1, .int 0), (0, .ref mo)]) X.x X.b d_Model_refer_63 rfl hl (by decide) rfl (fun ls hl => ?_)
          refine lv_iload_n X.x X.b d_Model_refer_64 rfl (lv_at hl 1 rfl) ?_
          refine lv_bipush (v := -2) X.x X.b d_Model_refer_65 (by decide) ?_
          refine lv_icmp_eq (tgt := 76) X.x X.b d_Model_refer_67 (by decide) (fun c5 => ?_) (fun c5 => ?_)
          · exact absurd c5 (by decide)
          · skip
            refine lv_iload_n X.x X.b d_Model_refer_70 rfl (lv_at hl 0 rfl) ?_
            refine lv_bipush (v := -2) X.x X.b d_Model_refer_71 (by decide) ?_
            refine lv_icmp_ne (tgt := 88) X.x X.b d_Model_refer_73 (by decide) (fun c6 => ?_) (fun c6 => ?_)
            · exact absurd c6 (by decide)
            · skip
              refine lv_aload_n X.x X.b d_Model_refer_76 rfl (lv_at hl 3 rfl) ?_
              refine lv_iconst (v := 5) X.x X.b d_Model_refer_77 (by decide) ?_
              refine lv_aload_n X.x X.b d_Model_refer_78 rfl (lv_at hl 3 rfl) ?_
              refine m_get (v := .ref (mo + 7)) X ok_Model hM.1 12 (by decide) k_Model_28 rfl d_Model_refer_79 ?_
              refine lv_iload_n X.x X.b d_Model_refer_82 rfl (lv_at hl 2 rfl) ?_
              refine m_ild (v := s0 12 0) X hM.a12 0 rfl (by omega) (by decide) (show s0 12 0 = s0 12 0 from rfl) d_Model_refer_83 ?_
              have hR := M_Model_stop l g hM 5 (s0 12 0)
              refine m_callM X hS hR v_Model_135 hM.1 rfl rfl rfl (Nat.le_of_ble_eq_true rfl) hl.1 d_Model_refer_84 (by omega) (by decide) ⟨by omega, by omega⟩ (fun q z => by have z : mo ≤ q ∧ q < mo + 23 := z; exact ⟨by omega, by omega⟩) (fun H locs hM hfr hS => ?_)
              obtain ⟨p_1, ep_1⟩ : ∃ z, z = upd p0 3 5 := ⟨_, rfl⟩
              rw [← ep_1] at hM
              obtain ⟨p_2, ep_2⟩ : ∃ z, z = upd p_1 4 (s0 12 0) := ⟨_, rfl⟩
              rw [← ep_2] at hM
              exact m_vret X hS (by omega) (by omega) d_Model_refer_87 rfl ⟨_, hM, (by rw [ep_2, upd_mi _ _ _ (show 0 ≠ 4 by decide), ep_1, upd_mi _ _ _ (show 0 ≠ 3 by decide)]), (by rw [ep_2, upd_mi _ _ _ (show 3 ≠ 4 by decide), ep_1, upd_hit])⟩
        · exact absurd c4 (by decide)
set_option maxRecDepth 100000 in
set_option maxHeartbeats 4000000 in
theorem M_Model_refer_f2xy (l : Launch) (g : GG) {mo tq : Nat} {p0 : Nat → Int32} {s0 : Nat → Nat → Int32} {H0 : Heap} (hM : mAt g mo tq p0 s0 H0) (hw : twoI 2 p0 s0) {j i2 : Nat} (hj : j ≤ 11) (hi2 : i2 ≤ 11) (h27 : ∀ j, j < 8 → s0 27 j = -1) (hx : s0 9 0 = nI j) (hy : s0 10 0 = nI i2) : MM l y_Model_refer c_Model_refer 4 none 3 0 0 g H0 [.ref mo] (fun q => mo ≤ q ∧ q < mo + 23) (none) (fun H1 => ∃ p, mAt g mo tq p s0 H1 ∧ p 0 = p0 0 ∧ p 3 = 5) := by
  refine MM.of (by decide +kernel) (Nat.le_of_ble_eq_true rfl) ?_
  intro p e s m below meth cd X hH ls hl
  have X : CX g p s m _ meth cd c_Model_refer 4 none R_Model _ := X
  have hl : lv_has ls 4 [(0, .ref mo)] := hl
  have hS : va_S (AA (fun q => mo ≤ q ∧ q < mo + 23) H0) H0 H0 [] := va_S.rf
  have hlt0 := hM.lt
  have htq0 := hM.tq
  have hw0 := hw
  obtain ⟨⟨hw3, hw5⟩, hw8, hw81⟩ := hw
  refine lv_iconst (v := 0) X.x X.b d_Model_refer_0 (by decide) ?_
  refine lv_istore_n (lv' := [(1, .int 0), (0, .ref mo)]) X.x X.b d_Model_refer_1 rfl hl (by decide) rfl (fun ls hl => ?_)
  refine lv_iload_n X.x X.b d_Model_refer_2 rfl (lv_at hl 0 rfl) ?_
  refine lv_aload_n X.x X.b d_Model_refer_3 rfl (lv_at hl 1 rfl) ?_
  refine m_get (v := .int 2) X ok_Model hM.1 5 (by decide) k_Model_132 (congrArg (fun z => some (Value.int z)) (show p0 5 = 2 from (by rw [hw5]))) d_Model_refer_4 ?_
  refine lv_icmp_ge (tgt := 166) X.x X.b d_Model_refer_7 (by decide) (fun c1 => ?_) (fun c1 => ?_)
  · exact absurd c1 (by decide)
  · skip
    have c1q := Int32.not_le.mp c1
    refine lv_aload_n X.x X.b d_Model_refer_10 rfl (lv_at hl 1 rfl) ?_
    refine m_get (v := .int 0) X ok_Model hM.1 3 (by decide) k_Model_126 (congrArg (fun z => some (Value.int z)) (show p0 3 = 0 from (by rw [hw3]))) d_Model_refer_11 ?_
    refine lv_if_ne (tgt := 166) X.x X.b d_Model_refer_14 (by decide) (fun c2 => ?_) (fun c2 => ?_)
    · exact absurd c2 (by decide)
    · skip
      refine lv_aload_n X.x X.b d_Model_refer_17 rfl (lv_at hl 1 rfl) ?_
      refine m_get (v := .ref (mo + 3)) X ok_Model hM.1 8 (by decide) k_Model_16 rfl d_Model_refer_18 ?_
      refine lv_iload_n X.x X.b d_Model_refer_21 rfl (lv_at hl 0 rfl) ?_
      refine m_ild (v := 2) X hM.a8 0 rfl (by omega) (by decide) (show s0 8 0 = 2 from (by rw [hw8])) d_Model_refer_22 ?_
      refine lv_iconst (v := 2) X.x X.b d_Model_refer_23 (by decide) ?_
      refine lv_icmp_lt (tgt := 160) X.x X.b d_Model_refer_24 (by decide) (fun c3 => ?_) (fun c3 => ?_)
      · exact absurd c3 (by decide)
      · skip
        have c3q := Int32.not_lt.mp c3
        refine lv_aload_n X.x X.b d_Model_refer_27 rfl (lv_at hl 1 rfl) ?_
        refine m_get (v := .ref (mo + 3)) X ok_Model hM.1 8 (by decide) k_Model_16 rfl d_Model_refer_28 ?_
        refine lv_iload_n X.x X.b d_Model_refer_31 rfl (lv_at hl 0 rfl) ?_
        refine m_ild (v := 2) X hM.a8 0 rfl (by omega) (by decide) (show s0 8 0 = 2 from (by rw [hw8])) d_Model_refer_32 ?_
        refine lv_iconst (v := 4) X.x X.b d_Model_refer_33 (by decide) ?_
        refine lv_icmp_le (tgt := 40) X.x X.b d_Model_refer_34 (by decide) (fun c4 => ?_) (fun c4 => ?_)
        · skip
          have c4q := Int32.not_lt.mpr c4
          refine lv_aload_n X.x X.b d_Model_refer_40 rfl (lv_at hl 1 rfl) ?_
          refine lv_aload_n X.x X.b d_Model_refer_41 rfl (lv_at hl 1 rfl) ?_
          refine m_get (v := .ref (mo + 4)) X ok_Model hM.1 9 (by decide) k_Model_19 rfl d_Model_refer_42 ?_
          refine lv_iload_n X.x X.b d_Model_refer_45 rfl (lv_at hl 0 rfl) ?_
          refine m_ild (v := nI j) X hM.a9 0 rfl (by omega) (by decide) (show s0 9 0 = nI j from (by rw [hx])) d_Model_refer_46 ?_
          refine lv_iload_n X.x X.b d_Model_refer_47 rfl (lv_at hl 0 rfl) ?_
          refine m_callP X hS (M_Model_meant_2 l g hM hw0 hj h27) v_Model_154 hM.1 rfl rfl rfl (Nat.le_of_ble_eq_true rfl) hl.1 d_Model_refer_48 (by omega) (by decide) ⟨by omega, by omega⟩ (fun locs hS => ?_)
          refine lv_istore_n (lv' := [(2, .int (-2)), (1, .int 0), (0, .ref mo)]) X.x X.b d_Model_refer_51 rfl hl (by decide) rfl (fun ls hl => ?_)
          refine lv_aload_n X.x X.b d_Model_refer_52 rfl (lv_at hl 2 rfl) ?_
          refine lv_aload_n X.x X.b d_Model_refer_53 rfl (lv_at hl 2 rfl) ?_
          refine m_get (v := .ref (mo + 5)) X ok_Model hM.1 10 (by decide) k_Model_22 rfl d_Model_refer_54 ?_
          refine lv_iload_n X.x X.b d_Model_refer_57 rfl (lv_at hl 1 rfl) ?_
          refine m_ild (v := nI i2) X hM.a10 0 rfl (by omega) (by decide) (show s0 10 0 = nI i2 from (by rw [hy])) d_Model_refer_58 ?_
          refine lv_iload_n X.x X.b d_Model_refer_59 rfl (lv_at hl 1 rfl) ?_
          refine m_callP X hS (M_Model_meant_2 l g hM hw0 hi2 h27) v_Model_154 hM.1 rfl rfl rfl (Nat.le_of_ble_eq_true rfl) hl.1 d_Model_refer_60 (by omega) (by decide) ⟨by omega, by omega⟩ (fun locs hS => ?_)
          refine lv_istore_n (lv' := [(3, .int (-2)), (2, .int (-2)), (1, .int 0), (0, .ref mo)]) X.x X.b d_Model_refer_63 rfl hl (by decide) rfl (fun ls hl => ?_)
          refine lv_iload_n X.x X.b d_Model_refer_64 rfl (lv_at hl 1 rfl) ?_
          refine lv_bipush (v := -2) X.x X.b d_Model_refer_65 (by decide) ?_
          refine lv_icmp_eq (tgt := 76) X.x X.b d_Model_refer_67 (by decide) (fun c5 => ?_) (fun c5 => ?_)
          · skip
            refine lv_aload_n X.x X.b d_Model_refer_76 rfl (lv_at hl 3 rfl) ?_
            refine lv_iconst (v := 5) X.x X.b d_Model_refer_77 (by decide) ?_
            refine lv_aload_n X.x X.b d_Model_refer_78 rfl (lv_at hl 3 rfl) ?_
            refine m_get (v := .ref (mo + 7)) X ok_Model hM.1 12 (by decide) k_Model_28 rfl d_Model_refer_79 ?_
            refine lv_iload_n X.x X.b d_Model_refer_82 rfl (lv_at hl 2 rfl) ?_
            refine m_ild (v := s0 12 0) X hM.a12 0 rfl (by omega) (by decide) (show s0 12 0 = s0 12 0 from rfl) d_Model_refer_83 ?_
            have hR := M_Model_stop l g hM 5 (s0 12 0)
            refine m_callM X hS hR v_Model_135 hM.1 rfl rfl rfl (Nat.le_of_ble_eq_true rfl) hl.1 d_Model_refer_84 (by omega) (by decide) ⟨by omega, by omega⟩ (fun q z => by have z : mo ≤ q ∧ q < mo + 23 := z; exact ⟨by omega, by omega⟩) (fun H locs hM hfr hS => ?_)
            obtain ⟨p_1, ep_1⟩ : ∃ z, z = upd p0 3 5 := ⟨_, rfl⟩
            rw [← ep_1] at hM
            obtain ⟨p_2, ep_2⟩ : ∃ z, z = upd p_1 4 (s0 12 0) := ⟨_, rfl⟩
            rw [← ep_2] at hM
            exact m_vret X hS (by omega) (by omega) d_Model_refer_87 rfl ⟨_, hM, (by rw [ep_2, upd_mi _ _ _ (show 0 ≠ 4 by decide), ep_1, upd_mi _ _ _ (show 0 ≠ 3 by decide)]), (by rw [ep_2, upd_mi _ _ _ (show 3 ≠ 4 by decide), ep_1, upd_hit])⟩
          · exact absurd c5 (by decide)
        · exact absurd c4 (by decide)
set_option maxRecDepth 100000 in
set_option maxHeartbeats 4000000 in
theorem M_Model_fillPools_L0 (l : Launch) (g : GG) {mo tq : Nat} {p0 : Nat → Int32} {s0 : Nat → Nat → Int32} {H0 : Heap} (hM : mAt g mo tq p0 s0 H0) (hw : twoI 0 p0 s0) : MM l y_Model_fillPools c_Model_fillPools 6 none 0 0 0 g H0 [.ref mo] (fun q => mo ≤ q ∧ q < mo + 23) (none) (fun H1 => ∃ s, mAt g mo tq p0 s H1 ∧ same [15, 20, 21] s0 s) := by
  refine MM.of (by decide +kernel) (Nat.le_of_ble_eq_true rfl) ?_
  intro p e s m below meth cd X hH ls hl
  have X : CX g p s m _ meth cd c_Model_fillPools 6 none R_Model _ := X
  have hl : lv_has ls 6 [(0, .ref mo)] := hl
  have hS : va_S (AA (fun q => mo ≤ q ∧ q < mo + 23) H0) H0 H0 [] := va_S.rf
  have hlt0 := hM.lt
  have htq0 := hM.tq
  obtain ⟨⟨hw3, hw5⟩, hw8, hw81⟩ := hw
  refine lv_iconst (v := 0) X.x X.b d_Model_fillPools_0 (by decide) ?_
  refine lv_istore_n (lv' := [(1, .int 0), (0, .ref mo)]) X.x X.b d_Model_fillPools_1 rfl hl (by decide) rfl (fun ls hl => ?_)
  refine lv_iconst (v := 0) X.x X.b d_Model_fillPools_2 (by decide) ?_
  refine lv_istore_n (lv' := [(2, .int 0), (1, .int 0), (0, .ref mo)]) X.x X.b d_Model_fillPools_3 rfl hl (by decide) rfl (fun ls hl => ?_)
  refine lv_iload_n X.x X.b d_Model_fillPools_4 rfl (lv_at hl 0 rfl) ?_
  refine lv_aload_n X.x X.b d_Model_fillPools_5 rfl (lv_at hl 2 rfl) ?_
  refine m_get (v := .int 2) X ok_Model hM.1 5 (by decide) k_Model_132 (congrArg (fun z => some (Value.int z)) (show p0 5 = 2 from (by rw [hw5]))) d_Model_fillPools_6 ?_
  refine lv_icmp_ge (tgt := 167) X.x X.b d_Model_fillPools_9 (by decide) (fun c1 => ?_) (fun c1 => ?_)
  · exact absurd c1 (by decide)
  · skip
    have c1q := Int32.not_le.mp c1
    refine lv_aload_n X.x X.b d_Model_fillPools_12 rfl (lv_at hl 2 rfl) ?_
    refine m_get (v := .ref (mo + 3)) X ok_Model hM.1 8 (by decide) k_Model_16 rfl d_Model_fillPools_13 ?_
    refine lv_iload_n X.x X.b d_Model_fillPools_16 rfl (lv_at hl 0 rfl) ?_
    refine m_ild (v := 0) X hM.a8 0 rfl (by omega) (by decide) (show s0 8 0 = 0 from (by rw [hw8])) d_Model_fillPools_17 ?_
    refine lv_bipush (v := 6) X.x X.b d_Model_fillPools_18 (by decide) ?_
    refine lv_icmp_eq (tgt := 26) X.x X.b d_Model_fillPools_20 (by decide) (fun c2 => ?_) (fun c2 => ?_)
    · exact absurd c2 (by decide)
    · skip
      refine lv_goto (tgt := 161) X.x X.b d_Model_fillPools_23 (by decide) ?_
      refine lv_iinc (v := 1) (lv' := [(2, .int 1), (1, .int 0), (0, .ref mo)]) X.x X.b d_Model_fillPools_161 hl (k := 0) rfl (by decide) (by decide) rfl (fun ls hl => ?_)
      refine lv_goto (tgt := 4) X.x X.b d_Model_fillPools_164 (by decide) ?_
      refine lv_iload_n X.x X.b d_Model_fillPools_4 rfl (lv_at hl 0 rfl) ?_
      refine lv_aload_n X.x X.b d_Model_fillPools_5 rfl (lv_at hl 2 rfl) ?_
      refine m_get (v := .int 2) X ok_Model hM.1 5 (by decide) k_Model_132 (congrArg (fun z => some (Value.int z)) (show p0 5 = 2 from (by rw [hw5]))) d_Model_fillPools_6 ?_
      refine lv_icmp_ge (tgt := 167) X.x X.b d_Model_fillPools_9 (by decide) (fun c3 => ?_) (fun c3 => ?_)
      · exact absurd c3 (by decide)
      · skip
        have c3q := Int32.not_le.mp c3
        refine lv_aload_n X.x X.b d_Model_fillPools_12 rfl (lv_at hl 2 rfl) ?_
        refine m_get (v := .ref (mo + 3)) X ok_Model hM.1 8 (by decide) k_Model_16 rfl d_Model_fillPools_13 ?_
        refine lv_iload_n X.x X.b d_Model_fillPools_16 rfl (lv_at hl 0 rfl) ?_
        refine m_ild (v := 6) X hM.a8 1 rfl (by omega) (by decide) (show s0 8 1 = 6 from (by rw [hw81])) d_Model_fillPools_17 ?_
        refine lv_bipush (v := 6) X.x X.b d_Model_fillPools_18 (by decide) ?_
        refine lv_icmp_eq (tgt := 26) X.x X.b d_Model_fillPools_20 (by decide) (fun c4 => ?_) (fun c4 => ?_)
        · skip
          refine lv_iconst (v := 0) X.x X.b d_Model_fillPools_26 (by decide) ?_
          refine lv_istore_n (lv' := [(3, .int 0), (2, .int 1), (1, .int 0), (0, .ref mo)]) X.x X.b d_Model_fillPools_27 rfl hl (by decide) rfl (fun ls hl => ?_)
          refine lv_iload_n X.x X.b d_Model_fillPools_28 rfl (lv_at hl 2 rfl) ?_
          refine lv_istore (lv' := [(4, .int 0), (3, .int 0), (2, .int 1), (1, .int 0), (0, .ref mo)]) X.x X.b d_Model_fillPools_29 hl (by decide) rfl (fun ls hl => ?_)
          refine lv_iload X.x X.b d_Model_fillPools_31 (lv_at hl 0 rfl) ?_
          refine lv_iload_n X.x X.b d_Model_fillPools_33 rfl (lv_at hl 2 rfl) ?_
          refine lv_icmp_ge (tgt := 150) X.x X.b d_Model_fillPools_34 (by decide) (fun c5 => ?_) (fun c5 => ?_)
          · exact absurd c5 (by decide)
          · skip
            have c5q := Int32.not_le.mp c5
            refine lv_aload_n X.x X.b d_Model_fillPools_37 rfl (lv_at hl 4 rfl) ?_
            refine m_get (v := .ref (mo + 3)) X ok_Model hM.1 8 (by decide) k_Model_16 rfl d_Model_fillPools_38 ?_
            refine lv_iload X.x X.b d_Model_fillPools_41 (lv_at hl 0 rfl) ?_
            refine m_ild (v := 0) X hM.a8 0 rfl (by omega) (by decide) (show s0 8 0 = 0 from (by rw [hw8])) d_Model_fillPools_43 ?_
            refine lv_iconst (v := 5) X.x X.b d_Model_fillPools_44 (by decide) ?_
            refine lv_icmp_eq (tgt := 51) X.x X.b d_Model_fillPools_45 (by decide) (fun c6 => ?_) (fun c6 => ?_)
            · exact absurd c6 (by decide)
            · skip
              refine lv_goto (tgt := 144) X.x X.b d_Model_fillPools_48 (by decide) ?_
              refine lv_iinc (v := 1) (lv' := [(4, .int 1), (3, .int 0), (2, .int 1), (1, .int 0), (0, .ref mo)]) X.x X.b d_Model_fillPools_144 hl (k := 0) rfl (by decide) (by decide) rfl (fun ls hl => ?_)
              refine lv_goto (tgt := 31) X.x X.b d_Model_fillPools_147 (by decide) ?_
              refine lv_iload X.x X.b d_Model_fillPools_31 (lv_at hl 0 rfl) ?_
              refine lv_iload_n X.x X.b d_Model_fillPools_33 rfl (lv_at hl 2 rfl) ?_
              refine lv_icmp_ge (tgt := 150) X.x X.b d_Model_fillPools_34 (by decide) (fun c7 => ?_) (fun c7 => ?_)
              · skip
                have c7q := Int32.not_lt.mpr c7
                refine lv_aload_n X.x X.b d_Model_fillPools_150 rfl (lv_at hl 4 rfl) ?_
                refine m_get (v := .ref (mo + 10)) X ok_Model hM.1 15 (by decide) k_Model_37 rfl d_Model_fillPools_151 ?_
                refine lv_iload_n X.x X.b d_Model_fillPools_154 rfl (lv_at hl 2 rfl) ?_
                refine lv_iload_n X.x X.b d_Model_fillPools_155 rfl (lv_at hl 1 rfl) ?_
                refine m_ist X hS (Or.inl ⟨by omega, by omega⟩) hM.a15 1 rfl (by omega) (by decide) d_Model_fillPools_156 (fun H locs hp hcg hS => ?_)
                have hM := hM.s15 hp hcg
                obtain ⟨s_1, es_1⟩ : ∃ z, z = updR s0 15 (upd (s0 15) 1 0) := ⟨_, rfl⟩
                rw [← es_1] at hM
                refine lv_iload_n X.x X.b d_Model_fillPools_157 rfl (lv_at hl 2 rfl) ?_
                refine lv_iconst (v := 1) X.x X.b d_Model_fillPools_158 (by decide) ?_
                refine lv_iadd X.x X.b d_Model_fillPools_159 ?_
                rw [show (1 + 1 : Int32) = 2 from by decide]
                refine lv_istore_n (lv' := [(1, .int 2), (4, .int 1), (3, .int 0), (2, .int 1), (0, .ref mo)]) X.x X.b d_Model_fillPools_160 rfl hl (by decide) rfl (fun ls hl => ?_)
                refine lv_iinc (v := 2) (lv' := [(2, .int 2), (1, .int 2), (4, .int 1), (3, .int 0), (0, .ref mo)]) X.x X.b d_Model_fillPools_161 hl (k := 3) rfl (by decide) (by decide) rfl (fun ls hl => ?_)
                refine lv_goto (tgt := 4) X.x X.b d_Model_fillPools_164 (by decide) ?_
                refine lv_iload_n X.x X.b d_Model_fillPools_4 rfl (lv_at hl 0 rfl) ?_
                refine lv_aload_n X.x X.b d_Model_fillPools_5 rfl (lv_at hl 4 rfl) ?_
                refine m_get (v := .int 2) X ok_Model hM.1 5 (by decide) k_Model_132 (congrArg (fun z => some (Value.int z)) (show p0 5 = 2 from (by rw [hw5]))) d_Model_fillPools_6 ?_
                refine lv_icmp_ge (tgt := 167) X.x X.b d_Model_fillPools_9 (by decide) (fun c8 => ?_) (fun c8 => ?_)
                · skip
                  have c8q := Int32.not_lt.mpr c8
                  exact m_vret X hS (by omega) (by omega) d_Model_fillPools_167 rfl ⟨_, hM, by rw [es_1]; exact ((same.rf _ _).up _ _ (by decide))⟩
                · exact absurd c8 (by decide)
              · exact absurd c7 (by decide)
        · exact absurd c4 (by decide)
set_option maxRecDepth 100000 in
set_option maxHeartbeats 4000000 in
theorem M_Model_fillPools_L1 (l : Launch) (g : GG) {mo tq : Nat} {p0 : Nat → Int32} {s0 : Nat → Nat → Int32} {H0 : Heap} (hM : mAt g mo tq p0 s0 H0) (hw : twoI 1 p0 s0) : MM l y_Model_fillPools c_Model_fillPools 6 none 0 0 0 g H0 [.ref mo] (fun q => mo ≤ q ∧ q < mo + 23) (none) (fun H1 => ∃ s, mAt g mo tq p0 s H1 ∧ same [15, 20, 21] s0 s) := by
  refine MM.of (by decide +kernel) (Nat.le_of_ble_eq_true rfl) ?_
  intro p e s m below meth cd X hH ls hl
  have X : CX g p s m _ meth cd c_Model_fillPools 6 none R_Model _ := X
  have hl : lv_has ls 6 [(0, .ref mo)] := hl
  have hS : va_S (AA (fun q => mo ≤ q ∧ q < mo + 23) H0) H0 H0 [] := va_S.rf
  have hlt0 := hM.lt
  have htq0 := hM.tq
  obtain ⟨⟨hw3, hw5⟩, hw8, hw81⟩ := hw
  refine lv_iconst (v := 0) X.x X.b d_Model_fillPools_0 (by decide) ?_
  refine lv_istore_n (lv' := [(1, .int 0), (0, .ref mo)]) X.x X.b d_Model_fillPools_1 rfl hl (by decide) rfl (fun ls hl => ?_)
  refine lv_iconst (v := 0) X.x X.b d_Model_fillPools_2 (by decide) ?_
  refine lv_istore_n (lv' := [(2, .int 0), (1, .int 0), (0, .ref mo)]) X.x X.b d_Model_fillPools_3 rfl hl (by decide) rfl (fun ls hl => ?_)
  refine lv_iload_n X.x X.b d_Model_fillPools_4 rfl (lv_at hl 0 rfl) ?_
  refine lv_aload_n X.x X.b d_Model_fillPools_5 rfl (lv_at hl 2 rfl) ?_
  refine m_get (v := .int 2) X ok_Model hM.1 5 (by decide) k_Model_132 (congrArg (fun z => some (Value.int z)) (show p0 5 = 2 from (by rw [hw5]))) d_Model_fillPools_6 ?_
  refine lv_icmp_ge (tgt := 167) X.x X.b d_Model_fillPools_9 (by decide) (fun c1 => ?_) (fun c1 => ?_)
  · exact absurd c1 (by decide)
  · skip
    have c1q := Int32.not_le.mp c1
    refine lv_aload_n X.x X.b d_Model_fillPools_12 rfl (lv_at hl 2 rfl) ?_
    refine m_get (v := .ref (mo + 3)) X ok_Model hM.1 8 (by decide) k_Model_16 rfl d_Model_fillPools_13 ?_
    refine lv_iload_n X.x X.b d_Model_fillPools_16 rfl (lv_at hl 0 rfl) ?_
    refine m_ild (v := 1) X hM.a8 0 rfl (by omega) (by decide) (show s0 8 0 = 1 from (by rw [hw8])) d_Model_fillPools_17 ?_
    refine lv_bipush (v := 6) X.x X.b d_Model_fillPools_18 (by decide) ?_
    refine lv_icmp_eq (tgt := 26) X.x X.b d_Model_fillPools_20 (by decide) (fun c2 => ?_) (fun c2 => ?_)
    · exact absurd c2 (by decide)
    · skip
      refine lv_goto (tgt := 161) X.x X.b d_Model_fillPools_23 (by decide) ?_
      refine lv_iinc (v := 1) (lv' := [(2, .int 1), (1, .int 0), (0, .ref mo)]) X.x X.b d_Model_fillPools_161 hl (k := 0) rfl (by decide) (by decide) rfl (fun ls hl => ?_)
      refine lv_goto (tgt := 4) X.x X.b d_Model_fillPools_164 (by decide) ?_
      refine lv_iload_n X.x X.b d_Model_fillPools_4 rfl (lv_at hl 0 rfl) ?_
      refine lv_aload_n X.x X.b d_Model_fillPools_5 rfl (lv_at hl 2 rfl) ?_
      refine m_get (v := .int 2) X ok_Model hM.1 5 (by decide) k_Model_132 (congrArg (fun z => some (Value.int z)) (show p0 5 = 2 from (by rw [hw5]))) d_Model_fillPools_6 ?_
      refine lv_icmp_ge (tgt := 167) X.x X.b d_Model_fillPools_9 (by decide) (fun c3 => ?_) (fun c3 => ?_)
      · exact absurd c3 (by decide)
      · skip
        have c3q := Int32.not_le.mp c3
        refine lv_aload_n X.x X.b d_Model_fillPools_12 rfl (lv_at hl 2 rfl) ?_
        refine m_get (v := .ref (mo + 3)) X ok_Model hM.1 8 (by decide) k_Model_16 rfl d_Model_fillPools_13 ?_
        refine lv_iload_n X.x X.b d_Model_fillPools_16 rfl (lv_at hl 0 rfl) ?_
        refine m_ild (v := 6) X hM.a8 1 rfl (by omega) (by decide) (show s0 8 1 = 6 from (by rw [hw81])) d_Model_fillPools_17 ?_
        refine lv_bipush (v := 6) X.x X.b d_Model_fillPools_18 (by decide) ?_
        refine lv_icmp_eq (tgt := 26) X.x X.b d_Model_fillPools_20 (by decide) (fun c4 => ?_) (fun c4 => ?_)
        · skip
          refine lv_iconst (v := 0) X.x X.b d_Model_fillPools_26 (by decide) ?_
          refine lv_istore_n (lv' := [(3, .int 0), (2, .int 1), (1, .int 0), (0, .ref mo)]) X.x X.b d_Model_fillPools_27 rfl hl (by decide) rfl (fun ls hl => ?_)
          refine lv_iload_n X.x X.b d_Model_fillPools_28 rfl (lv_at hl 2 rfl) ?_
          refine lv_istore (lv' := [(4, .int 0), (3, .int 0), (2, .int 1), (1, .int 0), (0, .ref mo)]) X.x X.b d_Model_fillPools_29 hl (by decide) rfl (fun ls hl => ?_)
          refine lv_iload X.x X.b d_Model_fillPools_31 (lv_at hl 0 rfl) ?_
          refine lv_iload_n X.x X.b d_Model_fillPools_33 rfl (lv_at hl 2 rfl) ?_
          refine lv_icmp_ge (tgt := 150) X.x X.b d_Model_fillPools_34 (by decide) (fun c5 => ?_) (fun c5 => ?_)
          · exact absurd c5 (by decide)
          · skip
            have c5q := Int32.not_le.mp c5
            refine lv_aload_n X.x X.b d_Model_fillPools_37 rfl (lv_at hl 4 rfl) ?_
            refine m_get (v := .ref (mo + 3)) X ok_Model hM.1 8 (by decide) k_Model_16 rfl d_Model_fillPools_38 ?_
            refine lv_iload X.x X.b d_Model_fillPools_41 (lv_at hl 0 rfl) ?_
            refine m_ild (v := 1) X hM.a8 0 rfl (by omega) (by decide) (show s0 8 0 = 1 from (by rw [hw8])) d_Model_fillPools_43 ?_
            refine lv_iconst (v := 5) X.x X.b d_Model_fillPools_44 (by decide) ?_
            refine lv_icmp_eq (tgt := 51) X.x X.b d_Model_fillPools_45 (by decide) (fun c6 => ?_) (fun c6 => ?_)
            · exact absurd c6 (by decide)
            · skip
              refine lv_goto (tgt := 144) X.x X.b d_Model_fillPools_48 (by decide) ?_
              refine lv_iinc (v := 1) (lv' := [(4, .int 1), (3, .int 0), (2, .int 1), (1, .int 0), (0, .ref mo)]) X.x X.b d_Model_fillPools_144 hl (k := 0) rfl (by decide) (by decide) rfl (fun ls hl => ?_)
              refine lv_goto (tgt := 31) X.x X.b d_Model_fillPools_147 (by decide) ?_
              refine lv_iload X.x X.b d_Model_fillPools_31 (lv_at hl 0 rfl) ?_
              refine lv_iload_n X.x X.b d_Model_fillPools_33 rfl (lv_at hl 2 rfl) ?_
              refine lv_icmp_ge (tgt := 150) X.x X.b d_Model_fillPools_34 (by decide) (fun c7 => ?_) (fun c7 => ?_)
              · skip
                have c7q := Int32.not_lt.mpr c7
                refine lv_aload_n X.x X.b d_Model_fillPools_150 rfl (lv_at hl 4 rfl) ?_
                refine m_get (v := .ref (mo + 10)) X ok_Model hM.1 15 (by decide) k_Model_37 rfl d_Model_fillPools_151 ?_
                refine lv_iload_n X.x X.b d_Model_fillPools_154 rfl (lv_at hl 2 rfl) ?_
                refine lv_iload_n X.x X.b d_Model_fillPools_155 rfl (lv_at hl 1 rfl) ?_
                refine m_ist X hS (Or.inl ⟨by omega, by omega⟩) hM.a15 1 rfl (by omega) (by decide) d_Model_fillPools_156 (fun H locs hp hcg hS => ?_)
                have hM := hM.s15 hp hcg
                obtain ⟨s_1, es_1⟩ : ∃ z, z = updR s0 15 (upd (s0 15) 1 0) := ⟨_, rfl⟩
                rw [← es_1] at hM
                refine lv_iload_n X.x X.b d_Model_fillPools_157 rfl (lv_at hl 2 rfl) ?_
                refine lv_iconst (v := 1) X.x X.b d_Model_fillPools_158 (by decide) ?_
                refine lv_iadd X.x X.b d_Model_fillPools_159 ?_
                rw [show (1 + 1 : Int32) = 2 from by decide]
                refine lv_istore_n (lv' := [(1, .int 2), (4, .int 1), (3, .int 0), (2, .int 1), (0, .ref mo)]) X.x X.b d_Model_fillPools_160 rfl hl (by decide) rfl (fun ls hl => ?_)
                refine lv_iinc (v := 2) (lv' := [(2, .int 2), (1, .int 2), (4, .int 1), (3, .int 0), (0, .ref mo)]) X.x X.b d_Model_fillPools_161 hl (k := 3) rfl (by decide) (by decide) rfl (fun ls hl => ?_)
                refine lv_goto (tgt := 4) X.x X.b d_Model_fillPools_164 (by decide) ?_
                refine lv_iload_n X.x X.b d_Model_fillPools_4 rfl (lv_at hl 0 rfl) ?_
                refine lv_aload_n X.x X.b d_Model_fillPools_5 rfl (lv_at hl 4 rfl) ?_
                refine m_get (v := .int 2) X ok_Model hM.1 5 (by decide) k_Model_132 (congrArg (fun z => some (Value.int z)) (show p0 5 = 2 from (by rw [hw5]))) d_Model_fillPools_6 ?_
                refine lv_icmp_ge (tgt := 167) X.x X.b d_Model_fillPools_9 (by decide) (fun c8 => ?_) (fun c8 => ?_)
                · skip
                  have c8q := Int32.not_lt.mpr c8
                  exact m_vret X hS (by omega) (by omega) d_Model_fillPools_167 rfl ⟨_, hM, by rw [es_1]; exact ((same.rf _ _).up _ _ (by decide))⟩
                · exact absurd c8 (by decide)
              · exact absurd c7 (by decide)
        · exact absurd c4 (by decide)
set_option maxRecDepth 100000 in
set_option maxHeartbeats 4000000 in
theorem M_Model_fillPools_L3 (l : Launch) (g : GG) {mo tq : Nat} {p0 : Nat → Int32} {s0 : Nat → Nat → Int32} {H0 : Heap} (hM : mAt g mo tq p0 s0 H0) (hw : twoI 3 p0 s0) : MM l y_Model_fillPools c_Model_fillPools 6 none 0 0 0 g H0 [.ref mo] (fun q => mo ≤ q ∧ q < mo + 23) (none) (fun H1 => ∃ s, mAt g mo tq p0 s H1 ∧ same [15, 20, 21] s0 s) := by
  refine MM.of (by decide +kernel) (Nat.le_of_ble_eq_true rfl) ?_
  intro p e s m below meth cd X hH ls hl
  have X : CX g p s m _ meth cd c_Model_fillPools 6 none R_Model _ := X
  have hl : lv_has ls 6 [(0, .ref mo)] := hl
  have hS : va_S (AA (fun q => mo ≤ q ∧ q < mo + 23) H0) H0 H0 [] := va_S.rf
  have hlt0 := hM.lt
  have htq0 := hM.tq
  obtain ⟨⟨hw3, hw5⟩, hw8, hw81⟩ := hw
  refine lv_iconst (v := 0) X.x X.b d_Model_fillPools_0 (by decide) ?_
  refine lv_istore_n (lv' := [(1, .int 0), (0, .ref mo)]) X.x X.b d_Model_fillPools_1 rfl hl (by decide) rfl (fun ls hl => ?_)
  refine lv_iconst (v := 0) X.x X.b d_Model_fillPools_2 (by decide) ?_
  refine lv_istore_n (lv' := [(2, .int 0), (1, .int 0), (0, .ref mo)]) X.x X.b d_Model_fillPools_3 rfl hl (by decide) rfl (fun ls hl => ?_)
  refine lv_iload_n X.x X.b d_Model_fillPools_4 rfl (lv_at hl 0 rfl) ?_
  refine lv_aload_n X.x X.b d_Model_fillPools_5 rfl (lv_at hl 2 rfl) ?_
  refine m_get (v := .int 2) X ok_Model hM.1 5 (by decide) k_Model_132 (congrArg (fun z => some (Value.int z)) (show p0 5 = 2 from (by rw [hw5]))) d_Model_fillPools_6 ?_
  refine lv_icmp_ge (tgt := 167) X.x X.b d_Model_fillPools_9 (by decide) (fun c1 => ?_) (fun c1 => ?_)
  · exact absurd c1 (by decide)
  · skip
    have c1q := Int32.not_le.mp c1
    refine lv_aload_n X.x X.b d_Model_fillPools_12 rfl (lv_at hl 2 rfl) ?_
    refine m_get (v := .ref (mo + 3)) X ok_Model hM.1 8 (by decide) k_Model_16 rfl d_Model_fillPools_13 ?_
    refine lv_iload_n X.x X.b d_Model_fillPools_16 rfl (lv_at hl 0 rfl) ?_
    refine m_ild (v := 3) X hM.a8 0 rfl (by omega) (by decide) (show s0 8 0 = 3 from (by rw [hw8])) d_Model_fillPools_17 ?_
    refine lv_bipush (v := 6) X.x X.b d_Model_fillPools_18 (by decide) ?_
    refine lv_icmp_eq (tgt := 26) X.x X.b d_Model_fillPools_20 (by decide) (fun c2 => ?_) (fun c2 => ?_)
    · exact absurd c2 (by decide)
    · skip
      refine lv_goto (tgt := 161) X.x X.b d_Model_fillPools_23 (by decide) ?_
      refine lv_iinc (v := 1) (lv' := [(2, .int 1), (1, .int 0), (0, .ref mo)]) X.x X.b d_Model_fillPools_161 hl (k := 0) rfl (by decide) (by decide) rfl (fun ls hl => ?_)
      refine lv_goto (tgt := 4) X.x X.b d_Model_fillPools_164 (by decide) ?_
      refine lv_iload_n X.x X.b d_Model_fillPools_4 rfl (lv_at hl 0 rfl) ?_
      refine lv_aload_n X.x X.b d_Model_fillPools_5 rfl (lv_at hl 2 rfl) ?_
      refine m_get (v := .int 2) X ok_Model hM.1 5 (by decide) k_Model_132 (congrArg (fun z => some (Value.int z)) (show p0 5 = 2 from (by rw [hw5]))) d_Model_fillPools_6 ?_
      refine lv_icmp_ge (tgt := 167) X.x X.b d_Model_fillPools_9 (by decide) (fun c3 => ?_) (fun c3 => ?_)
      · exact absurd c3 (by decide)
      · skip
        have c3q := Int32.not_le.mp c3
        refine lv_aload_n X.x X.b d_Model_fillPools_12 rfl (lv_at hl 2 rfl) ?_
        refine m_get (v := .ref (mo + 3)) X ok_Model hM.1 8 (by decide) k_Model_16 rfl d_Model_fillPools_13 ?_
        refine lv_iload_n X.x X.b d_Model_fillPools_16 rfl (lv_at hl 0 rfl) ?_
        refine m_ild (v := 6) X hM.a8 1 rfl (by omega) (by decide) (show s0 8 1 = 6 from (by rw [hw81])) d_Model_fillPools_17 ?_
        refine lv_bipush (v := 6) X.x X.b d_Model_fillPools_18 (by decide) ?_
        refine lv_icmp_eq (tgt := 26) X.x X.b d_Model_fillPools_20 (by decide) (fun c4 => ?_) (fun c4 => ?_)
        · skip
          refine lv_iconst (v := 0) X.x X.b d_Model_fillPools_26 (by decide) ?_
          refine lv_istore_n (lv' := [(3, .int 0), (2, .int 1), (1, .int 0), (0, .ref mo)]) X.x X.b d_Model_fillPools_27 rfl hl (by decide) rfl (fun ls hl => ?_)
          refine lv_iload_n X.x X.b d_Model_fillPools_28 rfl (lv_at hl 2 rfl) ?_
          refine lv_istore (lv' := [(4, .int 0), (3, .int 0), (2, .int 1), (1, .int 0), (0, .ref mo)]) X.x X.b d_Model_fillPools_29 hl (by decide) rfl (fun ls hl => ?_)
          refine lv_iload X.x X.b d_Model_fillPools_31 (lv_at hl 0 rfl) ?_
          refine lv_iload_n X.x X.b d_Model_fillPools_33 rfl (lv_at hl 2 rfl) ?_
          refine lv_icmp_ge (tgt := 150) X.x X.b d_Model_fillPools_34 (by decide) (fun c5 => ?_) (fun c5 => ?_)
          · exact absurd c5 (by decide)
          · skip
            have c5q := Int32.not_le.mp c5
            refine lv_aload_n X.x X.b d_Model_fillPools_37 rfl (lv_at hl 4 rfl) ?_
            refine m_get (v := .ref (mo + 3)) X ok_Model hM.1 8 (by decide) k_Model_16 rfl d_Model_fillPools_38 ?_
            refine lv_iload X.x X.b d_Model_fillPools_41 (lv_at hl 0 rfl) ?_
            refine m_ild (v := 3) X hM.a8 0 rfl (by omega) (by decide) (show s0 8 0 = 3 from (by rw [hw8])) d_Model_fillPools_43 ?_
            refine lv_iconst (v := 5) X.x X.b d_Model_fillPools_44 (by decide) ?_
            refine lv_icmp_eq (tgt := 51) X.x X.b d_Model_fillPools_45 (by decide) (fun c6 => ?_) (fun c6 => ?_)
            · exact absurd c6 (by decide)
            · skip
              refine lv_goto (tgt := 144) X.x X.b d_Model_fillPools_48 (by decide) ?_
              refine lv_iinc (v := 1) (lv' := [(4, .int 1), (3, .int 0), (2, .int 1), (1, .int 0), (0, .ref mo)]) X.x X.b d_Model_fillPools_144 hl (k := 0) rfl (by decide) (by decide) rfl (fun ls hl => ?_)
              refine lv_goto (tgt := 31) X.x X.b d_Model_fillPools_147 (by decide) ?_
              refine lv_iload X.x X.b d_Model_fillPools_31 (lv_at hl 0 rfl) ?_
              refine lv_iload_n X.x X.b d_Model_fillPools_33 rfl (lv_at hl 2 rfl) ?_
              refine lv_icmp_ge (tgt := 150) X.x X.b d_Model_fillPools_34 (by decide) (fun c7 => ?_) (fun c7 => ?_)
              · skip
                have c7q := Int32.not_lt.mpr c7
                refine lv_aload_n X.x X.b d_Model_fillPools_150 rfl (lv_at hl 4 rfl) ?_
                refine m_get (v := .ref (mo + 10)) X ok_Model hM.1 15 (by decide) k_Model_37 rfl d_Model_fillPools_151 ?_
                refine lv_iload_n X.x X.b d_Model_fillPools_154 rfl (lv_at hl 2 rfl) ?_
                refine lv_iload_n X.x X.b d_Model_fillPools_155 rfl (lv_at hl 1 rfl) ?_
                refine m_ist X hS (Or.inl ⟨by omega, by omega⟩) hM.a15 1 rfl (by omega) (by decide) d_Model_fillPools_156 (fun H locs hp hcg hS => ?_)
                have hM := hM.s15 hp hcg
                obtain ⟨s_1, es_1⟩ : ∃ z, z = updR s0 15 (upd (s0 15) 1 0) := ⟨_, rfl⟩
                rw [← es_1] at hM
                refine lv_iload_n X.x X.b d_Model_fillPools_157 rfl (lv_at hl 2 rfl) ?_
                refine lv_iconst (v := 1) X.x X.b d_Model_fillPools_158 (by decide) ?_
                refine lv_iadd X.x X.b d_Model_fillPools_159 ?_
                rw [show (1 + 1 : Int32) = 2 from by decide]
                refine lv_istore_n (lv' := [(1, .int 2), (4, .int 1), (3, .int 0), (2, .int 1), (0, .ref mo)]) X.x X.b d_Model_fillPools_160 rfl hl (by decide) rfl (fun ls hl => ?_)
                refine lv_iinc (v := 2) (lv' := [(2, .int 2), (1, .int 2), (4, .int 1), (3, .int 0), (0, .ref mo)]) X.x X.b d_Model_fillPools_161 hl (k := 3) rfl (by decide) (by decide) rfl (fun ls hl => ?_)
                refine lv_goto (tgt := 4) X.x X.b d_Model_fillPools_164 (by decide) ?_
                refine lv_iload_n X.x X.b d_Model_fillPools_4 rfl (lv_at hl 0 rfl) ?_
                refine lv_aload_n X.x X.b d_Model_fillPools_5 rfl (lv_at hl 4 rfl) ?_
                refine m_get (v := .int 2) X ok_Model hM.1 5 (by decide) k_Model_132 (congrArg (fun z => some (Value.int z)) (show p0 5 = 2 from (by rw [hw5]))) d_Model_fillPools_6 ?_
                refine lv_icmp_ge (tgt := 167) X.x X.b d_Model_fillPools_9 (by decide) (fun c8 => ?_) (fun c8 => ?_)
                · skip
                  have c8q := Int32.not_lt.mpr c8
                  exact m_vret X hS (by omega) (by omega) d_Model_fillPools_167 rfl ⟨_, hM, by rw [es_1]; exact ((same.rf _ _).up _ _ (by decide))⟩
                · exact absurd c8 (by decide)
              · exact absurd c7 (by decide)
        · exact absurd c4 (by decide)
set_option maxRecDepth 100000 in
set_option maxHeartbeats 4000000 in
theorem M_Model_fillPools_L4 (l : Launch) (g : GG) {mo tq : Nat} {p0 : Nat → Int32} {s0 : Nat → Nat → Int32} {H0 : Heap} (hM : mAt g mo tq p0 s0 H0) (hw : twoI 4 p0 s0) : MM l y_Model_fillPools c_Model_fillPools 6 none 0 0 0 g H0 [.ref mo] (fun q => mo ≤ q ∧ q < mo + 23) (none) (fun H1 => ∃ s, mAt g mo tq p0 s H1 ∧ same [15, 20, 21] s0 s) := by
  refine MM.of (by decide +kernel) (Nat.le_of_ble_eq_true rfl) ?_
  intro p e s m below meth cd X hH ls hl
  have X : CX g p s m _ meth cd c_Model_fillPools 6 none R_Model _ := X
  have hl : lv_has ls 6 [(0, .ref mo)] := hl
  have hS : va_S (AA (fun q => mo ≤ q ∧ q < mo + 23) H0) H0 H0 [] := va_S.rf
  have hlt0 := hM.lt
  have htq0 := hM.tq
  obtain ⟨⟨hw3, hw5⟩, hw8, hw81⟩ := hw
  refine lv_iconst (v := 0) X.x X.b d_Model_fillPools_0 (by decide) ?_
  refine lv_istore_n (lv' := [(1, .int 0), (0, .ref mo)]) X.x X.b d_Model_fillPools_1 rfl hl (by decide) rfl (fun ls hl => ?_)
  refine lv_iconst (v := 0) X.x X.b d_Model_fillPools_2 (by decide) ?_
  refine lv_istore_n (lv' := [(2, .int 0), (1, .int 0), (0, .ref mo)]) X.x X.b d_Model_fillPools_3 rfl hl (by decide) rfl (fun ls hl => ?_)
  refine lv_iload_n X.x X.b d_Model_fillPools_4 rfl (lv_at hl 0 rfl) ?_
  refine lv_aload_n X.x X.b d_Model_fillPools_5 rfl (lv_at hl 2 rfl) ?_
  refine m_get (v := .int 2) X ok_Model hM.1 5 (by decide) k_Model_132 (congrArg (fun z => some (Value.int z)) (show p0 5 = 2 from (by rw [hw5]))) d_Model_fillPools_6 ?_
  refine lv_icmp_ge (tgt := 167) X.x X.b d_Model_fillPools_9 (by decide) (fun c1 => ?_) (fun c1 => ?_)
  · exact absurd c1 (by decide)
  · skip
    have c1q := Int32.not_le.mp c1
    refine lv_aload_n X.x X.b d_Model_fillPools_12 rfl (lv_at hl 2 rfl) ?_
    refine m_get (v := .ref (mo + 3)) X ok_Model hM.1 8 (by decide) k_Model_16 rfl d_Model_fillPools_13 ?_
    refine lv_iload_n X.x X.b d_Model_fillPools_16 rfl (lv_at hl 0 rfl) ?_
    refine m_ild (v := 4) X hM.a8 0 rfl (by omega) (by decide) (show s0 8 0 = 4 from (by rw [hw8])) d_Model_fillPools_17 ?_
    refine lv_bipush (v := 6) X.x X.b d_Model_fillPools_18 (by decide) ?_
    refine lv_icmp_eq (tgt := 26) X.x X.b d_Model_fillPools_20 (by decide) (fun c2 => ?_) (fun c2 => ?_)
    · exact absurd c2 (by decide)
    · skip
      refine lv_goto (tgt := 161) X.x X.b d_Model_fillPools_23 (by decide) ?_
      refine lv_iinc (v := 1) (lv' := [(2, .int 1), (1, .int 0), (0, .ref mo)]) X.x X.b d_Model_fillPools_161 hl (k := 0) rfl (by decide) (by decide) rfl (fun ls hl => ?_)
      refine lv_goto (tgt := 4) X.x X.b d_Model_fillPools_164 (by decide) ?_
      refine lv_iload_n X.x X.b d_Model_fillPools_4 rfl (lv_at hl 0 rfl) ?_
      refine lv_aload_n X.x X.b d_Model_fillPools_5 rfl (lv_at hl 2 rfl) ?_
      refine m_get (v := .int 2) X ok_Model hM.1 5 (by decide) k_Model_132 (congrArg (fun z => some (Value.int z)) (show p0 5 = 2 from (by rw [hw5]))) d_Model_fillPools_6 ?_
      refine lv_icmp_ge (tgt := 167) X.x X.b d_Model_fillPools_9 (by decide) (fun c3 => ?_) (fun c3 => ?_)
      · exact absurd c3 (by decide)
      · skip
        have c3q := Int32.not_le.mp c3
        refine lv_aload_n X.x X.b d_Model_fillPools_12 rfl (lv_at hl 2 rfl) ?_
        refine m_get (v := .ref (mo + 3)) X ok_Model hM.1 8 (by decide) k_Model_16 rfl d_Model_fillPools_13 ?_
        refine lv_iload_n X.x X.b d_Model_fillPools_16 rfl (lv_at hl 0 rfl) ?_
        refine m_ild (v := 6) X hM.a8 1 rfl (by omega) (by decide) (show s0 8 1 = 6 from (by rw [hw81])) d_Model_fillPools_17 ?_
        refine lv_bipush (v := 6) X.x X.b d_Model_fillPools_18 (by decide) ?_
        refine lv_icmp_eq (tgt := 26) X.x X.b d_Model_fillPools_20 (by decide) (fun c4 => ?_) (fun c4 => ?_)
        · skip
          refine lv_iconst (v := 0) X.x X.b d_Model_fillPools_26 (by decide) ?_
          refine lv_istore_n (lv' := [(3, .int 0), (2, .int 1), (1, .int 0), (0, .ref mo)]) X.x X.b d_Model_fillPools_27 rfl hl (by decide) rfl (fun ls hl => ?_)
          refine lv_iload_n X.x X.b d_Model_fillPools_28 rfl (lv_at hl 2 rfl) ?_
          refine lv_istore (lv' := [(4, .int 0), (3, .int 0), (2, .int 1), (1, .int 0), (0, .ref mo)]) X.x X.b d_Model_fillPools_29 hl (by decide) rfl (fun ls hl => ?_)
          refine lv_iload X.x X.b d_Model_fillPools_31 (lv_at hl 0 rfl) ?_
          refine lv_iload_n X.x X.b d_Model_fillPools_33 rfl (lv_at hl 2 rfl) ?_
          refine lv_icmp_ge (tgt := 150) X.x X.b d_Model_fillPools_34 (by decide) (fun c5 => ?_) (fun c5 => ?_)
          · exact absurd c5 (by decide)
          · skip
            have c5q := Int32.not_le.mp c5
            refine lv_aload_n X.x X.b d_Model_fillPools_37 rfl (lv_at hl 4 rfl) ?_
            refine m_get (v := .ref (mo + 3)) X ok_Model hM.1 8 (by decide) k_Model_16 rfl d_Model_fillPools_38 ?_
            refine lv_iload X.x X.b d_Model_fillPools_41 (lv_at hl 0 rfl) ?_
            refine m_ild (v := 4) X hM.a8 0 rfl (by omega) (by decide) (show s0 8 0 = 4 from (by rw [hw8])) d_Model_fillPools_43 ?_
            refine lv_iconst (v := 5) X.x X.b d_Model_fillPools_44 (by decide) ?_
            refine lv_icmp_eq (tgt := 51) X.x X.b d_Model_fillPools_45 (by decide) (fun c6 => ?_) (fun c6 => ?_)
            · exact absurd c6 (by decide)
            · skip
              refine lv_goto (tgt := 144) X.x X.b d_Model_fillPools_48 (by decide) ?_
              refine lv_iinc (v := 1) (lv' := [(4, .int 1), (3, .int 0), (2, .int 1), (1, .int 0), (0, .ref mo)]) X.x X.b d_Model_fillPools_144 hl (k := 0) rfl (by decide) (by decide) rfl (fun ls hl => ?_)
              refine lv_goto (tgt := 31) X.x X.b d_Model_fillPools_147 (by decide) ?_
              refine lv_iload X.x X.b d_Model_fillPools_31 (lv_at hl 0 rfl) ?_
              refine lv_iload_n X.x X.b d_Model_fillPools_33 rfl (lv_at hl 2 rfl) ?_
              refine lv_icmp_ge (tgt := 150) X.x X.b d_Model_fillPools_34 (by decide) (fun c7 => ?_) (fun c7 => ?_)
              · skip
                have c7q := Int32.not_lt.mpr c7
                refine lv_aload_n X.x X.b d_Model_fillPools_150 rfl (lv_at hl 4 rfl) ?_
                refine m_get (v := .ref (mo + 10)) X ok_Model hM.1 15 (by decide) k_Model_37 rfl d_Model_fillPools_151 ?_
                refine lv_iload_n X.x X.b d_Model_fillPools_154 rfl (lv_at hl 2 rfl) ?_
                refine lv_iload_n X.x X.b d_Model_fillPools_155 rfl (lv_at hl 1 rfl) ?_
                refine m_ist X hS (Or.inl ⟨by omega, by omega⟩) hM.a15 1 rfl (by omega) (by decide) d_Model_fillPools_156 (fun H locs hp hcg hS => ?_)
                have hM := hM.s15 hp hcg
                obtain ⟨s_1, es_1⟩ : ∃ z, z = updR s0 15 (upd (s0 15) 1 0) := ⟨_, rfl⟩
                rw [← es_1] at hM
                refine lv_iload_n X.x X.b d_Model_fillPools_157 rfl (lv_at hl 2 rfl) ?_
                refine lv_iconst (v := 1) X.x X.b d_Model_fillPools_158 (by decide) ?_
                refine lv_iadd X.x X.b d_Model_fillPools_159 ?_
                rw [show (1 + 1 : Int32) = 2 from by decide]
                refine lv_istore_n (lv' := [(1, .int 2), (4, .int 1), (3, .int 0), (2, .int 1), (0, .ref mo)]) X.x X.b d_Model_fillPools_160 rfl hl (by decide) rfl (fun ls hl => ?_)
                refine lv_iinc (v := 2) (lv' := [(2, .int 2), (1, .int 2), (4, .int 1), (3, .int 0), (0, .ref mo)]) X.x X.b d_Model_fillPools_161 hl (k := 3) rfl (by decide) (by decide) rfl (fun ls hl => ?_)
                refine lv_goto (tgt := 4) X.x X.b d_Model_fillPools_164 (by decide) ?_
                refine lv_iload_n X.x X.b d_Model_fillPools_4 rfl (lv_at hl 0 rfl) ?_
                refine lv_aload_n X.x X.b d_Model_fillPools_5 rfl (lv_at hl 4 rfl) ?_
                refine m_get (v := .int 2) X ok_Model hM.1 5 (by decide) k_Model_132 (congrArg (fun z => some (Value.int z)) (show p0 5 = 2 from (by rw [hw5]))) d_Model_fillPools_6 ?_
                refine lv_icmp_ge (tgt := 167) X.x X.b d_Model_fillPools_9 (by decide) (fun c8 => ?_) (fun c8 => ?_)
                · skip
                  have c8q := Int32.not_lt.mpr c8
                  exact m_vret X hS (by omega) (by omega) d_Model_fillPools_167 rfl ⟨_, hM, by rw [es_1]; exact ((same.rf _ _).up _ _ (by decide))⟩
                · exact absurd c8 (by decide)
              · exact absurd c7 (by decide)
        · exact absurd c4 (by decide)
set_option maxRecDepth 100000 in
set_option maxHeartbeats 4000000 in
theorem M_Model_fillPools_L5 (l : Launch) (g : GG) {mo tq : Nat} {p0 : Nat → Int32} {s0 : Nat → Nat → Int32} {H0 : Heap} (hM : mAt g mo tq p0 s0 H0) (hw : twoI 5 p0 s0) : MM l y_Model_fillPools c_Model_fillPools 6 none 0 0 0 g H0 [.ref mo] (fun q => mo ≤ q ∧ q < mo + 23) (none) (fun H1 => ∃ s, mAt g mo tq p0 s H1 ∧ same [15, 20, 21] s0 s ∧ s 20 0 = 1) := by
  refine MM.of (by decide +kernel) (Nat.le_of_ble_eq_true rfl) ?_
  intro p e s m below meth cd X hH ls hl
  have X : CX g p s m _ meth cd c_Model_fillPools 6 none R_Model _ := X
  have hl : lv_has ls 6 [(0, .ref mo)] := hl
  have hS : va_S (AA (fun q => mo ≤ q ∧ q < mo + 23) H0) H0 H0 [] := va_S.rf
  have hlt0 := hM.lt
  have htq0 := hM.tq
  obtain ⟨⟨hw3, hw5⟩, hw8, hw81⟩ := hw
  refine lv_iconst (v := 0) X.x X.b d_Model_fillPools_0 (by decide) ?_
  refine lv_istore_n (lv' := [(1, .int 0), (0, .ref mo)]) X.x X.b d_Model_fillPools_1 rfl hl (by decide) rfl (fun ls hl => ?_)
  refine lv_iconst (v := 0) X.x X.b d_Model_fillPools_2 (by decide) ?_
  refine lv_istore_n (lv' := [(2, .int 0), (1, .int 0), (0, .ref mo)]) X.x X.b d_Model_fillPools_3 rfl hl (by decide) rfl (fun ls hl => ?_)
  refine lv_iload_n X.x X.b d_Model_fillPools_4 rfl (lv_at hl 0 rfl) ?_
  refine lv_aload_n X.x X.b d_Model_fillPools_5 rfl (lv_at hl 2 rfl) ?_
  refine m_get (v := .int 2) X ok_Model hM.1 5 (by decide) k_Model_132 (congrArg (fun z => some (Value.int z)) (show p0 5 = 2 from (by rw [hw5]))) d_Model_fillPools_6 ?_
  refine lv_icmp_ge (tgt := 167) X.x X.b d_Model_fillPools_9 (by decide) (fun c1 => ?_) (fun c1 => ?_)
  · exact absurd c1 (by decide)
  · skip
    have c1q := Int32.not_le.mp c1
    refine lv_aload_n X.x X.b d_Model_fillPools_12 rfl (lv_at hl 2 rfl) ?_
    refine m_get (v := .ref (mo + 3)) X ok_Model hM.1 8 (by decide) k_Model_16 rfl d_Model_fillPools_13 ?_
    refine lv_iload_n X.x X.b d_Model_fillPools_16 rfl (lv_at hl 0 rfl) ?_
    refine m_ild (v := 5) X hM.a8 0 rfl (by omega) (by decide) (show s0 8 0 = 5 from (by rw [hw8])) d_Model_fillPools_17 ?_
    refine lv_bipush (v := 6) X.x X.b d_Model_fillPools_18 (by decide) ?_
    refine lv_icmp_eq (tgt := 26) X.x X.b d_Model_fillPools_20 (by decide) (fun c2 => ?_) (fun c2 => ?_)
    · exact absurd c2 (by decide)
    · skip
      refine lv_goto (tgt := 161) X.x X.b d_Model_fillPools_23 (by decide) ?_
      refine lv_iinc (v := 1) (lv' := [(2, .int 1), (1, .int 0), (0, .ref mo)]) X.x X.b d_Model_fillPools_161 hl (k := 0) rfl (by decide) (by decide) rfl (fun ls hl => ?_)
      refine lv_goto (tgt := 4) X.x X.b d_Model_fillPools_164 (by decide) ?_
      refine lv_iload_n X.x X.b d_Model_fillPools_4 rfl (lv_at hl 0 rfl) ?_
      refine lv_aload_n X.x X.b d_Model_fillPools_5 rfl (lv_at hl 2 rfl) ?_
      refine m_get (v := .int 2) X ok_Model hM.1 5 (by decide) k_Model_132 (congrArg (fun z => some (Value.int z)) (show p0 5 = 2 from (by rw [hw5]))) d_Model_fillPools_6 ?_
      refine lv_icmp_ge (tgt := 167) X.x X.b d_Model_fillPools_9 (by decide) (fun c3 => ?_) (fun c3 => ?_)
      · exact absurd c3 (by decide)
      · skip
        have c3q := Int32.not_le.mp c3
        refine lv_aload_n X.x X.b d_Model_fillPools_12 rfl (lv_at hl 2 rfl) ?_
        refine m_get (v := .ref (mo + 3)) X ok_Model hM.1 8 (by decide) k_Model_16 rfl d_Model_fillPools_13 ?_
        refine lv_iload_n X.x X.b d_Model_fillPools_16 rfl (lv_at hl 0 rfl) ?_
        refine m_ild (v := 6) X hM.a8 1 rfl (by omega) (by decide) (show s0 8 1 = 6 from (by rw [hw81])) d_Model_fillPools_17 ?_
        refine lv_bipush (v := 6) X.x X.b d_Model_fillPools_18 (by decide) ?_
        refine lv_icmp_eq (tgt := 26) X.x X.b d_Model_fillPools_20 (by decide) (fun c4 => ?_) (fun c4 => ?_)
        · skip
          refine lv_iconst (v := 0) X.x X.b d_Model_fillPools_26 (by decide) ?_
          refine lv_istore_n (lv' := [(3, .int 0), (2, .int 1), (1, .int 0), (0, .ref mo)]) X.x X.b d_Model_fillPools_27 rfl hl (by decide) rfl (fun ls hl => ?_)
          refine lv_iload_n X.x X.b d_Model_fillPools_28 rfl (lv_at hl 2 rfl) ?_
          refine lv_istore (lv' := [(4, .int 0), (3, .int 0), (2, .int 1), (1, .int 0), (0, .ref mo)]) X.x X.b d_Model_fillPools_29 hl (by decide) rfl (fun ls hl => ?_)
          refine lv_iload X.x X.b d_Model_fillPools_31 (lv_at hl 0 rfl) ?_
          refine lv_iload_n X.x X.b d_Model_fillPools_33 rfl (lv_at hl 2 rfl) ?_
          refine lv_icmp_ge (tgt := 150) X.x X.b d_Model_fillPools_34 (by decide) (fun c5 => ?_) (fun c5 => ?_)
          · exact absurd c5 (by decide)
          · skip
            have c5q := Int32.not_le.mp c5
            refine lv_aload_n X.x X.b d_Model_fillPools_37 rfl (lv_at hl 4 rfl) ?_
            refine m_get (v := .ref (mo + 3)) X ok_Model hM.1 8 (by decide) k_Model_16 rfl d_Model_fillPools_38 ?_
            refine lv_iload X.x X.b d_Model_fillPools_41 (lv_at hl 0 rfl) ?_
            refine m_ild (v := 5) X hM.a8 0 rfl (by omega) (by decide) (show s0 8 0 = 5 from (by rw [hw8])) d_Model_fillPools_43 ?_
            refine lv_iconst (v := 5) X.x X.b d_Model_fillPools_44 (by decide) ?_
            refine lv_icmp_eq (tgt := 51) X.x X.b d_Model_fillPools_45 (by decide) (fun c6 => ?_) (fun c6 => ?_)
            · skip
              refine lv_aload_n X.x X.b d_Model_fillPools_51 rfl (lv_at hl 4 rfl) ?_
              refine m_get (v := .ref (mo + 15)) X ok_Model hM.1 20 (by decide) k_Model_52 rfl d_Model_fillPools_52 ?_
              refine lv_iload X.x X.b d_Model_fillPools_55 (lv_at hl 0 rfl) ?_
              refine lv_iload_n X.x X.b d_Model_fillPools_57 rfl (lv_at hl 2 rfl) ?_
              refine m_ist X hS (Or.inl ⟨by omega, by omega⟩) hM.a20 0 rfl (by omega) (by decide) d_Model_fillPools_58 (fun H locs hp hcg hS => ?_)
              have hM := hM.s20 hp hcg
              obtain ⟨s_1, es_1⟩ : ∃ z, z = updR s0 20 (upd (s0 20) 0 1) := ⟨_, rfl⟩
              rw [← es_1] at hM
              refine lv_aload_n X.x X.b d_Model_fillPools_59 rfl (lv_at hl 4 rfl) ?_
              refine m_get (v := .ref (mo + 16)) X ok_Model hM.1 21 (by decide) k_Model_55 rfl d_Model_fillPools_60 ?_
              refine lv_iload X.x X.b d_Model_fillPools_63 (lv_at hl 0 rfl) ?_
              refine lv_iload_n X.x X.b d_Model_fillPools_65 rfl (lv_at hl 1 rfl) ?_
              refine m_ist X hS (Or.inl ⟨by omega, by omega⟩) hM.a21 0 rfl (by omega) (by decide) d_Model_fillPools_66 (fun H locs hp hcg hS => ?_)
              have hM := hM.s21 hp hcg
              obtain ⟨s_2, es_2⟩ : ∃ z, z = updR s_1 21 (upd (s_1 21) 0 0) := ⟨_, rfl⟩
              rw [← es_2] at hM
              refine lv_iload_n X.x X.b d_Model_fillPools_67 rfl (lv_at hl 3 rfl) ?_
              refine lv_istore (lv' := [(5, .int 0), (4, .int 0), (3, .int 0), (2, .int 1), (1, .int 0), (0, .ref mo)]) X.x X.b d_Model_fillPools_68 hl (by decide) rfl (fun ls hl => ?_)
              refine lv_iload X.x X.b d_Model_fillPools_70 (lv_at hl 0 rfl) ?_
              refine lv_iload X.x X.b d_Model_fillPools_72 (lv_at hl 1 rfl) ?_
              refine lv_icmp_ge (tgt := 125) X.x X.b d_Model_fillPools_74 (by decide) (fun c7 => ?_) (fun c7 => ?_)
              · skip
                have c7q := Int32.not_lt.mpr c7
                refine lv_iload_n X.x X.b d_Model_fillPools_125 rfl (lv_at hl 2 rfl) ?_
                refine lv_aload_n X.x X.b d_Model_fillPools_126 rfl (lv_at hl 5 rfl) ?_
                refine m_get (v := .ref (mo + 16)) X ok_Model hM.1 21 (by decide) k_Model_55 rfl d_Model_fillPools_127 ?_
                refine lv_iload X.x X.b d_Model_fillPools_130 (lv_at hl 1 rfl) ?_
                refine m_ild (v := 0) X hM.a21 0 rfl (by omega) (by decide) (show s_2 21 0 = 0 from (by rw [es_2, updR_hit])) d_Model_fillPools_132 ?_
                refine lv_iload_n X.x X.b d_Model_fillPools_133 rfl (lv_at hl 2 rfl) ?_
                refine lv_icmp_ne (tgt := 141) X.x X.b d_Model_fillPools_134 (by decide) (fun c8 => ?_) (fun c8 => ?_)
                · exact absurd c8 (by decide)
                · skip
                  refine lv_iconst (v := 1) X.x X.b d_Model_fillPools_137 (by decide) ?_
                  refine lv_goto (tgt := 142) X.x X.b d_Model_fillPools_138 (by decide) ?_
                  refine lv_iadd X.x X.b d_Model_fillPools_142 ?_
                  rw [show (0 + 1 : Int32) = 1 from by decide]
                  refine lv_istore_n (lv' := [(3, .int 1), (5, .int 0), (4, .int 0), (2, .int 1), (1, .int 0), (0, .ref mo)]) X.x X.b d_Model_fillPools_143 rfl hl (by decide) rfl (fun ls hl => ?_)
                  refine lv_iinc (v := 1) (lv' := [(4, .int 1), (3, .int 1), (5, .int 0), (2, .int 1), (1, .int 0), (0, .ref mo)]) X.x X.b d_Model_fillPools_144 hl (k := 2) rfl (by decide) (by decide) rfl (fun ls hl => ?_)
                  refine lv_goto (tgt := 31) X.x X.b d_Model_fillPools_147 (by decide) ?_
                  refine lv_iload X.x X.b d_Model_fillPools_31 (lv_at hl 0 rfl) ?_
                  refine lv_iload_n X.x X.b d_Model_fillPools_33 rfl (lv_at hl 3 rfl) ?_
                  refine lv_icmp_ge (tgt := 150) X.x X.b d_Model_fillPools_34 (by decide) (fun c9 => ?_) (fun c9 => ?_)
                  · skip
                    have c9q := Int32.not_lt.mpr c9
                    refine lv_aload_n X.x X.b d_Model_fillPools_150 rfl (lv_at hl 5 rfl) ?_
                    refine m_get (v := .ref (mo + 10)) X ok_Model hM.1 15 (by decide) k_Model_37 rfl d_Model_fillPools_151 ?_
                    refine lv_iload_n X.x X.b d_Model_fillPools_154 rfl (lv_at hl 3 rfl) ?_
                    refine lv_iload_n X.x X.b d_Model_fillPools_155 rfl (lv_at hl 1 rfl) ?_
                    refine m_ist X hS (Or.inl ⟨by omega, by omega⟩) hM.a15 1 rfl (by omega) (by decide) d_Model_fillPools_156 (fun H locs hp hcg hS => ?_)
                    have hM := hM.s15 hp hcg
                    obtain ⟨s_3, es_3⟩ : ∃ z, z = updR s_2 15 (upd (s_2 15) 1 1) := ⟨_, rfl⟩
                    rw [← es_3] at hM
                    refine lv_iload_n X.x X.b d_Model_fillPools_157 rfl (lv_at hl 3 rfl) ?_
                    refine lv_iconst (v := 1) X.x X.b d_Model_fillPools_158 (by decide) ?_
                    refine lv_iadd X.x X.b d_Model_fillPools_159 ?_
                    rw [show (1 + 1 : Int32) = 2 from by decide]
                    refine lv_istore_n (lv' := [(1, .int 2), (4, .int 1), (3, .int 1), (5, .int 0), (2, .int 1), (0, .ref mo)]) X.x X.b d_Model_fillPools_160 rfl hl (by decide) rfl (fun ls hl => ?_)
                    refine lv_iinc (v := 2) (lv' := [(2, .int 2), (1, .int 2), (4, .int 1), (3, .int 1), (5, .int 0), (0, .ref mo)]) X.x X.b d_Model_fillPools_161 hl (k := 4) rfl (by decide) (by decide) rfl (fun ls hl => ?_)
                    refine lv_goto (tgt := 4) X.x X.b d_Model_fillPools_164 (by decide) ?_
                    refine lv_iload_n X.x X.b d_Model_fillPools_4 rfl (lv_at hl 0 rfl) ?_
                    refine lv_aload_n X.x X.b d_Model_fillPools_5 rfl (lv_at hl 5 rfl) ?_
                    refine m_get (v := .int 2) X ok_Model hM.1 5 (by decide) k_Model_132 (congrArg (fun z => some (Value.int z)) (show p0 5 = 2 from (by rw [hw5]))) d_Model_fillPools_6 ?_
                    refine lv_icmp_ge (tgt := 167) X.x X.b d_Model_fillPools_9 (by decide) (fun c10 => ?_) (fun c10 => ?_)
                    · skip
                      have c10q := Int32.not_lt.mpr c10
                      exact m_vret X hS (by omega) (by omega) d_Model_fillPools_167 rfl ⟨_, hM, by rw [es_3]; rw [es_2]; rw [es_1]; exact ((((same.rf _ _).up _ _ (by decide)).up _ _ (by decide)).up _ _ (by decide)), (by rw [es_3, updR_mf _ _ _ (show 20 ≠ 15 by decide), es_2, updR_mf _ _ _ (show 20 ≠ 21 by decide), es_1, updR_hit])⟩
                    · exact absurd c10 (by decide)
                  · exact absurd c9 (by decide)
              · exact absurd c7 (by decide)
            · exact absurd c6 (by decide)
        · exact absurd c4 (by decide)
set_option maxRecDepth 100000 in
set_option maxHeartbeats 4000000 in
theorem M_Model_fillPools_L6 (l : Launch) (g : GG) {mo tq : Nat} {p0 : Nat → Int32} {s0 : Nat → Nat → Int32} {H0 : Heap} (hM : mAt g mo tq p0 s0 H0) (hw : twoI 6 p0 s0) : MM l y_Model_fillPools c_Model_fillPools 6 none 0 0 0 g H0 [.ref mo] (fun q => mo ≤ q ∧ q < mo + 23) (none) (fun H1 => ∃ s, mAt g mo tq p0 s H1 ∧ same [15, 20, 21] s0 s) := by
  refine MM.of (by decide +kernel) (Nat.le_of_ble_eq_true rfl) ?_
  intro p e s m below meth cd X hH ls hl
  have X : CX g p s m _ meth cd c_Model_fillPools 6 none R_Model _ := X
  have hl : lv_has ls 6 [(0, .ref mo)] := hl
  have hS : va_S (AA (fun q => mo ≤ q ∧ q < mo + 23) H0) H0 H0 [] := va_S.rf
  have hlt0 := hM.lt
  have htq0 := hM.tq
  obtain ⟨⟨hw3, hw5⟩, hw8, hw81⟩ := hw
  refine lv_iconst (v := 0) X.x X.b d_Model_fillPools_0 (by decide) ?_
  refine lv_istore_n (lv' := [(1, .int 0), (0, .ref mo)]) X.x X.b d_Model_fillPools_1 rfl hl (by decide) rfl (fun ls hl => ?_)
  refine lv_iconst (v := 0) X.x X.b d_Model_fillPools_2 (by decide) ?_
  refine lv_istore_n (lv' := [(2, .int 0), (1, .int 0), (0, .ref mo)]) X.x X.b d_Model_fillPools_3 rfl hl (by decide) rfl (fun ls hl => ?_)
  refine lv_iload_n X.x X.b d_Model_fillPools_4 rfl (lv_at hl 0 rfl) ?_
  refine lv_aload_n X.x X.b d_Model_fillPools_5 rfl (lv_at hl 2 rfl) ?_
  refine m_get (v := .int 2) X ok_Model hM.1 5 (by decide) k_Model_132 (congrArg (fun z => some (Value.int z)) (show p0 5 = 2 from (by rw [hw5]))) d_Model_fillPools_6 ?_
  refine lv_icmp_ge (tgt := 167) X.x X.b d_Model_fillPools_9 (by decide) (fun c1 => ?_) (fun c1 => ?_)
  · exact absurd c1 (by decide)
  · skip
    have c1q := Int32.not_le.mp c1
    refine lv_aload_n X.x X.b d_Model_fillPools_12 rfl (lv_at hl 2 rfl) ?_
    refine m_get (v := .ref (mo + 3)) X ok_Model hM.1 8 (by decide) k_Model_16 rfl d_Model_fillPools_13 ?_
    refine lv_iload_n X.x X.b d_Model_fillPools_16 rfl (lv_at hl 0 rfl) ?_
    refine m_ild (v := 6) X hM.a8 0 rfl (by omega) (by decide) (show s0 8 0 = 6 from (by rw [hw8])) d_Model_fillPools_17 ?_
    refine lv_bipush (v := 6) X.x X.b d_Model_fillPools_18 (by decide) ?_
    refine lv_icmp_eq (tgt := 26) X.x X.b d_Model_fillPools_20 (by decide) (fun c2 => ?_) (fun c2 => ?_)
    · skip
      refine lv_iconst (v := 0) X.x X.b d_Model_fillPools_26 (by decide) ?_
      refine lv_istore_n (lv' := [(3, .int 0), (2, .int 0), (1, .int 0), (0, .ref mo)]) X.x X.b d_Model_fillPools_27 rfl hl (by decide) rfl (fun ls hl => ?_)
      refine lv_iload_n X.x X.b d_Model_fillPools_28 rfl (lv_at hl 2 rfl) ?_
      refine lv_istore (lv' := [(4, .int 0), (3, .int 0), (2, .int 0), (1, .int 0), (0, .ref mo)]) X.x X.b d_Model_fillPools_29 hl (by decide) rfl (fun ls hl => ?_)
      refine lv_iload X.x X.b d_Model_fillPools_31 (lv_at hl 0 rfl) ?_
      refine lv_iload_n X.x X.b d_Model_fillPools_33 rfl (lv_at hl 2 rfl) ?_
      refine lv_icmp_ge (tgt := 150) X.x X.b d_Model_fillPools_34 (by decide) (fun c3 => ?_) (fun c3 => ?_)
      · skip
        have c3q := Int32.not_lt.mpr c3
        refine lv_aload_n X.x X.b d_Model_fillPools_150 rfl (lv_at hl 4 rfl) ?_
        refine m_get (v := .ref (mo + 10)) X ok_Model hM.1 15 (by decide) k_Model_37 rfl d_Model_fillPools_151 ?_
        refine lv_iload_n X.x X.b d_Model_fillPools_154 rfl (lv_at hl 2 rfl) ?_
        refine lv_iload_n X.x X.b d_Model_fillPools_155 rfl (lv_at hl 1 rfl) ?_
        refine m_ist X hS (Or.inl ⟨by omega, by omega⟩) hM.a15 0 rfl (by omega) (by decide) d_Model_fillPools_156 (fun H locs hp hcg hS => ?_)
        have hM := hM.s15 hp hcg
        obtain ⟨s_1, es_1⟩ : ∃ z, z = updR s0 15 (upd (s0 15) 0 0) := ⟨_, rfl⟩
        rw [← es_1] at hM
        refine lv_iload_n X.x X.b d_Model_fillPools_157 rfl (lv_at hl 2 rfl) ?_
        refine lv_iconst (v := 1) X.x X.b d_Model_fillPools_158 (by decide) ?_
        refine lv_iadd X.x X.b d_Model_fillPools_159 ?_
        rw [show (0 + 1 : Int32) = 1 from by decide]
        refine lv_istore_n (lv' := [(1, .int 1), (4, .int 0), (3, .int 0), (2, .int 0), (0, .ref mo)]) X.x X.b d_Model_fillPools_160 rfl hl (by decide) rfl (fun ls hl => ?_)
        refine lv_iinc (v := 1) (lv' := [(2, .int 1), (1, .int 1), (4, .int 0), (3, .int 0), (0, .ref mo)]) X.x X.b d_Model_fillPools_161 hl (k := 3) rfl (by decide) (by decide) rfl (fun ls hl => ?_)
        refine lv_goto (tgt := 4) X.x X.b d_Model_fillPools_164 (by decide) ?_
        refine lv_iload_n X.x X.b d_Model_fillPools_4 rfl (lv_at hl 0 rfl) ?_
        refine lv_aload_n X.x X.b d_Model_fillPools_5 rfl (lv_at hl 4 rfl) ?_
        refine m_get (v := .int 2) X ok_Model hM.1 5 (by decide) k_Model_132 (congrArg (fun z => some (Value.int z)) (show p0 5 = 2 from (by rw [hw5]))) d_Model_fillPools_6 ?_
        refine lv_icmp_ge (tgt := 167) X.x X.b d_Model_fillPools_9 (by decide) (fun c4 => ?_) (fun c4 => ?_)
        · exact absurd c4 (by decide)
        · skip
          have c4q := Int32.not_le.mp c4
          refine lv_aload_n X.x X.b d_Model_fillPools_12 rfl (lv_at hl 4 rfl) ?_
          refine m_get (v := .ref (mo + 3)) X ok_Model hM.1 8 (by decide) k_Model_16 rfl d_Model_fillPools_13 ?_
          refine lv_iload_n X.x X.b d_Model_fillPools_16 rfl (lv_at hl 0 rfl) ?_
          refine m_ild (v := 6) X hM.a8 1 rfl (by omega) (by decide) (show s_1 8 1 = 6 from (by rw [es_1, updR_mf _ _ _ (show 8 ≠ 15 by decide), hw81])) d_Model_fillPools_17 ?_
          refine lv_bipush (v := 6) X.x X.b d_Model_fillPools_18 (by decide) ?_
          refine lv_icmp_eq (tgt := 26) X.x X.b d_Model_fillPools_20 (by decide) (fun c5 => ?_) (fun c5 => ?_)
          · skip
            refine lv_iconst (v := 0) X.x X.b d_Model_fillPools_26 (by decide) ?_
            refine lv_istore_n (lv' := [(3, .int 0), (2, .int 1), (1, .int 1), (4, .int 0), (0, .ref mo)]) X.x X.b d_Model_fillPools_27 rfl hl (by decide) rfl (fun ls hl => ?_)
            refine lv_iload_n X.x X.b d_Model_fillPools_28 rfl (lv_at hl 2 rfl) ?_
            refine lv_istore (lv' := [(4, .int 1), (3, .int 0), (2, .int 1), (1, .int 1), (0, .ref mo)]) X.x X.b d_Model_fillPools_29 hl (by decide) rfl (fun ls hl => ?_)
            refine lv_iload X.x X.b d_Model_fillPools_31 (lv_at hl 0 rfl) ?_
            refine lv_iload_n X.x X.b d_Model_fillPools_33 rfl (lv_at hl 2 rfl) ?_
            refine lv_icmp_ge (tgt := 150) X.x X.b d_Model_fillPools_34 (by decide) (fun c6 => ?_) (fun c6 => ?_)
            · skip
              have c6q := Int32.not_lt.mpr c6
              refine lv_aload_n X.x X.b d_Model_fillPools_150 rfl (lv_at hl 4 rfl) ?_
              refine m_get (v := .ref (mo + 10)) X ok_Model hM.1 15 (by decide) k_Model_37 rfl d_Model_fillPools_151 ?_
              refine lv_iload_n X.x X.b d_Model_fillPools_154 rfl (lv_at hl 2 rfl) ?_
              refine lv_iload_n X.x X.b d_Model_fillPools_155 rfl (lv_at hl 1 rfl) ?_
              refine m_ist X hS (Or.inl ⟨by omega, by omega⟩) hM.a15 1 rfl (by omega) (by decide) d_Model_fillPools_156 (fun H locs hp hcg hS => ?_)
              have hM := hM.s15 hp hcg
              obtain ⟨s_2, es_2⟩ : ∃ z, z = updR s_1 15 (upd (s_1 15) 1 0) := ⟨_, rfl⟩
              rw [← es_2] at hM
              refine lv_iload_n X.x X.b d_Model_fillPools_157 rfl (lv_at hl 2 rfl) ?_
              refine lv_iconst (v := 1) X.x X.b d_Model_fillPools_158 (by decide) ?_
              refine lv_iadd X.x X.b d_Model_fillPools_159 ?_
              rw [show (1 + 1 : Int32) = 2 from by decide]
              refine lv_istore_n (lv' := [(1, .int 2), (4, .int 1), (3, .int 0), (2, .int 1), (0, .ref mo)]) X.x X.b d_Model_fillPools_160 rfl hl (by decide) rfl (fun ls hl => ?_)
              refine lv_iinc (v := 2) (lv' := [(2, .int 2), (1, .int 2), (4, .int 1), (3, .int 0), (0, .ref mo)]) X.x X.b d_Model_fillPools_161 hl (k := 3) rfl (by decide) (by decide) rfl (fun ls hl => ?_)
              refine lv_goto (tgt := 4) X.x X.b d_Model_fillPools_164 (by decide) ?_
              refine lv_iload_n X.x X.b d_Model_fillPools_4 rfl (lv_at hl 0 rfl) ?_
              refine lv_aload_n X.x X.b d_Model_fillPools_5 rfl (lv_at hl 4 rfl) ?_
              refine m_get (v := .int 2) X ok_Model hM.1 5 (by decide) k_Model_132 (congrArg (fun z => some (Value.int z)) (show p0 5 = 2 from (by rw [hw5]))) d_Model_fillPools_6 ?_
              refine lv_icmp_ge (tgt := 167) X.x X.b d_Model_fillPools_9 (by decide) (fun c7 => ?_) (fun c7 => ?_)
              · skip
                have c7q := Int32.not_lt.mpr c7
                exact m_vret X hS (by omega) (by omega) d_Model_fillPools_167 rfl ⟨_, hM, by rw [es_2]; rw [es_1]; exact (((same.rf _ _).up _ _ (by decide)).up _ _ (by decide))⟩
              · exact absurd c7 (by decide)
            · exact absurd c6 (by decide)
          · exact absurd c2 c5
      · exact absurd c3 (by decide)
    · exact absurd c2 (by decide)
set_option maxRecDepth 100000 in
set_option maxHeartbeats 4000000 in
theorem M_Model_fillPools_L7 (l : Launch) (g : GG) {mo tq : Nat} {p0 : Nat → Int32} {s0 : Nat → Nat → Int32} {H0 : Heap} (hM : mAt g mo tq p0 s0 H0) (hw : twoI 7 p0 s0) : MM l y_Model_fillPools c_Model_fillPools 6 none 0 0 0 g H0 [.ref mo] (fun q => mo ≤ q ∧ q < mo + 23) (none) (fun H1 => ∃ s, mAt g mo tq p0 s H1 ∧ same [15, 20, 21] s0 s) := by
  refine MM.of (by decide +kernel) (Nat.le_of_ble_eq_true rfl) ?_
  intro p e s m below meth cd X hH ls hl
  have X : CX g p s m _ meth cd c_Model_fillPools 6 none R_Model _ := X
  have hl : lv_has ls 6 [(0, .ref mo)] := hl
  have hS : va_S (AA (fun q => mo ≤ q ∧ q < mo + 23) H0) H0 H0 [] := va_S.rf
  have hlt0 := hM.lt
  have htq0 := hM.tq
  obtain ⟨⟨hw3, hw5⟩, hw8, hw81⟩ := hw
  refine lv_iconst (v := 0) X.x X.b d_Model_fillPools_0 (by decide) ?_
  refine lv_istore_n (lv' := [(1, .int 0), (0, .ref mo)]) X.x X.b d_Model_fillPools_1 rfl hl (by decide) rfl (fun ls hl => ?_)
  refine lv_iconst (v := 0) X.x X.b d_Model_fillPools_2 (by decide) ?_
  refine lv_istore_n (lv' := [(2, .int 0), (1, .int 0), (0, .ref mo)]) X.x X.b d_Model_fillPools_3 rfl hl (by decide) rfl (fun ls hl => ?_)
  refine lv_iload_n X.x X.b d_Model_fillPools_4 rfl (lv_at hl 0 rfl) ?_
  refine lv_aload_n X.x X.b d_Model_fillPools_5 rfl (lv_at hl 2 rfl) ?_
  refine m_get (v := .int 2) X ok_Model hM.1 5 (by decide) k_Model_132 (congrArg (fun z => some (Value.int z)) (show p0 5 = 2 from (by rw [hw5]))) d_Model_fillPools_6 ?_
  refine lv_icmp_ge (tgt := 167) X.x X.b d_Model_fillPools_9 (by decide) (fun c1 => ?_) (fun c1 => ?_)
  · exact absurd c1 (by decide)
  · skip
    have c1q := Int32.not_le.mp c1
    refine lv_aload_n X.x X.b d_Model_fillPools_12 rfl (lv_at hl 2 rfl) ?_
    refine m_get (v := .ref (mo + 3)) X ok_Model hM.1 8 (by decide) k_Model_16 rfl d_Model_fillPools_13 ?_
    refine lv_iload_n X.x X.b d_Model_fillPools_16 rfl (lv_at hl 0 rfl) ?_
    refine m_ild (v := 7) X hM.a8 0 rfl (by omega) (by decide) (show s0 8 0 = 7 from (by rw [hw8])) d_Model_fillPools_17 ?_
    refine lv_bipush (v := 6) X.x X.b d_Model_fillPools_18 (by decide) ?_
    refine lv_icmp_eq (tgt := 26) X.x X.b d_Model_fillPools_20 (by decide) (fun c2 => ?_) (fun c2 => ?_)
    · exact absurd c2 (by decide)
    · skip
      refine lv_goto (tgt := 161) X.x X.b d_Model_fillPools_23 (by decide) ?_
      refine lv_iinc (v := 1) (lv' := [(2, .int 1), (1, .int 0), (0, .ref mo)]) X.x X.b d_Model_fillPools_161 hl (k := 0) rfl (by decide) (by decide) rfl (fun ls hl => ?_)
      refine lv_goto (tgt := 4) X.x X.b d_Model_fillPools_164 (by decide) ?_
      refine lv_iload_n X.x X.b d_Model_fillPools_4 rfl (lv_at hl 0 rfl) ?_
      refine lv_aload_n X.x X.b d_Model_fillPools_5 rfl (lv_at hl 2 rfl) ?_
      refine m_get (v := .int 2) X ok_Model hM.1 5 (by decide) k_Model_132 (congrArg (fun z => some (Value.int z)) (show p0 5 = 2 from (by rw [hw5]))) d_Model_fillPools_6 ?_
      refine lv_icmp_ge (tgt := 167) X.x X.b d_Model_fillPools_9 (by decide) (fun c3 => ?_) (fun c3 => ?_)
      · exact absurd c3 (by decide)
      · skip
        have c3q := Int32.not_le.mp c3
        refine lv_aload_n X.x X.b d_Model_fillPools_12 rfl (lv_at hl 2 rfl) ?_
        refine m_get (v := .ref (mo + 3)) X ok_Model hM.1 8 (by decide) k_Model_16 rfl d_Model_fillPools_13 ?_
        refine lv_iload_n X.x X.b d_Model_fillPools_16 rfl (lv_at hl 0 rfl) ?_
        refine m_ild (v := 6) X hM.a8 1 rfl (by omega) (by decide) (show s0 8 1 = 6 from (by rw [hw81])) d_Model_fillPools_17 ?_
        refine lv_bipush (v := 6) X.x X.b d_Model_fillPools_18 (by decide) ?_
        refine lv_icmp_eq (tgt := 26) X.x X.b d_Model_fillPools_20 (by decide) (fun c4 => ?_) (fun c4 => ?_)
        · skip
          refine lv_iconst (v := 0) X.x X.b d_Model_fillPools_26 (by decide) ?_
          refine lv_istore_n (lv' := [(3, .int 0), (2, .int 1), (1, .int 0), (0, .ref mo)]) X.x X.b d_Model_fillPools_27 rfl hl (by decide) rfl (fun ls hl => ?_)
          refine lv_iload_n X.x X.b d_Model_fillPools_28 rfl (lv_at hl 2 rfl) ?_
          refine lv_istore (lv' := [(4, .int 0), (3, .int 0), (2, .int 1), (1, .int 0), (0, .ref mo)]) X.x X.b d_Model_fillPools_29 hl (by decide) rfl (fun ls hl => ?_)
          refine lv_iload X.x X.b d_Model_fillPools_31 (lv_at hl 0 rfl) ?_
          refine lv_iload_n X.x X.b d_Model_fillPools_33 rfl (lv_at hl 2 rfl) ?_
          refine lv_icmp_ge (tgt := 150) X.x X.b d_Model_fillPools_34 (by decide) (fun c5 => ?_) (fun c5 => ?_)
          · exact absurd c5 (by decide)
          · skip
            have c5q := Int32.not_le.mp c5
            refine lv_aload_n X.x X.b d_Model_fillPools_37 rfl (lv_at hl 4 rfl) ?_
            refine m_get (v := .ref (mo + 3)) X ok_Model hM.1 8 (by decide) k_Model_16 rfl d_Model_fillPools_38 ?_
            refine lv_iload X.x X.b d_Model_fillPools_41 (lv_at hl 0 rfl) ?_
            refine m_ild (v := 7) X hM.a8 0 rfl (by omega) (by decide) (show s0 8 0 = 7 from (by rw [hw8])) d_Model_fillPools_43 ?_
            refine lv_iconst (v := 5) X.x X.b d_Model_fillPools_44 (by decide) ?_
            refine lv_icmp_eq (tgt := 51) X.x X.b d_Model_fillPools_45 (by decide) (fun c6 => ?_) (fun c6 => ?_)
            · exact absurd c6 (by decide)
            · skip
              refine lv_goto (tgt := 144) X.x X.b d_Model_fillPools_48 (by decide) ?_
              refine lv_iinc (v := 1) (lv' := [(4, .int 1), (3, .int 0), (2, .int 1), (1, .int 0), (0, .ref mo)]) X.x X.b d_Model_fillPools_144 hl (k := 0) rfl (by decide) (by decide) rfl (fun ls hl => ?_)
              refine lv_goto (tgt := 31) X.x X.b d_Model_fillPools_147 (by decide) ?_
              refine lv_iload X.x X.b d_Model_fillPools_31 (lv_at hl 0 rfl) ?_
              refine lv_iload_n X.x X.b d_Model_fillPools_33 rfl (lv_at hl 2 rfl) ?_
              refine lv_icmp_ge (tgt := 150) X.x X.b d_Model_fillPools_34 (by decide) (fun c7 => ?_) (fun c7 => ?_)
              · skip
                have c7q := Int32.not_lt.mpr c7
                refine lv_aload_n X.x X.b d_Model_fillPools_150 rfl (lv_at hl 4 rfl) ?_
                refine m_get (v := .ref (mo + 10)) X ok_Model hM.1 15 (by decide) k_Model_37 rfl d_Model_fillPools_151 ?_
                refine lv_iload_n X.x X.b d_Model_fillPools_154 rfl (lv_at hl 2 rfl) ?_
                refine lv_iload_n X.x X.b d_Model_fillPools_155 rfl (lv_at hl 1 rfl) ?_
                refine m_ist X hS (Or.inl ⟨by omega, by omega⟩) hM.a15 1 rfl (by omega) (by decide) d_Model_fillPools_156 (fun H locs hp hcg hS => ?_)
                have hM := hM.s15 hp hcg
                obtain ⟨s_1, es_1⟩ : ∃ z, z = updR s0 15 (upd (s0 15) 1 0) := ⟨_, rfl⟩
                rw [← es_1] at hM
                refine lv_iload_n X.x X.b d_Model_fillPools_157 rfl (lv_at hl 2 rfl) ?_
                refine lv_iconst (v := 1) X.x X.b d_Model_fillPools_158 (by decide) ?_
                refine lv_iadd X.x X.b d_Model_fillPools_159 ?_
                rw [show (1 + 1 : Int32) = 2 from by decide]
                refine lv_istore_n (lv' := [(1, .int 2), (4, .int 1), (3, .int 0), (2, .int 1), (0, .ref mo)]) X.x X.b d_Model_fillPools_160 rfl hl (by decide) rfl (fun ls hl => ?_)
                refine lv_iinc (v := 2) (lv' := [(2, .int 2), (1, .int 2), (4, .int 1), (3, .int 0), (0, .ref mo)]) X.x X.b d_Model_fillPools_161 hl (k := 3) rfl (by decide) (by decide) rfl (fun ls hl => ?_)
                refine lv_goto (tgt := 4) X.x X.b d_Model_fillPools_164 (by decide) ?_
                refine lv_iload_n X.x X.b d_Model_fillPools_4 rfl (lv_at hl 0 rfl) ?_
                refine lv_aload_n X.x X.b d_Model_fillPools_5 rfl (lv_at hl 4 rfl) ?_
                refine m_get (v := .int 2) X ok_Model hM.1 5 (by decide) k_Model_132 (congrArg (fun z => some (Value.int z)) (show p0 5 = 2 from (by rw [hw5]))) d_Model_fillPools_6 ?_
                refine lv_icmp_ge (tgt := 167) X.x X.b d_Model_fillPools_9 (by decide) (fun c8 => ?_) (fun c8 => ?_)
                · skip
                  have c8q := Int32.not_lt.mpr c8
                  exact m_vret X hS (by omega) (by omega) d_Model_fillPools_167 rfl ⟨_, hM, by rw [es_1]; exact ((same.rf _ _).up _ _ (by decide))⟩
                · exact absurd c8 (by decide)
              · exact absurd c7 (by decide)
        · exact absurd c4 (by decide)
set_option maxRecDepth 100000 in
set_option maxHeartbeats 4000000 in
theorem M_Model_valueOf (l : Launch) (g : GG) {mo tq : Nat} {p0 : Nat → Int32} {s0 : Nat → Nat → Int32} {H0 : Heap} (hM : mAt g mo tq p0 s0 H0) (h16 : s0 16 0 = -1) (h17 : s0 17 0 = -1) : MP l y_Model_valueOf c_Model_valueOf 2 (some .int) 0 g H0 [.ref mo, .int 0] (some (.int (s0 11 0 + s0 18 0 - s0 19 0))) := by
  refine MM.of (by decide +kernel) (Nat.le_of_ble_eq_true rfl) ?_
  intro p e s m below meth cd X hH ls hl
  have X : CX g p s m _ meth cd c_Model_valueOf 2 (some .int) R_Model _ := X
  have hl : lv_has ls 2 [(0, .ref mo), (1, .int 0)] := hl
  have hS : va_S (AA (noA) H0) H0 H0 [] := va_S.rf
  have hlt0 := hM.lt
  have htq0 := hM.tq
  refine lv_aload_n X.x X.b d_Model_valueOf_0 rfl (lv_at hl 0 rfl) ?_
  refine m_get (v := .ref (mo + 6)) X ok_Model hM.1 11 (by decide) k_Model_25 rfl d_Model_valueOf_1 ?_
  refine lv_iload_n X.x X.b d_Model_valueOf_4 rfl (lv_at hl 1 rfl) ?_
  refine m_ild (v := s0 11 0) X hM.a11 0 rfl (by omega) (by decide) (show s0 11 0 = s0 11 0 from rfl) d_Model_valueOf_5 ?_
  refine lv_aload_n X.x X.b d_Model_valueOf_6 rfl (lv_at hl 0 rfl) ?_
  refine m_get (v := .ref (mo + 11)) X ok_Model hM.1 16 (by decide) k_Model_40 rfl d_Model_valueOf_7 ?_
  refine lv_iload_n X.x X.b d_Model_valueOf_10 rfl (lv_at hl 1 rfl) ?_
  refine m_ild (v := (-1)) X hM.a16 0 rfl (by omega) (by decide) (show s0 16 0 = (-1) from (by rw [h16])) d_Model_valueOf_11 ?_
  refine lv_iconst (v := -1) X.x X.b d_Model_valueOf_12 (by decide) ?_
  refine lv_icmp_ne (tgt := 25) X.x X.b d_Model_valueOf_13 (by decide) (fun c1 => ?_) (fun c1 => ?_)
  · exact absurd c1 (by decide)
  · skip
    refine lv_aload_n X.x X.b d_Model_valueOf_16 rfl (lv_at hl 0 rfl) ?_
    refine m_get (v := .ref (mo + 13)) X ok_Model hM.1 18 (by decide) k_Model_46 rfl d_Model_valueOf_17 ?_
    refine lv_iload_n X.x X.b d_Model_valueOf_20 rfl (lv_at hl 1 rfl) ?_
    refine m_ild (v := s0 18 0) X hM.a18 0 rfl (by omega) (by decide) (show s0 18 0 = s0 18 0 from rfl) d_Model_valueOf_21 ?_
    refine lv_goto (tgt := 36) X.x X.b d_Model_valueOf_22 (by decide) ?_
    refine lv_iadd X.x X.b d_Model_valueOf_36 ?_
    refine lv_aload_n X.x X.b d_Model_valueOf_37 rfl (lv_at hl 0 rfl) ?_
    refine m_get (v := .ref (mo + 12)) X ok_Model hM.1 17 (by decide) k_Model_43 rfl d_Model_valueOf_38 ?_
    refine lv_iload_n X.x X.b d_Model_valueOf_41 rfl (lv_at hl 1 rfl) ?_
    refine m_ild (v := (-1)) X hM.a17 0 rfl (by omega) (by decide) (show s0 17 0 = (-1) from (by rw [h17])) d_Model_valueOf_42 ?_
    refine lv_iconst (v := -1) X.x X.b d_Model_valueOf_43 (by decide) ?_
    refine lv_icmp_ne (tgt := 56) X.x X.b d_Model_valueOf_44 (by decide) (fun c2 => ?_) (fun c2 => ?_)
    · exact absurd c1 c2
    · skip
      refine lv_aload_n X.x X.b d_Model_valueOf_47 rfl (lv_at hl 0 rfl) ?_
      refine m_get (v := .ref (mo + 14)) X ok_Model hM.1 19 (by decide) k_Model_49 rfl d_Model_valueOf_48 ?_
      refine lv_iload_n X.x X.b d_Model_valueOf_51 rfl (lv_at hl 1 rfl) ?_
      refine m_ild (v := s0 19 0) X hM.a19 0 rfl (by omega) (by decide) (show s0 19 0 = s0 19 0 from rfl) d_Model_valueOf_52 ?_
      refine lv_goto (tgt := 67) X.x X.b d_Model_valueOf_53 (by decide) ?_
      refine lv_isub X.x X.b d_Model_valueOf_67 ?_
      exact m_iret X hS (Nat.zero_le _) (Nat.zero_le _) d_Model_valueOf_68 rfl rfl
set_option maxRecDepth 100000 in
set_option maxHeartbeats 4000000 in
theorem M_Model_distanceOf (l : Launch) (g : GG) {mo tq : Nat} {p0 : Nat → Int32} {s0 : Nat → Nat → Int32} {H0 : Heap} (hM : mAt g mo tq p0 s0 H0) (h16 : s0 16 0 = -1) (h17 : s0 17 0 = -1) : MP l y_Model_distanceOf c_Model_distanceOf 2 (some .int) 1 g H0 [.ref mo, .int 0] (some (.int (s0 11 0 + s0 18 0 - s0 19 0 - s0 14 0 - 1))) := by
  refine MM.of (by decide +kernel) (Nat.le_of_ble_eq_true rfl) ?_
  intro p e s m below meth cd X hH ls hl
  have X : CX g p s m _ meth cd c_Model_distanceOf 2 (some .int) R_Model _ := X
  have hl : lv_has ls 2 [(0, .ref mo), (1, .int 0)] := hl
  have hS : va_S (AA (noA) H0) H0 H0 [] := va_S.rf
  have hlt0 := hM.lt
  have htq0 := hM.tq
  refine lv_aload_n X.x X.b d_Model_distanceOf_0 rfl (lv_at hl 0 rfl) ?_
  refine lv_iload_n X.x X.b d_Model_distanceOf_1 rfl (lv_at hl 1 rfl) ?_
  refine m_callP X hS (M_Model_valueOf l g hM (show s0 16 0 = -1 from (by rw [h16])) (show s0 17 0 = -1 from (by rw [h17]))) v_Model_168 hM.1 rfl rfl rfl (Nat.le_of_ble_eq_true rfl) hl.1 d_Model_distanceOf_2 (by omega) (by decide) ⟨by omega, by omega⟩ (fun locs hS => ?_)
  refine lv_aload_n X.x X.b d_Model_distanceOf_5 rfl (lv_at hl 0 rfl) ?_
  refine m_get (v := .ref (mo + 9)) X ok_Model hM.1 14 (by decide) k_Model_34 rfl d_Model_distanceOf_6 ?_
  refine lv_iload_n X.x X.b d_Model_distanceOf_9 rfl (lv_at hl 1 rfl) ?_
  refine m_ild (v := s0 14 0) X hM.a14 0 rfl (by omega) (by decide) (show s0 14 0 = s0 14 0 from rfl) d_Model_distanceOf_10 ?_
  refine lv_isub X.x X.b d_Model_distanceOf_11 ?_
  refine lv_iconst (v := 1) X.x X.b d_Model_distanceOf_12 (by decide) ?_
  refine lv_isub X.x X.b d_Model_distanceOf_13 ?_
  exact m_iret X hS (Nat.zero_le _) (Nat.zero_le _) d_Model_distanceOf_14 rfl rfl
set_option maxRecDepth 100000 in
set_option maxHeartbeats 4000000 in
theorem M_Model_numberAt (l : Launch) (g : GG) {mo tq : Nat} {p0 : Nat → Int32} {s0 : Nat → Nat → Int32} {H0 : Heap} (hM : mAt g mo tq p0 s0 H0) (h20 : s0 20 0 = 1) : MP l y_Model_numberAt c_Model_numberAt 2 (some .int) 0 g H0 [.ref mo, .int 0] (some (.int (s0 14 1 + s0 21 0))) := by
  refine MM.of (by decide +kernel) (Nat.le_of_ble_eq_true rfl) ?_
  intro p e s m below meth cd X hH ls hl
  have X : CX g p s m _ meth cd c_Model_numberAt 2 (some .int) R_Model _ := X
  have hl : lv_has ls 2 [(0, .ref mo), (1, .int 0)] := hl
  have hS : va_S (AA (noA) H0) H0 H0 [] := va_S.rf
  have hlt0 := hM.lt
  have htq0 := hM.tq
  refine lv_aload_n X.x X.b d_Model_numberAt_0 rfl (lv_at hl 0 rfl) ?_
  refine m_get (v := .ref (mo + 9)) X ok_Model hM.1 14 (by decide) k_Model_34 rfl d_Model_numberAt_1 ?_
  refine lv_aload_n X.x X.b d_Model_numberAt_4 rfl (lv_at hl 0 rfl) ?_
  refine m_get (v := .ref (mo + 15)) X ok_Model hM.1 20 (by decide) k_Model_52 rfl d_Model_numberAt_5 ?_
  refine lv_iload_n X.x X.b d_Model_numberAt_8 rfl (lv_at hl 1 rfl) ?_
  refine m_ild (v := 1) X hM.a20 0 rfl (by omega) (by decide) (show s0 20 0 = 1 from (by rw [h20])) d_Model_numberAt_9 ?_
  refine m_ild (v := s0 14 1) X hM.a14 1 rfl (by omega) (by decide) (show s0 14 1 = s0 14 1 from rfl) d_Model_numberAt_10 ?_
  refine lv_aload_n X.x X.b d_Model_numberAt_11 rfl (lv_at hl 0 rfl) ?_
  refine m_get (v := .ref (mo + 16)) X ok_Model hM.1 21 (by decide) k_Model_55 rfl d_Model_numberAt_12 ?_
  refine lv_iload_n X.x X.b d_Model_numberAt_15 rfl (lv_at hl 1 rfl) ?_
  refine m_ild (v := s0 21 0) X hM.a21 0 rfl (by omega) (by decide) (show s0 21 0 = s0 21 0 from rfl) d_Model_numberAt_16 ?_
  refine lv_iadd X.x X.b d_Model_numberAt_17 ?_
  exact m_iret X hS (Nat.zero_le _) (Nat.zero_le _) d_Model_numberAt_18 rfl rfl
set_option maxRecDepth 100000 in
set_option maxHeartbeats 4000000 in
theorem M_Model_layOut_L0 (l : Launch) (g : GG) {mo tq : Nat} {p0 : Nat → Int32} {s0 : Nat → Nat → Int32} {H0 : Heap} (hM : mAt g mo tq p0 s0 H0) (hw : twoI 0 p0 s0) : MM l y_Model_layOut c_Model_layOut 3 none 3 0 0 g H0 [.ref mo] (fun q => mo ≤ q ∧ q < mo + 23) (none) (fun H1 => ∃ p s, mAt g mo tq p s H1 ∧ samP [6, 7] p0 p ∧ same [14, 15, 23] s0 s) := by
  refine MM.of (by decide +kernel) (Nat.le_of_ble_eq_true rfl) ?_
  intro p e s m below meth cd X hH ls hl
  have X : CX g p s m _ meth cd c_Model_layOut 3 none R_Model _ := X
  have hl : lv_has ls 3 [(0, .ref mo)] := hl
  have hS : va_S (AA (fun q => mo ≤ q ∧ q < mo + 23) H0) H0 H0 [] := va_S.rf
  have hlt0 := hM.lt
  have htq0 := hM.tq
  obtain ⟨⟨hw3, hw5⟩, hw8, hw81⟩ := hw
  refine lv_iconst (v := 0) X.x X.b d_Model_layOut_0 (by decide) ?_
  refine lv_istore_n (lv' := [(1, .int 0), (0, .ref mo)]) X.x X.b d_Model_layOut_1 rfl hl (by decide) rfl (fun ls hl => ?_)
  refine lv_iload_n X.x X.b d_Model_layOut_2 rfl (lv_at hl 0 rfl) ?_
  refine lv_aload_n X.x X.b d_Model_layOut_3 rfl (lv_at hl 1 rfl) ?_
  refine m_get (v := .int 2) X ok_Model hM.1 5 (by decide) k_Model_132 (congrArg (fun z => some (Value.int z)) (show p0 5 = 2 from (by rw [hw5]))) d_Model_layOut_4 ?_
  refine lv_icmp_ge (tgt := 23) X.x X.b d_Model_layOut_7 (by decide) (fun c1 => ?_) (fun c1 => ?_)
  · exact absurd c1 (by decide)
  · skip
    have c1q := Int32.not_le.mp c1
    refine lv_aload_n X.x X.b d_Model_layOut_10 rfl (lv_at hl 1 rfl) ?_
    refine m_get (v := .ref (mo + 18)) X ok_Model hM.1 23 (by decide) k_Model_61 rfl d_Model_layOut_11 ?_
    refine lv_iload_n X.x X.b d_Model_layOut_14 rfl (lv_at hl 0 rfl) ?_
    refine lv_iconst (v := 0) X.x X.b d_Model_layOut_15 (by decide) ?_
    refine m_zst X hS (Or.inl ⟨by omega, by omega⟩) hM.a23 0 rfl (by omega) (by decide) rfl d_Model_layOut_16 (fun H locs hp hcg hS => ?_)
    have hM := hM.s23 hp hcg
    obtain ⟨s_1, es_1⟩ : ∃ z, z = updR s0 23 (upd (s0 23) 0 0) := ⟨_, rfl⟩
    rw [← es_1] at hM
    refine lv_iinc (v := 1) (lv' := [(1, .int 1), (0, .ref mo)]) X.x X.b d_Model_layOut_17 hl (k := 0) rfl (by decide) (by decide) rfl (fun ls hl => ?_)
    refine lv_goto (tgt := 2) X.x X.b d_Model_layOut_20 (by decide) ?_
    refine lv_iload_n X.x X.b d_Model_layOut_2 rfl (lv_at hl 0 rfl) ?_
    refine lv_aload_n X.x X.b d_Model_layOut_3 rfl (lv_at hl 1 rfl) ?_
    refine m_get (v := .int 2) X ok_Model hM.1 5 (by decide) k_Model_132 (congrArg (fun z => some (Value.int z)) (show p0 5 = 2 from (by rw [hw5]))) d_Model_layOut_4 ?_
    refine lv_icmp_ge (tgt := 23) X.x X.b d_Model_layOut_7 (by decide) (fun c2 => ?_) (fun c2 => ?_)
    · exact absurd c2 (by decide)
    · skip
      have c2q := Int32.not_le.mp c2
      refine lv_aload_n X.x X.b d_Model_layOut_10 rfl (lv_at hl 1 rfl) ?_
      refine m_get (v := .ref (mo + 18)) X ok_Model hM.1 23 (by decide) k_Model_61 rfl d_Model_layOut_11 ?_
      refine lv_iload_n X.x X.b d_Model_layOut_14 rfl (lv_at hl 0 rfl) ?_
      refine lv_iconst (v := 0) X.x X.b d_Model_layOut_15 (by decide) ?_
      refine m_zst X hS (Or.inl ⟨by omega, by omega⟩) hM.a23 1 rfl (by omega) (by decide) rfl d_Model_layOut_16 (fun H locs hp hcg hS => ?_)
      have hM := hM.s23 hp hcg
      obtain ⟨s_2, es_2⟩ : ∃ z, z = updR s_1 23 (upd (s_1 23) 1 0) := ⟨_, rfl⟩
      rw [← es_2] at hM
      refine lv_iinc (v := 2) (lv' := [(1, .int 2), (0, .ref mo)]) X.x X.b d_Model_layOut_17 hl (k := 0) rfl (by decide) (by decide) rfl (fun ls hl => ?_)
      refine lv_goto (tgt := 2) X.x X.b d_Model_layOut_20 (by decide) ?_
      refine lv_iload_n X.x X.b d_Model_layOut_2 rfl (lv_at hl 0 rfl) ?_
      refine lv_aload_n X.x X.b d_Model_layOut_3 rfl (lv_at hl 1 rfl) ?_
      refine m_get (v := .int 2) X ok_Model hM.1 5 (by decide) k_Model_132 (congrArg (fun z => some (Value.int z)) (show p0 5 = 2 from (by rw [hw5]))) d_Model_layOut_4 ?_
      refine lv_icmp_ge (tgt := 23) X.x X.b d_Model_layOut_7 (by decide) (fun c3 => ?_) (fun c3 => ?_)
      · skip
        have c3q := Int32.not_lt.mpr c3
        refine lv_aload_n X.x X.b d_Model_layOut_23 rfl (lv_at hl 1 rfl) ?_
        refine lv_iconst (v := 0) X.x X.b d_Model_layOut_24 (by decide) ?_
        refine m_put X ok_Model hS (Or.inl ⟨by omega, by omega⟩) hM.1 7 (by decide) k_Model_171 rfl (ok_Model.2.2.1 _ (by decide)) rfl rfl (Nat.le_of_ble_eq_true rfl) d_Model_layOut_25 (fun H locs hp hcg hS => ?_)
        have hM := hM.f7 hp hcg
        obtain ⟨p_3, ep_3⟩ : ∃ z, z = upd p0 7 0 := ⟨_, rfl⟩
        rw [← ep_3] at hM
        refine lv_iconst (v := 1) X.x X.b d_Model_layOut_28 (by decide) ?_
        refine lv_istore_n (lv' := [(1, .int 1), (0, .ref mo)]) X.x X.b d_Model_layOut_29 rfl hl (by decide) rfl (fun ls hl => ?_)
        refine lv_iload_n X.x X.b d_Model_layOut_30 rfl (lv_at hl 0 rfl) ?_
        refine lv_if_eq (tgt := 113) X.x X.b d_Model_layOut_31 (by decide) (fun c4 => ?_) (fun c4 => ?_)
        · exact absurd c4 (by decide)
        · skip
          refine lv_aload_n X.x X.b d_Model_layOut_34 rfl (lv_at hl 1 rfl) ?_
          have hn7 : ∀ k, k < 2 → s_2 8 k = 7 → ¬ s_2 11 k = 0 := fun k hk => by rcases (show k = 0 ∨ k = 1 by omega) with rfl | rfl; exact (fun z => absurd ((show s_2 8 0 = 0 from (by rw [es_2, updR_mf _ _ _ (show 8 ≠ 23 by decide), es_1, updR_mf _ _ _ (show 8 ≠ 23 by decide), hw8])).symm.trans z) (by decide)); exact (fun z => absurd ((show s_2 8 1 = 6 from (by rw [es_2, updR_mf _ _ _ (show 8 ≠ 23 by decide), es_1, updR_mf _ _ _ (show 8 ≠ 23 by decide), hw81])).symm.trans z) (by decide))
          have hR := M_Model_place_w (c := 2) l g hM (show p_3 5 = 2 from (by rw [ep_3, upd_mi _ _ _ (show 5 ≠ 7 by decide), hw5])) (by omega) hn7
          refine m_callM X hS hR v_Model_174 hM.1 rfl rfl rfl (Nat.le_of_ble_eq_true rfl) hl.1 d_Model_layOut_35 (by omega) (by decide) ⟨by omega, by omega⟩ (fun q z => by have z : mo ≤ q ∧ q < mo + 23 := z; exact ⟨by omega, by omega⟩) (fun H locs hq hfr hS => ?_)
          obtain ⟨p_4, s_5, hM, hp_6, hs_7⟩ := hq
          refine lv_aload_n X.x X.b d_Model_layOut_38 rfl (lv_at hl 1 rfl) ?_
          refine lv_dup X.x X.b d_Model_layOut_39 rfl ?_
          refine m_get (v := .int 0) X ok_Model hM.1 7 (by decide) k_Model_171 (congrArg (fun z => some (Value.int z)) (show p_4 7 = 0 from (by rw [hp_6 7 (by decide), ep_3, upd_hit]))) d_Model_layOut_40 ?_
          refine lv_iconst (v := 1) X.x X.b d_Model_layOut_43 (by decide) ?_
          refine lv_iadd X.x X.b d_Model_layOut_44 ?_
          rw [show (0 + 1 : Int32) = 1 from by decide]
          refine m_put X ok_Model hS (Or.inl ⟨by omega, by omega⟩) hM.1 7 (by decide) k_Model_171 rfl (ok_Model.2.2.1 _ (by decide)) rfl rfl (Nat.le_of_ble_eq_true rfl) d_Model_layOut_45 (fun H locs hp hcg hS => ?_)
          have hM := hM.f7 hp hcg
          obtain ⟨p_8, ep_8⟩ : ∃ z, z = upd p_4 7 1 := ⟨_, rfl⟩
          rw [← ep_8] at hM
          refine lv_iconst (v := 0) X.x X.b d_Model_layOut_48 (by decide) ?_
          refine lv_istore_n (lv' := [(1, .int 0), (0, .ref mo)]) X.x X.b d_Model_layOut_49 rfl hl (by decide) rfl (fun ls hl => ?_)
          refine lv_iconst (v := 0) X.x X.b d_Model_layOut_50 (by decide) ?_
          refine lv_istore_n (lv' := [(2, .int 0), (1, .int 0), (0, .ref mo)]) X.x X.b d_Model_layOut_51 rfl hl (by decide) rfl (fun ls hl => ?_)
          refine lv_iload_n X.x X.b d_Model_layOut_52 rfl (lv_at hl 0 rfl) ?_
          refine lv_aload_n X.x X.b d_Model_layOut_53 rfl (lv_at hl 2 rfl) ?_
          refine m_get (v := .int 2) X ok_Model hM.1 5 (by decide) k_Model_132 (congrArg (fun z => some (Value.int z)) (show p_8 5 = 2 from (by rw [ep_8, upd_mi _ _ _ (show 5 ≠ 7 by decide), hp_6 5 (by decide), ep_3, upd_mi _ _ _ (show 5 ≠ 7 by decide), hw5]))) d_Model_layOut_54 ?_
          refine lv_icmp_ge (tgt := 110) X.x X.b d_Model_layOut_57 (by decide) (fun c5 => ?_) (fun c5 => ?_)
          · exact absurd c5 c1
          · skip
            have c5q := Int32.not_le.mp c5
            refine lv_aload_n X.x X.b d_Model_layOut_60 rfl (lv_at hl 2 rfl) ?_
            refine lv_iload_n X.x X.b d_Model_layOut_61 rfl (lv_at hl 0 rfl) ?_
            have hR := M_Model_isBranch (k := 0) l g hM (by omega)
            rw [show b2i (s_5 8 0 = 3 ∨ s_5 8 0 = 4) = 0 from b2i_f (by rw [show s_5 8 0 = 0 from (by rw [hs_7 8 (by decide), es_2, updR_mf _ _ _ (show 8 ≠ 23 by decide), es_1, updR_mf _ _ _ (show 8 ≠ 23 by decide), hw8])]; first | decide | simp)] at hR
            refine m_callP X hS hR v_Model_177 hM.1 rfl rfl rfl (Nat.le_of_ble_eq_true rfl) hl.1 d_Model_layOut_62 (by omega) (by decide) ⟨by omega, by omega⟩ (fun locs hS => ?_)
            refine lv_if_eq (tgt := 104) X.x X.b d_Model_layOut_65 (by decide) (fun c6 => ?_) (fun c6 => ?_)
            · skip
              refine lv_iinc (v := 1) (lv' := [(2, .int 1), (1, .int 0), (0, .ref mo)]) X.x X.b d_Model_layOut_104 hl (k := 0) rfl (by decide) (by decide) rfl (fun ls hl => ?_)
              refine lv_goto (tgt := 52) X.x X.b d_Model_layOut_107 (by decide) ?_
              refine lv_iload_n X.x X.b d_Model_layOut_52 rfl (lv_at hl 0 rfl) ?_
              refine lv_aload_n X.x X.b d_Model_layOut_53 rfl (lv_at hl 2 rfl) ?_
              refine m_get (v := .int 2) X ok_Model hM.1 5 (by decide) k_Model_132 (congrArg (fun z => some (Value.int z)) (show p_8 5 = 2 from (by rw [ep_8, upd_mi _ _ _ (show 5 ≠ 7 by decide), hp_6 5 (by decide), ep_3, upd_mi _ _ _ (show 5 ≠ 7 by decide), hw5]))) d_Model_layOut_54 ?_
              refine lv_icmp_ge (tgt := 110) X.x X.b d_Model_layOut_57 (by decide) (fun c7 => ?_) (fun c7 => ?_)
              · exact absurd c7 c2
              · skip
                have c7q := Int32.not_le.mp c7
                refine lv_aload_n X.x X.b d_Model_layOut_60 rfl (lv_at hl 2 rfl) ?_
                refine lv_iload_n X.x X.b d_Model_layOut_61 rfl (lv_at hl 0 rfl) ?_
                have hR := M_Model_isBranch (k := 1) l g hM (by omega)
                rw [show b2i (s_5 8 1 = 3 ∨ s_5 8 1 = 4) = 0 from b2i_f (by rw [show s_5 8 1 = 6 from (by rw [hs_7 8 (by decide), es_2, updR_mf _ _ _ (show 8 ≠ 23 by decide), es_1, updR_mf _ _ _ (show 8 ≠ 23 by decide), hw81])]; first | decide | simp)] at hR
                refine m_callP X hS hR v_Model_177 hM.1 rfl rfl rfl (Nat.le_of_ble_eq_true rfl) hl.1 d_Model_layOut_62 (by omega) (by decide) ⟨by omega, by omega⟩ (fun locs hS => ?_)
                refine lv_if_eq (tgt := 104) X.x X.b d_Model_layOut_65 (by decide) (fun c8 => ?_) (fun c8 => ?_)
                · skip
                  refine lv_iinc (v := 2) (lv' := [(2, .int 2), (1, .int 0), (0, .ref mo)]) X.x X.b d_Model_layOut_104 hl (k := 0) rfl (by decide) (by decide) rfl (fun ls hl => ?_)
                  refine lv_goto (tgt := 52) X.x X.b d_Model_layOut_107 (by decide) ?_
                  refine lv_iload_n X.x X.b d_Model_layOut_52 rfl (lv_at hl 0 rfl) ?_
                  refine lv_aload_n X.x X.b d_Model_layOut_53 rfl (lv_at hl 2 rfl) ?_
                  refine m_get (v := .int 2) X ok_Model hM.1 5 (by decide) k_Model_132 (congrArg (fun z => some (Value.int z)) (show p_8 5 = 2 from (by rw [ep_8, upd_mi _ _ _ (show 5 ≠ 7 by decide), hp_6 5 (by decide), ep_3, upd_mi _ _ _ (show 5 ≠ 7 by decide), hw5]))) d_Model_layOut_54 ?_
                  refine lv_icmp_ge (tgt := 110) X.x X.b d_Model_layOut_57 (by decide) (fun c9 => ?_) (fun c9 => ?_)
                  · skip
                    have c9q := Int32.not_lt.mpr c9
                    refine lv_goto (tgt := 30) X.x X.b d_Model_layOut_110 (by decide) ?_
                    refine lv_iload_n X.x X.b d_Model_layOut_30 rfl (lv_at hl 1 rfl) ?_
                    refine lv_if_eq (tgt := 113) X.x X.b d_Model_layOut_31 (by decide) (fun c10 => ?_) (fun c10 => ?_)
                    · skip
                      exact m_vret X hS (by omega) (by omega) d_Model_layOut_113 rfl ⟨_, _, hM, (show samP [6, 7] p0 p_8 from (by rw [ep_8]; exact (show samP [6, 7] p0 p_4 from ((show samP [6, 7] p0 p_3 from (by rw [ep_3]; exact (samP.rf [6, 7] p0).up _ _ (by decide))).tr hp_6 (by decide))).up _ _ (by decide))), (show same [14, 15, 23] s0 s_5 from ((show same [14, 15, 23] s0 s_2 from (by rw [es_2]; exact (show same [14, 15, 23] s0 s_1 from (by rw [es_1]; exact (same.rf [14, 15, 23] s0).up _ _ (by decide))).up _ _ (by decide))).tr hs_7 (by decide)))⟩
                    · exact absurd c8 c10
                  · exact absurd c3 c9
                · exact absurd c6 c8
            · exact absurd c6 (by decide)
      · exact absurd c3 (by decide)
set_option maxRecDepth 100000 in
set_option maxHeartbeats 4000000 in
theorem M_Model_layOut_L1 (l : Launch) (g : GG) {mo tq : Nat} {p0 : Nat → Int32} {s0 : Nat → Nat → Int32} {H0 : Heap} (hM : mAt g mo tq p0 s0 H0) (hw : twoI 1 p0 s0) : MM l y_Model_layOut c_Model_layOut 3 none 3 0 0 g H0 [.ref mo] (fun q => mo ≤ q ∧ q < mo + 23) (none) (fun H1 => ∃ p s, mAt g mo tq p s H1 ∧ samP [6, 7] p0 p ∧ same [14, 15, 23] s0 s) := by
  refine MM.of (by decide +kernel) (Nat.le_of_ble_eq_true rfl) ?_
  intro p e s m below meth cd X hH ls hl
  have X : CX g p s m _ meth cd c_Model_layOut 3 none R_Model _ := X
  have hl : lv_has ls 3 [(0, .ref mo)] := hl
  have hS : va_S (AA (fun q => mo ≤ q ∧ q < mo + 23) H0) H0 H0 [] := va_S.rf
  have hlt0 := hM.lt
  have htq0 := hM.tq
  obtain ⟨⟨hw3, hw5⟩, hw8, hw81⟩ := hw
  refine lv_iconst (v := 0) X.x X.b d_Model_layOut_0 (by decide) ?_
  refine lv_istore_n (lv' := [(1, .int 0), (0, .ref mo)]) X.x X.b d_Model_layOut_1 rfl hl (by decide) rfl (fun ls hl => ?_)
  refine lv_iload_n X.x X.b d_Model_layOut_2 rfl (lv_at hl 0 rfl) ?_
  refine lv_aload_n X.x X.b d_Model_layOut_3 rfl (lv_at hl 1 rfl) ?_
  refine m_get (v := .int 2) X ok_Model hM.1 5 (by decide) k_Model_132 (congrArg (fun z => some (Value.int z)) (show p0 5 = 2 from (by rw [hw5]))) d_Model_layOut_4 ?_
  refine lv_icmp_ge (tgt := 23) X.x X.b d_Model_layOut_7 (by decide) (fun c1 => ?_) (fun c1 => ?_)
  · exact absurd c1 (by decide)
  · skip
    have c1q := Int32.not_le.mp c1
    refine lv_aload_n X.x X.b d_Model_layOut_10 rfl (lv_at hl 1 rfl) ?_
    refine m_get (v := .ref (mo + 18)) X ok_Model hM.1 23 (by decide) k_Model_61 rfl d_Model_layOut_11 ?_
    refine lv_iload_n X.x X.b d_Model_layOut_14 rfl (lv_at hl 0 rfl) ?_
    refine lv_iconst (v := 0) X.x X.b d_Model_layOut_15 (by decide) ?_
    refine m_zst X hS (Or.inl ⟨by omega, by omega⟩) hM.a23 0 rfl (by omega) (by decide) rfl d_Model_layOut_16 (fun H locs hp hcg hS => ?_)
    have hM := hM.s23 hp hcg
    obtain ⟨s_1, es_1⟩ : ∃ z, z = updR s0 23 (upd (s0 23) 0 0) := ⟨_, rfl⟩
    rw [← es_1] at hM
    refine lv_iinc (v := 1) (lv' := [(1, .int 1), (0, .ref mo)]) X.x X.b d_Model_layOut_17 hl (k := 0) rfl (by decide) (by decide) rfl (fun ls hl => ?_)
    refine lv_goto (tgt := 2) X.x X.b d_Model_layOut_20 (by decide) ?_
    refine lv_iload_n X.x X.b d_Model_layOut_2 rfl (lv_at hl 0 rfl) ?_
    refine lv_aload_n X.x X.b d_Model_layOut_3 rfl (lv_at hl 1 rfl) ?_
    refine m_get (v := .int 2) X ok_Model hM.1 5 (by decide) k_Model_132 (congrArg (fun z => some (Value.int z)) (show p0 5 = 2 from (by rw [hw5]))) d_Model_layOut_4 ?_
    refine lv_icmp_ge (tgt := 23) X.x X.b d_Model_layOut_7 (by decide) (fun c2 => ?_) (fun c2 => ?_)
    · exact absurd c2 (by decide)
    · skip
      have c2q := Int32.not_le.mp c2
      refine lv_aload_n X.x X.b d_Model_layOut_10 rfl (lv_at hl 1 rfl) ?_
      refine m_get (v := .ref (mo + 18)) X ok_Model hM.1 23 (by decide) k_Model_61 rfl d_Model_layOut_11 ?_
      refine lv_iload_n X.x X.b d_Model_layOut_14 rfl (lv_at hl 0 rfl) ?_
      refine lv_iconst (v := 0) X.x X.b d_Model_layOut_15 (by decide) ?_
      refine m_zst X hS (Or.inl ⟨by omega, by omega⟩) hM.a23 1 rfl (by omega) (by decide) rfl d_Model_layOut_16 (fun H locs hp hcg hS => ?_)
      have hM := hM.s23 hp hcg
      obtain ⟨s_2, es_2⟩ : ∃ z, z = updR s_1 23 (upd (s_1 23) 1 0) := ⟨_, rfl⟩
      rw [← es_2] at hM
      refine lv_iinc (v := 2) (lv' := [(1, .int 2), (0, .ref mo)]) X.x X.b d_Model_layOut_17 hl (k := 0) rfl (by decide) (by decide) rfl (fun ls hl => ?_)
      refine lv_goto (tgt := 2) X.x X.b d_Model_layOut_20 (by decide) ?_
      refine lv_iload_n X.x X.b d_Model_layOut_2 rfl (lv_at hl 0 rfl) ?_
      refine lv_aload_n X.x X.b d_Model_layOut_3 rfl (lv_at hl 1 rfl) ?_
      refine m_get (v := .int 2) X ok_Model hM.1 5 (by decide) k_Model_132 (congrArg (fun z => some (Value.int z)) (show p0 5 = 2 from (by rw [hw5]))) d_Model_layOut_4 ?_
      refine lv_icmp_ge (tgt := 23) X.x X.b d_Model_layOut_7 (by decide) (fun c3 => ?_) (fun c3 => ?_)
      · skip
        have c3q := Int32.not_lt.mpr c3
        refine lv_aload_n X.x X.b d_Model_layOut_23 rfl (lv_at hl 1 rfl) ?_
        refine lv_iconst (v := 0) X.x X.b d_Model_layOut_24 (by decide) ?_
        refine m_put X ok_Model hS (Or.inl ⟨by omega, by omega⟩) hM.1 7 (by decide) k_Model_171 rfl (ok_Model.2.2.1 _ (by decide)) rfl rfl (Nat.le_of_ble_eq_true rfl) d_Model_layOut_25 (fun H locs hp hcg hS => ?_)
        have hM := hM.f7 hp hcg
        obtain ⟨p_3, ep_3⟩ : ∃ z, z = upd p0 7 0 := ⟨_, rfl⟩
        rw [← ep_3] at hM
        refine lv_iconst (v := 1) X.x X.b d_Model_layOut_28 (by decide) ?_
        refine lv_istore_n (lv' := [(1, .int 1), (0, .ref mo)]) X.x X.b d_Model_layOut_29 rfl hl (by decide) rfl (fun ls hl => ?_)
        refine lv_iload_n X.x X.b d_Model_layOut_30 rfl (lv_at hl 0 rfl) ?_
        refine lv_if_eq (tgt := 113) X.x X.b d_Model_layOut_31 (by decide) (fun c4 => ?_) (fun c4 => ?_)
        · exact absurd c4 (by decide)
        · skip
          refine lv_aload_n X.x X.b d_Model_layOut_34 rfl (lv_at hl 1 rfl) ?_
          have hn7 : ∀ k, k < 2 → s_2 8 k = 7 → ¬ s_2 11 k = 0 := fun k hk => by rcases (show k = 0 ∨ k = 1 by omega) with rfl | rfl; exact (fun z => absurd ((show s_2 8 0 = 1 from (by rw [es_2, updR_mf _ _ _ (show 8 ≠ 23 by decide), es_1, updR_mf _ _ _ (show 8 ≠ 23 by decide), hw8])).symm.trans z) (by decide)); exact (fun z => absurd ((show s_2 8 1 = 6 from (by rw [es_2, updR_mf _ _ _ (show 8 ≠ 23 by decide), es_1, updR_mf _ _ _ (show 8 ≠ 23 by decide), hw81])).symm.trans z) (by decide))
          have hR := M_Model_place_w (c := 2) l g hM (show p_3 5 = 2 from (by rw [ep_3, upd_mi _ _ _ (show 5 ≠ 7 by decide), hw5])) (by omega) hn7
          refine m_callM X hS hR v_Model_174 hM.1 rfl rfl rfl (Nat.le_of_ble_eq_true rfl) hl.1 d_Model_layOut_35 (by omega) (by decide) ⟨by omega, by omega⟩ (fun q z => by have z : mo ≤ q ∧ q < mo + 23 := z; exact ⟨by omega, by omega⟩) (fun H locs hq hfr hS => ?_)
          obtain ⟨p_4, s_5, hM, hp_6, hs_7⟩ := hq
          refine lv_aload_n X.x X.b d_Model_layOut_38 rfl (lv_at hl 1 rfl) ?_
          refine lv_dup X.x X.b d_Model_layOut_39 rfl ?_
          refine m_get (v := .int 0) X ok_Model hM.1 7 (by decide) k_Model_171 (congrArg (fun z => some (Value.int z)) (show p_4 7 = 0 from (by rw [hp_6 7 (by decide), ep_3, upd_hit]))) d_Model_layOut_40 ?_
          refine lv_iconst (v := 1) X.x X.b d_Model_layOut_43 (by decide) ?_
          refine lv_iadd X.x X.b d_Model_layOut_44 ?_
          rw [show (0 + 1 : Int32) = 1 from by decide]
          refine m_put X ok_Model hS (Or.inl ⟨by omega, by omega⟩) hM.1 7 (by decide) k_Model_171 rfl (ok_Model.2.2.1 _ (by decide)) rfl rfl (Nat.le_of_ble_eq_true rfl) d_Model_layOut_45 (fun H locs hp hcg hS => ?_)
          have hM := hM.f7 hp hcg
          obtain ⟨p_8, ep_8⟩ : ∃ z, z = upd p_4 7 1 := ⟨_, rfl⟩
          rw [← ep_8] at hM
          refine lv_iconst (v := 0) X.x X.b d_Model_layOut_48 (by decide) ?_
          refine lv_istore_n (lv' := [(1, .int 0), (0, .ref mo)]) X.x X.b d_Model_layOut_49 rfl hl (by decide) rfl (fun ls hl => ?_)
          refine lv_iconst (v := 0) X.x X.b d_Model_layOut_50 (by decide) ?_
          refine lv_istore_n (lv' := [(2, .int 0), (1, .int 0), (0, .ref mo)]) X.x X.b d_Model_layOut_51 rfl hl (by decide) rfl (fun ls hl => ?_)
          refine lv_iload_n X.x X.b d_Model_layOut_52 rfl (lv_at hl 0 rfl) ?_
          refine lv_aload_n X.x X.b d_Model_layOut_53 rfl (lv_at hl 2 rfl) ?_
          refine m_get (v := .int 2) X ok_Model hM.1 5 (by decide) k_Model_132 (congrArg (fun z => some (Value.int z)) (show p_8 5 = 2 from (by rw [ep_8, upd_mi _ _ _ (show 5 ≠ 7 by decide), hp_6 5 (by decide), ep_3, upd_mi _ _ _ (show 5 ≠ 7 by decide), hw5]))) d_Model_layOut_54 ?_
          refine lv_icmp_ge (tgt := 110) X.x X.b d_Model_layOut_57 (by decide) (fun c5 => ?_) (fun c5 => ?_)
          · exact absurd c5 c1
          · skip
            have c5q := Int32.not_le.mp c5
            refine lv_aload_n X.x X.b d_Model_layOut_60 rfl (lv_at hl 2 rfl) ?_
            refine lv_iload_n X.x X.b d_Model_layOut_61 rfl (lv_at hl 0 rfl) ?_
            have hR := M_Model_isBranch (k := 0) l g hM (by omega)
            rw [show b2i (s_5 8 0 = 3 ∨ s_5 8 0 = 4) = 0 from b2i_f (by rw [show s_5 8 0 = 1 from (by rw [hs_7 8 (by decide), es_2, updR_mf _ _ _ (show 8 ≠ 23 by decide), es_1, updR_mf _ _ _ (show 8 ≠ 23 by decide), hw8])]; first | decide | simp)] at hR
            refine m_callP X hS hR v_Model_177 hM.1 rfl rfl rfl (Nat.le_of_ble_eq_true rfl) hl.1 d_Model_layOut_62 (by omega) (by decide) ⟨by omega, by omega⟩ (fun locs hS => ?_)
            refine lv_if_eq (tgt := 104) X.x X.b d_Model_layOut_65 (by decide) (fun c6 => ?_) (fun c6 => ?_)
            · skip
              refine lv_iinc (v := 1) (lv' := [(2, .int 1), (1, .int 0), (0, .ref mo)]) X.x X.b d_Model_layOut_104 hl (k := 0) rfl (by decide) (by decide) rfl (fun ls hl => ?_)
              refine lv_goto (tgt := 52) X.x X.b d_Model_layOut_107 (by decide) ?_
              refine lv_iload_n X.x X.b d_Model_layOut_52 rfl (lv_at hl 0 rfl) ?_
              refine lv_aload_n X.x X.b d_Model_layOut_53 rfl (lv_at hl 2 rfl) ?_
              refine m_get (v := .int 2) X ok_Model hM.1 5 (by decide) k_Model_132 (congrArg (fun z => some (Value.int z)) (show p_8 5 = 2 from (by rw [ep_8, upd_mi _ _ _ (show 5 ≠ 7 by decide), hp_6 5 (by decide), ep_3, upd_mi _ _ _ (show 5 ≠ 7 by decide), hw5]))) d_Model_layOut_54 ?_
              refine lv_icmp_ge (tgt := 110) X.x X.b d_Model_layOut_57 (by decide) (fun c7 => ?_) (fun c7 => ?_)
              · exact absurd c7 c2
              · skip
                have c7q := Int32.not_le.mp c7
                refine lv_aload_n X.x X.b d_Model_layOut_60 rfl (lv_at hl 2 rfl) ?_
                refine lv_iload_n X.x X.b d_Model_layOut_61 rfl (lv_at hl 0 rfl) ?_
                have hR := M_Model_isBranch (k := 1) l g hM (by omega)
                rw [show b2i (s_5 8 1 = 3 ∨ s_5 8 1 = 4) = 0 from b2i_f (by rw [show s_5 8 1 = 6 from (by rw [hs_7 8 (by decide), es_2, updR_mf _ _ _ (show 8 ≠ 23 by decide), es_1, updR_mf _ _ _ (show 8 ≠ 23 by decide), hw81])]; first | decide | simp)] at hR
                refine m_callP X hS hR v_Model_177 hM.1 rfl rfl rfl (Nat.le_of_ble_eq_true rfl) hl.1 d_Model_layOut_62 (by omega) (by decide) ⟨by omega, by omega⟩ (fun locs hS => ?_)
                refine lv_if_eq (tgt := 104) X.x X.b d_Model_layOut_65 (by decide) (fun c8 => ?_) (fun c8 => ?_)
                · skip
                  refine lv_iinc (v := 2) (lv' := [(2, .int 2), (1, .int 0), (0, .ref mo)]) X.x X.b d_Model_layOut_104 hl (k := 0) rfl (by decide) (by decide) rfl (fun ls hl => ?_)
                  refine lv_goto (tgt := 52) X.x X.b d_Model_layOut_107 (by decide) ?_
                  refine lv_iload_n X.x X.b d_Model_layOut_52 rfl (lv_at hl 0 rfl) ?_
                  refine lv_aload_n X.x X.b d_Model_layOut_53 rfl (lv_at hl 2 rfl) ?_
                  refine m_get (v := .int 2) X ok_Model hM.1 5 (by decide) k_Model_132 (congrArg (fun z => some (Value.int z)) (show p_8 5 = 2 from (by rw [ep_8, upd_mi _ _ _ (show 5 ≠ 7 by decide), hp_6 5 (by decide), ep_3, upd_mi _ _ _ (show 5 ≠ 7 by decide), hw5]))) d_Model_layOut_54 ?_
                  refine lv_icmp_ge (tgt := 110) X.x X.b d_Model_layOut_57 (by decide) (fun c9 => ?_) (fun c9 => ?_)
                  · skip
                    have c9q := Int32.not_lt.mpr c9
                    refine lv_goto (tgt := 30) X.x X.b d_Model_layOut_110 (by decide) ?_
                    refine lv_iload_n X.x X.b d_Model_layOut_30 rfl (lv_at hl 1 rfl) ?_
                    refine lv_if_eq (tgt := 113) X.x X.b d_Model_layOut_31 (by decide) (fun c10 => ?_) (fun c10 => ?_)
                    · skip
                      exact m_vret X hS (by omega) (by omega) d_Model_layOut_113 rfl ⟨_, _, hM, (show samP [6, 7] p0 p_8 from (by rw [ep_8]; exact (show samP [6, 7] p0 p_4 from ((show samP [6, 7] p0 p_3 from (by rw [ep_3]; exact (samP.rf [6, 7] p0).up _ _ (by decide))).tr hp_6 (by decide))).up _ _ (by decide))), (show same [14, 15, 23] s0 s_5 from ((show same [14, 15, 23] s0 s_2 from (by rw [es_2]; exact (show same [14, 15, 23] s0 s_1 from (by rw [es_1]; exact (same.rf [14, 15, 23] s0).up _ _ (by decide))).up _ _ (by decide))).tr hs_7 (by decide)))⟩
                    · exact absurd c8 c10
                  · exact absurd c3 c9
                · exact absurd c6 c8
            · exact absurd c6 (by decide)
      · exact absurd c3 (by decide)
set_option maxRecDepth 100000 in
set_option maxHeartbeats 4000000 in
theorem M_Model_layOut_L3 (l : Launch) (g : GG) {mo tq : Nat} {p0 : Nat → Int32} {s0 : Nat → Nat → Int32} {H0 : Heap} (hM : mAt g mo tq p0 s0 H0) (hw : twoI 3 p0 s0) (h16 : s0 16 0 = -1) (h17 : s0 17 0 = -1) : MM l y_Model_layOut c_Model_layOut 3 none 3 0 0 g H0 [.ref mo] (fun q => mo ≤ q ∧ q < mo + 23) (none) (fun H1 => ∃ p s, mAt g mo tq p s H1 ∧ samP [6, 7] p0 p ∧ same [14, 15, 23] s0 s) := by
  refine MM.of (by decide +kernel) (Nat.le_of_ble_eq_true rfl) ?_
  intro p e s m below meth cd X hH ls hl
  have X : CX g p s m _ meth cd c_Model_layOut 3 none R_Model _ := X
  have hl : lv_has ls 3 [(0, .ref mo)] := hl
  have hS : va_S (AA (fun q => mo ≤ q ∧ q < mo + 23) H0) H0 H0 [] := va_S.rf
  have hlt0 := hM.lt
  have htq0 := hM.tq
  obtain ⟨⟨hw3, hw5⟩, hw8, hw81⟩ := hw
  refine lv_iconst (v := 0) X.x X.b d_Model_layOut_0 (by decide) ?_
  refine lv_istore_n (lv' := [(1, .int 0), (0, .ref mo)]) X.x X.b d_Model_layOut_1 rfl hl (by decide) rfl (fun ls hl => ?_)
  refine lv_iload_n X.x X.b d_Model_layOut_2 rfl (lv_at hl 0 rfl) ?_
  refine lv_aload_n X.x X.b d_Model_layOut_3 rfl (lv_at hl 1 rfl) ?_
  refine m_get (v := .int 2) X ok_Model hM.1 5 (by decide) k_Model_132 (congrArg (fun z => some (Value.int z)) (show p0 5 = 2 from (by rw [hw5]))) d_Model_layOut_4 ?_
  refine lv_icmp_ge (tgt := 23) X.x X.b d_Model_layOut_7 (by decide) (fun c1 => ?_) (fun c1 => ?_)
  · exact absurd c1 (by decide)
  · skip
    have c1q := Int32.not_le.mp c1
    refine lv_aload_n X.x X.b d_Model_layOut_10 rfl (lv_at hl 1 rfl) ?_
    refine m_get (v := .ref (mo + 18)) X ok_Model hM.1 23 (by decide) k_Model_61 rfl d_Model_layOut_11 ?_
    refine lv_iload_n X.x X.b d_Model_layOut_14 rfl (lv_at hl 0 rfl) ?_
    refine lv_iconst (v := 0) X.x X.b d_Model_layOut_15 (by decide) ?_
    refine m_zst X hS (Or.inl ⟨by omega, by omega⟩) hM.a23 0 rfl (by omega) (by decide) rfl d_Model_layOut_16 (fun H locs hp hcg hS => ?_)
    have hM := hM.s23 hp hcg
    obtain ⟨s_1, es_1⟩ : ∃ z, z = updR s0 23 (upd (s0 23) 0 0) := ⟨_, rfl⟩
    rw [← es_1] at hM
    refine lv_iinc (v := 1) (lv' := [(1, .int 1), (0, .ref mo)]) X.x X.b d_Model_layOut_17 hl (k := 0) rfl (by decide) (by decide) rfl (fun ls hl => ?_)
    refine lv_goto (tgt := 2) X.x X.b d_Model_layOut_20 (by decide) ?_
    refine lv_iload_n X.x X.b d_Model_layOut_2 rfl (lv_at hl 0 rfl) ?_
    refine lv_aload_n X.x X.b d_Model_layOut_3 rfl (lv_at hl 1 rfl) ?_
    refine m_get (v := .int 2) X ok_Model hM.1 5 (by decide) k_Model_132 (congrArg (fun z => some (Value.int z)) (show p0 5 = 2 from (by rw [hw5]))) d_Model_layOut_4 ?_
    refine lv_icmp_ge (tgt := 23) X.x X.b d_Model_layOut_7 (by decide) (fun c2 => ?_) (fun c2 => ?_)
    · exact absurd c2 (by decide)
    · skip
      have c2q := Int32.not_le.mp c2
      refine lv_aload_n X.x X.b d_Model_layOut_10 rfl (lv_at hl 1 rfl) ?_
      refine m_get (v := .ref (mo + 18)) X ok_Model hM.1 23 (by decide) k_Model_61 rfl d_Model_layOut_11 ?_
      refine lv_iload_n X.x X.b d_Model_layOut_14 rfl (lv_at hl 0 rfl) ?_
      refine lv_iconst (v := 0) X.x X.b d_Model_layOut_15 (by decide) ?_
      refine m_zst X hS (Or.inl ⟨by omega, by omega⟩) hM.a23 1 rfl (by omega) (by decide) rfl d_Model_layOut_16 (fun H locs hp hcg hS => ?_)
      have hM := hM.s23 hp hcg
      obtain ⟨s_2, es_2⟩ : ∃ z, z = updR s_1 23 (upd (s_1 23) 1 0) := ⟨_, rfl⟩
      rw [← es_2] at hM
      refine lv_iinc (v := 2) (lv' := [(1, .int 2), (0, .ref mo)]) X.x X.b d_Model_layOut_17 hl (k := 0) rfl (by decide) (by decide) rfl (fun ls hl => ?_)
      refine lv_goto (tgt := 2) X.x X.b d_Model_layOut_20 (by decide) ?_
      refine lv_iload_n X.x X.b d_Model_layOut_2 rfl (lv_at hl 0 rfl) ?_
      refine lv_aload_n X.x X.b d_Model_layOut_3 rfl (lv_at hl 1 rfl) ?_
      refine m_get (v := .int 2) X ok_Model hM.1 5 (by decide) k_Model_132 (congrArg (fun z => some (Value.int z)) (show p0 5 = 2 from (by rw [hw5]))) d_Model_layOut_4 ?_
      refine lv_icmp_ge (tgt := 23) X.x X.b d_Model_layOut_7 (by decide) (fun c3 => ?_) (fun c3 => ?_)
      · skip
        have c3q := Int32.not_lt.mpr c3
        refine lv_aload_n X.x X.b d_Model_layOut_23 rfl (lv_at hl 1 rfl) ?_
        refine lv_iconst (v := 0) X.x X.b d_Model_layOut_24 (by decide) ?_
        refine m_put X ok_Model hS (Or.inl ⟨by omega, by omega⟩) hM.1 7 (by decide) k_Model_171 rfl (ok_Model.2.2.1 _ (by decide)) rfl rfl (Nat.le_of_ble_eq_true rfl) d_Model_layOut_25 (fun H locs hp hcg hS => ?_)
        have hM := hM.f7 hp hcg
        obtain ⟨p_3, ep_3⟩ : ∃ z, z = upd p0 7 0 := ⟨_, rfl⟩
        rw [← ep_3] at hM
        refine lv_iconst (v := 1) X.x X.b d_Model_layOut_28 (by decide) ?_
        refine lv_istore_n (lv' := [(1, .int 1), (0, .ref mo)]) X.x X.b d_Model_layOut_29 rfl hl (by decide) rfl (fun ls hl => ?_)
        refine lv_iload_n X.x X.b d_Model_layOut_30 rfl (lv_at hl 0 rfl) ?_
        refine lv_if_eq (tgt := 113) X.x X.b d_Model_layOut_31 (by decide) (fun c4 => ?_) (fun c4 => ?_)
        · exact absurd c4 (by decide)
        · skip
          refine lv_aload_n X.x X.b d_Model_layOut_34 rfl (lv_at hl 1 rfl) ?_
          have hn7 : ∀ k, k < 2 → s_2 8 k = 7 → ¬ s_2 11 k = 0 := fun k hk => by rcases (show k = 0 ∨ k = 1 by omega) with rfl | rfl; exact (fun z => absurd ((show s_2 8 0 = 3 from (by rw [es_2, updR_mf _ _ _ (show 8 ≠ 23 by decide), es_1, updR_mf _ _ _ (show 8 ≠ 23 by decide), hw8])).symm.trans z) (by decide)); exact (fun z => absurd ((show s_2 8 1 = 6 from (by rw [es_2, updR_mf _ _ _ (show 8 ≠ 23 by decide), es_1, updR_mf _ _ _ (show 8 ≠ 23 by decide), hw81])).symm.trans z) (by decide))
          have hR := M_Model_place_w (c := 2) l g hM (show p_3 5 = 2 from (by rw [ep_3, upd_mi _ _ _ (show 5 ≠ 7 by decide), hw5])) (by omega) hn7
          refine m_callM X hS hR v_Model_174 hM.1 rfl rfl rfl (Nat.le_of_ble_eq_true rfl) hl.1 d_Model_layOut_35 (by omega) (by decide) ⟨by omega, by omega⟩ (fun q z => by have z : mo ≤ q ∧ q < mo + 23 := z; exact ⟨by omega, by omega⟩) (fun H locs hq hfr hS => ?_)
          obtain ⟨p_4, s_5, hM, hp_6, hs_7⟩ := hq
          refine lv_aload_n X.x X.b d_Model_layOut_38 rfl (lv_at hl 1 rfl) ?_
          refine lv_dup X.x X.b d_Model_layOut_39 rfl ?_
          refine m_get (v := .int 0) X ok_Model hM.1 7 (by decide) k_Model_171 (congrArg (fun z => some (Value.int z)) (show p_4 7 = 0 from (by rw [hp_6 7 (by decide), ep_3, upd_hit]))) d_Model_layOut_40 ?_
          refine lv_iconst (v := 1) X.x X.b d_Model_layOut_43 (by decide) ?_
          refine lv_iadd X.x X.b d_Model_layOut_44 ?_
          rw [show (0 + 1 : Int32) = 1 from by decide]
          refine m_put X ok_Model hS (Or.inl ⟨by omega, by omega⟩) hM.1 7 (by decide) k_Model_171 rfl (ok_Model.2.2.1 _ (by decide)) rfl rfl (Nat.le_of_ble_eq_true rfl) d_Model_layOut_45 (fun H locs hp hcg hS => ?_)
          have hM := hM.f7 hp hcg
          obtain ⟨p_8, ep_8⟩ : ∃ z, z = upd p_4 7 1 := ⟨_, rfl⟩
          rw [← ep_8] at hM
          refine lv_iconst (v := 0) X.x X.b d_Model_layOut_48 (by decide) ?_
          refine lv_istore_n (lv' := [(1, .int 0), (0, .ref mo)]) X.x X.b d_Model_layOut_49 rfl hl (by decide) rfl (fun ls hl => ?_)
          refine lv_iconst (v := 0) X.x X.b d_Model_layOut_50 (by decide) ?_
          refine lv_istore_n (lv' := [(2, .int 0), (1, .int 0), (0, .ref mo)]) X.x X.b d_Model_layOut_51 rfl hl (by decide) rfl (fun ls hl => ?_)
          refine lv_iload_n X.x X.b d_Model_layOut_52 rfl (lv_at hl 0 rfl) ?_
          refine lv_aload_n X.x X.b d_Model_layOut_53 rfl (lv_at hl 2 rfl) ?_
          refine m_get (v := .int 2) X ok_Model hM.1 5 (by decide) k_Model_132 (congrArg (fun z => some (Value.int z)) (show p_8 5 = 2 from (by rw [ep_8, upd_mi _ _ _ (show 5 ≠ 7 by decide), hp_6 5 (by decide), ep_3, upd_mi _ _ _ (show 5 ≠ 7 by decide), hw5]))) d_Model_layOut_54 ?_
          refine lv_icmp_ge (tgt := 110) X.x X.b d_Model_layOut_57 (by decide) (fun c5 => ?_) (fun c5 => ?_)
          · exact absurd c5 c1
          · skip
            have c5q := Int32.not_le.mp c5
            refine lv_aload_n X.x X.b d_Model_layOut_60 rfl (lv_at hl 2 rfl) ?_
            refine lv_iload_n X.x X.b d_Model_layOut_61 rfl (lv_at hl 0 rfl) ?_
            have hR := M_Model_isBranch (k := 0) l g hM (by omega)
            rw [show b2i (s_5 8 0 = 3 ∨ s_5 8 0 = 4) = 1 from b2i_t (by rw [show s_5 8 0 = 3 from (by rw [hs_7 8 (by decide), es_2, updR_mf _ _ _ (show 8 ≠ 23 by decide), es_1, updR_mf _ _ _ (show 8 ≠ 23 by decide), hw8])]; first | decide | simp)] at hR
            refine m_callP X hS hR v_Model_177 hM.1 rfl rfl rfl (Nat.le_of_ble_eq_true rfl) hl.1 d_Model_layOut_62 (by omega) (by decide) ⟨by omega, by omega⟩ (fun locs hS => ?_)
            refine lv_if_eq (tgt := 104) X.x X.b d_Model_layOut_65 (by decide) (fun c6 => ?_) (fun c6 => ?_)
            · exact absurd c6 c4
            · skip
              refine lv_aload_n X.x X.b d_Model_layOut_68 rfl (lv_at hl 2 rfl) ?_
              refine m_get (v := .ref (mo + 18)) X ok_Model hM.1 23 (by decide) k_Model_61 rfl d_Model_layOut_69 ?_
              refine lv_iload_n X.x X.b d_Model_layOut_72 rfl (lv_at hl 0 rfl) ?_
              refine m_zld (v := 0) X hM.a23 0 rfl (by omega) (by decide) (show s_5 23 0 = 0 from (by rw [hs_7 23 (by decide), es_2, updR_mi _ _ _ _ (show (0 : Nat) ≠ 1 by omega), es_1, updR_hit])) d_Model_layOut_73 ?_
              refine lv_if_ne (tgt := 104) X.x X.b d_Model_layOut_74 (by decide) (fun c7 => ?_) (fun c7 => ?_)
              · exact absurd c7 (by decide)
              · skip
                refine lv_aload_n X.x X.b d_Model_layOut_77 rfl (lv_at hl 2 rfl) ?_
                refine lv_iload_n X.x X.b d_Model_layOut_78 rfl (lv_at hl 0 rfl) ?_
                refine m_callP X hS (M_Model_distanceOf l g hM (show s_5 16 0 = -1 from (by rw [hs_7 16 (by decide), es_2, updR_mf _ _ _ (show 16 ≠ 23 by decide), es_1, updR_mf _ _ _ (show 16 ≠ 23 by decide), h16])) (show s_5 17 0 = -1 from (by rw [hs_7 17 (by decide), es_2, updR_mf _ _ _ (show 17 ≠ 23 by decide), es_1, updR_mf _ _ _ (show 17 ≠ 23 by decide), h17]))) v_Model_180 hM.1 rfl rfl rfl (Nat.le_of_ble_eq_true rfl) hl.1 d_Model_layOut_79 (by omega) (by decide) ⟨by omega, by omega⟩ (fun locs hS => ?_)
                refine lv_bipush (v := -8) X.x X.b d_Model_layOut_82 (by decide) ?_
                refine lv_bipush (v := 7) X.x X.b d_Model_layOut_84 (by decide) ?_
                refine m_callSP X hS (M_Model_isIn l g (s_5 11 0 + s_5 18 0 - s_5 19 0 - s_5 14 0 - 1) (-8) 7) s_Model_84 rfl rfl (Nat.le_of_ble_eq_true rfl) hl.1 d_Model_layOut_86 (by omega) (by decide) ⟨by omega, by omega⟩ (fun locs hS => ?_)
                refine lv_if_eq (tgt := 95) X.x X.b d_Model_layOut_89 (by decide) (fun c8 => ?_) (fun c8 => ?_)
                · skip
                  have c8 := b2i_0.mp c8
                  refine lv_aload_n X.x X.b d_Model_layOut_95 rfl (lv_at hl 2 rfl) ?_
                  refine m_get (v := .ref (mo + 18)) X ok_Model hM.1 23 (by decide) k_Model_61 rfl d_Model_layOut_96 ?_
                  refine lv_iload_n X.x X.b d_Model_layOut_99 rfl (lv_at hl 0 rfl) ?_
                  refine lv_iconst (v := 1) X.x X.b d_Model_layOut_100 (by decide) ?_
                  refine m_zst X hS (Or.inl ⟨by omega, by omega⟩) hM.a23 0 rfl (by omega) (by decide) rfl d_Model_layOut_101 (fun H locs hp hcg hS => ?_)
                  have hM := hM.s23 hp hcg
                  obtain ⟨s_9, es_9⟩ : ∃ z, z = updR s_5 23 (upd (s_5 23) 0 1) := ⟨_, rfl⟩
                  rw [← es_9] at hM
                  refine lv_iconst (v := 1) X.x X.b d_Model_layOut_102 (by decide) ?_
                  refine lv_istore_n (lv' := [(1, .int 1), (2, .int 0), (0, .ref mo)]) X.x X.b d_Model_layOut_103 rfl hl (by decide) rfl (fun ls hl => ?_)
                  refine lv_iinc (v := 1) (lv' := [(2, .int 1), (1, .int 1), (0, .ref mo)]) X.x X.b d_Model_layOut_104 hl (k := 1) rfl (by decide) (by decide) rfl (fun ls hl => ?_)
                  refine lv_goto (tgt := 52) X.x X.b d_Model_layOut_107 (by decide) ?_
                  refine lv_iload_n X.x X.b d_Model_layOut_52 rfl (lv_at hl 0 rfl) ?_
                  refine lv_aload_n X.x X.b d_Model_layOut_53 rfl (lv_at hl 2 rfl) ?_
                  refine m_get (v := .int 2) X ok_Model hM.1 5 (by decide) k_Model_132 (congrArg (fun z => some (Value.int z)) (show p_8 5 = 2 from (by rw [ep_8, upd_mi _ _ _ (show 5 ≠ 7 by decide), hp_6 5 (by decide), ep_3, upd_mi _ _ _ (show 5 ≠ 7 by decide), hw5]))) d_Model_layOut_54 ?_
                  refine lv_icmp_ge (tgt := 110) X.x X.b d_Model_layOut_57 (by decide) (fun c9 => ?_) (fun c9 => ?_)
                  · exact absurd c9 c2
                  · skip
                    have c9q := Int32.not_le.mp c9
                    refine lv_aload_n X.x X.b d_Model_layOut_60 rfl (lv_at hl 2 rfl) ?_
                    refine lv_iload_n X.x X.b d_Model_layOut_61 rfl (lv_at hl 0 rfl) ?_
                    have hR := M_Model_isBranch (k := 1) l g hM (by omega)
                    rw [show b2i (s_9 8 1 = 3 ∨ s_9 8 1 = 4) = 0 from b2i_f (by rw [show s_9 8 1 = 6 from (by rw [es_9, updR_mf _ _ _ (show 8 ≠ 23 by decide), hs_7 8 (by decide), es_2, updR_mf _ _ _ (show 8 ≠ 23 by decide), es_1, updR_mf _ _ _ (show 8 ≠ 23 by decide), hw81])]; first | decide | simp)] at hR
                    refine m_callP X hS hR v_Model_177 hM.1 rfl rfl rfl (Nat.le_of_ble_eq_true rfl) hl.1 d_Model_layOut_62 (by omega) (by decide) ⟨by omega, by omega⟩ (fun locs hS => ?_)
                    refine lv_if_eq (tgt := 104) X.x X.b d_Model_layOut_65 (by decide) (fun c10 => ?_) (fun c10 => ?_)
                    · skip
                      refine lv_iinc (v := 2) (lv' := [(2, .int 2), (1, .int 1), (0, .ref mo)]) X.x X.b d_Model_layOut_104 hl (k := 0) rfl (by decide) (by decide) rfl (fun ls hl => ?_)
                      refine lv_goto (tgt := 52) X.x X.b d_Model_layOut_107 (by decide) ?_
                      refine lv_iload_n X.x X.b d_Model_layOut_52 rfl (lv_at hl 0 rfl) ?_
                      refine lv_aload_n X.x X.b d_Model_layOut_53 rfl (lv_at hl 2 rfl) ?_
                      refine m_get (v := .int 2) X ok_Model hM.1 5 (by decide) k_Model_132 (congrArg (fun z => some (Value.int z)) (show p_8 5 = 2 from (by rw [ep_8, upd_mi _ _ _ (show 5 ≠ 7 by decide), hp_6 5 (by decide), ep_3, upd_mi _ _ _ (show 5 ≠ 7 by decide), hw5]))) d_Model_layOut_54 ?_
                      refine lv_icmp_ge (tgt := 110) X.x X.b d_Model_layOut_57 (by decide) (fun c11 => ?_) (fun c11 => ?_)
                      · skip
                        have c11q := Int32.not_lt.mpr c11
                        refine lv_goto (tgt := 30) X.x X.b d_Model_layOut_110 (by decide) ?_
                        refine lv_iload_n X.x X.b d_Model_layOut_30 rfl (lv_at hl 1 rfl) ?_
                        refine lv_if_eq (tgt := 113) X.x X.b d_Model_layOut_31 (by decide) (fun c12 => ?_) (fun c12 => ?_)
                        · exact absurd c12 c6
                        · skip
                          refine lv_aload_n X.x X.b d_Model_layOut_34 rfl (lv_at hl 2 rfl) ?_
                          have hn7 : ∀ k, k < 2 → s_9 8 k = 7 → ¬ s_9 11 k = 0 := fun k hk => by rcases (show k = 0 ∨ k = 1 by omega) with rfl | rfl; exact (fun z => absurd ((show s_9 8 0 = 3 from (by rw [es_9, updR_mf _ _ _ (show 8 ≠ 23 by decide), hs_7 8 (by decide), es_2, updR_mf _ _ _ (show 8 ≠ 23 by decide), es_1, updR_mf _ _ _ (show 8 ≠ 23 by decide), hw8])).symm.trans z) (by decide)); exact (fun z => absurd ((show s_9 8 1 = 6 from (by rw [es_9, updR_mf _ _ _ (show 8 ≠ 23 by decide), hs_7 8 (by decide), es_2, updR_mf _ _ _ (show 8 ≠ 23 by decide), es_1, updR_mf _ _ _ (show 8 ≠ 23 by decide), hw81])).symm.trans z) (by decide))
                          have hR := M_Model_place_w (c := 2) l g hM (show p_8 5 = 2 from (by rw [ep_8, upd_mi _ _ _ (show 5 ≠ 7 by decide), hp_6 5 (by decide), ep_3, upd_mi _ _ _ (show 5 ≠ 7 by decide), hw5])) (by omega) hn7
                          refine m_callM X hS hR v_Model_174 hM.1 rfl rfl rfl (Nat.le_of_ble_eq_true rfl) hl.1 d_Model_layOut_35 (by omega) (by decide) ⟨by omega, by omega⟩ (fun q z => by have z : mo ≤ q ∧ q < mo + 23 := z; exact ⟨by omega, by omega⟩) (fun H locs hq hfr hS => ?_)
                          obtain ⟨p_10, s_11, hM, hp_12, hs_13⟩ := hq
                          refine lv_aload_n X.x X.b d_Model_layOut_38 rfl (lv_at hl 2 rfl) ?_
                          refine lv_dup X.x X.b d_Model_layOut_39 rfl ?_
                          refine m_get (v := .int 1) X ok_Model hM.1 7 (by decide) k_Model_171 (congrArg (fun z => some (Value.int z)) (show p_10 7 = 1 from (by rw [hp_12 7 (by decide), ep_8, upd_hit]))) d_Model_layOut_40 ?_
                          refine lv_iconst (v := 1) X.x X.b d_Model_layOut_43 (by decide) ?_
                          refine lv_iadd X.x X.b d_Model_layOut_44 ?_
                          rw [show (1 + 1 : Int32) = 2 from by decide]
                          refine m_put X ok_Model hS (Or.inl ⟨by omega, by omega⟩) hM.1 7 (by decide) k_Model_171 rfl (ok_Model.2.2.1 _ (by decide)) rfl rfl (Nat.le_of_ble_eq_true rfl) d_Model_layOut_45 (fun H locs hp hcg hS => ?_)
                          have hM := hM.f7 hp hcg
                          obtain ⟨p_14, ep_14⟩ : ∃ z, z = upd p_10 7 2 := ⟨_, rfl⟩
                          rw [← ep_14] at hM
                          refine lv_iconst (v := 0) X.x X.b d_Model_layOut_48 (by decide) ?_
                          refine lv_istore_n (lv' := [(1, .int 0), (2, .int 2), (0, .ref mo)]) X.x X.b d_Model_layOut_49 rfl hl (by decide) rfl (fun ls hl => ?_)
                          refine lv_iconst (v := 0) X.x X.b d_Model_layOut_50 (by decide) ?_
                          refine lv_istore_n (lv' := [(2, .int 0), (1, .int 0), (0, .ref mo)]) X.x X.b d_Model_layOut_51 rfl hl (by decide) rfl (fun ls hl => ?_)
                          refine lv_iload_n X.x X.b d_Model_layOut_52 rfl (lv_at hl 0 rfl) ?_
                          refine lv_aload_n X.x X.b d_Model_layOut_53 rfl (lv_at hl 2 rfl) ?_
                          refine m_get (v := .int 2) X ok_Model hM.1 5 (by decide) k_Model_132 (congrArg (fun z => some (Value.int z)) (show p_14 5 = 2 from (by rw [ep_14, upd_mi _ _ _ (show 5 ≠ 7 by decide), hp_12 5 (by decide), ep_8, upd_mi _ _ _ (show 5 ≠ 7 by decide), hp_6 5 (by decide), ep_3, upd_mi _ _ _ (show 5 ≠ 7 by decide), hw5]))) d_Model_layOut_54 ?_
                          refine lv_icmp_ge (tgt := 110) X.x X.b d_Model_layOut_57 (by decide) (fun c13 => ?_) (fun c13 => ?_)
                          · exact absurd c13 c5
                          · skip
                            have c13q := Int32.not_le.mp c13
                            refine lv_aload_n X.x X.b d_Model_layOut_60 rfl (lv_at hl 2 rfl) ?_
                            refine lv_iload_n X.x X.b d_Model_layOut_61 rfl (lv_at hl 0 rfl) ?_
                            have hR := M_Model_isBranch (k := 0) l g hM (by omega)
                            rw [show b2i (s_11 8 0 = 3 ∨ s_11 8 0 = 4) = 1 from b2i_t (by rw [show s_11 8 0 = 3 from (by rw [hs_13 8 (by decide), es_9, updR_mf _ _ _ (show 8 ≠ 23 by decide), hs_7 8 (by decide), es_2, updR_mf _ _ _ (show 8 ≠ 23 by decide), es_1, updR_mf _ _ _ (show 8 ≠ 23 by decide), hw8])]; first | decide | simp)] at hR
                            refine m_callP X hS hR v_Model_177 hM.1 rfl rfl rfl (Nat.le_of_ble_eq_true rfl) hl.1 d_Model_layOut_62 (by omega) (by decide) ⟨by omega, by omega⟩ (fun locs hS => ?_)
                            refine lv_if_eq (tgt := 104) X.x X.b d_Model_layOut_65 (by decide) (fun c14 => ?_) (fun c14 => ?_)
                            · exact absurd c14 c12
                            · skip
                              refine lv_aload_n X.x X.b d_Model_layOut_68 rfl (lv_at hl 2 rfl) ?_
                              refine m_get (v := .ref (mo + 18)) X ok_Model hM.1 23 (by decide) k_Model_61 rfl d_Model_layOut_69 ?_
                              refine lv_iload_n X.x X.b d_Model_layOut_72 rfl (lv_at hl 0 rfl) ?_
                              refine m_zld (v := 1) X hM.a23 0 rfl (by omega) (by decide) (show s_11 23 0 = 1 from (by rw [hs_13 23 (by decide), es_9, updR_hit])) d_Model_layOut_73 ?_
                              refine lv_if_ne (tgt := 104) X.x X.b d_Model_layOut_74 (by decide) (fun c15 => ?_) (fun c15 => ?_)
                              · skip
                                refine lv_iinc (v := 1) (lv' := [(2, .int 1), (1, .int 0), (0, .ref mo)]) X.x X.b d_Model_layOut_104 hl (k := 0) rfl (by decide) (by decide) rfl (fun ls hl => ?_)
                                refine lv_goto (tgt := 52) X.x X.b d_Model_layOut_107 (by decide) ?_
                                refine lv_iload_n X.x X.b d_Model_layOut_52 rfl (lv_at hl 0 rfl) ?_
                                refine lv_aload_n X.x X.b d_Model_layOut_53 rfl (lv_at hl 2 rfl) ?_
                                refine m_get (v := .int 2) X ok_Model hM.1 5 (by decide) k_Model_132 (congrArg (fun z => some (Value.int z)) (show p_14 5 = 2 from (by rw [ep_14, upd_mi _ _ _ (show 5 ≠ 7 by decide), hp_12 5 (by decide), ep_8, upd_mi _ _ _ (show 5 ≠ 7 by decide), hp_6 5 (by decide), ep_3, upd_mi _ _ _ (show 5 ≠ 7 by decide), hw5]))) d_Model_layOut_54 ?_
                                refine lv_icmp_ge (tgt := 110) X.x X.b d_Model_layOut_57 (by decide) (fun c16 => ?_) (fun c16 => ?_)
                                · exact absurd c16 c9
                                · skip
                                  have c16q := Int32.not_le.mp c16
                                  refine lv_aload_n X.x X.b d_Model_layOut_60 rfl (lv_at hl 2 rfl) ?_
                                  refine lv_iload_n X.x X.b d_Model_layOut_61 rfl (lv_at hl 0 rfl) ?_
                                  have hR := M_Model_isBranch (k := 1) l g hM (by omega)
                                  rw [show b2i (s_11 8 1 = 3 ∨ s_11 8 1 = 4) = 0 from b2i_f (by rw [show s_11 8 1 = 6 from (by rw [hs_13 8 (by decide), es_9, updR_mf _ _ _ (show 8 ≠ 23 by decide), hs_7 8 (by decide), es_2, updR_mf _ _ _ (show 8 ≠ 23 by decide), es_1, updR_mf _ _ _ (show 8 ≠ 23 by decide), hw81])]; first | decide | simp)] at hR
                                  refine m_callP X hS hR v_Model_177 hM.1 rfl rfl rfl (Nat.le_of_ble_eq_true rfl) hl.1 d_Model_layOut_62 (by omega) (by decide) ⟨by omega, by omega⟩ (fun locs hS => ?_)
                                  refine lv_if_eq (tgt := 104) X.x X.b d_Model_layOut_65 (by decide) (fun c17 => ?_) (fun c17 => ?_)
                                  · skip
                                    refine lv_iinc (v := 2) (lv' := [(2, .int 2), (1, .int 0), (0, .ref mo)]) X.x X.b d_Model_layOut_104 hl (k := 0) rfl (by decide) (by decide) rfl (fun ls hl => ?_)
                                    refine lv_goto (tgt := 52) X.x X.b d_Model_layOut_107 (by decide) ?_
                                    refine lv_iload_n X.x X.b d_Model_layOut_52 rfl (lv_at hl 0 rfl) ?_
                                    refine lv_aload_n X.x X.b d_Model_layOut_53 rfl (lv_at hl 2 rfl) ?_
                                    refine m_get (v := .int 2) X ok_Model hM.1 5 (by decide) k_Model_132 (congrArg (fun z => some (Value.int z)) (show p_14 5 = 2 from (by rw [ep_14, upd_mi _ _ _ (show 5 ≠ 7 by decide), hp_12 5 (by decide), ep_8, upd_mi _ _ _ (show 5 ≠ 7 by decide), hp_6 5 (by decide), ep_3, upd_mi _ _ _ (show 5 ≠ 7 by decide), hw5]))) d_Model_layOut_54 ?_
                                    refine lv_icmp_ge (tgt := 110) X.x X.b d_Model_layOut_57 (by decide) (fun c18 => ?_) (fun c18 => ?_)
                                    · skip
                                      have c18q := Int32.not_lt.mpr c18
                                      refine lv_goto (tgt := 30) X.x X.b d_Model_layOut_110 (by decide) ?_
                                      refine lv_iload_n X.x X.b d_Model_layOut_30 rfl (lv_at hl 1 rfl) ?_
                                      refine lv_if_eq (tgt := 113) X.x X.b d_Model_layOut_31 (by decide) (fun c19 => ?_) (fun c19 => ?_)
                                      · skip
                                        exact m_vret X hS (by omega) (by omega) d_Model_layOut_113 rfl ⟨_, _, hM, (show samP [6, 7] p0 p_14 from (by rw [ep_14]; exact (show samP [6, 7] p0 p_10 from ((show samP [6, 7] p0 p_8 from (by rw [ep_8]; exact (show samP [6, 7] p0 p_4 from ((show samP [6, 7] p0 p_3 from (by rw [ep_3]; exact (samP.rf [6, 7] p0).up _ _ (by decide))).tr hp_6 (by decide))).up _ _ (by decide))).tr hp_12 (by decide))).up _ _ (by decide))), (show same [14, 15, 23] s0 s_11 from ((show same [14, 15, 23] s0 s_9 from (by rw [es_9]; exact (show same [14, 15, 23] s0 s_5 from ((show same [14, 15, 23] s0 s_2 from (by rw [es_2]; exact (show same [14, 15, 23] s0 s_1 from (by rw [es_1]; exact (same.rf [14, 15, 23] s0).up _ _ (by decide))).up _ _ (by decide))).tr hs_7 (by decide))).up _ _ (by decide))).tr hs_13 (by decide)))⟩
                                      · exact absurd c17 c19
                                    · exact absurd c11 c18
                                  · exact absurd c10 c17
                              · exact absurd c15 c14
                      · exact absurd c3 c11
                    · exact absurd c7 c10
                · skip
                  have c8 := b2i_n0 c8
                  refine lv_goto (tgt := 104) X.x X.b d_Model_layOut_92 (by decide) ?_
                  refine lv_iinc (v := 1) (lv' := [(2, .int 1), (1, .int 0), (0, .ref mo)]) X.x X.b d_Model_layOut_104 hl (k := 0) rfl (by decide) (by decide) rfl (fun ls hl => ?_)
                  refine lv_goto (tgt := 52) X.x X.b d_Model_layOut_107 (by decide) ?_
                  refine lv_iload_n X.x X.b d_Model_layOut_52 rfl (lv_at hl 0 rfl) ?_
                  refine lv_aload_n X.x X.b d_Model_layOut_53 rfl (lv_at hl 2 rfl) ?_
                  refine m_get (v := .int 2) X ok_Model hM.1 5 (by decide) k_Model_132 (congrArg (fun z => some (Value.int z)) (show p_8 5 = 2 from (by rw [ep_8, upd_mi _ _ _ (show 5 ≠ 7 by decide), hp_6 5 (by decide), ep_3, upd_mi _ _ _ (show 5 ≠ 7 by decide), hw5]))) d_Model_layOut_54 ?_
                  refine lv_icmp_ge (tgt := 110) X.x X.b d_Model_layOut_57 (by decide) (fun c20 => ?_) (fun c20 => ?_)
                  · exact absurd c20 c2
                  · skip
                    have c20q := Int32.not_le.mp c20
                    refine lv_aload_n X.x X.b d_Model_layOut_60 rfl (lv_at hl 2 rfl) ?_
                    refine lv_iload_n X.x X.b d_Model_layOut_61 rfl (lv_at hl 0 rfl) ?_
                    have hR := M_Model_isBranch (k := 1) l g hM (by omega)
                    rw [show b2i (s_5 8 1 = 3 ∨ s_5 8 1 = 4) = 0 from b2i_f (by rw [show s_5 8 1 = 6 from (by rw [hs_7 8 (by decide), es_2, updR_mf _ _ _ (show 8 ≠ 23 by decide), es_1, updR_mf _ _ _ (show 8 ≠ 23 by decide), hw81])]; first | decide | simp)] at hR
                    refine m_callP X hS hR v_Model_177 hM.1 rfl rfl rfl (Nat.le_of_ble_eq_true rfl) hl.1 d_Model_layOut_62 (by omega) (by decide) ⟨by omega, by omega⟩ (fun locs hS => ?_)
                    refine lv_if_eq (tgt := 104) X.x X.b d_Model_layOut_65 (by decide) (fun c21 => ?_) (fun c21 => ?_)
                    · skip
                      refine lv_iinc (v := 2) (lv' := [(2, .int 2), (1, .int 0), (0, .ref mo)]) X.x X.b d_Model_layOut_104 hl (k := 0) rfl (by decide) (by decide) rfl (fun ls hl => ?_)
                      refine lv_goto (tgt := 52) X.x X.b d_Model_layOut_107 (by decide) ?_
                      refine lv_iload_n X.x X.b d_Model_layOut_52 rfl (lv_at hl 0 rfl) ?_
                      refine lv_aload_n X.x X.b d_Model_layOut_53 rfl (lv_at hl 2 rfl) ?_
                      refine m_get (v := .int 2) X ok_Model hM.1 5 (by decide) k_Model_132 (congrArg (fun z => some (Value.int z)) (show p_8 5 = 2 from (by rw [ep_8, upd_mi _ _ _ (show 5 ≠ 7 by decide), hp_6 5 (by decide), ep_3, upd_mi _ _ _ (show 5 ≠ 7 by decide), hw5]))) d_Model_layOut_54 ?_
                      refine lv_icmp_ge (tgt := 110) X.x X.b d_Model_layOut_57 (by decide) (fun c22 => ?_) (fun c22 => ?_)
                      · skip
                        have c22q := Int32.not_lt.mpr c22
                        refine lv_goto (tgt := 30) X.x X.b d_Model_layOut_110 (by decide) ?_
                        refine lv_iload_n X.x X.b d_Model_layOut_30 rfl (lv_at hl 1 rfl) ?_
                        refine lv_if_eq (tgt := 113) X.x X.b d_Model_layOut_31 (by decide) (fun c23 => ?_) (fun c23 => ?_)
                        · skip
                          exact m_vret X hS (by omega) (by omega) d_Model_layOut_113 rfl ⟨_, _, hM, (show samP [6, 7] p0 p_8 from (by rw [ep_8]; exact (show samP [6, 7] p0 p_4 from ((show samP [6, 7] p0 p_3 from (by rw [ep_3]; exact (samP.rf [6, 7] p0).up _ _ (by decide))).tr hp_6 (by decide))).up _ _ (by decide))), (show same [14, 15, 23] s0 s_5 from ((show same [14, 15, 23] s0 s_2 from (by rw [es_2]; exact (show same [14, 15, 23] s0 s_1 from (by rw [es_1]; exact (same.rf [14, 15, 23] s0).up _ _ (by decide))).up _ _ (by decide))).tr hs_7 (by decide)))⟩
                        · exact absurd c21 c23
                      · exact absurd c3 c22
                    · exact absurd c7 c21
      · exact absurd c3 (by decide)
set_option maxRecDepth 100000 in
set_option maxHeartbeats 4000000 in
theorem M_Model_layOut_L4 (l : Launch) (g : GG) {mo tq : Nat} {p0 : Nat → Int32} {s0 : Nat → Nat → Int32} {H0 : Heap} (hM : mAt g mo tq p0 s0 H0) (hw : twoI 4 p0 s0) (h16 : s0 16 0 = -1) (h17 : s0 17 0 = -1) : MM l y_Model_layOut c_Model_layOut 3 none 3 0 0 g H0 [.ref mo] (fun q => mo ≤ q ∧ q < mo + 23) (none) (fun H1 => ∃ p s, mAt g mo tq p s H1 ∧ samP [6, 7] p0 p ∧ same [14, 15, 23] s0 s) := by
  refine MM.of (by decide +kernel) (Nat.le_of_ble_eq_true rfl) ?_
  intro p e s m below meth cd X hH ls hl
  have X : CX g p s m _ meth cd c_Model_layOut 3 none R_Model _ := X
  have hl : lv_has ls 3 [(0, .ref mo)] := hl
  have hS : va_S (AA (fun q => mo ≤ q ∧ q < mo + 23) H0) H0 H0 [] := va_S.rf
  have hlt0 := hM.lt
  have htq0 := hM.tq
  obtain ⟨⟨hw3, hw5⟩, hw8, hw81⟩ := hw
  refine lv_iconst (v := 0) X.x X.b d_Model_layOut_0 (by decide) ?_
  refine lv_istore_n (lv' := [(1, .int 0), (0, .ref mo)]) X.x X.b d_Model_layOut_1 rfl hl (by decide) rfl (fun ls hl => ?_)
  refine lv_iload_n X.x X.b d_Model_layOut_2 rfl (lv_at hl 0 rfl) ?_
  refine lv_aload_n X.x X.b d_Model_layOut_3 rfl (lv_at hl 1 rfl) ?_
  refine m_get (v := .int 2) X ok_Model hM.1 5 (by decide) k_Model_132 (congrArg (fun z => some (Value.int z)) (show p0 5 = 2 from (by rw [hw5]))) d_Model_layOut_4 ?_
  refine lv_icmp_ge (tgt := 23) X.x X.b d_Model_layOut_7 (by decide) (fun c1 => ?_) (fun c1 => ?_)
  · exact absurd c1 (by decide)
  · skip
    have c1q := Int32.not_le.mp c1
    refine lv_aload_n X.x X.b d_Model_layOut_10 rfl (lv_at hl 1 rfl) ?_
    refine m_get (v := .ref (mo + 18)) X ok_Model hM.1 23 (by decide) k_Model_61 rfl d_Model_layOut_11 ?_
    refine lv_iload_n X.x X.b d_Model_layOut_14 rfl (lv_at hl 0 rfl) ?_
    refine lv_iconst (v := 0) X.x X.b d_Model_layOut_15 (by decide) ?_
    refine m_zst X hS (Or.inl ⟨by omega, by omega⟩) hM.a23 0 rfl (by omega) (by decide) rfl d_Model_layOut_16 (fun H locs hp hcg hS => ?_)
    have hM := hM.s23 hp hcg
    obtain ⟨s_1, es_1⟩ : ∃ z, z = updR s0 23 (upd (s0 23) 0 0) := ⟨_, rfl⟩
    rw [← es_1] at hM
    refine lv_iinc (v := 1) (lv' := [(1, .int 1), (0, .ref mo)]) X.x X.b d_Model_layOut_17 hl (k := 0) rfl (by decide) (by decide) rfl (fun ls hl => ?_)
    refine lv_goto (tgt := 2) X.x X.b d_Model_layOut_20 (by decide) ?_
    refine lv_iload_n X.x X.b d_Model_layOut_2 rfl (lv_at hl 0 rfl) ?_
    refine lv_aload_n X.x X.b d_Model_layOut_3 rfl (lv_at hl 1 rfl) ?_
    refine m_get (v := .int 2) X ok_Model hM.1 5 (by decide) k_Model_132 (congrArg (fun z => some (Value.int z)) (show p0 5 = 2 from (by rw [hw5]))) d_Model_layOut_4 ?_
    refine lv_icmp_ge (tgt := 23) X.x X.b d_Model_layOut_7 (by decide) (fun c2 => ?_) (fun c2 => ?_)
    · exact absurd c2 (by decide)
    · skip
      have c2q := Int32.not_le.mp c2
      refine lv_aload_n X.x X.b d_Model_layOut_10 rfl (lv_at hl 1 rfl) ?_
      refine m_get (v := .ref (mo + 18)) X ok_Model hM.1 23 (by decide) k_Model_61 rfl d_Model_layOut_11 ?_
      refine lv_iload_n X.x X.b d_Model_layOut_14 rfl (lv_at hl 0 rfl) ?_
      refine lv_iconst (v := 0) X.x X.b d_Model_layOut_15 (by decide) ?_
      refine m_zst X hS (Or.inl ⟨by omega, by omega⟩) hM.a23 1 rfl (by omega) (by decide) rfl d_Model_layOut_16 (fun H locs hp hcg hS => ?_)
      have hM := hM.s23 hp hcg
      obtain ⟨s_2, es_2⟩ : ∃ z, z = updR s_1 23 (upd (s_1 23) 1 0) := ⟨_, rfl⟩
      rw [← es_2] at hM
      refine lv_iinc (v := 2) (lv' := [(1, .int 2), (0, .ref mo)]) X.x X.b d_Model_layOut_17 hl (k := 0) rfl (by decide) (by decide) rfl (fun ls hl => ?_)
      refine lv_goto (tgt := 2) X.x X.b d_Model_layOut_20 (by decide) ?_
      refine lv_iload_n X.x X.b d_Model_layOut_2 rfl (lv_at hl 0 rfl) ?_
      refine lv_aload_n X.x X.b d_Model_layOut_3 rfl (lv_at hl 1 rfl) ?_
      refine m_get (v := .int 2) X ok_Model hM.1 5 (by decide) k_Model_132 (congrArg (fun z => some (Value.int z)) (show p0 5 = 2 from (by rw [hw5]))) d_Model_layOut_4 ?_
      refine lv_icmp_ge (tgt := 23) X.x X.b d_Model_layOut_7 (by decide) (fun c3 => ?_) (fun c3 => ?_)
      · skip
        have c3q := Int32.not_lt.mpr c3
        refine lv_aload_n X.x X.b d_Model_layOut_23 rfl (lv_at hl 1 rfl) ?_
        refine lv_iconst (v := 0) X.x X.b d_Model_layOut_24 (by decide) ?_
        refine m_put X ok_Model hS (Or.inl ⟨by omega, by omega⟩) hM.1 7 (by decide) k_Model_171 rfl (ok_Model.2.2.1 _ (by decide)) rfl rfl (Nat.le_of_ble_eq_true rfl) d_Model_layOut_25 (fun H locs hp hcg hS => ?_)
        have hM := hM.f7 hp hcg
        obtain ⟨p_3, ep_3⟩ : ∃ z, z = upd p0 7 0 := ⟨_, rfl⟩
        rw [← ep_3] at hM
        refine lv_iconst (v := 1) X.x X.b d_Model_layOut_28 (by decide) ?_
        refine lv_istore_n (lv' := [(1, .int 1), (0, .ref mo)]) X.x X.b d_Model_layOut_29 rfl hl (by decide) rfl (fun ls hl => ?_)
        refine lv_iload_n X.x X.b d_Model_layOut_30 rfl (lv_at hl 0 rfl) ?_
        refine lv_if_eq (tgt := 113) X.x X.b d_Model_layOut_31 (by decide) (fun c4 => ?_) (fun c4 => ?_)
        · exact absurd c4 (by decide)
        · skip
          refine lv_aload_n X.x X.b d_Model_layOut_34 rfl (lv_at hl 1 rfl) ?_
          have hn7 : ∀ k, k < 2 → s_2 8 k = 7 → ¬ s_2 11 k = 0 := fun k hk => by rcases (show k = 0 ∨ k = 1 by omega) with rfl | rfl; exact (fun z => absurd ((show s_2 8 0 = 4 from (by rw [es_2, updR_mf _ _ _ (show 8 ≠ 23 by decide), es_1, updR_mf _ _ _ (show 8 ≠ 23 by decide), hw8])).symm.trans z) (by decide)); exact (fun z => absurd ((show s_2 8 1 = 6 from (by rw [es_2, updR_mf _ _ _ (show 8 ≠ 23 by decide), es_1, updR_mf _ _ _ (show 8 ≠ 23 by decide), hw81])).symm.trans z) (by decide))
          have hR := M_Model_place_w (c := 2) l g hM (show p_3 5 = 2 from (by rw [ep_3, upd_mi _ _ _ (show 5 ≠ 7 by decide), hw5])) (by omega) hn7
          refine m_callM X hS hR v_Model_174 hM.1 rfl rfl rfl (Nat.le_of_ble_eq_true rfl) hl.1 d_Model_layOut_35 (by omega) (by decide) ⟨by omega, by omega⟩ (fun q z => by have z : mo ≤ q ∧ q < mo + 23 := z; exact ⟨by omega, by omega⟩) (fun H locs hq hfr hS => ?_)
          obtain ⟨p_4, s_5, hM, hp_6, hs_7⟩ := hq
          refine lv_aload_n X.x X.b d_Model_layOut_38 rfl (lv_at hl 1 rfl) ?_
          refine lv_dup X.x X.b d_Model_layOut_39 rfl ?_
          refine m_get (v := .int 0) X ok_Model hM.1 7 (by decide) k_Model_171 (congrArg (fun z => some (Value.int z)) (show p_4 7 = 0 from (by rw [hp_6 7 (by decide), ep_3, upd_hit]))) d_Model_layOut_40 ?_
          refine lv_iconst (v := 1) X.x X.b d_Model_layOut_43 (by decide) ?_
          refine lv_iadd X.x X.b d_Model_layOut_44 ?_
          rw [show (0 + 1 : Int32) = 1 from by decide]
          refine m_put X ok_Model hS (Or.inl ⟨by omega, by omega⟩) hM.1 7 (by decide) k_Model_171 rfl (ok_Model.2.2.1 _ (by decide)) rfl rfl (Nat.le_of_ble_eq_true rfl) d_Model_layOut_45 (fun H locs hp hcg hS => ?_)
          have hM := hM.f7 hp hcg
          obtain ⟨p_8, ep_8⟩ : ∃ z, z = upd p_4 7 1 := ⟨_, rfl⟩
          rw [← ep_8] at hM
          refine lv_iconst (v := 0) X.x X.b d_Model_layOut_48 (by decide) ?_
          refine lv_istore_n (lv' := [(1, .int 0), (0, .ref mo)]) X.x X.b d_Model_layOut_49 rfl hl (by decide) rfl (fun ls hl => ?_)
          refine lv_iconst (v := 0) X.x X.b d_Model_layOut_50 (by decide) ?_
          refine lv_istore_n (lv' := [(2, .int 0), (1, .int 0), (0, .ref mo)]) X.x X.b d_Model_layOut_51 rfl hl (by decide) rfl (fun ls hl => ?_)
          refine lv_iload_n X.x X.b d_Model_layOut_52 rfl (lv_at hl 0 rfl) ?_
          refine lv_aload_n X.x X.b d_Model_layOut_53 rfl (lv_at hl 2 rfl) ?_
          refine m_get (v := .int 2) X ok_Model hM.1 5 (by decide) k_Model_132 (congrArg (fun z => some (Value.int z)) (show p_8 5 = 2 from (by rw [ep_8, upd_mi _ _ _ (show 5 ≠ 7 by decide), hp_6 5 (by decide), ep_3, upd_mi _ _ _ (show 5 ≠ 7 by decide), hw5]))) d_Model_layOut_54 ?_
          refine lv_icmp_ge (tgt := 110) X.x X.b d_Model_layOut_57 (by decide) (fun c5 => ?_) (fun c5 => ?_)
          · exact absurd c5 c1
          · skip
            have c5q := Int32.not_le.mp c5
            refine lv_aload_n X.x X.b d_Model_layOut_60 rfl (lv_at hl 2 rfl) ?_
            refine lv_iload_n X.x X.b d_Model_layOut_61 rfl (lv_at hl 0 rfl) ?_
            have hR := M_Model_isBranch (k := 0) l g hM (by omega)
            rw [show b2i (s_5 8 0 = 3 ∨ s_5 8 0 = 4) = 1 from b2i_t (by rw [show s_5 8 0 = 4 from (by rw [hs_7 8 (by decide), es_2, updR_mf _ _ _ (show 8 ≠ 23 by decide), es_1, updR_mf _ _ _ (show 8 ≠ 23 by decide), hw8])]; first | decide | simp)] at hR
            refine m_callP X hS hR v_Model_177 hM.1 rfl rfl rfl (Nat.le_of_ble_eq_true rfl) hl.1 d_Model_layOut_62 (by omega) (by decide) ⟨by omega, by omega⟩ (fun locs hS => ?_)
            refine lv_if_eq (tgt := 104) X.x X.b d_Model_layOut_65 (by decide) (fun c6 => ?_) (fun c6 => ?_)
            · exact absurd c6 c4
            · skip
              refine lv_aload_n X.x X.b d_Model_layOut_68 rfl (lv_at hl 2 rfl) ?_
              refine m_get (v := .ref (mo + 18)) X ok_Model hM.1 23 (by decide) k_Model_61 rfl d_Model_layOut_69 ?_
              refine lv_iload_n X.x X.b d_Model_layOut_72 rfl (lv_at hl 0 rfl) ?_
              refine m_zld (v := 0) X hM.a23 0 rfl (by omega) (by decide) (show s_5 23 0 = 0 from (by rw [hs_7 23 (by decide), es_2, updR_mi _ _ _ _ (show (0 : Nat) ≠ 1 by omega), es_1, updR_hit])) d_Model_layOut_73 ?_
              refine lv_if_ne (tgt := 104) X.x X.b d_Model_layOut_74 (by decide) (fun c7 => ?_) (fun c7 => ?_)
              · exact absurd c7 (by decide)
              · skip
                refine lv_aload_n X.x X.b d_Model_layOut_77 rfl (lv_at hl 2 rfl) ?_
                refine lv_iload_n X.x X.b d_Model_layOut_78 rfl (lv_at hl 0 rfl) ?_
                refine m_callP X hS (M_Model_distanceOf l g hM (show s_5 16 0 = -1 from (by rw [hs_7 16 (by decide), es_2, updR_mf _ _ _ (show 16 ≠ 23 by decide), es_1, updR_mf _ _ _ (show 16 ≠ 23 by decide), h16])) (show s_5 17 0 = -1 from (by rw [hs_7 17 (by decide), es_2, updR_mf _ _ _ (show 17 ≠ 23 by decide), es_1, updR_mf _ _ _ (show 17 ≠ 23 by decide), h17]))) v_Model_180 hM.1 rfl rfl rfl (Nat.le_of_ble_eq_true rfl) hl.1 d_Model_layOut_79 (by omega) (by decide) ⟨by omega, by omega⟩ (fun locs hS => ?_)
                refine lv_bipush (v := -8) X.x X.b d_Model_layOut_82 (by decide) ?_
                refine lv_bipush (v := 7) X.x X.b d_Model_layOut_84 (by decide) ?_
                refine m_callSP X hS (M_Model_isIn l g (s_5 11 0 + s_5 18 0 - s_5 19 0 - s_5 14 0 - 1) (-8) 7) s_Model_84 rfl rfl (Nat.le_of_ble_eq_true rfl) hl.1 d_Model_layOut_86 (by omega) (by decide) ⟨by omega, by omega⟩ (fun locs hS => ?_)
                refine lv_if_eq (tgt := 95) X.x X.b d_Model_layOut_89 (by decide) (fun c8 => ?_) (fun c8 => ?_)
                · skip
                  have c8 := b2i_0.mp c8
                  refine lv_aload_n X.x X.b d_Model_layOut_95 rfl (lv_at hl 2 rfl) ?_
                  refine m_get (v := .ref (mo + 18)) X ok_Model hM.1 23 (by decide) k_Model_61 rfl d_Model_layOut_96 ?_
                  refine lv_iload_n X.x X.b d_Model_layOut_99 rfl (lv_at hl 0 rfl) ?_
                  refine lv_iconst (v := 1) X.x X.b d_Model_layOut_100 (by decide) ?_
                  refine m_zst X hS (Or.inl ⟨by omega, by omega⟩) hM.a23 0 rfl (by omega) (by decide) rfl d_Model_layOut_101 (fun H locs hp hcg hS => ?_)
                  have hM := hM.s23 hp hcg
                  obtain ⟨s_9, es_9⟩ : ∃ z, z = updR s_5 23 (upd (s_5 23) 0 1) := ⟨_, rfl⟩
                  rw [← es_9] at hM
                  refine lv_iconst (v := 1) X.x X.b d_Model_layOut_102 (by decide) ?_
                  refine lv_istore_n (lv' := [(1, .int 1), (2, .int 0), (0, .ref mo)]) X.x X.b d_Model_layOut_103 rfl hl (by decide) rfl (fun ls hl => ?_)
                  refine lv_iinc (v := 1) (lv' := [(2, .int 1), (1, .int 1), (0, .ref mo)]) X.x X.b d_Model_layOut_104 hl (k := 1) rfl (by decide) (by decide) rfl (fun ls hl => ?_)
                  refine lv_goto (tgt := 52) X.x X.b d_Model_layOut_107 (by decide) ?_
                  refine lv_iload_n X.x X.b d_Model_layOut_52 rfl (lv_at hl 0 rfl) ?_
                  refine lv_aload_n X.x X.b d_Model_layOut_53 rfl (lv_at hl 2 rfl) ?_
                  refine m_get (v := .int 2) X ok_Model hM.1 5 (by decide) k_Model_132 (congrArg (fun z => some (Value.int z)) (show p_8 5 = 2 from (by rw [ep_8, upd_mi _ _ _ (show 5 ≠ 7 by decide), hp_6 5 (by decide), ep_3, upd_mi _ _ _ (show 5 ≠ 7 by decide), hw5]))) d_Model_layOut_54 ?_
                  refine lv_icmp_ge (tgt := 110) X.x X.b d_Model_layOut_57 (by decide) (fun c9 => ?_) (fun c9 => ?_)
                  · exact absurd c9 c2
                  · skip
                    have c9q := Int32.not_le.mp c9
                    refine lv_aload_n X.x X.b d_Model_layOut_60 rfl (lv_at hl 2 rfl) ?_
                    refine lv_iload_n X.x X.b d_Model_layOut_61 rfl (lv_at hl 0 rfl) ?_
                    have hR := M_Model_isBranch (k := 1) l g hM (by omega)
                    rw [show b2i (s_9 8 1 = 3 ∨ s_9 8 1 = 4) = 0 from b2i_f (by rw [show s_9 8 1 = 6 from (by rw [es_9, updR_mf _ _ _ (show 8 ≠ 23 by decide), hs_7 8 (by decide), es_2, updR_mf _ _ _ (show 8 ≠ 23 by decide), es_1, updR_mf _ _ _ (show 8 ≠ 23 by decide), hw81])]; first | decide | simp)] at hR
                    refine m_callP X hS hR v_Model_177 hM.1 rfl rfl rfl (Nat.le_of_ble_eq_true rfl) hl.1 d_Model_layOut_62 (by omega) (by decide) ⟨by omega, by omega⟩ (fun locs hS => ?_)
                    refine lv_if_eq (tgt := 104) X.x X.b d_Model_layOut_65 (by decide) (fun c10 => ?_) (fun c10 => ?_)
                    · skip
                      refine lv_iinc (v := 2) (lv' := [(2, .int 2), (1, .int 1), (0, .ref mo)]) X.x X.b d_Model_layOut_104 hl (k := 0) rfl (by decide) (by decide) rfl (fun ls hl => ?_)
                      refine lv_goto (tgt := 52) X.x X.b d_Model_layOut_107 (by decide) ?_
                      refine lv_iload_n X.x X.b d_Model_layOut_52 rfl (lv_at hl 0 rfl) ?_
                      refine lv_aload_n X.x X.b d_Model_layOut_53 rfl (lv_at hl 2 rfl) ?_
                      refine m_get (v := .int 2) X ok_Model hM.1 5 (by decide) k_Model_132 (congrArg (fun z => some (Value.int z)) (show p_8 5 = 2 from (by rw [ep_8, upd_mi _ _ _ (show 5 ≠ 7 by decide), hp_6 5 (by decide), ep_3, upd_mi _ _ _ (show 5 ≠ 7 by decide), hw5]))) d_Model_layOut_54 ?_
                      refine lv_icmp_ge (tgt := 110) X.x X.b d_Model_layOut_57 (by decide) (fun c11 => ?_) (fun c11 => ?_)
                      · skip
                        have c11q := Int32.not_lt.mpr c11
                        refine lv_goto (tgt := 30) X.x X.b d_Model_layOut_110 (by decide) ?_
                        refine lv_iload_n X.x X.b d_Model_layOut_30 rfl (lv_at hl 1 rfl) ?_
                        refine lv_if_eq (tgt := 113) X.x X.b d_Model_layOut_31 (by decide) (fun c12 => ?_) (fun c12 => ?_)
                        · exact absurd c12 c6
                        · skip
                          refine lv_aload_n X.x X.b d_Model_layOut_34 rfl (lv_at hl 2 rfl) ?_
                          have hn7 : ∀ k, k < 2 → s_9 8 k = 7 → ¬ s_9 11 k = 0 := fun k hk => by rcases (show k = 0 ∨ k = 1 by omega) with rfl | rfl; exact (fun z => absurd ((show s_9 8 0 = 4 from (by rw [es_9, updR_mf _ _ _ (show 8 ≠ 23 by decide), hs_7 8 (by decide), es_2, updR_mf _ _ _ (show 8 ≠ 23 by decide), es_1, updR_mf _ _ _ (show 8 ≠ 23 by decide), hw8])).symm.trans z) (by decide)); exact (fun z => absurd ((show s_9 8 1 = 6 from (by rw [es_9, updR_mf _ _ _ (show 8 ≠ 23 by decide), hs_7 8 (by decide), es_2, updR_mf _ _ _ (show 8 ≠ 23 by decide), es_1, updR_mf _ _ _ (show 8 ≠ 23 by decide), hw81])).symm.trans z) (by decide))
                          have hR := M_Model_place_w (c := 2) l g hM (show p_8 5 = 2 from (by rw [ep_8, upd_mi _ _ _ (show 5 ≠ 7 by decide), hp_6 5 (by decide), ep_3, upd_mi _ _ _ (show 5 ≠ 7 by decide), hw5])) (by omega) hn7
                          refine m_callM X hS hR v_Model_174 hM.1 rfl rfl rfl (Nat.le_of_ble_eq_true rfl) hl.1 d_Model_layOut_35 (by omega) (by decide) ⟨by omega, by omega⟩ (fun q z => by have z : mo ≤ q ∧ q < mo + 23 := z; exact ⟨by omega, by omega⟩) (fun H locs hq hfr hS => ?_)
                          obtain ⟨p_10, s_11, hM, hp_12, hs_13⟩ := hq
                          refine lv_aload_n X.x X.b d_Model_layOut_38 rfl (lv_at hl 2 rfl) ?_
                          refine lv_dup X.x X.b d_Model_layOut_39 rfl ?_
                          refine m_get (v := .int 1) X ok_Model hM.1 7 (by decide) k_Model_171 (congrArg (fun z => some (Value.int z)) (show p_10 7 = 1 from (by rw [hp_12 7 (by decide), ep_8, upd_hit]))) d_Model_layOut_40 ?_
                          refine lv_iconst (v := 1) X.x X.b d_Model_layOut_43 (by decide) ?_
                          refine lv_iadd X.x X.b d_Model_layOut_44 ?_
                          rw [show (1 + 1 : Int32) = 2 from by decide]
                          refine m_put X ok_Model hS (Or.inl ⟨by omega, by omega⟩) hM.1 7 (by decide) k_Model_171 rfl (ok_Model.2.2.1 _ (by decide)) rfl rfl (Nat.le_of_ble_eq_true rfl) d_Model_layOut_45 (fun H locs hp hcg hS => ?_)
                          have hM := hM.f7 hp hcg
                          obtain ⟨p_14, ep_14⟩ : ∃ z, z = upd p_10 7 2 := ⟨_, rfl⟩
                          rw [← ep_14] at hM
                          refine lv_iconst (v := 0) X.x X.b d_Model_layOut_48 (by decide) ?_
                          refine lv_istore_n (lv' := [(1, .int 0), (2, .int 2), (0, .ref mo)]) X.x X.b d_Model_layOut_49 rfl hl (by decide) rfl (fun ls hl => ?_)
                          refine lv_iconst (v := 0) X.x X.b d_Model_layOut_50 (by decide) ?_
                          refine lv_istore_n (lv' := [(2, .int 0), (1, .int 0), (0, .ref mo)]) X.x X.b d_Model_layOut_51 rfl hl (by decide) rfl (fun ls hl => ?_)
                          refine lv_iload_n X.x X.b d_Model_layOut_52 rfl (lv_at hl 0 rfl) ?_
                          refine lv_aload_n X.x X.b d_Model_layOut_53 rfl (lv_at hl 2 rfl) ?_
                          refine m_get (v := .int 2) X ok_Model hM.1 5 (by decide) k_Model_132 (congrArg (fun z => some (Value.int z)) (show p_14 5 = 2 from (by rw [ep_14, upd_mi _ _ _ (show 5 ≠ 7 by decide), hp_12 5 (by decide), ep_8, upd_mi _ _ _ (show 5 ≠ 7 by decide), hp_6 5 (by decide), ep_3, upd_mi _ _ _ (show 5 ≠ 7 by decide), hw5]))) d_Model_layOut_54 ?_
                          refine lv_icmp_ge (tgt := 110) X.x X.b d_Model_layOut_57 (by decide) (fun c13 => ?_) (fun c13 => ?_)
                          · exact absurd c13 c5
                          · skip
                            have c13q := Int32.not_le.mp c13
                            refine lv_aload_n X.x X.b d_Model_layOut_60 rfl (lv_at hl 2 rfl) ?_
                            refine lv_iload_n X.x X.b d_Model_layOut_61 rfl (lv_at hl 0 rfl) ?_
                            have hR := M_Model_isBranch (k := 0) l g hM (by omega)
                            rw [show b2i (s_11 8 0 = 3 ∨ s_11 8 0 = 4) = 1 from b2i_t (by rw [show s_11 8 0 = 4 from (by rw [hs_13 8 (by decide), es_9, updR_mf _ _ _ (show 8 ≠ 23 by decide), hs_7 8 (by decide), es_2, updR_mf _ _ _ (show 8 ≠ 23 by decide), es_1, updR_mf _ _ _ (show 8 ≠ 23 by decide), hw8])]; first | decide | simp)] at hR
                            refine m_callP X hS hR v_Model_177 hM.1 rfl rfl rfl (Nat.le_of_ble_eq_true rfl) hl.1 d_Model_layOut_62 (by omega) (by decide) ⟨by omega, by omega⟩ (fun locs hS => ?_)
                            refine lv_if_eq (tgt := 104) X.x X.b d_Model_layOut_65 (by decide) (fun c14 => ?_) (fun c14 => ?_)
                            · exact absurd c14 c12
                            · skip
                              refine lv_aload_n X.x X.b d_Model_layOut_68 rfl (lv_at hl 2 rfl) ?_
                              refine m_get (v := .ref (mo + 18)) X ok_Model hM.1 23 (by decide) k_Model_61 rfl d_Model_layOut_69 ?_
                              refine lv_iload_n X.x X.b d_Model_layOut_72 rfl (lv_at hl 0 rfl) ?_
                              refine m_zld (v := 1) X hM.a23 0 rfl (by omega) (by decide) (show s_11 23 0 = 1 from (by rw [hs_13 23 (by decide), es_9, updR_hit])) d_Model_layOut_73 ?_
                              refine lv_if_ne (tgt := 104) X.x X.b d_Model_layOut_74 (by decide) (fun c15 => ?_) (fun c15 => ?_)
                              · skip
                                refine lv_iinc (v := 1) (lv' := [(2, .int 1), (1, .int 0), (0, .ref mo)]) X.x X.b d_Model_layOut_104 hl (k := 0) rfl (by decide) (by decide) rfl (fun ls hl => ?_)
                                refine lv_goto (tgt := 52) X.x X.b d_Model_layOut_107 (by decide) ?_
                                refine lv_iload_n X.x X.b d_Model_layOut_52 rfl (lv_at hl 0 rfl) ?_
                                refine lv_aload_n X.x X.b d_Model_layOut_53 rfl (lv_at hl 2 rfl) ?_
                                refine m_get (v := .int 2) X ok_Model hM.1 5 (by decide) k_Model_132 (congrArg (fun z => some (Value.int z)) (show p_14 5 = 2 from (by rw [ep_14, upd_mi _ _ _ (show 5 ≠ 7 by decide), hp_12 5 (by decide), ep_8, upd_mi _ _ _ (show 5 ≠ 7 by decide), hp_6 5 (by decide), ep_3, upd_mi _ _ _ (show 5 ≠ 7 by decide), hw5]))) d_Model_layOut_54 ?_
                                refine lv_icmp_ge (tgt := 110) X.x X.b d_Model_layOut_57 (by decide) (fun c16 => ?_) (fun c16 => ?_)
                                · exact absurd c16 c9
                                · skip
                                  have c16q := Int32.not_le.mp c16
                                  refine lv_aload_n X.x X.b d_Model_layOut_60 rfl (lv_at hl 2 rfl) ?_
                                  refine lv_iload_n X.x X.b d_Model_layOut_61 rfl (lv_at hl 0 rfl) ?_
                                  have hR := M_Model_isBranch (k := 1) l g hM (by omega)
                                  rw [show b2i (s_11 8 1 = 3 ∨ s_11 8 1 = 4) = 0 from b2i_f (by rw [show s_11 8 1 = 6 from (by rw [hs_13 8 (by decide), es_9, updR_mf _ _ _ (show 8 ≠ 23 by decide), hs_7 8 (by decide), es_2, updR_mf _ _ _ (show 8 ≠ 23 by decide), es_1, updR_mf _ _ _ (show 8 ≠ 23 by decide), hw81])]; first | decide | simp)] at hR
                                  refine m_callP X hS hR v_Model_177 hM.1 rfl rfl rfl (Nat.le_of_ble_eq_true rfl) hl.1 d_Model_layOut_62 (by omega) (by decide) ⟨by omega, by omega⟩ (fun locs hS => ?_)
                                  refine lv_if_eq (tgt := 104) X.x X.b d_Model_layOut_65 (by decide) (fun c17 => ?_) (fun c17 => ?_)
                                  · skip
                                    refine lv_iinc (v := 2) (lv' := [(2, .int 2), (1, .int 0), (0, .ref mo)]) X.x X.b d_Model_layOut_104 hl (k := 0) rfl (by decide) (by decide) rfl (fun ls hl => ?_)
                                    refine lv_goto (tgt := 52) X.x X.b d_Model_layOut_107 (by decide) ?_
                                    refine lv_iload_n X.x X.b d_Model_layOut_52 rfl (lv_at hl 0 rfl) ?_
                                    refine lv_aload_n X.x X.b d_Model_layOut_53 rfl (lv_at hl 2 rfl) ?_
                                    refine m_get (v := .int 2) X ok_Model hM.1 5 (by decide) k_Model_132 (congrArg (fun z => some (Value.int z)) (show p_14 5 = 2 from (by rw [ep_14, upd_mi _ _ _ (show 5 ≠ 7 by decide), hp_12 5 (by decide), ep_8, upd_mi _ _ _ (show 5 ≠ 7 by decide), hp_6 5 (by decide), ep_3, upd_mi _ _ _ (show 5 ≠ 7 by decide), hw5]))) d_Model_layOut_54 ?_
                                    refine lv_icmp_ge (tgt := 110) X.x X.b d_Model_layOut_57 (by decide) (fun c18 => ?_) (fun c18 => ?_)
                                    · skip
                                      have c18q := Int32.not_lt.mpr c18
                                      refine lv_goto (tgt := 30) X.x X.b d_Model_layOut_110 (by decide) ?_
                                      refine lv_iload_n X.x X.b d_Model_layOut_30 rfl (lv_at hl 1 rfl) ?_
                                      refine lv_if_eq (tgt := 113) X.x X.b d_Model_layOut_31 (by decide) (fun c19 => ?_) (fun c19 => ?_)
                                      · skip
                                        exact m_vret X hS (by omega) (by omega) d_Model_layOut_113 rfl ⟨_, _, hM, (show samP [6, 7] p0 p_14 from (by rw [ep_14]; exact (show samP [6, 7] p0 p_10 from ((show samP [6, 7] p0 p_8 from (by rw [ep_8]; exact (show samP [6, 7] p0 p_4 from ((show samP [6, 7] p0 p_3 from (by rw [ep_3]; exact (samP.rf [6, 7] p0).up _ _ (by decide))).tr hp_6 (by decide))).up _ _ (by decide))).tr hp_12 (by decide))).up _ _ (by decide))), (show same [14, 15, 23] s0 s_11 from ((show same [14, 15, 23] s0 s_9 from (by rw [es_9]; exact (show same [14, 15, 23] s0 s_5 from ((show same [14, 15, 23] s0 s_2 from (by rw [es_2]; exact (show same [14, 15, 23] s0 s_1 from (by rw [es_1]; exact (same.rf [14, 15, 23] s0).up _ _ (by decide))).up _ _ (by decide))).tr hs_7 (by decide))).up _ _ (by decide))).tr hs_13 (by decide)))⟩
                                      · exact absurd c17 c19
                                    · exact absurd c11 c18
                                  · exact absurd c10 c17
                              · exact absurd c15 c14
                      · exact absurd c3 c11
                    · exact absurd c7 c10
                · skip
                  have c8 := b2i_n0 c8
                  refine lv_goto (tgt := 104) X.x X.b d_Model_layOut_92 (by decide) ?_
                  refine lv_iinc (v := 1) (lv' := [(2, .int 1), (1, .int 0), (0, .ref mo)]) X.x X.b d_Model_layOut_104 hl (k := 0) rfl (by decide) (by decide) rfl (fun ls hl => ?_)
                  refine lv_goto (tgt := 52) X.x X.b d_Model_layOut_107 (by decide) ?_
                  refine lv_iload_n X.x X.b d_Model_layOut_52 rfl (lv_at hl 0 rfl) ?_
                  refine lv_aload_n X.x X.b d_Model_layOut_53 rfl (lv_at hl 2 rfl) ?_
                  refine m_get (v := .int 2) X ok_Model hM.1 5 (by decide) k_Model_132 (congrArg (fun z => some (Value.int z)) (show p_8 5 = 2 from (by rw [ep_8, upd_mi _ _ _ (show 5 ≠ 7 by decide), hp_6 5 (by decide), ep_3, upd_mi _ _ _ (show 5 ≠ 7 by decide), hw5]))) d_Model_layOut_54 ?_
                  refine lv_icmp_ge (tgt := 110) X.x X.b d_Model_layOut_57 (by decide) (fun c20 => ?_) (fun c20 => ?_)
                  · exact absurd c20 c2
                  · skip
                    have c20q := Int32.not_le.mp c20
                    refine lv_aload_n X.x X.b d_Model_layOut_60 rfl (lv_at hl 2 rfl) ?_
                    refine lv_iload_n X.x X.b d_Model_layOut_61 rfl (lv_at hl 0 rfl) ?_
                    have hR := M_Model_isBranch (k := 1) l g hM (by omega)
                    rw [show b2i (s_5 8 1 = 3 ∨ s_5 8 1 = 4) = 0 from b2i_f (by rw [show s_5 8 1 = 6 from (by rw [hs_7 8 (by decide), es_2, updR_mf _ _ _ (show 8 ≠ 23 by decide), es_1, updR_mf _ _ _ (show 8 ≠ 23 by decide), hw81])]; first | decide | simp)] at hR
                    refine m_callP X hS hR v_Model_177 hM.1 rfl rfl rfl (Nat.le_of_ble_eq_true rfl) hl.1 d_Model_layOut_62 (by omega) (by decide) ⟨by omega, by omega⟩ (fun locs hS => ?_)
                    refine lv_if_eq (tgt := 104) X.x X.b d_Model_layOut_65 (by decide) (fun c21 => ?_) (fun c21 => ?_)
                    · skip
                      refine lv_iinc (v := 2) (lv' := [(2, .int 2), (1, .int 0), (0, .ref mo)]) X.x X.b d_Model_layOut_104 hl (k := 0) rfl (by decide) (by decide) rfl (fun ls hl => ?_)
                      refine lv_goto (tgt := 52) X.x X.b d_Model_layOut_107 (by decide) ?_
                      refine lv_iload_n X.x X.b d_Model_layOut_52 rfl (lv_at hl 0 rfl) ?_
                      refine lv_aload_n X.x X.b d_Model_layOut_53 rfl (lv_at hl 2 rfl) ?_
                      refine m_get (v := .int 2) X ok_Model hM.1 5 (by decide) k_Model_132 (congrArg (fun z => some (Value.int z)) (show p_8 5 = 2 from (by rw [ep_8, upd_mi _ _ _ (show 5 ≠ 7 by decide), hp_6 5 (by decide), ep_3, upd_mi _ _ _ (show 5 ≠ 7 by decide), hw5]))) d_Model_layOut_54 ?_
                      refine lv_icmp_ge (tgt := 110) X.x X.b d_Model_layOut_57 (by decide) (fun c22 => ?_) (fun c22 => ?_)
                      · skip
                        have c22q := Int32.not_lt.mpr c22
                        refine lv_goto (tgt := 30) X.x X.b d_Model_layOut_110 (by decide) ?_
                        refine lv_iload_n X.x X.b d_Model_layOut_30 rfl (lv_at hl 1 rfl) ?_
                        refine lv_if_eq (tgt := 113) X.x X.b d_Model_layOut_31 (by decide) (fun c23 => ?_) (fun c23 => ?_)
                        · skip
                          exact m_vret X hS (by omega) (by omega) d_Model_layOut_113 rfl ⟨_, _, hM, (show samP [6, 7] p0 p_8 from (by rw [ep_8]; exact (show samP [6, 7] p0 p_4 from ((show samP [6, 7] p0 p_3 from (by rw [ep_3]; exact (samP.rf [6, 7] p0).up _ _ (by decide))).tr hp_6 (by decide))).up _ _ (by decide))), (show same [14, 15, 23] s0 s_5 from ((show same [14, 15, 23] s0 s_2 from (by rw [es_2]; exact (show same [14, 15, 23] s0 s_1 from (by rw [es_1]; exact (same.rf [14, 15, 23] s0).up _ _ (by decide))).up _ _ (by decide))).tr hs_7 (by decide)))⟩
                        · exact absurd c21 c23
                      · exact absurd c3 c22
                    · exact absurd c7 c21
      · exact absurd c3 (by decide)
set_option maxRecDepth 100000 in
set_option maxHeartbeats 4000000 in
theorem M_Model_layOut_L5 (l : Launch) (g : GG) {mo tq : Nat} {p0 : Nat → Int32} {s0 : Nat → Nat → Int32} {H0 : Heap} (hM : mAt g mo tq p0 s0 H0) (hw : twoI 5 p0 s0) : MM l y_Model_layOut c_Model_layOut 3 none 3 0 0 g H0 [.ref mo] (fun q => mo ≤ q ∧ q < mo + 23) (none) (fun H1 => ∃ p s, mAt g mo tq p s H1 ∧ samP [6, 7] p0 p ∧ same [14, 15, 23] s0 s) := by
  refine MM.of (by decide +kernel) (Nat.le_of_ble_eq_true rfl) ?_
  intro p e s m below meth cd X hH ls hl
  have X : CX g p s m _ meth cd c_Model_layOut 3 none R_Model _ := X
  have hl : lv_has ls 3 [(0, .ref mo)] := hl
  have hS : va_S (AA (fun q => mo ≤ q ∧ q < mo + 23) H0) H0 H0 [] := va_S.rf
  have hlt0 := hM.lt
  have htq0 := hM.tq
  obtain ⟨⟨hw3, hw5⟩, hw8, hw81⟩ := hw
  refine lv_iconst (v := 0) X.x X.b d_Model_layOut_0 (by decide) ?_
  refine lv_istore_n (lv' := [(1, .int 0), (0, .ref mo)]) X.x X.b d_Model_layOut_1 rfl hl (by decide) rfl (fun ls hl => ?_)
  refine lv_iload_n X.x X.b d_Model_layOut_2 rfl (lv_at hl 0 rfl) ?_
  refine lv_aload_n X.x X.b d_Model_layOut_3 rfl (lv_at hl 1 rfl) ?_
  refine m_get (v := .int 2) X ok_Model hM.1 5 (by decide) k_Model_132 (congrArg (fun z => some (Value.int z)) (show p0 5 = 2 from (by rw [hw5]))) d_Model_layOut_4 ?_
  refine lv_icmp_ge (tgt := 23) X.x X.b d_Model_layOut_7 (by decide) (fun c1 => ?_) (fun c1 => ?_)
  · exact absurd c1 (by decide)
  · skip
    have c1q := Int32.not_le.mp c1
    refine lv_aload_n X.x X.b d_Model_layOut_10 rfl (lv_at hl 1 rfl) ?_
    refine m_get (v := .ref (mo + 18)) X ok_Model hM.1 23 (by decide) k_Model_61 rfl d_Model_layOut_11 ?_
    refine lv_iload_n X.x X.b d_Model_layOut_14 rfl (lv_at hl 0 rfl) ?_
    refine lv_iconst (v := 0) X.x X.b d_Model_layOut_15 (by decide) ?_
    refine m_zst X hS (Or.inl ⟨by omega, by omega⟩) hM.a23 0 rfl (by omega) (by decide) rfl d_Model_layOut_16 (fun H locs hp hcg hS => ?_)
    have hM := hM.s23 hp hcg
    obtain ⟨s_1, es_1⟩ : ∃ z, z = updR s0 23 (upd (s0 23) 0 0) := ⟨_, rfl⟩
    rw [← es_1] at hM
    refine lv_iinc (v := 1) (lv' := [(1, .int 1), (0, .ref mo)]) X.x X.b d_Model_layOut_17 hl (k := 0) rfl (by decide) (by decide) rfl (fun ls hl => ?_)
    refine lv_goto (tgt := 2) X.x X.b d_Model_layOut_20 (by decide) ?_
    refine lv_iload_n X.x X.b d_Model_layOut_2 rfl (lv_at hl 0 rfl) ?_
    refine lv_aload_n X.x X.b d_Model_layOut_3 rfl (lv_at hl 1 rfl) ?_
    refine m_get (v := .int 2) X ok_Model hM.1 5 (by decide) k_Model_132 (congrArg (fun z => some (Value.int z)) (show p0 5 = 2 from (by rw [hw5]))) d_Model_layOut_4 ?_
    refine lv_icmp_ge (tgt := 23) X.x X.b d_Model_layOut_7 (by decide) (fun c2 => ?_) (fun c2 => ?_)
    · exact absurd c2 (by decide)
    · skip
      have c2q := Int32.not_le.mp c2
      refine lv_aload_n X.x X.b d_Model_layOut_10 rfl (lv_at hl 1 rfl) ?_
      refine m_get (v := .ref (mo + 18)) X ok_Model hM.1 23 (by decide) k_Model_61 rfl d_Model_layOut_11 ?_
      refine lv_iload_n X.x X.b d_Model_layOut_14 rfl (lv_at hl 0 rfl) ?_
      refine lv_iconst (v := 0) X.x X.b d_Model_layOut_15 (by decide) ?_
      refine m_zst X hS (Or.inl ⟨by omega, by omega⟩) hM.a23 1 rfl (by omega) (by decide) rfl d_Model_layOut_16 (fun H locs hp hcg hS => ?_)
      have hM := hM.s23 hp hcg
      obtain ⟨s_2, es_2⟩ : ∃ z, z = updR s_1 23 (upd (s_1 23) 1 0) := ⟨_, rfl⟩
      rw [← es_2] at hM
      refine lv_iinc (v := 2) (lv' := [(1, .int 2), (0, .ref mo)]) X.x X.b d_Model_layOut_17 hl (k := 0) rfl (by decide) (by decide) rfl (fun ls hl => ?_)
      refine lv_goto (tgt := 2) X.x X.b d_Model_layOut_20 (by decide) ?_
      refine lv_iload_n X.x X.b d_Model_layOut_2 rfl (lv_at hl 0 rfl) ?_
      refine lv_aload_n X.x X.b d_Model_layOut_3 rfl (lv_at hl 1 rfl) ?_
      refine m_get (v := .int 2) X ok_Model hM.1 5 (by decide) k_Model_132 (congrArg (fun z => some (Value.int z)) (show p0 5 = 2 from (by rw [hw5]))) d_Model_layOut_4 ?_
      refine lv_icmp_ge (tgt := 23) X.x X.b d_Model_layOut_7 (by decide) (fun c3 => ?_) (fun c3 => ?_)
      · skip
        have c3q := Int32.not_lt.mpr c3
        refine lv_aload_n X.x X.b d_Model_layOut_23 rfl (lv_at hl 1 rfl) ?_
        refine lv_iconst (v := 0) X.x X.b d_Model_layOut_24 (by decide) ?_
        refine m_put X ok_Model hS (Or.inl ⟨by omega, by omega⟩) hM.1 7 (by decide) k_Model_171 rfl (ok_Model.2.2.1 _ (by decide)) rfl rfl (Nat.le_of_ble_eq_true rfl) d_Model_layOut_25 (fun H locs hp hcg hS => ?_)
        have hM := hM.f7 hp hcg
        obtain ⟨p_3, ep_3⟩ : ∃ z, z = upd p0 7 0 := ⟨_, rfl⟩
        rw [← ep_3] at hM
        refine lv_iconst (v := 1) X.x X.b d_Model_layOut_28 (by decide) ?_
        refine lv_istore_n (lv' := [(1, .int 1), (0, .ref mo)]) X.x X.b d_Model_layOut_29 rfl hl (by decide) rfl (fun ls hl => ?_)
        refine lv_iload_n X.x X.b d_Model_layOut_30 rfl (lv_at hl 0 rfl) ?_
        refine lv_if_eq (tgt := 113) X.x X.b d_Model_layOut_31 (by decide) (fun c4 => ?_) (fun c4 => ?_)
        · exact absurd c4 (by decide)
        · skip
          refine lv_aload_n X.x X.b d_Model_layOut_34 rfl (lv_at hl 1 rfl) ?_
          have hn7 : ∀ k, k < 2 → s_2 8 k = 7 → ¬ s_2 11 k = 0 := fun k hk => by rcases (show k = 0 ∨ k = 1 by omega) with rfl | rfl; exact (fun z => absurd ((show s_2 8 0 = 5 from (by rw [es_2, updR_mf _ _ _ (show 8 ≠ 23 by decide), es_1, updR_mf _ _ _ (show 8 ≠ 23 by decide), hw8])).symm.trans z) (by decide)); exact (fun z => absurd ((show s_2 8 1 = 6 from (by rw [es_2, updR_mf _ _ _ (show 8 ≠ 23 by decide), es_1, updR_mf _ _ _ (show 8 ≠ 23 by decide), hw81])).symm.trans z) (by decide))
          have hR := M_Model_place_w (c := 2) l g hM (show p_3 5 = 2 from (by rw [ep_3, upd_mi _ _ _ (show 5 ≠ 7 by decide), hw5])) (by omega) hn7
          refine m_callM X hS hR v_Model_174 hM.1 rfl rfl rfl (Nat.le_of_ble_eq_true rfl) hl.1 d_Model_layOut_35 (by omega) (by decide) ⟨by omega, by omega⟩ (fun q z => by have z : mo ≤ q ∧ q < mo + 23 := z; exact ⟨by omega, by omega⟩) (fun H locs hq hfr hS => ?_)
          obtain ⟨p_4, s_5, hM, hp_6, hs_7⟩ := hq
          refine lv_aload_n X.x X.b d_Model_layOut_38 rfl (lv_at hl 1 rfl) ?_
          refine lv_dup X.x X.b d_Model_layOut_39 rfl ?_
          refine m_get (v := .int 0) X ok_Model hM.1 7 (by decide) k_Model_171 (congrArg (fun z => some (Value.int z)) (show p_4 7 = 0 from (by rw [hp_6 7 (by decide), ep_3, upd_hit]))) d_Model_layOut_40 ?_
          refine lv_iconst (v := 1) X.x X.b d_Model_layOut_43 (by decide) ?_
          refine lv_iadd X.x X.b d_Model_layOut_44 ?_
          rw [show (0 + 1 : Int32) = 1 from by decide]
          refine m_put X ok_Model hS (Or.inl ⟨by omega, by omega⟩) hM.1 7 (by decide) k_Model_171 rfl (ok_Model.2.2.1 _ (by decide)) rfl rfl (Nat.le_of_ble_eq_true rfl) d_Model_layOut_45 (fun H locs hp hcg hS => ?_)
          have hM := hM.f7 hp hcg
          obtain ⟨p_8, ep_8⟩ : ∃ z, z = upd p_4 7 1 := ⟨_, rfl⟩
          rw [← ep_8] at hM
          refine lv_iconst (v := 0) X.x X.b d_Model_layOut_48 (by decide) ?_
          refine lv_istore_n (lv' := [(1, .int 0), (0, .ref mo)]) X.x X.b d_Model_layOut_49 rfl hl (by decide) rfl (fun ls hl => ?_)
          refine lv_iconst (v := 0) X.x X.b d_Model_layOut_50 (by decide) ?_
          refine lv_istore_n (lv' := [(2, .int 0), (1, .int 0), (0, .ref mo)]) X.x X.b d_Model_layOut_51 rfl hl (by decide) rfl (fun ls hl => ?_)
          refine lv_iload_n X.x X.b d_Model_layOut_52 rfl (lv_at hl 0 rfl) ?_
          refine lv_aload_n X.x X.b d_Model_layOut_53 rfl (lv_at hl 2 rfl) ?_
          refine m_get (v := .int 2) X ok_Model hM.1 5 (by decide) k_Model_132 (congrArg (fun z => some (Value.int z)) (show p_8 5 = 2 from (by rw [ep_8, upd_mi _ _ _ (show 5 ≠ 7 by decide), hp_6 5 (by decide), ep_3, upd_mi _ _ _ (show 5 ≠ 7 by decide), hw5]))) d_Model_layOut_54 ?_
          refine lv_icmp_ge (tgt := 110) X.x X.b d_Model_layOut_57 (by decide) (fun c5 => ?_) (fun c5 => ?_)
          · exact absurd c5 c1
          · skip
            have c5q := Int32.not_le.mp c5
            refine lv_aload_n X.x X.b d_Model_layOut_60 rfl (lv_at hl 2 rfl) ?_
            refine lv_iload_n X.x X.b d_Model_layOut_61 rfl (lv_at hl 0 rfl) ?_
            have hR := M_Model_isBranch (k := 0) l g hM (by omega)
            rw [show b2i (s_5 8 0 = 3 ∨ s_5 8 0 = 4) = 0 from b2i_f (by rw [show s_5 8 0 = 5 from (by rw [hs_7 8 (by decide), es_2, updR_mf _ _ _ (show 8 ≠ 23 by decide), es_1, updR_mf _ _ _ (show 8 ≠ 23 by decide), hw8])]; first | decide | simp)] at hR
            refine m_callP X hS hR v_Model_177 hM.1 rfl rfl rfl (Nat.le_of_ble_eq_true rfl) hl.1 d_Model_layOut_62 (by omega) (by decide) ⟨by omega, by omega⟩ (fun locs hS => ?_)
            refine lv_if_eq (tgt := 104) X.x X.b d_Model_layOut_65 (by decide) (fun c6 => ?_) (fun c6 => ?_)
            · skip
              refine lv_iinc (v := 1) (lv' := [(2, .int 1), (1, .int 0), (0, .ref mo)]) X.x X.b d_Model_layOut_104 hl (k := 0) rfl (by decide) (by decide) rfl (fun ls hl => ?_)
              refine lv_goto (tgt := 52) X.x X.b d_Model_layOut_107 (by decide) ?_
              refine lv_iload_n X.x X.b d_Model_layOut_52 rfl (lv_at hl 0 rfl) ?_
              refine lv_aload_n X.x X.b d_Model_layOut_53 rfl (lv_at hl 2 rfl) ?_
              refine m_get (v := .int 2) X ok_Model hM.1 5 (by decide) k_Model_132 (congrArg (fun z => some (Value.int z)) (show p_8 5 = 2 from (by rw [ep_8, upd_mi _ _ _ (show 5 ≠ 7 by decide), hp_6 5 (by decide), ep_3, upd_mi _ _ _ (show 5 ≠ 7 by decide), hw5]))) d_Model_layOut_54 ?_
              refine lv_icmp_ge (tgt := 110) X.x X.b d_Model_layOut_57 (by decide) (fun c7 => ?_) (fun c7 => ?_)
              · exact absurd c7 c2
              · skip
                have c7q := Int32.not_le.mp c7
                refine lv_aload_n X.x X.b d_Model_layOut_60 rfl (lv_at hl 2 rfl) ?_
                refine lv_iload_n X.x X.b d_Model_layOut_61 rfl (lv_at hl 0 rfl) ?_
                have hR := M_Model_isBranch (k := 1) l g hM (by omega)
                rw [show b2i (s_5 8 1 = 3 ∨ s_5 8 1 = 4) = 0 from b2i_f (by rw [show s_5 8 1 = 6 from (by rw [hs_7 8 (by decide), es_2, updR_mf _ _ _ (show 8 ≠ 23 by decide), es_1, updR_mf _ _ _ (show 8 ≠ 23 by decide), hw81])]; first | decide | simp)] at hR
                refine m_callP X hS hR v_Model_177 hM.1 rfl rfl rfl (Nat.le_of_ble_eq_true rfl) hl.1 d_Model_layOut_62 (by omega) (by decide) ⟨by omega, by omega⟩ (fun locs hS => ?_)
                refine lv_if_eq (tgt := 104) X.x X.b d_Model_layOut_65 (by decide) (fun c8 => ?_) (fun c8 => ?_)
                · skip
                  refine lv_iinc (v := 2) (lv' := [(2, .int 2), (1, .int 0), (0, .ref mo)]) X.x X.b d_Model_layOut_104 hl (k := 0) rfl (by decide) (by decide) rfl (fun ls hl => ?_)
                  refine lv_goto (tgt := 52) X.x X.b d_Model_layOut_107 (by decide) ?_
                  refine lv_iload_n X.x X.b d_Model_layOut_52 rfl (lv_at hl 0 rfl) ?_
                  refine lv_aload_n X.x X.b d_Model_layOut_53 rfl (lv_at hl 2 rfl) ?_
                  refine m_get (v := .int 2) X ok_Model hM.1 5 (by decide) k_Model_132 (congrArg (fun z => some (Value.int z)) (show p_8 5 = 2 from (by rw [ep_8, upd_mi _ _ _ (show 5 ≠ 7 by decide), hp_6 5 (by decide), ep_3, upd_mi _ _ _ (show 5 ≠ 7 by decide), hw5]))) d_Model_layOut_54 ?_
                  refine lv_icmp_ge (tgt := 110) X.x X.b d_Model_layOut_57 (by decide) (fun c9 => ?_) (fun c9 => ?_)
                  · skip
                    have c9q := Int32.not_lt.mpr c9
                    refine lv_goto (tgt := 30) X.x X.b d_Model_layOut_110 (by decide) ?_
                    refine lv_iload_n X.x X.b d_Model_layOut_30 rfl (lv_at hl 1 rfl) ?_
                    refine lv_if_eq (tgt := 113) X.x X.b d_Model_layOut_31 (by decide) (fun c10 => ?_) (fun c10 => ?_)
                    · skip
                      exact m_vret X hS (by omega) (by omega) d_Model_layOut_113 rfl ⟨_, _, hM, (show samP [6, 7] p0 p_8 from (by rw [ep_8]; exact (show samP [6, 7] p0 p_4 from ((show samP [6, 7] p0 p_3 from (by rw [ep_3]; exact (samP.rf [6, 7] p0).up _ _ (by decide))).tr hp_6 (by decide))).up _ _ (by decide))), (show same [14, 15, 23] s0 s_5 from ((show same [14, 15, 23] s0 s_2 from (by rw [es_2]; exact (show same [14, 15, 23] s0 s_1 from (by rw [es_1]; exact (same.rf [14, 15, 23] s0).up _ _ (by decide))).up _ _ (by decide))).tr hs_7 (by decide)))⟩
                    · exact absurd c8 c10
                  · exact absurd c3 c9
                · exact absurd c6 c8
            · exact absurd c6 (by decide)
      · exact absurd c3 (by decide)
set_option maxRecDepth 100000 in
set_option maxHeartbeats 4000000 in
theorem M_Model_layOut_L6 (l : Launch) (g : GG) {mo tq : Nat} {p0 : Nat → Int32} {s0 : Nat → Nat → Int32} {H0 : Heap} (hM : mAt g mo tq p0 s0 H0) (hw : twoI 6 p0 s0) : MM l y_Model_layOut c_Model_layOut 3 none 3 0 0 g H0 [.ref mo] (fun q => mo ≤ q ∧ q < mo + 23) (none) (fun H1 => ∃ p s, mAt g mo tq p s H1 ∧ samP [6, 7] p0 p ∧ same [14, 15, 23] s0 s) := by
  refine MM.of (by decide +kernel) (Nat.le_of_ble_eq_true rfl) ?_
  intro p e s m below meth cd X hH ls hl
  have X : CX g p s m _ meth cd c_Model_layOut 3 none R_Model _ := X
  have hl : lv_has ls 3 [(0, .ref mo)] := hl
  have hS : va_S (AA (fun q => mo ≤ q ∧ q < mo + 23) H0) H0 H0 [] := va_S.rf
  have hlt0 := hM.lt
  have htq0 := hM.tq
  obtain ⟨⟨hw3, hw5⟩, hw8, hw81⟩ := hw
  refine lv_iconst (v := 0) X.x X.b d_Model_layOut_0 (by decide) ?_
  refine lv_istore_n (lv' := [(1, .int 0), (0, .ref mo)]) X.x X.b d_Model_layOut_1 rfl hl (by decide) rfl (fun ls hl => ?_)
  refine lv_iload_n X.x X.b d_Model_layOut_2 rfl (lv_at hl 0 rfl) ?_
  refine lv_aload_n X.x X.b d_Model_layOut_3 rfl (lv_at hl 1 rfl) ?_
  refine m_get (v := .int 2) X ok_Model hM.1 5 (by decide) k_Model_132 (congrArg (fun z => some (Value.int z)) (show p0 5 = 2 from (by rw [hw5]))) d_Model_layOut_4 ?_
  refine lv_icmp_ge (tgt := 23) X.x X.b d_Model_layOut_7 (by decide) (fun c1 => ?_) (fun c1 => ?_)
  · exact absurd c1 (by decide)
  · skip
    have c1q := Int32.not_le.mp c1
    refine lv_aload_n X.x X.b d_Model_layOut_10 rfl (lv_at hl 1 rfl) ?_
    refine m_get (v := .ref (mo + 18)) X ok_Model hM.1 23 (by decide) k_Model_61 rfl d_Model_layOut_11 ?_
    refine lv_iload_n X.x X.b d_Model_layOut_14 rfl (lv_at hl 0 rfl) ?_
    refine lv_iconst (v := 0) X.x X.b d_Model_layOut_15 (by decide) ?_
    refine m_zst X hS (Or.inl ⟨by omega, by omega⟩) hM.a23 0 rfl (by omega) (by decide) rfl d_Model_layOut_16 (fun H locs hp hcg hS => ?_)
    have hM := hM.s23 hp hcg
    obtain ⟨s_1, es_1⟩ : ∃ z, z = updR s0 23 (upd (s0 23) 0 0) := ⟨_, rfl⟩
    rw [← es_1] at hM
    refine lv_iinc (v := 1) (lv' := [(1, .int 1), (0, .ref mo)]) X.x X.b d_Model_layOut_17 hl (k := 0) rfl (by decide) (by decide) rfl (fun ls hl => ?_)
    refine lv_goto (tgt := 2) X.x X.b d_Model_layOut_20 (by decide) ?_
    refine lv_iload_n X.x X.b d_Model_layOut_2 rfl (lv_at hl 0 rfl) ?_
    refine lv_aload_n X.x X.b d_Model_layOut_3 rfl (lv_at hl 1 rfl) ?_
    refine m_get (v := .int 2) X ok_Model hM.1 5 (by decide) k_Model_132 (congrArg (fun z => some (Value.int z)) (show p0 5 = 2 from (by rw [hw5]))) d_Model_layOut_4 ?_
    refine lv_icmp_ge (tgt := 23) X.x X.b d_Model_layOut_7 (by decide) (fun c2 => ?_) (fun c2 => ?_)
    · exact absurd c2 (by decide)
    · skip
      have c2q := Int32.not_le.mp c2
      refine lv_aload_n X.x X.b d_Model_layOut_10 rfl (lv_at hl 1 rfl) ?_
      refine m_get (v := .ref (mo + 18)) X ok_Model hM.1 23 (by decide) k_Model_61 rfl d_Model_layOut_11 ?_
      refine lv_iload_n X.x X.b d_Model_layOut_14 rfl (lv_at hl 0 rfl) ?_
      refine lv_iconst (v := 0) X.x X.b d_Model_layOut_15 (by decide) ?_
      refine m_zst X hS (Or.inl ⟨by omega, by omega⟩) hM.a23 1 rfl (by omega) (by decide) rfl d_Model_layOut_16 (fun H locs hp hcg hS => ?_)
      have hM := hM.s23 hp hcg
      obtain ⟨s_2, es_2⟩ : ∃ z, z = updR s_1 23 (upd (s_1 23) 1 0) := ⟨_, rfl⟩
      rw [← es_2] at hM
      refine lv_iinc (v := 2) (lv' := [(1, .int 2), (0, .ref mo)]) X.x X.b d_Model_layOut_17 hl (k := 0) rfl (by decide) (by decide) rfl (fun ls hl => ?_)
      refine lv_goto (tgt := 2) X.x X.b d_Model_layOut_20 (by decide) ?_
      refine lv_iload_n X.x X.b d_Model_layOut_2 rfl (lv_at hl 0 rfl) ?_
      refine lv_aload_n X.x X.b d_Model_layOut_3 rfl (lv_at hl 1 rfl) ?_
      refine m_get (v := .int 2) X ok_Model hM.1 5 (by decide) k_Model_132 (congrArg (fun z => some (Value.int z)) (show p0 5 = 2 from (by rw [hw5]))) d_Model_layOut_4 ?_
      refine lv_icmp_ge (tgt := 23) X.x X.b d_Model_layOut_7 (by decide) (fun c3 => ?_) (fun c3 => ?_)
      · skip
        have c3q := Int32.not_lt.mpr c3
        refine lv_aload_n X.x X.b d_Model_layOut_23 rfl (lv_at hl 1 rfl) ?_
        refine lv_iconst (v := 0) X.x X.b d_Model_layOut_24 (by decide) ?_
        refine m_put X ok_Model hS (Or.inl ⟨by omega, by omega⟩) hM.1 7 (by decide) k_Model_171 rfl (ok_Model.2.2.1 _ (by decide)) rfl rfl (Nat.le_of_ble_eq_true rfl) d_Model_layOut_25 (fun H locs hp hcg hS => ?_)
        have hM := hM.f7 hp hcg
        obtain ⟨p_3, ep_3⟩ : ∃ z, z = upd p0 7 0 := ⟨_, rfl⟩
        rw [← ep_3] at hM
        refine lv_iconst (v := 1) X.x X.b d_Model_layOut_28 (by decide) ?_
        refine lv_istore_n (lv' := [(1, .int 1), (0, .ref mo)]) X.x X.b d_Model_layOut_29 rfl hl (by decide) rfl (fun ls hl => ?_)
        refine lv_iload_n X.x X.b d_Model_layOut_30 rfl (lv_at hl 0 rfl) ?_
        refine lv_if_eq (tgt := 113) X.x X.b d_Model_layOut_31 (by decide) (fun c4 => ?_) (fun c4 => ?_)
        · exact absurd c4 (by decide)
        · skip
          refine lv_aload_n X.x X.b d_Model_layOut_34 rfl (lv_at hl 1 rfl) ?_
          have hn7 : ∀ k, k < 2 → s_2 8 k = 7 → ¬ s_2 11 k = 0 := fun k hk => by rcases (show k = 0 ∨ k = 1 by omega) with rfl | rfl; exact (fun z => absurd ((show s_2 8 0 = 6 from (by rw [es_2, updR_mf _ _ _ (show 8 ≠ 23 by decide), es_1, updR_mf _ _ _ (show 8 ≠ 23 by decide), hw8])).symm.trans z) (by decide)); exact (fun z => absurd ((show s_2 8 1 = 6 from (by rw [es_2, updR_mf _ _ _ (show 8 ≠ 23 by decide), es_1, updR_mf _ _ _ (show 8 ≠ 23 by decide), hw81])).symm.trans z) (by decide))
          have hR := M_Model_place_w (c := 2) l g hM (show p_3 5 = 2 from (by rw [ep_3, upd_mi _ _ _ (show 5 ≠ 7 by decide), hw5])) (by omega) hn7
          refine m_callM X hS hR v_Model_174 hM.1 rfl rfl rfl (Nat.le_of_ble_eq_true rfl) hl.1 d_Model_layOut_35 (by omega) (by decide) ⟨by omega, by omega⟩ (fun q z => by have z : mo ≤ q ∧ q < mo + 23 := z; exact ⟨by omega, by omega⟩) (fun H locs hq hfr hS => ?_)
          obtain ⟨p_4, s_5, hM, hp_6, hs_7⟩ := hq
          refine lv_aload_n X.x X.b d_Model_layOut_38 rfl (lv_at hl 1 rfl) ?_
          refine lv_dup X.x X.b d_Model_layOut_39 rfl ?_
          refine m_get (v := .int 0) X ok_Model hM.1 7 (by decide) k_Model_171 (congrArg (fun z => some (Value.int z)) (show p_4 7 = 0 from (by rw [hp_6 7 (by decide), ep_3, upd_hit]))) d_Model_layOut_40 ?_
          refine lv_iconst (v := 1) X.x X.b d_Model_layOut_43 (by decide) ?_
          refine lv_iadd X.x X.b d_Model_layOut_44 ?_
          rw [show (0 + 1 : Int32) = 1 from by decide]
          refine m_put X ok_Model hS (Or.inl ⟨by omega, by omega⟩) hM.1 7 (by decide) k_Model_171 rfl (ok_Model.2.2.1 _ (by decide)) rfl rfl (Nat.le_of_ble_eq_true rfl) d_Model_layOut_45 (fun H locs hp hcg hS => ?_)
          have hM := hM.f7 hp hcg
          obtain ⟨p_8, ep_8⟩ : ∃ z, z = upd p_4 7 1 := ⟨_, rfl⟩
          rw [← ep_8] at hM
          refine lv_iconst (v := 0) X.x X.b d_Model_layOut_48 (by decide) ?_
          refine lv_istore_n (lv' := [(1, .int 0), (0, .ref mo)]) X.x X.b d_Model_layOut_49 rfl hl (by decide) rfl (fun ls hl => ?_)
          refine lv_iconst (v := 0) X.x X.b d_Model_layOut_50 (by decide) ?_
          refine lv_istore_n (lv' := [(2, .int 0), (1, .int 0), (0, .ref mo)]) X.x X.b d_Model_layOut_51 rfl hl (by decide) rfl (fun ls hl => ?_)
          refine lv_iload_n X.x X.b d_Model_layOut_52 rfl (lv_at hl 0 rfl) ?_
          refine lv_aload_n X.x X.b d_Model_layOut_53 rfl (lv_at hl 2 rfl) ?_
          refine m_get (v := .int 2) X ok_Model hM.1 5 (by decide) k_Model_132 (congrArg (fun z => some (Value.int z)) (show p_8 5 = 2 from (by rw [ep_8, upd_mi _ _ _ (show 5 ≠ 7 by decide), hp_6 5 (by decide), ep_3, upd_mi _ _ _ (show 5 ≠ 7 by decide), hw5]))) d_Model_layOut_54 ?_
          refine lv_icmp_ge (tgt := 110) X.x X.b d_Model_layOut_57 (by decide) (fun c5 => ?_) (fun c5 => ?_)
          · exact absurd c5 c1
          · skip
            have c5q := Int32.not_le.mp c5
            refine lv_aload_n X.x X.b d_Model_layOut_60 rfl (lv_at hl 2 rfl) ?_
            refine lv_iload_n X.x X.b d_Model_layOut_61 rfl (lv_at hl 0 rfl) ?_
            have hR := M_Model_isBranch (k := 0) l g hM (by omega)
            rw [show b2i (s_5 8 0 = 3 ∨ s_5 8 0 = 4) = 0 from b2i_f (by rw [show s_5 8 0 = 6 from (by rw [hs_7 8 (by decide), es_2, updR_mf _ _ _ (show 8 ≠ 23 by decide), es_1, updR_mf _ _ _ (show 8 ≠ 23 by decide), hw8])]; first | decide | simp)] at hR
            refine m_callP X hS hR v_Model_177 hM.1 rfl rfl rfl (Nat.le_of_ble_eq_true rfl) hl.1 d_Model_layOut_62 (by omega) (by decide) ⟨by omega, by omega⟩ (fun locs hS => ?_)
            refine lv_if_eq (tgt := 104) X.x X.b d_Model_layOut_65 (by decide) (fun c6 => ?_) (fun c6 => ?_)
            · skip
              refine lv_iinc (v := 1) (lv' := [(2, .int 1), (1, .int 0), (0, .ref mo)]) X.x X.b d_Model_layOut_104 hl (k := 0) rfl (by decide) (by decide) rfl (fun ls hl => ?_)
              refine lv_goto (tgt := 52) X.x X.b d_Model_layOut_107 (by decide) ?_
              refine lv_iload_n X.x X.b d_Model_layOut_52 rfl (lv_at hl 0 rfl) ?_
              refine lv_aload_n X.x X.b d_Model_layOut_53 rfl (lv_at hl 2 rfl) ?_
              refine m_get (v := .int 2) X ok_Model hM.1 5 (by decide) k_Model_132 (congrArg (fun z => some (Value.int z)) (show p_8 5 = 2 from (by rw [ep_8, upd_mi _ _ _ (show 5 ≠ 7 by decide), hp_6 5 (by decide), ep_3, upd_mi _ _ _ (show 5 ≠ 7 by decide), hw5]))) d_Model_layOut_54 ?_
              refine lv_icmp_ge (tgt := 110) X.x X.b d_Model_layOut_57 (by decide) (fun c7 => ?_) (fun c7 => ?_)
              · exact absurd c7 c2
              · skip
                have c7q := Int32.not_le.mp c7
                refine lv_aload_n X.x X.b d_Model_layOut_60 rfl (lv_at hl 2 rfl) ?_
                refine lv_iload_n X.x X.b d_Model_layOut_61 rfl (lv_at hl 0 rfl) ?_
                have hR := M_Model_isBranch (k := 1) l g hM (by omega)
                rw [show b2i (s_5 8 1 = 3 ∨ s_5 8 1 = 4) = 0 from b2i_f (by rw [show s_5 8 1 = 6 from (by rw [hs_7 8 (by decide), es_2, updR_mf _ _ _ (show 8 ≠ 23 by decide), es_1, updR_mf _ _ _ (show 8 ≠ 23 by decide), hw81])]; first | decide | simp)] at hR
                refine m_callP X hS hR v_Model_177 hM.1 rfl rfl rfl (Nat.le_of_ble_eq_true rfl) hl.1 d_Model_layOut_62 (by omega) (by decide) ⟨by omega, by omega⟩ (fun locs hS => ?_)
                refine lv_if_eq (tgt := 104) X.x X.b d_Model_layOut_65 (by decide) (fun c8 => ?_) (fun c8 => ?_)
                · skip
                  refine lv_iinc (v := 2) (lv' := [(2, .int 2), (1, .int 0), (0, .ref mo)]) X.x X.b d_Model_layOut_104 hl (k := 0) rfl (by decide) (by decide) rfl (fun ls hl => ?_)
                  refine lv_goto (tgt := 52) X.x X.b d_Model_layOut_107 (by decide) ?_
                  refine lv_iload_n X.x X.b d_Model_layOut_52 rfl (lv_at hl 0 rfl) ?_
                  refine lv_aload_n X.x X.b d_Model_layOut_53 rfl (lv_at hl 2 rfl) ?_
                  refine m_get (v := .int 2) X ok_Model hM.1 5 (by decide) k_Model_132 (congrArg (fun z => some (Value.int z)) (show p_8 5 = 2 from (by rw [ep_8, upd_mi _ _ _ (show 5 ≠ 7 by decide), hp_6 5 (by decide), ep_3, upd_mi _ _ _ (show 5 ≠ 7 by decide), hw5]))) d_Model_layOut_54 ?_
                  refine lv_icmp_ge (tgt := 110) X.x X.b d_Model_layOut_57 (by decide) (fun c9 => ?_) (fun c9 => ?_)
                  · skip
                    have c9q := Int32.not_lt.mpr c9
                    refine lv_goto (tgt := 30) X.x X.b d_Model_layOut_110 (by decide) ?_
                    refine lv_iload_n X.x X.b d_Model_layOut_30 rfl (lv_at hl 1 rfl) ?_
                    refine lv_if_eq (tgt := 113) X.x X.b d_Model_layOut_31 (by decide) (fun c10 => ?_) (fun c10 => ?_)
                    · skip
                      exact m_vret X hS (by omega) (by omega) d_Model_layOut_113 rfl ⟨_, _, hM, (show samP [6, 7] p0 p_8 from (by rw [ep_8]; exact (show samP [6, 7] p0 p_4 from ((show samP [6, 7] p0 p_3 from (by rw [ep_3]; exact (samP.rf [6, 7] p0).up _ _ (by decide))).tr hp_6 (by decide))).up _ _ (by decide))), (show same [14, 15, 23] s0 s_5 from ((show same [14, 15, 23] s0 s_2 from (by rw [es_2]; exact (show same [14, 15, 23] s0 s_1 from (by rw [es_1]; exact (same.rf [14, 15, 23] s0).up _ _ (by decide))).up _ _ (by decide))).tr hs_7 (by decide)))⟩
                    · exact absurd c8 c10
                  · exact absurd c3 c9
                · exact absurd c6 c8
            · exact absurd c6 (by decide)
      · exact absurd c3 (by decide)
set_option maxRecDepth 100000 in
set_option maxHeartbeats 4000000 in
theorem M_Model_layOut_L7 (l : Launch) (g : GG) {mo tq : Nat} {p0 : Nat → Int32} {s0 : Nat → Nat → Int32} {H0 : Heap} (hM : mAt g mo tq p0 s0 H0) (hw : twoI 7 p0 s0) (hn0 : ¬ s0 11 0 = 0) : MM l y_Model_layOut c_Model_layOut 3 none 3 0 0 g H0 [.ref mo] (fun q => mo ≤ q ∧ q < mo + 23) (none) (fun H1 => ∃ p s, mAt g mo tq p s H1 ∧ samP [6, 7] p0 p ∧ same [14, 15, 23] s0 s) := by
  refine MM.of (by decide +kernel) (Nat.le_of_ble_eq_true rfl) ?_
  intro p e s m below meth cd X hH ls hl
  have X : CX g p s m _ meth cd c_Model_layOut 3 none R_Model _ := X
  have hl : lv_has ls 3 [(0, .ref mo)] := hl
  have hS : va_S (AA (fun q => mo ≤ q ∧ q < mo + 23) H0) H0 H0 [] := va_S.rf
  have hlt0 := hM.lt
  have htq0 := hM.tq
  obtain ⟨⟨hw3, hw5⟩, hw8, hw81⟩ := hw
  refine lv_iconst (v := 0) X.x X.b d_Model_layOut_0 (by decide) ?_
  refine lv_istore_n (lv' := [(1, .int 0), (0, .ref mo)]) X.x X.b d_Model_layOut_1 rfl hl (by decide) rfl (fun ls hl => ?_)
  refine lv_iload_n X.x X.b d_Model_layOut_2 rfl (lv_at hl 0 rfl) ?_
  refine lv_aload_n X.x X.b d_Model_layOut_3 rfl (lv_at hl 1 rfl) ?_
  refine m_get (v := .int 2) X ok_Model hM.1 5 (by decide) k_Model_132 (congrArg (fun z => some (Value.int z)) (show p0 5 = 2 from (by rw [hw5]))) d_Model_layOut_4 ?_
  refine lv_icmp_ge (tgt := 23) X.x X.b d_Model_layOut_7 (by decide) (fun c1 => ?_) (fun c1 => ?_)
  · exact absurd c1 (by decide)
  · skip
    have c1q := Int32.not_le.mp c1
    refine lv_aload_n X.x X.b d_Model_layOut_10 rfl (lv_at hl 1 rfl) ?_
    refine m_get (v := .ref (mo + 18)) X ok_Model hM.1 23 (by decide) k_Model_61 rfl d_Model_layOut_11 ?_
    refine lv_iload_n X.x X.b d_Model_layOut_14 rfl (lv_at hl 0 rfl) ?_
    refine lv_iconst (v := 0) X.x X.b d_Model_layOut_15 (by decide) ?_
    refine m_zst X hS (Or.inl ⟨by omega, by omega⟩) hM.a23 0 rfl (by omega) (by decide) rfl d_Model_layOut_16 (fun H locs hp hcg hS => ?_)
    have hM := hM.s23 hp hcg
    obtain ⟨s_1, es_1⟩ : ∃ z, z = updR s0 23 (upd (s0 23) 0 0) := ⟨_, rfl⟩
    rw [← es_1] at hM
    refine lv_iinc (v := 1) (lv' := [(1, .int 1), (0, .ref mo)]) X.x X.b d_Model_layOut_17 hl (k := 0) rfl (by decide) (by decide) rfl (fun ls hl => ?_)
    refine lv_goto (tgt := 2) X.x X.b d_Model_layOut_20 (by decide) ?_
    refine lv_iload_n X.x X.b d_Model_layOut_2 rfl (lv_at hl 0 rfl) ?_
    refine lv_aload_n X.x X.b d_Model_layOut_3 rfl (lv_at hl 1 rfl) ?_
    refine m_get (v := .int 2) X ok_Model hM.1 5 (by decide) k_Model_132 (congrArg (fun z => some (Value.int z)) (show p0 5 = 2 from (by rw [hw5]))) d_Model_layOut_4 ?_
    refine lv_icmp_ge (tgt := 23) X.x X.b d_Model_layOut_7 (by decide) (fun c2 => ?_) (fun c2 => ?_)
    · exact absurd c2 (by decide)
    · skip
      have c2q := Int32.not_le.mp c2
      refine lv_aload_n X.x X.b d_Model_layOut_10 rfl (lv_at hl 1 rfl) ?_
      refine m_get (v := .ref (mo + 18)) X ok_Model hM.1 23 (by decide) k_Model_61 rfl d_Model_layOut_11 ?_
      refine lv_iload_n X.x X.b d_Model_layOut_14 rfl (lv_at hl 0 rfl) ?_
      refine lv_iconst (v := 0) X.x X.b d_Model_layOut_15 (by decide) ?_
      refine m_zst X hS (Or.inl ⟨by omega, by omega⟩) hM.a23 1 rfl (by omega) (by decide) rfl d_Model_layOut_16 (fun H locs hp hcg hS => ?_)
      have hM := hM.s23 hp hcg
      obtain ⟨s_2, es_2⟩ : ∃ z, z = updR s_1 23 (upd (s_1 23) 1 0) := ⟨_, rfl⟩
      rw [← es_2] at hM
      refine lv_iinc (v := 2) (lv' := [(1, .int 2), (0, .ref mo)]) X.x X.b d_Model_layOut_17 hl (k := 0) rfl (by decide) (by decide) rfl (fun ls hl => ?_)
      refine lv_goto (tgt := 2) X.x X.b d_Model_layOut_20 (by decide) ?_
      refine lv_iload_n X.x X.b d_Model_layOut_2 rfl (lv_at hl 0 rfl) ?_
      refine lv_aload_n X.x X.b d_Model_layOut_3 rfl (lv_at hl 1 rfl) ?_
      refine m_get (v := .int 2) X ok_Model hM.1 5 (by decide) k_Model_132 (congrArg (fun z => some (Value.int z)) (show p0 5 = 2 from (by rw [hw5]))) d_Model_layOut_4 ?_
      refine lv_icmp_ge (tgt := 23) X.x X.b d_Model_layOut_7 (by decide) (fun c3 => ?_) (fun c3 => ?_)
      · skip
        have c3q := Int32.not_lt.mpr c3
        refine lv_aload_n X.x X.b d_Model_layOut_23 rfl (lv_at hl 1 rfl) ?_
        refine lv_iconst (v := 0) X.x X.b d_Model_layOut_24 (by decide) ?_
        refine m_put X ok_Model hS (Or.inl ⟨by omega, by omega⟩) hM.1 7 (by decide) k_Model_171 rfl (ok_Model.2.2.1 _ (by decide)) rfl rfl (Nat.le_of_ble_eq_true rfl) d_Model_layOut_25 (fun H locs hp hcg hS => ?_)
        have hM := hM.f7 hp hcg
        obtain ⟨p_3, ep_3⟩ : ∃ z, z = upd p0 7 0 := ⟨_, rfl⟩
        rw [← ep_3] at hM
        refine lv_iconst (v := 1) X.x X.b d_Model_layOut_28 (by decide) ?_
        refine lv_istore_n (lv' := [(1, .int 1), (0, .ref mo)]) X.x X.b d_Model_layOut_29 rfl hl (by decide) rfl (fun ls hl => ?_)
        refine lv_iload_n X.x X.b d_Model_layOut_30 rfl (lv_at hl 0 rfl) ?_
        refine lv_if_eq (tgt := 113) X.x X.b d_Model_layOut_31 (by decide) (fun c4 => ?_) (fun c4 => ?_)
        · exact absurd c4 (by decide)
        · skip
          refine lv_aload_n X.x X.b d_Model_layOut_34 rfl (lv_at hl 1 rfl) ?_
          have hn7 : ∀ k, k < 2 → s_2 8 k = 7 → ¬ s_2 11 k = 0 := fun k hk => by rcases (show k = 0 ∨ k = 1 by omega) with rfl | rfl; exact (fun _ => by rw [show s_2 11 0 = s0 11 0 from (by rw [es_2, updR_mf _ _ _ (show 11 ≠ 23 by decide), es_1, updR_mf _ _ _ (show 11 ≠ 23 by decide)])]; exact hn0); exact (fun z => absurd ((show s_2 8 1 = 6 from (by rw [es_2, updR_mf _ _ _ (show 8 ≠ 23 by decide), es_1, updR_mf _ _ _ (show 8 ≠ 23 by decide), hw81])).symm.trans z) (by decide))
          have hR := M_Model_place_w (c := 2) l g hM (show p_3 5 = 2 from (by rw [ep_3, upd_mi _ _ _ (show 5 ≠ 7 by decide), hw5])) (by omega) hn7
          refine m_callM X hS hR v_Model_174 hM.1 rfl rfl rfl (Nat.le_of_ble_eq_true rfl) hl.1 d_Model_layOut_35 (by omega) (by decide) ⟨by omega, by omega⟩ (fun q z => by have z : mo ≤ q ∧ q < mo + 23 := z; exact ⟨by omega, by omega⟩) (fun H locs hq hfr hS => ?_)
          obtain ⟨p_4, s_5, hM, hp_6, hs_7⟩ := hq
          refine lv_aload_n X.x X.b d_Model_layOut_38 rfl (lv_at hl 1 rfl) ?_
          refine lv_dup X.x X.b d_Model_layOut_39 rfl ?_
          refine m_get (v := .int 0) X ok_Model hM.1 7 (by decide) k_Model_171 (congrArg (fun z => some (Value.int z)) (show p_4 7 = 0 from (by rw [hp_6 7 (by decide), ep_3, upd_hit]))) d_Model_layOut_40 ?_
          refine lv_iconst (v := 1) X.x X.b d_Model_layOut_43 (by decide) ?_
          refine lv_iadd X.x X.b d_Model_layOut_44 ?_
          rw [show (0 + 1 : Int32) = 1 from by decide]
          refine m_put X ok_Model hS (Or.inl ⟨by omega, by omega⟩) hM.1 7 (by decide) k_Model_171 rfl (ok_Model.2.2.1 _ (by decide)) rfl rfl (Nat.le_of_ble_eq_true rfl) d_Model_layOut_45 (fun H locs hp hcg hS => ?_)
          have hM := hM.f7 hp hcg
          obtain ⟨p_8, ep_8⟩ : ∃ z, z = upd p_4 7 1 := ⟨_, rfl⟩
          rw [← ep_8] at hM
          refine lv_iconst (v := 0) X.x X.b d_Model_layOut_48 (by decide) ?_
          refine lv_istore_n (lv' := [(1, .int 0), (0, .ref mo)]) X.x X.b d_Model_layOut_49 rfl hl (by decide) rfl (fun ls hl => ?_)
          refine lv_iconst (v := 0) X.x X.b d_Model_layOut_50 (by decide) ?_
          refine lv_istore_n (lv' := [(2, .int 0), (1, .int 0), (0, .ref mo)]) X.x X.b d_Model_layOut_51 rfl hl (by decide) rfl (fun ls hl => ?_)
          refine lv_iload_n X.x X.b d_Model_layOut_52 rfl (lv_at hl 0 rfl) ?_
          refine lv_aload_n X.x X.b d_Model_layOut_53 rfl (lv_at hl 2 rfl) ?_
          refine m_get (v := .int 2) X ok_Model hM.1 5 (by decide) k_Model_132 (congrArg (fun z => some (Value.int z)) (show p_8 5 = 2 from (by rw [ep_8, upd_mi _ _ _ (show 5 ≠ 7 by decide), hp_6 5 (by decide), ep_3, upd_mi _ _ _ (show 5 ≠ 7 by decide), hw5]))) d_Model_layOut_54 ?_
          refine lv_icmp_ge (tgt := 110) X.x X.b d_Model_layOut_57 (by decide) (fun c5 => ?_) (fun c5 => ?_)
          · exact absurd c5 c1
          · skip
            have c5q := Int32.not_le.mp c5
            refine lv_aload_n X.x X.b d_Model_layOut_60 rfl (lv_at hl 2 rfl) ?_
            refine lv_iload_n X.x X.b d_Model_layOut_61 rfl (lv_at hl 0 rfl) ?_
            have hR := M_Model_isBranch (k := 0) l g hM (by omega)
            rw [show b2i (s_5 8 0 = 3 ∨ s_5 8 0 = 4) = 0 from b2i_f (by rw [show s_5 8 0 = 7 from (by rw [hs_7 8 (by decide), es_2, updR_mf _ _ _ (show 8 ≠ 23 by decide), es_1, updR_mf _ _ _ (show 8 ≠ 23 by decide), hw8])]; first | decide | simp)] at hR
            refine m_callP X hS hR v_Model_177 hM.1 rfl rfl rfl (Nat.le_of_ble_eq_true rfl) hl.1 d_Model_layOut_62 (by omega) (by decide) ⟨by omega, by omega⟩ (fun locs hS => ?_)
            refine lv_if_eq (tgt := 104) X.x X.b d_Model_layOut_65 (by decide) (fun c6 => ?_) (fun c6 => ?_)
            · skip
              refine lv_iinc (v := 1) (lv' := [(2, .int 1), (1, .int 0), (0, .ref mo)]) X.x X.b d_Model_layOut_104 hl (k := 0) rfl (by decide) (by decide) rfl (fun ls hl => ?_)
              refine lv_goto (tgt := 52) X.x X.b d_Model_layOut_107 (by decide) ?_
              refine lv_iload_n X.x X.b d_Model_layOut_52 rfl (lv_at hl 0 rfl) ?_
              refine lv_aload_n X.x X.b d_Model_layOut_53 rfl (lv_at hl 2 rfl) ?_
              refine m_get (v := .int 2) X ok_Model hM.1 5 (by decide) k_Model_132 (congrArg (fun z => some (Value.int z)) (show p_8 5 = 2 from (by rw [ep_8, upd_mi _ _ _ (show 5 ≠ 7 by decide), hp_6 5 (by decide), ep_3, upd_mi _ _ _ (show 5 ≠ 7 by decide), hw5]))) d_Model_layOut_54 ?_
              refine lv_icmp_ge (tgt := 110) X.x X.b d_Model_layOut_57 (by decide) (fun c7 => ?_) (fun c7 => ?_)
              · exact absurd c7 c2
              · skip
                have c7q := Int32.not_le.mp c7
                refine lv_aload_n X.x X.b d_Model_layOut_60 rfl (lv_at hl 2 rfl) ?_
                refine lv_iload_n X.x X.b d_Model_layOut_61 rfl (lv_at hl 0 rfl) ?_
                have hR := M_Model_isBranch (k := 1) l g hM (by omega)
                rw [show b2i (s_5 8 1 = 3 ∨ s_5 8 1 = 4) = 0 from b2i_f (by rw [show s_5 8 1 = 6 from (by rw [hs_7 8 (by decide), es_2, updR_mf _ _ _ (show 8 ≠ 23 by decide), es_1, updR_mf _ _ _ (show 8 ≠ 23 by decide), hw81])]; first | decide | simp)] at hR
                refine m_callP X hS hR v_Model_177 hM.1 rfl rfl rfl (Nat.le_of_ble_eq_true rfl) hl.1 d_Model_layOut_62 (by omega) (by decide) ⟨by omega, by omega⟩ (fun locs hS => ?_)
                refine lv_if_eq (tgt := 104) X.x X.b d_Model_layOut_65 (by decide) (fun c8 => ?_) (fun c8 => ?_)
                · skip
                  refine lv_iinc (v := 2) (lv' := [(2, .int 2), (1, .int 0), (0, .ref mo)]) X.x X.b d_Model_layOut_104 hl (k := 0) rfl (by decide) (by decide) rfl (fun ls hl => ?_)
                  refine lv_goto (tgt := 52) X.x X.b d_Model_layOut_107 (by decide) ?_
                  refine lv_iload_n X.x X.b d_Model_layOut_52 rfl (lv_at hl 0 rfl) ?_
                  refine lv_aload_n X.x X.b d_Model_layOut_53 rfl (lv_at hl 2 rfl) ?_
                  refine m_get (v := .int 2) X ok_Model hM.1 5 (by decide) k_Model_132 (congrArg (fun z => some (Value.int z)) (show p_8 5 = 2 from (by rw [ep_8, upd_mi _ _ _ (show 5 ≠ 7 by decide), hp_6 5 (by decide), ep_3, upd_mi _ _ _ (show 5 ≠ 7 by decide), hw5]))) d_Model_layOut_54 ?_
                  refine lv_icmp_ge (tgt := 110) X.x X.b d_Model_layOut_57 (by decide) (fun c9 => ?_) (fun c9 => ?_)
                  · skip
                    have c9q := Int32.not_lt.mpr c9
                    refine lv_goto (tgt := 30) X.x X.b d_Model_layOut_110 (by decide) ?_
                    refine lv_iload_n X.x X.b d_Model_layOut_30 rfl (lv_at hl 1 rfl) ?_
                    refine lv_if_eq (tgt := 113) X.x X.b d_Model_layOut_31 (by decide) (fun c10 => ?_) (fun c10 => ?_)
                    · skip
                      exact m_vret X hS (by omega) (by omega) d_Model_layOut_113 rfl ⟨_, _, hM, (show samP [6, 7] p0 p_8 from (by rw [ep_8]; exact (show samP [6, 7] p0 p_4 from ((show samP [6, 7] p0 p_3 from (by rw [ep_3]; exact (samP.rf [6, 7] p0).up _ _ (by decide))).tr hp_6 (by decide))).up _ _ (by decide))), (show same [14, 15, 23] s0 s_5 from ((show same [14, 15, 23] s0 s_2 from (by rw [es_2]; exact (show same [14, 15, 23] s0 s_1 from (by rw [es_1]; exact (same.rf [14, 15, 23] s0).up _ _ (by decide))).up _ _ (by decide))).tr hs_7 (by decide)))⟩
                    · exact absurd c8 c10
                  · exact absurd c3 c9
                · exact absurd c6 c8
            · exact absurd c6 (by decide)
      · exact absurd c3 (by decide)
