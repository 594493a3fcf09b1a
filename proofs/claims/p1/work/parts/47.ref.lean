-- THE REFERENCE ON DATA OF 0: VALUES, POOLS, LAYOUT
abbrev goM (s : Nat → Nat → Int32) (k : Nat) : Prop := s 8 k = 0 ∨ s 8 k = 1 ∨ s 8 k = 5 ∨ s 8 k = 4 ∨ (s 8 k = 6 ∨ s 8 k = 7) ∧ s 15 k = 0
set_option maxRecDepth 100000 in
set_option maxHeartbeats 4000000 in
theorem M_Model_meant_n (l : Launch) (g : GG) {mo tq : Nat} {p0 : Nat → Int32} {s0 : Nat → Nat → Int32} {H0 : Heap} (hM : mAt g mo tq p0 s0 H0) (it : Int32) : MP l y_Model_meant c_Model_meant 6 (some .int) 0 g H0 [.ref mo, .int (-1), .int it] (some (.int (-1))) := by
  refine MM.of (by decide +kernel) (Nat.le_of_ble_eq_true rfl) ?_
  intro p e s m below meth cd X hH ls hl
  have X : CX g p s m _ meth cd c_Model_meant 6 (some .int) R_Model _ := X
  have hl : lv_has ls 6 [(0, .ref mo), (1, .int (-1)), (2, .int it)] := hl
  have hS : va_S (AA (noA) H0) H0 H0 [] := va_S.rf
  have hlt0 := hM.lt
  have htq0 := hM.tq
  refine lv_iload_n X.x X.b d_Model_meant_0 rfl (lv_at hl 1 rfl) ?_
  refine lv_iconst (v := -1) X.x X.b d_Model_meant_1 (by decide) ?_
  refine lv_icmp_ne (tgt := 7) X.x X.b d_Model_meant_2 (by decide) (fun c1 => ?_) (fun c1 => ?_)
  · exact absurd c1 (by decide)
  · skip
    refine lv_iconst (v := -1) X.x X.b d_Model_meant_5 (by decide) ?_
    exact m_iret X hS (Nat.zero_le _) (Nat.zero_le _) d_Model_meant_6 (congrArg (fun z => some (Value.int z)) (by simp [c1])) rfl
set_option maxRecDepth 100000 in
set_option maxHeartbeats 4000000 in
theorem M_Model_refer_D (l : Launch) (g : GG) {mo tq : Nat} {p0 : Nat → Int32} {s0 : Nat → Nat → Int32} {H0 : Heap} (hM : mAt g mo tq p0 s0 H0) {c : Nat} (hc : c ≤ 20) (hx : dxP c p0 s0) : MM l y_Model_refer c_Model_refer 4 none 1 0 0 g H0 [.ref mo] (fun q => mo ≤ q ∧ q < mo + 23) (none) (fun H1 => ∃ s, mAt g mo tq p0 s H1 ∧ same [16, 17, 18, 19] s0 s) := by
  refine MM.of (by decide +kernel) (Nat.le_of_ble_eq_true rfl) ?_
  intro p e s m below meth cd X hH ls hl
  have X : CX g p s m _ meth cd c_Model_refer 4 none R_Model _ := X
  have hl : lv_has ls 4 [(0, .ref mo)] := hl
  have hS : va_S (AA (fun q => mo ≤ q ∧ q < mo + 23) H0) H0 H0 [] := va_S.rf
  have hlt0 := hM.lt
  have htq0 := hM.tq
  obtain ⟨⟨hx3, hx5⟩, hk, hkc⟩ := hx
  refine lv_iconst (v := 0) X.x X.b d_Model_refer_0 (by decide) ?_
  refine lv_istore_n (lv' := [(1, .int 0), (0, .ref mo)]) X.x X.b d_Model_refer_1 rfl hl (by decide) rfl (fun ls hl => ?_)
  have lp : ∀ (n i : Nat) (ss : Nat → Nat → Int32), n = (c + 1) - i → i < 5000 → (same [16, 17, 18, 19] s0 ss) → ∀ (H : Heap) (locs : List Loc) (ls : Array Slot), mAt g mo tq p0 ss H → va_S (AA (fun q => mo ≤ q ∧ q < mo + 23) H0) H0 H locs → lv_has ls 4 [(0, .ref mo), (1, .int (nI i))] → W p l e (rmK 1 0 0) s m ([.ref mo] : List Value).toArray below meth cd H locs 0 0 (MQ below (QM (none) (fun H1 => ∃ s, mAt g mo tq p0 s H1 ∧ same [16, 17, 18, 19] s0 s) (fun q => mo ≤ q ∧ q < mo + 23) H0) ([.ref mo] : List Value).toArray s 0 0 (AA (fun q => mo ≤ q ∧ q < mo + 23) H0)) (F0 m 2 ls []) := by
    intro n
    induction n with
    | zero =>
      intro i ss hin hi5 hE H locs ls hM hS hl
      refine lv_iload_n X.x X.b d_Model_refer_2 rfl (lv_at hl 1 rfl) ?_
      refine lv_aload_n X.x X.b d_Model_refer_3 rfl (lv_at hl 0 rfl) ?_
      refine m_get (v := .int (nI (c + 1))) X ok_Model hM.1 5 (by decide) k_Model_132 (congrArg (fun z => some (Value.int z)) (show p0 5 = nI (c + 1) from (by rw [hx5]))) d_Model_refer_4 ?_
      refine lv_icmp_ge (tgt := 166) X.x X.b d_Model_refer_7 (by decide) (fun c1 => ?_) (fun c1 => ?_)
      · skip
        have c1q := Int32.not_lt.mpr c1
        exact m_vret X hS (by omega) (by omega) d_Model_refer_166 rfl ⟨_, hM, hE⟩
      · exact absurd ((nI_leI (a := (c + 1)) (b := i) (by omega) (by omega)).mpr (by omega)) c1
    | succ n ih =>
      intro i ss hin hi5 hE H locs ls hM hS hl
      refine lv_iload_n X.x X.b d_Model_refer_2 rfl (lv_at hl 1 rfl) ?_
      refine lv_aload_n X.x X.b d_Model_refer_3 rfl (lv_at hl 0 rfl) ?_
      refine m_get (v := .int (nI (c + 1))) X ok_Model hM.1 5 (by decide) k_Model_132 (congrArg (fun z => some (Value.int z)) (show p0 5 = nI (c + 1) from (by rw [hx5]))) d_Model_refer_4 ?_
      refine lv_icmp_ge (tgt := 166) X.x X.b d_Model_refer_7 (by decide) (fun c2 => ?_) (fun c2 => ?_)
      · exact absurd ((nI_leI (a := (c + 1)) (b := i) (by omega) (by omega)).mp c2) (by omega)
      · skip
        have c2q := Int32.not_le.mp c2
        refine lv_aload_n X.x X.b d_Model_refer_10 rfl (lv_at hl 0 rfl) ?_
        refine m_get (v := .int 0) X ok_Model hM.1 3 (by decide) k_Model_126 (congrArg (fun z => some (Value.int z)) (show p0 3 = 0 from (by rw [hx3]))) d_Model_refer_11 ?_
        refine lv_if_ne (tgt := 166) X.x X.b d_Model_refer_14 (by decide) (fun c3 => ?_) (fun c3 => ?_)
        · exact absurd c3 (by decide)
        · skip
          rcases Nat.lt_or_ge i c with hic | hic
          · skip
            refine lv_aload_n X.x X.b d_Model_refer_17 rfl (lv_at hl 0 rfl) ?_
            refine m_get (v := .ref (mo + 3)) X ok_Model hM.1 8 (by decide) k_Model_16 rfl d_Model_refer_18 ?_
            refine lv_iload_n X.x X.b d_Model_refer_21 rfl (lv_at hl 1 rfl) ?_
            refine m_ild (v := 2) X hM.a8 i rfl (by omega) (by decide) (show ss 8 i = 2 from (by rw [hE 8 (by decide), (hk i hic).1])) d_Model_refer_22 ?_
            refine lv_iconst (v := 2) X.x X.b d_Model_refer_23 (by decide) ?_
            refine lv_icmp_lt (tgt := 160) X.x X.b d_Model_refer_24 (by decide) (fun c4 => ?_) (fun c4 => ?_)
            · exact absurd c4 (by decide)
            · skip
              have c4q := Int32.not_lt.mp c4
              refine lv_aload_n X.x X.b d_Model_refer_27 rfl (lv_at hl 0 rfl) ?_
              refine m_get (v := .ref (mo + 3)) X ok_Model hM.1 8 (by decide) k_Model_16 rfl d_Model_refer_28 ?_
              refine lv_iload_n X.x X.b d_Model_refer_31 rfl (lv_at hl 1 rfl) ?_
              refine m_ild (v := 2) X hM.a8 i rfl (by omega) (by decide) (show ss 8 i = 2 from (by rw [hE 8 (by decide), (hk i hic).1])) d_Model_refer_32 ?_
              refine lv_iconst (v := 4) X.x X.b d_Model_refer_33 (by decide) ?_
              refine lv_icmp_le (tgt := 40) X.x X.b d_Model_refer_34 (by decide) (fun c5 => ?_) (fun c5 => ?_)
              · skip
                have c5q := Int32.not_lt.mpr c5
                refine lv_aload_n X.x X.b d_Model_refer_40 rfl (lv_at hl 0 rfl) ?_
                refine lv_aload_n X.x X.b d_Model_refer_41 rfl (lv_at hl 0 rfl) ?_
                refine m_get (v := .ref (mo + 4)) X ok_Model hM.1 9 (by decide) k_Model_19 rfl d_Model_refer_42 ?_
                refine lv_iload_n X.x X.b d_Model_refer_45 rfl (lv_at hl 1 rfl) ?_
                refine m_ild (v := (-1)) X hM.a9 i rfl (by omega) (by decide) (show ss 9 i = (-1) from (by rw [hE 9 (by decide), (hk i hic).2.1])) d_Model_refer_46 ?_
                refine lv_iload_n X.x X.b d_Model_refer_47 rfl (lv_at hl 1 rfl) ?_
                refine m_callP X hS (M_Model_meant_n l g hM (nI i)) v_Model_154 hM.1 rfl rfl rfl (Nat.le_of_ble_eq_true rfl) hl.1 d_Model_refer_48 (by omega) (by decide) ⟨by omega, by omega⟩ (fun locs hS => ?_)
                refine lv_istore_n (lv' := [(2, .int (-1)), (0, .ref mo), (1, .int (nI i))]) X.x X.b d_Model_refer_51 rfl hl (by decide) rfl (fun ls hl => ?_)
                refine lv_aload_n X.x X.b d_Model_refer_52 rfl (lv_at hl 1 rfl) ?_
                refine lv_aload_n X.x X.b d_Model_refer_53 rfl (lv_at hl 1 rfl) ?_
                refine m_get (v := .ref (mo + 5)) X ok_Model hM.1 10 (by decide) k_Model_22 rfl d_Model_refer_54 ?_
                refine lv_iload_n X.x X.b d_Model_refer_57 rfl (lv_at hl 2 rfl) ?_
                refine m_ild (v := (-1)) X hM.a10 i rfl (by omega) (by decide) (show ss 10 i = (-1) from (by rw [hE 10 (by decide), (hk i hic).2.2])) d_Model_refer_58 ?_
                refine lv_iload_n X.x X.b d_Model_refer_59 rfl (lv_at hl 2 rfl) ?_
                refine m_callP X hS (M_Model_meant_n l g hM (nI i)) v_Model_154 hM.1 rfl rfl rfl (Nat.le_of_ble_eq_true rfl) hl.1 d_Model_refer_60 (by omega) (by decide) ⟨by omega, by omega⟩ (fun locs hS => ?_)
                refine lv_istore_n (lv' := [(3, .int (-1)), (2, .int (-1)), (0, .ref mo), (1, .int (nI i))]) X.x X.b d_Model_refer_63 rfl hl (by decide) rfl (fun ls hl => ?_)
                refine lv_iload_n X.x X.b d_Model_refer_64 rfl (lv_at hl 1 rfl) ?_
                refine lv_bipush (v := -2) X.x X.b d_Model_refer_65 (by decide) ?_
                refine lv_icmp_eq (tgt := 76) X.x X.b d_Model_refer_67 (by decide) (fun c6 => ?_) (fun c6 => ?_)
                · exact absurd c6 (by decide)
                · skip
                  refine lv_iload_n X.x X.b d_Model_refer_70 rfl (lv_at hl 0 rfl) ?_
                  refine lv_bipush (v := -2) X.x X.b d_Model_refer_71 (by decide) ?_
                  refine lv_icmp_ne (tgt := 88) X.x X.b d_Model_refer_73 (by decide) (fun c7 => ?_) (fun c7 => ?_)
                  · skip
                    refine lv_aload_n X.x X.b d_Model_refer_88 rfl (lv_at hl 2 rfl) ?_
                    refine m_get (v := .ref (mo + 11)) X ok_Model hM.1 16 (by decide) k_Model_40 rfl d_Model_refer_89 ?_
                    refine lv_iload_n X.x X.b d_Model_refer_92 rfl (lv_at hl 3 rfl) ?_
                    refine lv_iconst (v := -1) X.x X.b d_Model_refer_93 (by decide) ?_
                    refine lv_iload_n X.x X.b d_Model_refer_94 rfl (lv_at hl 1 rfl) ?_
                    refine m_max (v := (-1)) X (by decide) wmaxM (Nat.le_of_ble_eq_true rfl) hl.1 ⟨Nat.zero_le _, Nat.zero_le _⟩ (by decide) d_Model_refer_95 ?_
                    refine m_ist X hS (Or.inl ⟨by omega, by omega⟩) hM.a16 i rfl (by omega) (by decide) d_Model_refer_98 (fun H locs hp hcg hS => ?_)
                    have hM := hM.s16 hp hcg
                    obtain ⟨s_1, es_1⟩ : ∃ z, z = updR ss 16 (upd (ss 16) i (-1)) := ⟨_, rfl⟩
                    rw [← es_1] at hM
                    refine lv_aload_n X.x X.b d_Model_refer_99 rfl (lv_at hl 2 rfl) ?_
                    refine m_get (v := .ref (mo + 12)) X ok_Model hM.1 17 (by decide) k_Model_43 rfl d_Model_refer_100 ?_
                    refine lv_iload_n X.x X.b d_Model_refer_103 rfl (lv_at hl 3 rfl) ?_
                    refine lv_iconst (v := -1) X.x X.b d_Model_refer_104 (by decide) ?_
                    refine lv_iload_n X.x X.b d_Model_refer_105 rfl (lv_at hl 0 rfl) ?_
                    refine m_max (v := (-1)) X (by decide) wmaxM (Nat.le_of_ble_eq_true rfl) hl.1 ⟨Nat.zero_le _, Nat.zero_le _⟩ (by decide) d_Model_refer_106 ?_
                    refine m_ist X hS (Or.inl ⟨by omega, by omega⟩) hM.a17 i rfl (by omega) (by decide) d_Model_refer_109 (fun H locs hp hcg hS => ?_)
                    have hM := hM.s17 hp hcg
                    obtain ⟨s_2, es_2⟩ : ∃ z, z = updR s_1 17 (upd (s_1 17) i (-1)) := ⟨_, rfl⟩
                    rw [← es_2] at hM
                    refine lv_aload_n X.x X.b d_Model_refer_110 rfl (lv_at hl 2 rfl) ?_
                    refine m_get (v := .ref (mo + 13)) X ok_Model hM.1 18 (by decide) k_Model_46 rfl d_Model_refer_111 ?_
                    refine lv_iload_n X.x X.b d_Model_refer_114 rfl (lv_at hl 3 rfl) ?_
                    refine lv_iload_n X.x X.b d_Model_refer_115 rfl (lv_at hl 1 rfl) ?_
                    refine lv_bipush (v := -2) X.x X.b d_Model_refer_116 (by decide) ?_
                    refine lv_icmp_ge (tgt := 133) X.x X.b d_Model_refer_118 (by decide) (fun c8 => ?_) (fun c8 => ?_)
                    · skip
                      have c8q := Int32.not_lt.mpr c8
                      refine lv_iconst (v := 0) X.x X.b d_Model_refer_133 (by decide) ?_
                      refine m_ist X hS (Or.inl ⟨by omega, by omega⟩) hM.a18 i rfl (by omega) (by decide) d_Model_refer_134 (fun H locs hp hcg hS => ?_)
                      have hM := hM.s18 hp hcg
                      obtain ⟨s_3, es_3⟩ : ∃ z, z = updR s_2 18 (upd (s_2 18) i 0) := ⟨_, rfl⟩
                      rw [← es_3] at hM
                      refine lv_aload_n X.x X.b d_Model_refer_135 rfl (lv_at hl 2 rfl) ?_
                      refine m_get (v := .ref (mo + 14)) X ok_Model hM.1 19 (by decide) k_Model_49 rfl d_Model_refer_136 ?_
                      refine lv_iload_n X.x X.b d_Model_refer_139 rfl (lv_at hl 3 rfl) ?_
                      refine lv_iload_n X.x X.b d_Model_refer_140 rfl (lv_at hl 0 rfl) ?_
                      refine lv_bipush (v := -2) X.x X.b d_Model_refer_141 (by decide) ?_
                      refine lv_icmp_ge (tgt := 158) X.x X.b d_Model_refer_143 (by decide) (fun c9 => ?_) (fun c9 => ?_)
                      · skip
                        have c9q := Int32.not_lt.mpr c9
                        refine lv_iconst (v := 0) X.x X.b d_Model_refer_158 (by decide) ?_
                        refine m_ist X hS (Or.inl ⟨by omega, by omega⟩) hM.a19 i rfl (by omega) (by decide) d_Model_refer_159 (fun H locs hp hcg hS => ?_)
                        have hM := hM.s19 hp hcg
                        obtain ⟨s_4, es_4⟩ : ∃ z, z = updR s_3 19 (upd (s_3 19) i 0) := ⟨_, rfl⟩
                        rw [← es_4] at hM
                        refine lv_iinc (v := nI (i + 1)) (lv' := [(1, .int (nI (i + 1))), (3, .int (-1)), (2, .int (-1)), (0, .ref mo)]) X.x X.b d_Model_refer_160 hl (k := 3) rfl (nI_1 i) (by decide) rfl (fun ls hl => ?_)
                        refine lv_goto (tgt := 2) X.x X.b d_Model_refer_163 (by decide) ?_
                        exact ih (i + 1) s_4 (by omega) (by omega) (by rw [es_4, es_3, es_2, es_1]; exact ((((hE.up _ _ (by decide)).up _ _ (by decide)).up _ _ (by decide)).up _ _ (by decide))) _ _ _ hM hS (lv_sub hl [3, 0] rfl)
                      · exact absurd c8 c9
                    · exact absurd c8 (by decide)
                  · exact absurd c7 c6
              · exact absurd c5 (by decide)
          · skip
            have hic : i = c := by omega
            refine lv_aload_n X.x X.b d_Model_refer_17 rfl (lv_at hl 0 rfl) ?_
            refine m_get (v := .ref (mo + 3)) X ok_Model hM.1 8 (by decide) k_Model_16 rfl d_Model_refer_18 ?_
            refine lv_iload_n X.x X.b d_Model_refer_21 rfl (lv_at hl 1 rfl) ?_
            refine m_ild (v := 6) X hM.a8 i rfl (by omega) (by decide) (show ss 8 i = 6 from (by rw [hE 8 (by decide), hic, hkc])) d_Model_refer_22 ?_
            refine lv_iconst (v := 2) X.x X.b d_Model_refer_23 (by decide) ?_
            refine lv_icmp_lt (tgt := 160) X.x X.b d_Model_refer_24 (by decide) (fun c10 => ?_) (fun c10 => ?_)
            · exact absurd c10 (by decide)
            · skip
              have c10q := Int32.not_lt.mp c10
              refine lv_aload_n X.x X.b d_Model_refer_27 rfl (lv_at hl 0 rfl) ?_
              refine m_get (v := .ref (mo + 3)) X ok_Model hM.1 8 (by decide) k_Model_16 rfl d_Model_refer_28 ?_
              refine lv_iload_n X.x X.b d_Model_refer_31 rfl (lv_at hl 1 rfl) ?_
              refine m_ild (v := 6) X hM.a8 i rfl (by omega) (by decide) (show ss 8 i = 6 from (by rw [hE 8 (by decide), hic, hkc])) d_Model_refer_32 ?_
              refine lv_iconst (v := 4) X.x X.b d_Model_refer_33 (by decide) ?_
              refine lv_icmp_le (tgt := 40) X.x X.b d_Model_refer_34 (by decide) (fun c11 => ?_) (fun c11 => ?_)
              · exact absurd c11 (by decide)
              · skip
                have c11q := Int32.not_le.mp c11
                refine lv_goto (tgt := 160) X.x X.b d_Model_refer_37 (by decide) ?_
                refine lv_iinc (v := nI (i + 1)) (lv' := [(1, .int (nI (i + 1))), (0, .ref mo)]) X.x X.b d_Model_refer_160 hl (k := 1) rfl (nI_1 i) (by decide) rfl (fun ls hl => ?_)
                refine lv_goto (tgt := 2) X.x X.b d_Model_refer_163 (by decide) ?_
                exact ih (i + 1) ss (by omega) (by omega) (by skip; exact hE) _ _ _ hM hS (lv_sub hl [1, 0] rfl)
  exact lp (c + 1) 0 s0 (by omega) (by omega) (same.rf _ _) _ _ _ hM hS (lv_sub hl [1, 0] rfl)
set_option maxRecDepth 100000 in
set_option maxHeartbeats 4000000 in
theorem M_Model_fillPools_D (l : Launch) (g : GG) {mo tq : Nat} {p0 : Nat → Int32} {s0 : Nat → Nat → Int32} {H0 : Heap} (hM : mAt g mo tq p0 s0 H0) {c : Nat} (hc : c ≤ 20) (hx : dxP c p0 s0) : MM l y_Model_fillPools c_Model_fillPools 6 none 0 0 0 g H0 [.ref mo] (fun q => mo ≤ q ∧ q < mo + 23) (none) (fun H1 => ∃ s, mAt g mo tq p0 s H1 ∧ same [15] s0 s ∧ s 15 c = 0) := by
  refine MM.of (by decide +kernel) (Nat.le_of_ble_eq_true rfl) ?_
  intro p e s m below meth cd X hH ls hl
  have X : CX g p s m _ meth cd c_Model_fillPools 6 none R_Model _ := X
  have hl : lv_has ls 6 [(0, .ref mo)] := hl
  have hS : va_S (AA (fun q => mo ≤ q ∧ q < mo + 23) H0) H0 H0 [] := va_S.rf
  have hlt0 := hM.lt
  have htq0 := hM.tq
  obtain ⟨⟨hx3, hx5⟩, hk, hkc⟩ := hx
  refine lv_iconst (v := 0) X.x X.b d_Model_fillPools_0 (by decide) ?_
  refine lv_istore_n (lv' := [(1, .int 0), (0, .ref mo)]) X.x X.b d_Model_fillPools_1 rfl hl (by decide) rfl (fun ls hl => ?_)
  refine lv_iconst (v := 0) X.x X.b d_Model_fillPools_2 (by decide) ?_
  refine lv_istore_n (lv' := [(2, .int 0), (1, .int 0), (0, .ref mo)]) X.x X.b d_Model_fillPools_3 rfl hl (by decide) rfl (fun ls hl => ?_)
  have lp : ∀ (n i : Nat) (fr_ : Int32) (ss : Nat → Nat → Int32), n = (c + 1) - i → i < 5000 → ((i ≤ c → fr_ = 0) ∧ same [15] s0 ss ∧ (c < i → ss 15 c = 0)) → ∀ (H : Heap) (locs : List Loc) (ls : Array Slot), mAt g mo tq p0 ss H → va_S (AA (fun q => mo ≤ q ∧ q < mo + 23) H0) H0 H locs → lv_has ls 6 [(0, .ref mo), (1, .int fr_), (2, .int (nI i))] → W p l e (rmK 0 0 0) s m ([.ref mo] : List Value).toArray below meth cd H locs 0 0 (MQ below (QM (none) (fun H1 => ∃ s, mAt g mo tq p0 s H1 ∧ same [15] s0 s ∧ s 15 c = 0) (fun q => mo ≤ q ∧ q < mo + 23) H0) ([.ref mo] : List Value).toArray s 0 0 (AA (fun q => mo ≤ q ∧ q < mo + 23) H0)) (F0 m 4 ls []) := by
    intro n
    induction n with
    | zero =>
      intro i fr_ ss hin hi5 hE H locs ls hM hS hl
      obtain ⟨hE1, hE2, hE3⟩ := hE
      refine lv_iload_n X.x X.b d_Model_fillPools_4 rfl (lv_at hl 2 rfl) ?_
      refine lv_aload_n X.x X.b d_Model_fillPools_5 rfl (lv_at hl 0 rfl) ?_
      refine m_get (v := .int (nI (c + 1))) X ok_Model hM.1 5 (by decide) k_Model_132 (congrArg (fun z => some (Value.int z)) (show p0 5 = nI (c + 1) from (by rw [hx5]))) d_Model_fillPools_6 ?_
      refine lv_icmp_ge (tgt := 167) X.x X.b d_Model_fillPools_9 (by decide) (fun c1 => ?_) (fun c1 => ?_)
      · skip
        have c1q := Int32.not_lt.mpr c1
        exact m_vret X hS (by omega) (by omega) d_Model_fillPools_167 rfl ⟨_, hM, hE2, hE3 (by omega)⟩
      · exact absurd ((nI_leI (a := (c + 1)) (b := i) (by omega) (by omega)).mpr (by omega)) c1
    | succ n ih =>
      intro i fr_ ss hin hi5 hE H locs ls hM hS hl
      obtain ⟨hE1, hE2, hE3⟩ := hE
      refine lv_iload_n X.x X.b d_Model_fillPools_4 rfl (lv_at hl 2 rfl) ?_
      refine lv_aload_n X.x X.b d_Model_fillPools_5 rfl (lv_at hl 0 rfl) ?_
      refine m_get (v := .int (nI (c + 1))) X ok_Model hM.1 5 (by decide) k_Model_132 (congrArg (fun z => some (Value.int z)) (show p0 5 = nI (c + 1) from (by rw [hx5]))) d_Model_fillPools_6 ?_
      refine lv_icmp_ge (tgt := 167) X.x X.b d_Model_fillPools_9 (by decide) (fun c2 => ?_) (fun c2 => ?_)
      · exact absurd ((nI_leI (a := (c + 1)) (b := i) (by omega) (by omega)).mp c2) (by omega)
      · skip
        have c2q := Int32.not_le.mp c2
        rcases Nat.lt_or_ge i c with hic | hic
        · skip
          refine lv_aload_n X.x X.b d_Model_fillPools_12 rfl (lv_at hl 0 rfl) ?_
          refine m_get (v := .ref (mo + 3)) X ok_Model hM.1 8 (by decide) k_Model_16 rfl d_Model_fillPools_13 ?_
          refine lv_iload_n X.x X.b d_Model_fillPools_16 rfl (lv_at hl 2 rfl) ?_
          refine m_ild (v := 2) X hM.a8 i rfl (by omega) (by decide) (show ss 8 i = 2 from (by rw [hE2 8 (by decide), (hk i hic).1])) d_Model_fillPools_17 ?_
          refine lv_bipush (v := 6) X.x X.b d_Model_fillPools_18 (by decide) ?_
          refine lv_icmp_eq (tgt := 26) X.x X.b d_Model_fillPools_20 (by decide) (fun c3 => ?_) (fun c3 => ?_)
          · exact absurd c3 (by decide)
          · skip
            refine lv_goto (tgt := 161) X.x X.b d_Model_fillPools_23 (by decide) ?_
            refine lv_iinc (v := nI (i + 1)) (lv' := [(2, .int (nI (i + 1))), (0, .ref mo), (1, .int fr_)]) X.x X.b d_Model_fillPools_161 hl (k := 2) rfl (nI_1 i) (by decide) rfl (fun ls hl => ?_)
            refine lv_goto (tgt := 4) X.x X.b d_Model_fillPools_164 (by decide) ?_
            exact ih (i + 1) fr_ ss (by omega) (by omega) (⟨fun z => hE1 (by omega), hE2, fun z => absurd z (by omega)⟩) _ _ _ hM hS (lv_sub hl [1, 2, 0] rfl)
        · skip
          have hic : i = c := by omega
          refine lv_aload_n X.x X.b d_Model_fillPools_12 rfl (lv_at hl 0 rfl) ?_
          refine m_get (v := .ref (mo + 3)) X ok_Model hM.1 8 (by decide) k_Model_16 rfl d_Model_fillPools_13 ?_
          refine lv_iload_n X.x X.b d_Model_fillPools_16 rfl (lv_at hl 2 rfl) ?_
          refine m_ild (v := 6) X hM.a8 i rfl (by omega) (by decide) (show ss 8 i = 6 from (by rw [hE2 8 (by decide), hic, hkc])) d_Model_fillPools_17 ?_
          refine lv_bipush (v := 6) X.x X.b d_Model_fillPools_18 (by decide) ?_
          refine lv_icmp_eq (tgt := 26) X.x X.b d_Model_fillPools_20 (by decide) (fun c4 => ?_) (fun c4 => ?_)
          · skip
            have hfr0 : fr_ = 0 := hE1 (by omega)
            subst hfr0
            refine lv_iconst (v := 0) X.x X.b d_Model_fillPools_26 (by decide) ?_
            refine lv_istore_n (lv' := [(3, .int 0), (0, .ref mo), (1, .int 0), (2, .int (nI i))]) X.x X.b d_Model_fillPools_27 rfl hl (by decide) rfl (fun ls hl => ?_)
            refine lv_iload_n X.x X.b d_Model_fillPools_28 rfl (lv_at hl 2 rfl) ?_
            refine lv_istore (lv' := [(4, .int 0), (3, .int 0), (0, .ref mo), (1, .int 0), (2, .int (nI i))]) X.x X.b d_Model_fillPools_29 hl (by decide) rfl (fun ls hl => ?_)
            have lp2 : ∀ (n2 t : Nat), n2 = i - t → t < 5000 → (t ≤ i) → ∀ (locs : List Loc) (ls : Array Slot), va_S (AA (fun q => mo ≤ q ∧ q < mo + 23) H0) H0 H locs → lv_has ls 6 [(0, .ref mo), (1, .int 0), (2, .int (nI i)), (3, .int 0), (4, .int (nI t))] → W p l e (rmK 0 0 0) s m ([.ref mo] : List Value).toArray below meth cd H locs 0 0 (MQ below (QM (none) (fun H1 => ∃ s, mAt g mo tq p0 s H1 ∧ same [15] s0 s ∧ s 15 c = 0) (fun q => mo ≤ q ∧ q < mo + 23) H0) ([.ref mo] : List Value).toArray s 0 0 (AA (fun q => mo ≤ q ∧ q < mo + 23) H0)) (F0 m 31 ls []) := by
              intro n2
              induction n2 with
              | zero =>
                intro t hin2 ht5 hti locs ls hS hl
                refine lv_iload X.x X.b d_Model_fillPools_31 (lv_at hl 4 rfl) ?_
                refine lv_iload_n X.x X.b d_Model_fillPools_33 rfl (lv_at hl 2 rfl) ?_
                refine lv_icmp_ge (tgt := 150) X.x X.b d_Model_fillPools_34 (by decide) (fun c5 => ?_) (fun c5 => ?_)
                · skip
                  have c5q := Int32.not_lt.mpr c5
                  refine lv_aload_n X.x X.b d_Model_fillPools_150 rfl (lv_at hl 0 rfl) ?_
                  refine m_get (v := .ref (mo + 10)) X ok_Model hM.1 15 (by decide) k_Model_37 rfl d_Model_fillPools_151 ?_
                  refine lv_iload_n X.x X.b d_Model_fillPools_154 rfl (lv_at hl 2 rfl) ?_
                  refine lv_iload_n X.x X.b d_Model_fillPools_155 rfl (lv_at hl 3 rfl) ?_
                  refine m_ist X hS (Or.inl ⟨by omega, by omega⟩) hM.a15 i rfl (by omega) (by decide) d_Model_fillPools_156 (fun H locs hp hcg hS => ?_)
                  have hM := hM.s15 hp hcg
                  obtain ⟨s_1, es_1⟩ : ∃ z, z = updR ss 15 (upd (ss 15) i 0) := ⟨_, rfl⟩
                  rw [← es_1] at hM
                  refine lv_iload_n X.x X.b d_Model_fillPools_157 rfl (lv_at hl 2 rfl) ?_
                  refine lv_iconst (v := 1) X.x X.b d_Model_fillPools_158 (by decide) ?_
                  refine lv_iadd X.x X.b d_Model_fillPools_159 ?_
                  refine lv_topi (fun z ez => ?_)
                  rw [show ((nI i) + 1 : Int32) = nI (i + 1) from nI_ad _ _] at ez
                  subst ez
                  refine lv_istore_n (lv' := [(1, .int (nI (i + 1))), (0, .ref mo), (2, .int (nI i)), (3, .int 0), (4, .int (nI t))]) X.x X.b d_Model_fillPools_160 rfl hl (by decide) rfl (fun ls hl => ?_)
                  refine lv_iinc (v := nI (i + 1)) (lv' := [(2, .int (nI (i + 1))), (1, .int (nI (i + 1))), (0, .ref mo), (3, .int 0), (4, .int (nI t))]) X.x X.b d_Model_fillPools_161 hl (k := 2) rfl (nI_1 i) (by decide) rfl (fun ls hl => ?_)
                  refine lv_goto (tgt := 4) X.x X.b d_Model_fillPools_164 (by decide) ?_
                  exact ih (i + 1) (nI (i + 1)) s_1 (by omega) (by omega) (⟨fun z => absurd z (by omega), by rw [es_1]; exact hE2.up _ _ (by decide), fun _ => by rw [es_1, hic]; exact updR_hit _ _ _ _⟩) _ _ _ hM hS (lv_sub hl [2, 1, 0] rfl)
                · exact absurd ((nI_leI (a := i) (b := t) (by omega) (by omega)).mpr (by omega)) c5
              | succ n2 ih2 =>
                intro t hin2 ht5 hti locs ls hS hl
                refine lv_iload X.x X.b d_Model_fillPools_31 (lv_at hl 4 rfl) ?_
                refine lv_iload_n X.x X.b d_Model_fillPools_33 rfl (lv_at hl 2 rfl) ?_
                refine lv_icmp_ge (tgt := 150) X.x X.b d_Model_fillPools_34 (by decide) (fun c6 => ?_) (fun c6 => ?_)
                · exact absurd ((nI_leI (a := i) (b := t) (by omega) (by omega)).mp c6) (by omega)
                · skip
                  have c6q := Int32.not_le.mp c6
                  refine lv_aload_n X.x X.b d_Model_fillPools_37 rfl (lv_at hl 0 rfl) ?_
                  refine m_get (v := .ref (mo + 3)) X ok_Model hM.1 8 (by decide) k_Model_16 rfl d_Model_fillPools_38 ?_
                  refine lv_iload X.x X.b d_Model_fillPools_41 (lv_at hl 4 rfl) ?_
                  refine m_ild (v := 2) X hM.a8 t rfl (by omega) (by decide) (show ss 8 t = 2 from (by rw [hE2 8 (by decide), (hk t (by omega)).1])) d_Model_fillPools_43 ?_
                  refine lv_iconst (v := 5) X.x X.b d_Model_fillPools_44 (by decide) ?_
                  refine lv_icmp_eq (tgt := 51) X.x X.b d_Model_fillPools_45 (by decide) (fun c7 => ?_) (fun c7 => ?_)
                  · exact absurd c7 (by decide)
                  · skip
                    refine lv_goto (tgt := 144) X.x X.b d_Model_fillPools_48 (by decide) ?_
                    refine lv_iinc (v := nI (t + 1)) (lv' := [(4, .int (nI (t + 1))), (0, .ref mo), (1, .int 0), (2, .int (nI i)), (3, .int 0)]) X.x X.b d_Model_fillPools_144 hl (k := 4) rfl (nI_1 t) (by decide) rfl (fun ls hl => ?_)
                    refine lv_goto (tgt := 31) X.x X.b d_Model_fillPools_147 (by decide) ?_
                    exact ih2 (t + 1) (by omega) (by omega) ((by omega)) _ _ hS (lv_sub hl [1, 2, 3, 4, 0] rfl)
            exact lp2 i 0 (by omega) (by omega) (Nat.zero_le _) _ _ hS (lv_sub hl [2, 3, 4, 1, 0] rfl)
          · exact absurd c4 (by decide)
  exact lp (c + 1) 0 0 s0 (by omega) (by omega) (⟨fun _ => rfl, same.rf _ _, fun z => absurd z (by omega)⟩) _ _ _ hM hS (lv_sub hl [2, 1, 0] rfl)
set_option maxRecDepth 100000 in
set_option maxHeartbeats 4000000 in
theorem M_Model_isBranch (l : Launch) (g : GG) {mo tq : Nat} {p0 : Nat → Int32} {s0 : Nat → Nat → Int32} {H0 : Heap} (hM : mAt g mo tq p0 s0 H0) {k : Nat} (hk : k < 121) : MP l y_Model_isBranch c_Model_isBranch 2 (some .boolean) 0 g H0 [.ref mo, .int (nI k)] (some (.int (b2i (s0 8 k = 3 ∨ s0 8 k = 4)))) := by
  refine MM.of (by decide +kernel) (Nat.le_of_ble_eq_true rfl) ?_
  intro p e s m below meth cd X hH ls hl
  have X : CX g p s m _ meth cd c_Model_isBranch 2 (some .boolean) R_Model _ := X
  have hl : lv_has ls 2 [(0, .ref mo), (1, .int (nI k))] := hl
  have hS : va_S (AA (noA) H0) H0 H0 [] := va_S.rf
  have hlt0 := hM.lt
  have htq0 := hM.tq
  refine lv_aload_n X.x X.b d_Model_isBranch_0 rfl (lv_at hl 0 rfl) ?_
  refine m_get (v := .ref (mo + 3)) X ok_Model hM.1 8 (by decide) k_Model_16 rfl d_Model_isBranch_1 ?_
  refine lv_iload_n X.x X.b d_Model_isBranch_4 rfl (lv_at hl 1 rfl) ?_
  refine m_ild (v := s0 8 k) X hM.a8 k rfl (by omega) (by decide) (show s0 8 k = s0 8 k from rfl) d_Model_isBranch_5 ?_
  refine lv_iconst (v := 3) X.x X.b d_Model_isBranch_6 (by decide) ?_
  refine lv_icmp_eq (tgt := 20) X.x X.b d_Model_isBranch_7 (by decide) (fun c1 => ?_) (fun c1 => ?_)
  · skip
    refine lv_iconst (v := 1) X.x X.b d_Model_isBranch_20 (by decide) ?_
    refine lv_goto (tgt := 25) X.x X.b d_Model_isBranch_21 (by decide) ?_
    exact m_zret X hS (Nat.zero_le _) (Nat.zero_le _) d_Model_isBranch_25 rfl (congrArg (fun z => some (Value.int z)) (by simp [b2i, c1])) rfl
  · skip
    refine lv_aload_n X.x X.b d_Model_isBranch_10 rfl (lv_at hl 0 rfl) ?_
    refine m_get (v := .ref (mo + 3)) X ok_Model hM.1 8 (by decide) k_Model_16 rfl d_Model_isBranch_11 ?_
    refine lv_iload_n X.x X.b d_Model_isBranch_14 rfl (lv_at hl 1 rfl) ?_
    refine m_ild (v := s0 8 k) X hM.a8 k rfl (by omega) (by decide) (show s0 8 k = s0 8 k from rfl) d_Model_isBranch_15 ?_
    refine lv_iconst (v := 4) X.x X.b d_Model_isBranch_16 (by decide) ?_
    refine lv_icmp_ne (tgt := 24) X.x X.b d_Model_isBranch_17 (by decide) (fun c2 => ?_) (fun c2 => ?_)
    · skip
      refine lv_iconst (v := 0) X.x X.b d_Model_isBranch_24 (by decide) ?_
      exact m_zret X hS (Nat.zero_le _) (Nat.zero_le _) d_Model_isBranch_25 rfl (congrArg (fun z => some (Value.int z)) (by simp [b2i, c1, c2])) rfl
    · skip
      refine lv_iconst (v := 1) X.x X.b d_Model_isBranch_20 (by decide) ?_
      refine lv_goto (tgt := 25) X.x X.b d_Model_isBranch_21 (by decide) ?_
      exact m_zret X hS (Nat.zero_le _) (Nat.zero_le _) d_Model_isBranch_25 rfl (congrArg (fun z => some (Value.int z)) (by simp [b2i, c1, c2])) rfl
set_option maxRecDepth 100000 in
set_option maxHeartbeats 4000000 in
theorem M_Model_goesOn (l : Launch) (g : GG) {mo tq : Nat} {p0 : Nat → Int32} {s0 : Nat → Nat → Int32} {H0 : Heap} (hM : mAt g mo tq p0 s0 H0) {k : Nat} (hk : k < 121) : MP l y_Model_goesOn c_Model_goesOn 2 (some .boolean) 0 g H0 [.ref mo, .int (nI k)] (some (.int (b2i (goM s0 k)))) := by
  refine MM.of (by decide +kernel) (Nat.le_of_ble_eq_true rfl) ?_
  intro p e s m below meth cd X hH ls hl
  have X : CX g p s m _ meth cd c_Model_goesOn 2 (some .boolean) R_Model _ := X
  have hl : lv_has ls 2 [(0, .ref mo), (1, .int (nI k))] := hl
  have hS : va_S (AA (noA) H0) H0 H0 [] := va_S.rf
  have hlt0 := hM.lt
  have htq0 := hM.tq
  refine lv_aload_n X.x X.b d_Model_goesOn_0 rfl (lv_at hl 0 rfl) ?_
  refine m_get (v := .ref (mo + 3)) X ok_Model hM.1 8 (by decide) k_Model_16 rfl d_Model_goesOn_1 ?_
  refine lv_iload_n X.x X.b d_Model_goesOn_4 rfl (lv_at hl 1 rfl) ?_
  refine m_ild (v := s0 8 k) X hM.a8 k rfl (by omega) (by decide) (show s0 8 k = s0 8 k from rfl) d_Model_goesOn_5 ?_
  refine lv_if_eq (tgt := 70) X.x X.b d_Model_goesOn_6 (by decide) (fun c1 => ?_) (fun c1 => ?_)
  · skip
    refine lv_iconst (v := 1) X.x X.b d_Model_goesOn_70 (by decide) ?_
    refine lv_goto (tgt := 75) X.x X.b d_Model_goesOn_71 (by decide) ?_
    exact m_zret X hS (Nat.zero_le _) (Nat.zero_le _) d_Model_goesOn_75 rfl (congrArg (fun z => some (Value.int z)) (by simp [b2i, goM, c1])) rfl
  · skip
    refine lv_aload_n X.x X.b d_Model_goesOn_9 rfl (lv_at hl 0 rfl) ?_
    refine m_get (v := .ref (mo + 3)) X ok_Model hM.1 8 (by decide) k_Model_16 rfl d_Model_goesOn_10 ?_
    refine lv_iload_n X.x X.b d_Model_goesOn_13 rfl (lv_at hl 1 rfl) ?_
    refine m_ild (v := s0 8 k) X hM.a8 k rfl (by omega) (by decide) (show s0 8 k = s0 8 k from rfl) d_Model_goesOn_14 ?_
    refine lv_iconst (v := 1) X.x X.b d_Model_goesOn_15 (by decide) ?_
    refine lv_icmp_eq (tgt := 70) X.x X.b d_Model_goesOn_16 (by decide) (fun c2 => ?_) (fun c2 => ?_)
    · skip
      refine lv_iconst (v := 1) X.x X.b d_Model_goesOn_70 (by decide) ?_
      refine lv_goto (tgt := 75) X.x X.b d_Model_goesOn_71 (by decide) ?_
      exact m_zret X hS (Nat.zero_le _) (Nat.zero_le _) d_Model_goesOn_75 rfl (congrArg (fun z => some (Value.int z)) (by simp [b2i, goM, c1, c2])) rfl
    · skip
      refine lv_aload_n X.x X.b d_Model_goesOn_19 rfl (lv_at hl 0 rfl) ?_
      refine m_get (v := .ref (mo + 3)) X ok_Model hM.1 8 (by decide) k_Model_16 rfl d_Model_goesOn_20 ?_
      refine lv_iload_n X.x X.b d_Model_goesOn_23 rfl (lv_at hl 1 rfl) ?_
      refine m_ild (v := s0 8 k) X hM.a8 k rfl (by omega) (by decide) (show s0 8 k = s0 8 k from rfl) d_Model_goesOn_24 ?_
      refine lv_iconst (v := 5) X.x X.b d_Model_goesOn_25 (by decide) ?_
      refine lv_icmp_eq (tgt := 70) X.x X.b d_Model_goesOn_26 (by decide) (fun c3 => ?_) (fun c3 => ?_)
      · skip
        refine lv_iconst (v := 1) X.x X.b d_Model_goesOn_70 (by decide) ?_
        refine lv_goto (tgt := 75) X.x X.b d_Model_goesOn_71 (by decide) ?_
        exact m_zret X hS (Nat.zero_le _) (Nat.zero_le _) d_Model_goesOn_75 rfl (congrArg (fun z => some (Value.int z)) (by simp [b2i, goM, c1, c2, c3])) rfl
      · skip
        refine lv_aload_n X.x X.b d_Model_goesOn_29 rfl (lv_at hl 0 rfl) ?_
        refine m_get (v := .ref (mo + 3)) X ok_Model hM.1 8 (by decide) k_Model_16 rfl d_Model_goesOn_30 ?_
        refine lv_iload_n X.x X.b d_Model_goesOn_33 rfl (lv_at hl 1 rfl) ?_
        refine m_ild (v := s0 8 k) X hM.a8 k rfl (by omega) (by decide) (show s0 8 k = s0 8 k from rfl) d_Model_goesOn_34 ?_
        refine lv_iconst (v := 4) X.x X.b d_Model_goesOn_35 (by decide) ?_
        refine lv_icmp_eq (tgt := 70) X.x X.b d_Model_goesOn_36 (by decide) (fun c4 => ?_) (fun c4 => ?_)
        · skip
          refine lv_iconst (v := 1) X.x X.b d_Model_goesOn_70 (by decide) ?_
          refine lv_goto (tgt := 75) X.x X.b d_Model_goesOn_71 (by decide) ?_
          exact m_zret X hS (Nat.zero_le _) (Nat.zero_le _) d_Model_goesOn_75 rfl (congrArg (fun z => some (Value.int z)) (by simp [b2i, goM, c1, c2, c3, c4])) rfl
        · skip
          refine lv_aload_n X.x X.b d_Model_goesOn_39 rfl (lv_at hl 0 rfl) ?_
          refine m_get (v := .ref (mo + 3)) X ok_Model hM.1 8 (by decide) k_Model_16 rfl d_Model_goesOn_40 ?_
          refine lv_iload_n X.x X.b d_Model_goesOn_43 rfl (lv_at hl 1 rfl) ?_
          refine m_ild (v := s0 8 k) X hM.a8 k rfl (by omega) (by decide) (show s0 8 k = s0 8 k from rfl) d_Model_goesOn_44 ?_
          refine lv_bipush (v := 6) X.x X.b d_Model_goesOn_45 (by decide) ?_
          refine lv_icmp_eq (tgt := 61) X.x X.b d_Model_goesOn_47 (by decide) (fun c5 => ?_) (fun c5 => ?_)
          · skip
            refine lv_aload_n X.x X.b d_Model_goesOn_61 rfl (lv_at hl 0 rfl) ?_
            refine m_get (v := .ref (mo + 10)) X ok_Model hM.1 15 (by decide) k_Model_37 rfl d_Model_goesOn_62 ?_
            refine lv_iload_n X.x X.b d_Model_goesOn_65 rfl (lv_at hl 1 rfl) ?_
            refine m_ild (v := s0 15 k) X hM.a15 k rfl (by omega) (by decide) (show s0 15 k = s0 15 k from rfl) d_Model_goesOn_66 ?_
            refine lv_if_ne (tgt := 74) X.x X.b d_Model_goesOn_67 (by decide) (fun c6 => ?_) (fun c6 => ?_)
            · skip
              refine lv_iconst (v := 0) X.x X.b d_Model_goesOn_74 (by decide) ?_
              exact m_zret X hS (Nat.zero_le _) (Nat.zero_le _) d_Model_goesOn_75 rfl (congrArg (fun z => some (Value.int z)) (by simp [b2i, goM, c1, c2, c3, c4, c5, c6])) rfl
            · skip
              refine lv_iconst (v := 1) X.x X.b d_Model_goesOn_70 (by decide) ?_
              refine lv_goto (tgt := 75) X.x X.b d_Model_goesOn_71 (by decide) ?_
              exact m_zret X hS (Nat.zero_le _) (Nat.zero_le _) d_Model_goesOn_75 rfl (congrArg (fun z => some (Value.int z)) (by simp [b2i, goM, c1, c2, c3, c4, c5, c6])) rfl
          · skip
            refine lv_aload_n X.x X.b d_Model_goesOn_50 rfl (lv_at hl 0 rfl) ?_
            refine m_get (v := .ref (mo + 3)) X ok_Model hM.1 8 (by decide) k_Model_16 rfl d_Model_goesOn_51 ?_
            refine lv_iload_n X.x X.b d_Model_goesOn_54 rfl (lv_at hl 1 rfl) ?_
            refine m_ild (v := s0 8 k) X hM.a8 k rfl (by omega) (by decide) (show s0 8 k = s0 8 k from rfl) d_Model_goesOn_55 ?_
            refine lv_bipush (v := 7) X.x X.b d_Model_goesOn_56 (by decide) ?_
            refine lv_icmp_ne (tgt := 74) X.x X.b d_Model_goesOn_58 (by decide) (fun c7 => ?_) (fun c7 => ?_)
            · skip
              refine lv_iconst (v := 0) X.x X.b d_Model_goesOn_74 (by decide) ?_
              exact m_zret X hS (Nat.zero_le _) (Nat.zero_le _) d_Model_goesOn_75 rfl (congrArg (fun z => some (Value.int z)) (by simp [b2i, goM, c1, c2, c3, c4, c5, c7])) rfl
            · skip
              refine lv_aload_n X.x X.b d_Model_goesOn_61 rfl (lv_at hl 0 rfl) ?_
              refine m_get (v := .ref (mo + 10)) X ok_Model hM.1 15 (by decide) k_Model_37 rfl d_Model_goesOn_62 ?_
              refine lv_iload_n X.x X.b d_Model_goesOn_65 rfl (lv_at hl 1 rfl) ?_
              refine m_ild (v := s0 15 k) X hM.a15 k rfl (by omega) (by decide) (show s0 15 k = s0 15 k from rfl) d_Model_goesOn_66 ?_
              refine lv_if_ne (tgt := 74) X.x X.b d_Model_goesOn_67 (by decide) (fun c8 => ?_) (fun c8 => ?_)
              · skip
                refine lv_iconst (v := 0) X.x X.b d_Model_goesOn_74 (by decide) ?_
                exact m_zret X hS (Nat.zero_le _) (Nat.zero_le _) d_Model_goesOn_75 rfl (congrArg (fun z => some (Value.int z)) (by simp [b2i, goM, c1, c2, c3, c4, c5, c7, c8])) rfl
              · skip
                refine lv_iconst (v := 1) X.x X.b d_Model_goesOn_70 (by decide) ?_
                refine lv_goto (tgt := 75) X.x X.b d_Model_goesOn_71 (by decide) ?_
                exact m_zret X hS (Nat.zero_le _) (Nat.zero_le _) d_Model_goesOn_75 rfl (congrArg (fun z => some (Value.int z)) (by simp [b2i, goM, c1, c2, c3, c4, c5, c7, c8])) rfl
set_option maxRecDepth 100000 in
set_option maxHeartbeats 4000000 in
theorem M_Model_layOut_D (l : Launch) (g : GG) {mo tq : Nat} {p0 : Nat → Int32} {s0 : Nat → Nat → Int32} {H0 : Heap} (hM : mAt g mo tq p0 s0 H0) {c : Nat} (hc : c ≤ 20) (hx : dxP c p0 s0) : MM l y_Model_layOut c_Model_layOut 3 none 3 0 0 g H0 [.ref mo] (fun q => mo ≤ q ∧ q < mo + 23) (none) (fun H1 => ∃ p s, mAt g mo tq p s H1 ∧ samP [6, 7] p0 p ∧ same [14, 15, 23] s0 s ∧ ∀ j, j ≤ c → s 23 j = 0) := by
  refine MM.of (by decide +kernel) (Nat.le_of_ble_eq_true rfl) ?_
  intro p e s m below meth cd X hH ls hl
  have X : CX g p s m _ meth cd c_Model_layOut 3 none R_Model _ := X
  have hl : lv_has ls 3 [(0, .ref mo)] := hl
  have hS : va_S (AA (fun q => mo ≤ q ∧ q < mo + 23) H0) H0 H0 [] := va_S.rf
  have hlt0 := hM.lt
  have htq0 := hM.tq
  obtain ⟨⟨hx3, hx5⟩, hk, hkc⟩ := hx
  refine lv_iconst (v := 0) X.x X.b d_Model_layOut_0 (by decide) ?_
  refine lv_istore_n (lv' := [(1, .int 0), (0, .ref mo)]) X.x X.b d_Model_layOut_1 rfl hl (by decide) rfl (fun ls hl => ?_)
  have lp : ∀ (n i : Nat) (ss : Nat → Nat → Int32), n = (c + 1) - i → i < 5000 → (same [23] s0 ss ∧ ∀ j, j < i → ss 23 j = 0) → ∀ (H : Heap) (locs : List Loc) (ls : Array Slot), mAt g mo tq p0 ss H → va_S (AA (fun q => mo ≤ q ∧ q < mo + 23) H0) H0 H locs → lv_has ls 3 [(0, .ref mo), (1, .int (nI i))] → W p l e (rmK 3 0 0) s m ([.ref mo] : List Value).toArray below meth cd H locs 0 0 (MQ below (QM (none) (fun H1 => ∃ p s, mAt g mo tq p s H1 ∧ samP [6, 7] p0 p ∧ same [14, 15, 23] s0 s ∧ ∀ j, j ≤ c → s 23 j = 0) (fun q => mo ≤ q ∧ q < mo + 23) H0) ([.ref mo] : List Value).toArray s 0 0 (AA (fun q => mo ≤ q ∧ q < mo + 23) H0)) (F0 m 2 ls []) := by
    intro n
    induction n with
    | zero =>
      intro i ss hin hi5 hE H locs ls hM hS hl
      refine lv_iload_n X.x X.b d_Model_layOut_2 rfl (lv_at hl 1 rfl) ?_
      refine lv_aload_n X.x X.b d_Model_layOut_3 rfl (lv_at hl 0 rfl) ?_
      refine m_get (v := .int (nI (c + 1))) X ok_Model hM.1 5 (by decide) k_Model_132 (congrArg (fun z => some (Value.int z)) (show p0 5 = nI (c + 1) from (by rw [hx5]))) d_Model_layOut_4 ?_
      refine lv_icmp_ge (tgt := 23) X.x X.b d_Model_layOut_7 (by decide) (fun c1 => ?_) (fun c1 => ?_)
      · skip
        have c1q := Int32.not_lt.mpr c1
        refine lv_aload_n X.x X.b d_Model_layOut_23 rfl (lv_at hl 0 rfl) ?_
        refine lv_iconst (v := 0) X.x X.b d_Model_layOut_24 (by decide) ?_
        refine m_put X ok_Model hS (Or.inl ⟨by omega, by omega⟩) hM.1 7 (by decide) k_Model_171 rfl (ok_Model.2.2.1 _ (by decide)) rfl rfl (Nat.le_of_ble_eq_true rfl) d_Model_layOut_25 (fun H locs hp hcg hS => ?_)
        have hM := hM.f7 hp hcg
        obtain ⟨p_1, ep_1⟩ : ∃ z, z = upd p0 7 0 := ⟨_, rfl⟩
        rw [← ep_1] at hM
        refine lv_iconst (v := 1) X.x X.b d_Model_layOut_28 (by decide) ?_
        refine lv_istore_n (lv' := [(1, .int 1), (0, .ref mo)]) X.x X.b d_Model_layOut_29 rfl hl (by decide) rfl (fun ls hl => ?_)
        refine lv_iload_n X.x X.b d_Model_layOut_30 rfl (lv_at hl 0 rfl) ?_
        refine lv_if_eq (tgt := 113) X.x X.b d_Model_layOut_31 (by decide) (fun c2 => ?_) (fun c2 => ?_)
        · exact absurd c2 (by decide)
        · skip
          refine lv_aload_n X.x X.b d_Model_layOut_34 rfl (lv_at hl 1 rfl) ?_
          have hR := M_Model_place_w (c := c + 1) l g hM (by rw [ep_1, upd_mi _ _ _ (show 5 ≠ 7 by decide), hx5]) (by omega) (fun k hk9 h7 => (Nat.lt_or_ge k c).elim (fun z => absurd ((show ss 8 k = 2 from by rw [hE.1 8 (by decide)]; exact (hk k z).1).symm.trans h7) (by decide)) (fun z => absurd ((show ss 8 k = 6 from by rw [hE.1 8 (by decide), show k = c by omega]; exact hkc).symm.trans h7) (by decide)))
          refine m_callM X hS hR v_Model_174 hM.1 rfl rfl rfl (Nat.le_of_ble_eq_true rfl) hl.1 d_Model_layOut_35 (by omega) (by decide) ⟨by omega, by omega⟩ (fun q z => by have z : mo ≤ q ∧ q < mo + 23 := z; exact ⟨by omega, by omega⟩) (fun H locs hq hfr hS => ?_)
          obtain ⟨p_2, s_3, hM, hp_4, hs_5⟩ := hq
          refine lv_aload_n X.x X.b d_Model_layOut_38 rfl (lv_at hl 1 rfl) ?_
          refine lv_dup X.x X.b d_Model_layOut_39 rfl ?_
          refine m_get (v := .int 0) X ok_Model hM.1 7 (by decide) k_Model_171 (congrArg (fun z => some (Value.int z)) (show p_2 7 = 0 from (by rw [hp_4 7 (by decide), ep_1, upd_hit]))) d_Model_layOut_40 ?_
          refine lv_iconst (v := 1) X.x X.b d_Model_layOut_43 (by decide) ?_
          refine lv_iadd X.x X.b d_Model_layOut_44 ?_
          rw [show (0 + 1 : Int32) = 1 from by decide]
          refine m_put X ok_Model hS (Or.inl ⟨by omega, by omega⟩) hM.1 7 (by decide) k_Model_171 rfl (ok_Model.2.2.1 _ (by decide)) rfl rfl (Nat.le_of_ble_eq_true rfl) d_Model_layOut_45 (fun H locs hp hcg hS => ?_)
          have hM := hM.f7 hp hcg
          obtain ⟨p_6, ep_6⟩ : ∃ z, z = upd p_2 7 1 := ⟨_, rfl⟩
          rw [← ep_6] at hM
          refine lv_iconst (v := 0) X.x X.b d_Model_layOut_48 (by decide) ?_
          refine lv_istore_n (lv' := [(1, .int 0), (0, .ref mo)]) X.x X.b d_Model_layOut_49 rfl hl (by decide) rfl (fun ls hl => ?_)
          refine lv_iconst (v := 0) X.x X.b d_Model_layOut_50 (by decide) ?_
          refine lv_istore_n (lv' := [(2, .int 0), (1, .int 0), (0, .ref mo)]) X.x X.b d_Model_layOut_51 rfl hl (by decide) rfl (fun ls hl => ?_)
          have lp2 : ∀ (n2 t : Nat), n2 = (c + 1) - t → t < 5000 → (t ≤ c + 1) → ∀ (locs : List Loc) (ls : Array Slot), va_S (AA (fun q => mo ≤ q ∧ q < mo + 23) H0) H0 H locs → lv_has ls 3 [(0, .ref mo), (1, .int 0), (2, .int (nI t))] → W p l e (rmK 3 0 0) s m ([.ref mo] : List Value).toArray below meth cd H locs 0 0 (MQ below (QM (none) (fun H1 => ∃ p s, mAt g mo tq p s H1 ∧ samP [6, 7] p0 p ∧ same [14, 15, 23] s0 s ∧ ∀ j, j ≤ c → s 23 j = 0) (fun q => mo ≤ q ∧ q < mo + 23) H0) ([.ref mo] : List Value).toArray s 0 0 (AA (fun q => mo ≤ q ∧ q < mo + 23) H0)) (F0 m 52 ls []) := by
            intro n2
            induction n2 with
            | zero =>
              intro t hin2 ht5 htc locs ls hS hl
              refine lv_iload_n X.x X.b d_Model_layOut_52 rfl (lv_at hl 2 rfl) ?_
              refine lv_aload_n X.x X.b d_Model_layOut_53 rfl (lv_at hl 0 rfl) ?_
              refine m_get (v := .int (nI (c + 1))) X ok_Model hM.1 5 (by decide) k_Model_132 (congrArg (fun z => some (Value.int z)) (show p_6 5 = nI (c + 1) from (by rw [ep_6, upd_mi _ _ _ (show 5 ≠ 7 by decide), hp_4 5 (by decide), ep_1, upd_mi _ _ _ (show 5 ≠ 7 by decide), hx5]))) d_Model_layOut_54 ?_
              refine lv_icmp_ge (tgt := 110) X.x X.b d_Model_layOut_57 (by decide) (fun c3 => ?_) (fun c3 => ?_)
              · skip
                have c3q := Int32.not_lt.mpr c3
                refine lv_goto (tgt := 30) X.x X.b d_Model_layOut_110 (by decide) ?_
                refine lv_iload_n X.x X.b d_Model_layOut_30 rfl (lv_at hl 1 rfl) ?_
                refine lv_if_eq (tgt := 113) X.x X.b d_Model_layOut_31 (by decide) (fun c4 => ?_) (fun c4 => ?_)
                · skip
                  exact m_vret X hS (by omega) (by omega) d_Model_layOut_113 rfl ⟨_, _, hM, by rw [ep_6]; exact ((by rw [ep_1]; exact (samP.rf [6, 7] p0).up _ _ (by decide) : samP [6, 7] p0 p_1).tr hp_4 (by decide)).up _ _ (by decide), (hE.1.mono (by decide)).tr hs_5 (by decide), fun j hj => by rw [hs_5 23 (by decide)]; exact hE.2 j (by omega)⟩
                · exact absurd c4 (by decide)
              · exact absurd ((nI_leI (a := (c + 1)) (b := t) (by omega) (by omega)).mpr (by omega)) c3
            | succ n2 ih2 =>
              intro t hin2 ht5 htc locs ls hS hl
              refine lv_iload_n X.x X.b d_Model_layOut_52 rfl (lv_at hl 2 rfl) ?_
              refine lv_aload_n X.x X.b d_Model_layOut_53 rfl (lv_at hl 0 rfl) ?_
              refine m_get (v := .int (nI (c + 1))) X ok_Model hM.1 5 (by decide) k_Model_132 (congrArg (fun z => some (Value.int z)) (show p_6 5 = nI (c + 1) from (by rw [ep_6, upd_mi _ _ _ (show 5 ≠ 7 by decide), hp_4 5 (by decide), ep_1, upd_mi _ _ _ (show 5 ≠ 7 by decide), hx5]))) d_Model_layOut_54 ?_
              refine lv_icmp_ge (tgt := 110) X.x X.b d_Model_layOut_57 (by decide) (fun c5 => ?_) (fun c5 => ?_)
              · exact absurd ((nI_leI (a := (c + 1)) (b := t) (by omega) (by omega)).mp c5) (by omega)
              · skip
                have c5q := Int32.not_le.mp c5
                rcases Nat.lt_or_ge t c with hic | hic
                · skip
                  refine lv_aload_n X.x X.b d_Model_layOut_60 rfl (lv_at hl 0 rfl) ?_
                  refine lv_iload_n X.x X.b d_Model_layOut_61 rfl (lv_at hl 2 rfl) ?_
                  have hR := M_Model_isBranch (k := t) l g hM (by omega)
                  rw [show b2i (s_3 8 t = 3 ∨ s_3 8 t = 4) = 0 from b2i_f (by rw [show s_3 8 t = 2 from (by rw [hs_5 8 (by decide), hE.1 8 (by decide), (hk t hic).1])]; first | decide | simp)] at hR
                  refine m_callP X hS hR v_Model_177 hM.1 rfl rfl rfl (Nat.le_of_ble_eq_true rfl) hl.1 d_Model_layOut_62 (by omega) (by decide) ⟨by omega, by omega⟩ (fun locs hS => ?_)
                  refine lv_if_eq (tgt := 104) X.x X.b d_Model_layOut_65 (by decide) (fun c6 => ?_) (fun c6 => ?_)
                  · skip
                    refine lv_iinc (v := nI (t + 1)) (lv' := [(2, .int (nI (t + 1))), (0, .ref mo), (1, .int 0)]) X.x X.b d_Model_layOut_104 hl (k := 2) rfl (nI_1 t) (by decide) rfl (fun ls hl => ?_)
                    refine lv_goto (tgt := 52) X.x X.b d_Model_layOut_107 (by decide) ?_
                    exact ih2 (t + 1) (by omega) (by omega) ((by omega)) _ _ hS (lv_sub hl [1, 2, 0] rfl)
                  · exact absurd c6 (by decide)
                · skip
                  have hic : t = c := by omega
                  refine lv_aload_n X.x X.b d_Model_layOut_60 rfl (lv_at hl 0 rfl) ?_
                  refine lv_iload_n X.x X.b d_Model_layOut_61 rfl (lv_at hl 2 rfl) ?_
                  have hR := M_Model_isBranch (k := t) l g hM (by omega)
                  rw [show b2i (s_3 8 t = 3 ∨ s_3 8 t = 4) = 0 from b2i_f (by rw [show s_3 8 t = 6 from (by rw [hs_5 8 (by decide), hE.1 8 (by decide), hic, hkc])]; first | decide | simp)] at hR
                  refine m_callP X hS hR v_Model_177 hM.1 rfl rfl rfl (Nat.le_of_ble_eq_true rfl) hl.1 d_Model_layOut_62 (by omega) (by decide) ⟨by omega, by omega⟩ (fun locs hS => ?_)
                  refine lv_if_eq (tgt := 104) X.x X.b d_Model_layOut_65 (by decide) (fun c7 => ?_) (fun c7 => ?_)
                  · skip
                    refine lv_iinc (v := nI (t + 1)) (lv' := [(2, .int (nI (t + 1))), (0, .ref mo), (1, .int 0)]) X.x X.b d_Model_layOut_104 hl (k := 2) rfl (nI_1 t) (by decide) rfl (fun ls hl => ?_)
                    refine lv_goto (tgt := 52) X.x X.b d_Model_layOut_107 (by decide) ?_
                    exact ih2 (t + 1) (by omega) (by omega) ((by omega)) _ _ hS (lv_sub hl [1, 2, 0] rfl)
                  · exact absurd c7 (by decide)
          exact lp2 (c + 1) 0 (by omega) (by omega) (Nat.zero_le _) _ _ hS (lv_sub hl [2, 1, 0] rfl)
      · exact absurd ((nI_leI (a := (c + 1)) (b := i) (by omega) (by omega)).mpr (by omega)) c1
    | succ n ih =>
      intro i ss hin hi5 hE H locs ls hM hS hl
      refine lv_iload_n X.x X.b d_Model_layOut_2 rfl (lv_at hl 1 rfl) ?_
      refine lv_aload_n X.x X.b d_Model_layOut_3 rfl (lv_at hl 0 rfl) ?_
      refine m_get (v := .int (nI (c + 1))) X ok_Model hM.1 5 (by decide) k_Model_132 (congrArg (fun z => some (Value.int z)) (show p0 5 = nI (c + 1) from (by rw [hx5]))) d_Model_layOut_4 ?_
      refine lv_icmp_ge (tgt := 23) X.x X.b d_Model_layOut_7 (by decide) (fun c8 => ?_) (fun c8 => ?_)
      · exact absurd ((nI_leI (a := (c + 1)) (b := i) (by omega) (by omega)).mp c8) (by omega)
      · skip
        have c8q := Int32.not_le.mp c8
        refine lv_aload_n X.x X.b d_Model_layOut_10 rfl (lv_at hl 0 rfl) ?_
        refine m_get (v := .ref (mo + 18)) X ok_Model hM.1 23 (by decide) k_Model_61 rfl d_Model_layOut_11 ?_
        refine lv_iload_n X.x X.b d_Model_layOut_14 rfl (lv_at hl 1 rfl) ?_
        refine lv_iconst (v := 0) X.x X.b d_Model_layOut_15 (by decide) ?_
        refine m_zst X hS (Or.inl ⟨by omega, by omega⟩) hM.a23 i rfl (by omega) (by decide) rfl d_Model_layOut_16 (fun H locs hp hcg hS => ?_)
        have hM := hM.s23 hp hcg
        obtain ⟨s_7, es_7⟩ : ∃ z, z = updR ss 23 (upd (ss 23) i 0) := ⟨_, rfl⟩
        rw [← es_7] at hM
        refine lv_iinc (v := nI (i + 1)) (lv' := [(1, .int (nI (i + 1))), (0, .ref mo)]) X.x X.b d_Model_layOut_17 hl (k := 1) rfl (nI_1 i) (by decide) rfl (fun ls hl => ?_)
        refine lv_goto (tgt := 2) X.x X.b d_Model_layOut_20 (by decide) ?_
        exact ih (i + 1) s_7 (by omega) (by omega) (⟨by rw [es_7]; exact hE.1.up _ _ (by decide), fun j hj => (Nat.lt_or_ge j i).elim (fun z => by rw [es_7, updR_n2 _ _ _ _ (show j ≠ i by omega)]; exact hE.2 j z) (fun z => by rw [show j = i by omega, es_7]; exact updR_hit _ _ _ _)⟩) _ _ _ hM hS (lv_sub hl [1, 0] rfl)
  exact lp (c + 1) 0 s0 (by omega) (by omega) (⟨same.rf _ _, fun j hj => absurd hj (Nat.not_lt_zero j)⟩) _ _ _ hM hS (lv_sub hl [1, 0] rfl)
