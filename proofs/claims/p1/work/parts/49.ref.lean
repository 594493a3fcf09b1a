-- THE REFERENCE, EXPANDING ONE LINE OF MAIN
/-- one LINE in MAIN, the other rows empty -/
def oneL (k x y n r : Int32) (s : Nat → Nat → Int32) : Prop := (s 2 0 = 1 ∧ ∀ t, 0 < t → t < 5 → s 2 t = 0) ∧ s 1 0 = k ∧ s 1 1 = x ∧ s 1 2 = y ∧ s 1 3 = n ∧ s 1 4 = r
theorem ge_ne (c : Nat) (j : Nat) (h : j < c) : j ≠ c := Nat.ne_of_lt h
theorem nI_nm1 {j : Nat} (h : j < 2 ^ 31) : ¬ nI j = -1 := fun e => absurd (by rw [e]; decide : nI j < 0) (Int32.not_lt.mpr (nI_pos' h))
set_option maxRecDepth 100000 in
set_option maxHeartbeats 4000000 in
theorem M_Model_setNow_n (l : Launch) (g : GG) {mo tq : Nat} {p0 : Nat → Int32} {s0 : Nat → Nat → Int32} {H0 : Heap} (hM : mAt g mo tq p0 s0 H0) (a : Int32) : MP l y_Model_setNow c_Model_setNow 3 (some .int) 0 g H0 [.ref mo, .int (-1), .int a] (some (.int 0)) := by
  refine MM.of (by decide +kernel) (Nat.le_of_ble_eq_true rfl) ?_
  intro p e s m below meth cd X hH ls hl
  have X : CX g p s m _ meth cd c_Model_setNow 3 (some .int) R_Model _ := X
  have hl : lv_has ls 3 [(0, .ref mo), (1, .int (-1)), (2, .int a)] := hl
  have hS : va_S (AA (noA) H0) H0 H0 [] := va_S.rf
  have hlt0 := hM.lt
  have htq0 := hM.tq
  refine lv_iload_n X.x X.b d_Model_setNow_0 rfl (lv_at hl 1 rfl) ?_
  refine lv_iconst (v := -1) X.x X.b d_Model_setNow_1 (by decide) ?_
  refine lv_icmp_ne (tgt := 7) X.x X.b d_Model_setNow_2 (by decide) (fun c1 => ?_) (fun c1 => ?_)
  · exact absurd c1 (by decide)
  · skip
    refine lv_iconst (v := 0) X.x X.b d_Model_setNow_5 (by decide) ?_
    exact m_iret X hS (Nat.zero_le _) (Nat.zero_le _) d_Model_setNow_6 (congrArg (fun z => some (Value.int z)) (by simp [c1])) rfl
set_option maxRecDepth 100000 in
set_option maxHeartbeats 4000000 in
theorem M_Model_setNow_0 (l : Launch) (g : GG) {mo tq : Nat} {p0 : Nat → Int32} {s0 : Nat → Nat → Int32} {H0 : Heap} (hM : mAt g mo tq p0 s0 H0) {j : Nat} (hj : j < 8) (h25 : s0 25 j = 0) (a : Int32) : MM l y_Model_setNow c_Model_setNow 3 (some .int) 1 0 0 g H0 [.ref mo, .int (nI j), .int a] (fun q => mo ≤ q ∧ q < mo + 23) (some (.int 0)) (fun H1 => mAt g mo tq (upd (upd p0 3 3) 4 a) s0 H1) := by
  refine MM.of (by decide +kernel) (Nat.le_of_ble_eq_true rfl) ?_
  intro p e s m below meth cd X hH ls hl
  have X : CX g p s m _ meth cd c_Model_setNow 3 (some .int) R_Model _ := X
  have hl : lv_has ls 3 [(0, .ref mo), (1, .int (nI j)), (2, .int a)] := hl
  have hS : va_S (AA (fun q => mo ≤ q ∧ q < mo + 23) H0) H0 H0 [] := va_S.rf
  have hlt0 := hM.lt
  have htq0 := hM.tq
  refine lv_iload_n X.x X.b d_Model_setNow_0 rfl (lv_at hl 1 rfl) ?_
  refine lv_iconst (v := -1) X.x X.b d_Model_setNow_1 (by decide) ?_
  refine lv_icmp_ne (tgt := 7) X.x X.b d_Model_setNow_2 (by decide) (fun c1 => ?_) (fun c1 => ?_)
  · skip
    refine lv_aload_n X.x X.b d_Model_setNow_7 rfl (lv_at hl 0 rfl) ?_
    refine m_get (v := .ref (mo + 20)) X ok_Model hM.1 25 (by decide) k_Model_68 rfl d_Model_setNow_8 ?_
    refine lv_iload_n X.x X.b d_Model_setNow_11 rfl (lv_at hl 1 rfl) ?_
    refine m_ild (v := 0) X hM.a25 j rfl (by omega) (by decide) (show s0 25 j = 0 from (by rw [h25])) d_Model_setNow_12 ?_
    refine lv_if_ne (tgt := 22) X.x X.b d_Model_setNow_13 (by decide) (fun c2 => ?_) (fun c2 => ?_)
    · exact absurd c2 (by decide)
    · skip
      refine lv_aload_n X.x X.b d_Model_setNow_16 rfl (lv_at hl 0 rfl) ?_
      refine lv_iconst (v := 3) X.x X.b d_Model_setNow_17 (by decide) ?_
      refine lv_iload_n X.x X.b d_Model_setNow_18 rfl (lv_at hl 2 rfl) ?_
      have hR := M_Model_stop l g hM 3 a
      refine m_callM X hS hR v_Model_135 hM.1 rfl rfl rfl (Nat.le_of_ble_eq_true rfl) hl.1 d_Model_setNow_19 (by omega) (by decide) ⟨by omega, by omega⟩ (fun q z => by have z : mo ≤ q ∧ q < mo + 23 := z; exact ⟨by omega, by omega⟩) (fun H locs hM hfr hS => ?_)
      obtain ⟨p_1, ep_1⟩ : ∃ z, z = upd p0 3 3 := ⟨_, rfl⟩
      rw [← ep_1] at hM
      obtain ⟨p_2, ep_2⟩ : ∃ z, z = upd p_1 4 a := ⟨_, rfl⟩
      rw [← ep_2] at hM
      refine lv_aload_n X.x X.b d_Model_setNow_22 rfl (lv_at hl 0 rfl) ?_
      refine m_get (v := .ref (mo + 20)) X ok_Model hM.1 25 (by decide) k_Model_68 rfl d_Model_setNow_23 ?_
      refine lv_iload_n X.x X.b d_Model_setNow_26 rfl (lv_at hl 1 rfl) ?_
      refine m_ild (v := 0) X hM.a25 j rfl (by omega) (by decide) (show s0 25 j = 0 from (by rw [h25])) d_Model_setNow_27 ?_
      refine lv_if_ne (tgt := 35) X.x X.b d_Model_setNow_28 (by decide) (fun c3 => ?_) (fun c3 => ?_)
      · exact absurd c2 c3
      · skip
        refine lv_iconst (v := 0) X.x X.b d_Model_setNow_31 (by decide) ?_
        refine lv_goto (tgt := 41) X.x X.b d_Model_setNow_32 (by decide) ?_
        exact m_iret X hS (by omega) (by omega) d_Model_setNow_41 rfl (by subst ep_2; subst ep_1; exact hM)
  · exact absurd c1 (nI_nm1 (by omega))
set_option maxRecDepth 100000 in
set_option maxHeartbeats 4000000 in
theorem M_Model_endOf_1 (l : Launch) (g : GG) {mo tq : Nat} {p0 : Nat → Int32} {s0 : Nat → Nat → Int32} {H0 : Heap} (hM : mAt g mo tq p0 s0 H0) (h2 : s0 2 0 = 1) : MP l y_Model_endOf c_Model_endOf 5 (some .int) 0 g H0 [.ref mo, .int 0, .int 0] (some (.int 1)) := by
  refine MM.of (by decide +kernel) (Nat.le_of_ble_eq_true rfl) ?_
  intro p e s m below meth cd X hH ls hl
  have X : CX g p s m _ meth cd c_Model_endOf 5 (some .int) R_Model _ := X
  have hl : lv_has ls 5 [(0, .ref mo), (1, .int 0), (2, .int 0)] := hl
  have hS : va_S (AA (noA) H0) H0 H0 [] := va_S.rf
  have hlt0 := hM.lt
  have htq0 := hM.tq
  refine lv_iconst (v := 1) X.x X.b d_Model_endOf_0 (by decide) ?_
  refine lv_istore_n (lv' := [(3, .int 1), (0, .ref mo), (1, .int 0), (2, .int 0)]) X.x X.b d_Model_endOf_1 rfl hl (by decide) rfl (fun ls hl => ?_)
  refine lv_iload_n X.x X.b d_Model_endOf_2 rfl (lv_at hl 3 rfl) ?_
  refine lv_iconst (v := 1) X.x X.b d_Model_endOf_3 (by decide) ?_
  refine lv_iadd X.x X.b d_Model_endOf_4 ?_
  rw [show (0 + 1 : Int32) = 1 from by decide]
  refine lv_istore (lv' := [(4, .int 1), (3, .int 1), (0, .ref mo), (1, .int 0), (2, .int 0)]) X.x X.b d_Model_endOf_5 hl (by decide) rfl (fun ls hl => ?_)
  refine lv_iload X.x X.b d_Model_endOf_7 (lv_at hl 0 rfl) ?_
  refine lv_aload_n X.x X.b d_Model_endOf_9 rfl (lv_at hl 2 rfl) ?_
  refine m_get (v := .ref (mo + 2)) X ok_Model hM.1 2 (by decide) k_Model_13 rfl d_Model_endOf_10 ?_
  refine lv_iload_n X.x X.b d_Model_endOf_13 rfl (lv_at hl 3 rfl) ?_
  refine m_ild (v := 1) X hM.a2 0 rfl (by omega) (by decide) (show s0 2 0 = 1 from (by rw [h2])) d_Model_endOf_14 ?_
  refine lv_icmp_ge (tgt := 75) X.x X.b d_Model_endOf_15 (by decide) (fun c1 => ?_) (fun c1 => ?_)
  · skip
    have c1q := Int32.not_lt.mpr c1
    refine lv_iload X.x X.b d_Model_endOf_75 (lv_at hl 0 rfl) ?_
    exact m_iret X hS (Nat.zero_le _) (Nat.zero_le _) d_Model_endOf_77 (congrArg (fun z => some (Value.int z)) (by simp [c1, c1q])) rfl
  · exact absurd c1 (by decide)
set_option maxRecDepth 100000 in
set_option maxHeartbeats 4000000 in
theorem M_Model_take_0n (l : Launch) (g : GG) {mo tq : Nat} {p0 : Nat → Int32} {s0 : Nat → Nat → Int32} {H0 : Heap} (hM : mAt g mo tq p0 s0 H0) (h5 : p0 5 = 0) (h3 : p0 3 = 0) {j : Nat} (hj : j < 8) (h25 : s0 25 j = 0) (h27 : s0 27 j = -1) (n : Int32) : MM l y_Model_take c_Model_take 8 none 2 0 0 g H0 [.ref mo, .int 0, .int (nI j), .int (-1), .int n, .int 0, .int 0] (fun q => mo ≤ q ∧ q < mo + 23) (none) (fun H1 => ∃ p s, mAt g mo tq p s H1 ∧ p 0 = p0 0 ∧ p 3 = 0 ∧ p 5 = 1 ∧ s 8 0 = 0 ∧ s 9 0 = (nI j) ∧ s 10 0 = (-1) ∧ s 11 0 = n ∧ s 1 = s0 1 ∧ s 2 = s0 2) := by
  refine MM.of (by decide +kernel) (Nat.le_of_ble_eq_true rfl) ?_
  intro p e s m below meth cd X hH ls hl
  have X : CX g p s m _ meth cd c_Model_take 8 none R_Model _ := X
  have hl : lv_has ls 8 [(0, .ref mo), (1, .int 0), (2, .int (nI j)), (3, .int (-1)), (4, .int n), (5, .int 0), (6, .int 0)] := hl
  have hS : va_S (AA (fun q => mo ≤ q ∧ q < mo + 23) H0) H0 H0 [] := va_S.rf
  have hlt0 := hM.lt
  have htq0 := hM.tq
  refine lv_iload_n X.x X.b d_Model_take_0 rfl (lv_at hl 1 rfl) ?_
  refine lv_iconst (v := 1) X.x X.b d_Model_take_1 (by decide) ?_
  refine lv_icmp_ne (tgt := 69) X.x X.b d_Model_take_2 (by decide) (fun c1 => ?_) (fun c1 => ?_)
  · skip
    refine lv_iload_n X.x X.b d_Model_take_69 rfl (lv_at hl 1 rfl) ?_
    refine lv_if_ne (tgt := 117) X.x X.b d_Model_take_70 (by decide) (fun c2 => ?_) (fun c2 => ?_)
    · exact absurd c2 (by decide)
    · skip
      refine lv_iload_n X.x X.b d_Model_take_73 rfl (lv_at hl 2 rfl) ?_
      refine lv_bipush (v := 8) X.x X.b d_Model_take_74 (by decide) ?_
      refine lv_icmp_ge (tgt := 117) X.x X.b d_Model_take_76 (by decide) (fun c3 => ?_) (fun c3 => ?_)
      · exact absurd (nI_lt (b := 8) hj (by omega)) (Int32.not_lt.mpr c3)
      · skip
        have c3q := Int32.not_le.mp c3
        refine lv_aload_n X.x X.b d_Model_take_79 rfl (lv_at hl 0 rfl) ?_
        refine m_get (v := .ref (mo + 22)) X ok_Model hM.1 27 (by decide) k_Model_74 rfl d_Model_take_80 ?_
        refine lv_iload_n X.x X.b d_Model_take_83 rfl (lv_at hl 2 rfl) ?_
        refine m_ild (v := (-1)) X hM.a27 j rfl (by omega) (by decide) (show s0 27 j = (-1) from (by rw [h27])) d_Model_take_84 ?_
        refine lv_iconst (v := -1) X.x X.b d_Model_take_85 (by decide) ?_
        refine lv_icmp_ne (tgt := 99) X.x X.b d_Model_take_86 (by decide) (fun c4 => ?_) (fun c4 => ?_)
        · exact absurd c4 (by decide)
        · skip
          refine lv_aload_n X.x X.b d_Model_take_89 rfl (lv_at hl 0 rfl) ?_
          refine m_get (v := .ref (mo + 20)) X ok_Model hM.1 25 (by decide) k_Model_68 rfl d_Model_take_90 ?_
          refine lv_iload_n X.x X.b d_Model_take_93 rfl (lv_at hl 2 rfl) ?_
          refine m_ild (v := 0) X hM.a25 j rfl (by omega) (by decide) (show s0 25 j = 0 from (by rw [h25])) d_Model_take_94 ?_
          refine lv_iconst (v := 1) X.x X.b d_Model_take_95 (by decide) ?_
          refine lv_icmp_ne (tgt := 107) X.x X.b d_Model_take_96 (by decide) (fun c5 => ?_) (fun c5 => ?_)
          · skip
            refine lv_aload_n X.x X.b d_Model_take_107 rfl (lv_at hl 0 rfl) ?_
            refine m_get (v := .ref (mo + 22)) X ok_Model hM.1 27 (by decide) k_Model_74 rfl d_Model_take_108 ?_
            refine lv_iload_n X.x X.b d_Model_take_111 rfl (lv_at hl 2 rfl) ?_
            refine lv_aload_n X.x X.b d_Model_take_112 rfl (lv_at hl 0 rfl) ?_
            refine m_get (v := .int 0) X ok_Model hM.1 5 (by decide) k_Model_132 (congrArg (fun z => some (Value.int z)) (show p0 5 = 0 from (by rw [h5]))) d_Model_take_113 ?_
            refine m_ist X hS (Or.inl ⟨by omega, by omega⟩) hM.a27 j rfl (by omega) (by decide) d_Model_take_116 (fun H locs hp hcg hS => ?_)
            have hM := hM.s27 hp hcg
            obtain ⟨s_1, es_1⟩ : ∃ z, z = updR s0 27 (upd (s0 27) j 0) := ⟨_, rfl⟩
            rw [← es_1] at hM
            refine lv_aload_n X.x X.b d_Model_take_117 rfl (lv_at hl 0 rfl) ?_
            refine lv_iload_n X.x X.b d_Model_take_118 rfl (lv_at hl 1 rfl) ?_
            refine lv_iload_n X.x X.b d_Model_take_119 rfl (lv_at hl 2 rfl) ?_
            refine lv_iload_n X.x X.b d_Model_take_120 rfl (lv_at hl 3 rfl) ?_
            refine lv_iload X.x X.b d_Model_take_121 (lv_at hl 4 rfl) ?_
            refine lv_iload X.x X.b d_Model_take_123 (lv_at hl 5 rfl) ?_
            refine lv_iload X.x X.b d_Model_take_125 (lv_at hl 6 rfl) ?_
            have hR := M_Model_item (c := 0) l g hM (show p0 5 = 0 from (by rw [h5])) (by omega) 0 (nI j) (-1) n 0 0
            refine m_callM X hS hR v_Model_151 hM.1 rfl rfl rfl (Nat.le_of_ble_eq_true rfl) hl.1 d_Model_take_127 (by omega) (by decide) ⟨by omega, by omega⟩ (fun q z => by have z : mo ≤ q ∧ q < mo + 23 := z; exact ⟨by omega, by omega⟩) (fun H locs hM hfr hS => ?_)
            have hM : mAt g mo tq (upd p0 5 1) _ H := hM
            obtain ⟨p_2, ep_2⟩ : ∃ z, z = upd p0 5 1 := ⟨_, rfl⟩
            rw [← ep_2] at hM
            obtain ⟨s_3, es_3⟩ : ∃ z, z = itR s_1 0 0 (nI j) (-1) n 0 0 := ⟨_, rfl⟩
            rw [← es_3] at hM
            exact m_vret X hS (by omega) (by omega) d_Model_take_130 rfl ⟨_, _, hM, (by rw [ep_2, upd_mi _ _ _ (show 0 ≠ 5 by decide)]), (by rw [ep_2, upd_mi _ _ _ (show 3 ≠ 5 by decide), h3]), (by rw [ep_2, upd_hit]), (by rw [es_3, (itR_at s_1 0 0 (nI j) (-1) n 0 0).1]), (by rw [es_3, (itR_at s_1 0 0 (nI j) (-1) n 0 0).2.1]), (by rw [es_3, (itR_at s_1 0 0 (nI j) (-1) n 0 0).2.2.1]), (by rw [es_3, (itR_at s_1 0 0 (nI j) (-1) n 0 0).2.2.2.1]), by rw [es_3, itR_o s_1 0 0 (nI j) (-1) n 0 0 1 (by decide), es_1, updR_mf _ _ _ (show 1 ≠ 27 by decide)], by rw [es_3, itR_o s_1 0 0 (nI j) (-1) n 0 0 2 (by decide), es_1, updR_mf _ _ _ (show 2 ≠ 27 by decide)]⟩
          · exact absurd c5 c1
  · exact absurd c1 (by decide)
set_option maxRecDepth 100000 in
set_option maxHeartbeats 4000000 in
theorem M_Model_take_0l (l : Launch) (g : GG) {mo tq : Nat} {p0 : Nat → Int32} {s0 : Nat → Nat → Int32} {H0 : Heap} (hM : mAt g mo tq p0 s0 H0) (h5 : p0 5 = 0) (h3 : p0 3 = 0) {j : Nat} (hj : 8 ≤ j) (hj9 : j ≤ 9) (n : Int32) : MM l y_Model_take c_Model_take 8 none 2 0 0 g H0 [.ref mo, .int 0, .int (nI j), .int (-1), .int n, .int 0, .int 0] (fun q => mo ≤ q ∧ q < mo + 23) (none) (fun H1 => ∃ p s, mAt g mo tq p s H1 ∧ p 0 = p0 0 ∧ p 3 = 0 ∧ p 5 = 1 ∧ s 8 0 = 0 ∧ s 9 0 = (nI j) ∧ s 10 0 = (-1) ∧ s 11 0 = n ∧ s 1 = s0 1 ∧ s 2 = s0 2) := by
  refine MM.of (by decide +kernel) (Nat.le_of_ble_eq_true rfl) ?_
  intro p e s m below meth cd X hH ls hl
  have X : CX g p s m _ meth cd c_Model_take 8 none R_Model _ := X
  have hl : lv_has ls 8 [(0, .ref mo), (1, .int 0), (2, .int (nI j)), (3, .int (-1)), (4, .int n), (5, .int 0), (6, .int 0)] := hl
  have hS : va_S (AA (fun q => mo ≤ q ∧ q < mo + 23) H0) H0 H0 [] := va_S.rf
  have hlt0 := hM.lt
  have htq0 := hM.tq
  refine lv_iload_n X.x X.b d_Model_take_0 rfl (lv_at hl 1 rfl) ?_
  refine lv_iconst (v := 1) X.x X.b d_Model_take_1 (by decide) ?_
  refine lv_icmp_ne (tgt := 69) X.x X.b d_Model_take_2 (by decide) (fun c1 => ?_) (fun c1 => ?_)
  · skip
    refine lv_iload_n X.x X.b d_Model_take_69 rfl (lv_at hl 1 rfl) ?_
    refine lv_if_ne (tgt := 117) X.x X.b d_Model_take_70 (by decide) (fun c2 => ?_) (fun c2 => ?_)
    · exact absurd c2 (by decide)
    · skip
      refine lv_iload_n X.x X.b d_Model_take_73 rfl (lv_at hl 2 rfl) ?_
      refine lv_bipush (v := 8) X.x X.b d_Model_take_74 (by decide) ?_
      refine lv_icmp_ge (tgt := 117) X.x X.b d_Model_take_76 (by decide) (fun c3 => ?_) (fun c3 => ?_)
      · skip
        have c3q := Int32.not_lt.mpr c3
        refine lv_aload_n X.x X.b d_Model_take_117 rfl (lv_at hl 0 rfl) ?_
        refine lv_iload_n X.x X.b d_Model_take_118 rfl (lv_at hl 1 rfl) ?_
        refine lv_iload_n X.x X.b d_Model_take_119 rfl (lv_at hl 2 rfl) ?_
        refine lv_iload_n X.x X.b d_Model_take_120 rfl (lv_at hl 3 rfl) ?_
        refine lv_iload X.x X.b d_Model_take_121 (lv_at hl 4 rfl) ?_
        refine lv_iload X.x X.b d_Model_take_123 (lv_at hl 5 rfl) ?_
        refine lv_iload X.x X.b d_Model_take_125 (lv_at hl 6 rfl) ?_
        have hR := M_Model_item (c := 0) l g hM (show p0 5 = 0 from (by rw [h5])) (by omega) 0 (nI j) (-1) n 0 0
        refine m_callM X hS hR v_Model_151 hM.1 rfl rfl rfl (Nat.le_of_ble_eq_true rfl) hl.1 d_Model_take_127 (by omega) (by decide) ⟨by omega, by omega⟩ (fun q z => by have z : mo ≤ q ∧ q < mo + 23 := z; exact ⟨by omega, by omega⟩) (fun H locs hM hfr hS => ?_)
        have hM : mAt g mo tq (upd p0 5 1) _ H := hM
        obtain ⟨p_1, ep_1⟩ : ∃ z, z = upd p0 5 1 := ⟨_, rfl⟩
        rw [← ep_1] at hM
        obtain ⟨s_2, es_2⟩ : ∃ z, z = itR s0 0 0 (nI j) (-1) n 0 0 := ⟨_, rfl⟩
        rw [← es_2] at hM
        exact m_vret X hS (by omega) (by omega) d_Model_take_130 rfl ⟨_, _, hM, (by rw [ep_1, upd_mi _ _ _ (show 0 ≠ 5 by decide)]), (by rw [ep_1, upd_mi _ _ _ (show 3 ≠ 5 by decide), h3]), (by rw [ep_1, upd_hit]), (by rw [es_2, (itR_at s0 0 0 (nI j) (-1) n 0 0).1]), (by rw [es_2, (itR_at s0 0 0 (nI j) (-1) n 0 0).2.1]), (by rw [es_2, (itR_at s0 0 0 (nI j) (-1) n 0 0).2.2.1]), (by rw [es_2, (itR_at s0 0 0 (nI j) (-1) n 0 0).2.2.2.1]), by rw [es_2, itR_o s0 0 0 (nI j) (-1) n 0 0 1 (by decide)], by rw [es_2, itR_o s0 0 0 (nI j) (-1) n 0 0 2 (by decide)]⟩
      · exact absurd ((nI_leI (a := 8) (b := j) (by omega) (by omega)).mpr hj) c3
  · exact absurd c1 (by decide)
set_option maxRecDepth 100000 in
set_option maxHeartbeats 4000000 in
theorem M_Model_take_1n (l : Launch) (g : GG) {mo tq : Nat} {p0 : Nat → Int32} {s0 : Nat → Nat → Int32} {H0 : Heap} (hM : mAt g mo tq p0 s0 H0) (h5 : p0 5 = 0) (h3 : p0 3 = 0) {j : Nat} (hj : j < 8) (h25 : s0 25 j = 0) (h27 : s0 27 j = -1) (n : Int32) : MM l y_Model_take c_Model_take 8 none 2 0 0 g H0 [.ref mo, .int 1, .int (nI j), .int (-1), .int n, .int 0, .int 0] (fun q => mo ≤ q ∧ q < mo + 23) (none) (fun H1 => ∃ p s, mAt g mo tq p s H1 ∧ p 0 = p0 0 ∧ p 3 = 0 ∧ p 5 = 1 ∧ s 8 0 = 1 ∧ s 9 0 = (nI j) ∧ s 10 0 = (-1) ∧ s 11 0 = n ∧ s 1 = s0 1 ∧ s 2 = s0 2) := by
  refine MM.of (by decide +kernel) (Nat.le_of_ble_eq_true rfl) ?_
  intro p e s m below meth cd X hH ls hl
  have X : CX g p s m _ meth cd c_Model_take 8 none R_Model _ := X
  have hl : lv_has ls 8 [(0, .ref mo), (1, .int 1), (2, .int (nI j)), (3, .int (-1)), (4, .int n), (5, .int 0), (6, .int 0)] := hl
  have hS : va_S (AA (fun q => mo ≤ q ∧ q < mo + 23) H0) H0 H0 [] := va_S.rf
  have hlt0 := hM.lt
  have htq0 := hM.tq
  refine lv_iload_n X.x X.b d_Model_take_0 rfl (lv_at hl 1 rfl) ?_
  refine lv_iconst (v := 1) X.x X.b d_Model_take_1 (by decide) ?_
  refine lv_icmp_ne (tgt := 69) X.x X.b d_Model_take_2 (by decide) (fun c1 => ?_) (fun c1 => ?_)
  · exact absurd c1 (by decide)
  · skip
    refine lv_aload_n X.x X.b d_Model_take_5 rfl (lv_at hl 0 rfl) ?_
    refine lv_iload_n X.x X.b d_Model_take_6 rfl (lv_at hl 3 rfl) ?_
    refine lv_iload X.x X.b d_Model_take_7 (lv_at hl 5 rfl) ?_
    refine m_callP X hS (M_Model_setNow_n l g hM 0) v_Model_141 hM.1 rfl rfl rfl (Nat.le_of_ble_eq_true rfl) hl.1 d_Model_take_9 (by omega) (by decide) ⟨by omega, by omega⟩ (fun locs hS => ?_)
    refine lv_iload X.x X.b d_Model_take_12 (lv_at hl 4 rfl) ?_
    refine lv_iadd X.x X.b d_Model_take_14 ?_
    refine lv_istore (lv' := [(7, .int (0 + n)), (0, .ref mo), (1, .int 1), (2, .int (nI j)), (3, .int (-1)), (4, .int n), (5, .int 0), (6, .int 0)]) X.x X.b d_Model_take_15 hl (by decide) rfl (fun ls hl => ?_)
    refine lv_aload_n X.x X.b d_Model_take_17 rfl (lv_at hl 1 rfl) ?_
    refine m_get (v := .int 0) X ok_Model hM.1 3 (by decide) k_Model_126 (congrArg (fun z => some (Value.int z)) (show p0 3 = 0 from (by rw [h3]))) d_Model_take_18 ?_
    refine lv_if_le (tgt := 25) X.x X.b d_Model_take_21 (by decide) (fun c2 => ?_) (fun c2 => ?_)
    · skip
      have c2q := Int32.not_lt.mpr c2
      refine lv_aload_n X.x X.b d_Model_take_25 rfl (lv_at hl 1 rfl) ?_
      refine m_get (v := .ref (mo + 22)) X ok_Model hM.1 27 (by decide) k_Model_74 rfl d_Model_take_26 ?_
      refine lv_iload_n X.x X.b d_Model_take_29 rfl (lv_at hl 3 rfl) ?_
      refine m_ild (v := (-1)) X hM.a27 j rfl (by omega) (by decide) (show s0 27 j = (-1) from (by rw [h27])) d_Model_take_30 ?_
      refine lv_iconst (v := -1) X.x X.b d_Model_take_31 (by decide) ?_
      refine lv_icmp_eq (tgt := 43) X.x X.b d_Model_take_32 (by decide) (fun c3 => ?_) (fun c3 => ?_)
      · skip
        refine lv_aload_n X.x X.b d_Model_take_43 rfl (lv_at hl 1 rfl) ?_
        refine m_get (v := .ref (mo + 20)) X ok_Model hM.1 25 (by decide) k_Model_68 rfl d_Model_take_44 ?_
        refine lv_iload_n X.x X.b d_Model_take_47 rfl (lv_at hl 3 rfl) ?_
        refine lv_iconst (v := 1) X.x X.b d_Model_take_48 (by decide) ?_
        refine m_ist X hS (Or.inl ⟨by omega, by omega⟩) hM.a25 j rfl (by omega) (by decide) d_Model_take_49 (fun H locs hp hcg hS => ?_)
        have hM := hM.s25 hp hcg
        obtain ⟨s_1, es_1⟩ : ∃ z, z = updR s0 25 (upd (s0 25) j 1) := ⟨_, rfl⟩
        rw [← es_1] at hM
        refine lv_aload_n X.x X.b d_Model_take_50 rfl (lv_at hl 1 rfl) ?_
        refine m_get (v := .ref (mo + 21)) X ok_Model hM.1 26 (by decide) k_Model_71 rfl d_Model_take_51 ?_
        refine lv_iload_n X.x X.b d_Model_take_54 rfl (lv_at hl 3 rfl) ?_
        refine lv_iload X.x X.b d_Model_take_55 (lv_at hl 0 rfl) ?_
        refine m_ist X hS (Or.inl ⟨by omega, by omega⟩) hM.a26 j rfl (by omega) (by decide) d_Model_take_57 (fun H locs hp hcg hS => ?_)
        have hM := hM.s26 hp hcg
        obtain ⟨s_2, es_2⟩ : ∃ z, z = updR s_1 26 (upd (s_1 26) j (0 + n)) := ⟨_, rfl⟩
        rw [← es_2] at hM
        refine lv_aload_n X.x X.b d_Model_take_58 rfl (lv_at hl 1 rfl) ?_
        refine m_get (v := .ref (mo + 17)) X ok_Model hM.1 22 (by decide) k_Model_58 rfl d_Model_take_59 ?_
        refine lv_aload_n X.x X.b d_Model_take_62 rfl (lv_at hl 1 rfl) ?_
        refine m_get (v := .int 0) X ok_Model hM.1 5 (by decide) k_Model_132 (congrArg (fun z => some (Value.int z)) (show p0 5 = 0 from (by rw [h5]))) d_Model_take_63 ?_
        refine lv_iload X.x X.b d_Model_take_66 (lv_at hl 0 rfl) ?_
        refine m_ist X hS (Or.inl ⟨by omega, by omega⟩) hM.a22 0 rfl (by omega) (by decide) d_Model_take_68 (fun H locs hp hcg hS => ?_)
        have hM := hM.s22 hp hcg
        obtain ⟨s_3, es_3⟩ : ∃ z, z = updR s_2 22 (upd (s_2 22) 0 (0 + n)) := ⟨_, rfl⟩
        rw [← es_3] at hM
        refine lv_iload_n X.x X.b d_Model_take_69 rfl (lv_at hl 2 rfl) ?_
        refine lv_if_ne (tgt := 117) X.x X.b d_Model_take_70 (by decide) (fun c4 => ?_) (fun c4 => ?_)
        · skip
          refine lv_aload_n X.x X.b d_Model_take_117 rfl (lv_at hl 1 rfl) ?_
          refine lv_iload_n X.x X.b d_Model_take_118 rfl (lv_at hl 2 rfl) ?_
          refine lv_iload_n X.x X.b d_Model_take_119 rfl (lv_at hl 3 rfl) ?_
          refine lv_iload_n X.x X.b d_Model_take_120 rfl (lv_at hl 4 rfl) ?_
          refine lv_iload X.x X.b d_Model_take_121 (lv_at hl 5 rfl) ?_
          refine lv_iload X.x X.b d_Model_take_123 (lv_at hl 6 rfl) ?_
          refine lv_iload X.x X.b d_Model_take_125 (lv_at hl 7 rfl) ?_
          have hR := M_Model_item (c := 0) l g hM (show p0 5 = 0 from (by rw [h5])) (by omega) 1 (nI j) (-1) n 0 0
          refine m_callM X hS hR v_Model_151 hM.1 rfl rfl rfl (Nat.le_of_ble_eq_true rfl) hl.1 d_Model_take_127 (by omega) (by decide) ⟨by omega, by omega⟩ (fun q z => by have z : mo ≤ q ∧ q < mo + 23 := z; exact ⟨by omega, by omega⟩) (fun H locs hM hfr hS => ?_)
          have hM : mAt g mo tq (upd p0 5 1) _ H := hM
          obtain ⟨p_4, ep_4⟩ : ∃ z, z = upd p0 5 1 := ⟨_, rfl⟩
          rw [← ep_4] at hM
          obtain ⟨s_5, es_5⟩ : ∃ z, z = itR s_3 0 1 (nI j) (-1) n 0 0 := ⟨_, rfl⟩
          rw [← es_5] at hM
          exact m_vret X hS (by omega) (by omega) d_Model_take_130 rfl ⟨_, _, hM, (by rw [ep_4, upd_mi _ _ _ (show 0 ≠ 5 by decide)]), (by rw [ep_4, upd_mi _ _ _ (show 3 ≠ 5 by decide), h3]), (by rw [ep_4, upd_hit]), (by rw [es_5, (itR_at s_3 0 1 (nI j) (-1) n 0 0).1]), (by rw [es_5, (itR_at s_3 0 1 (nI j) (-1) n 0 0).2.1]), (by rw [es_5, (itR_at s_3 0 1 (nI j) (-1) n 0 0).2.2.1]), (by rw [es_5, (itR_at s_3 0 1 (nI j) (-1) n 0 0).2.2.2.1]), by rw [es_5, itR_o s_3 0 1 (nI j) (-1) n 0 0 1 (by decide), es_3, updR_mf _ _ _ (show 1 ≠ 22 by decide), es_2, updR_mf _ _ _ (show 1 ≠ 26 by decide), es_1, updR_mf _ _ _ (show 1 ≠ 25 by decide)], by rw [es_5, itR_o s_3 0 1 (nI j) (-1) n 0 0 2 (by decide), es_3, updR_mf _ _ _ (show 2 ≠ 22 by decide), es_2, updR_mf _ _ _ (show 2 ≠ 26 by decide), es_1, updR_mf _ _ _ (show 2 ≠ 25 by decide)]⟩
        · exact absurd c4 (by decide)
      · exact absurd c3 (by decide)
    · exact absurd c2 (by decide)
set_option maxRecDepth 100000 in
set_option maxHeartbeats 4000000 in
theorem M_Model_take_1f (l : Launch) (g : GG) {mo tq : Nat} {p0 : Nat → Int32} {s0 : Nat → Nat → Int32} {H0 : Heap} (hM : mAt g mo tq p0 s0 H0) (h5 : p0 5 = 0) (h3 : p0 3 = 0) {j : Nat} (hj : j < 8) (h25 : s0 25 j = 0) (h27 : s0 27 j = -1) {i : Nat} (hi : i < 8) (hi25 : s0 25 i = 0) (n : Int32) : MM l y_Model_take c_Model_take 8 none 2 0 0 g H0 [.ref mo, .int 1, .int (nI j), .int (nI i), .int n, .int 0, .int 0] (fun q => mo ≤ q ∧ q < mo + 23) (none) (fun H1 => ∃ p s, mAt g mo tq p s H1 ∧ p 0 = p0 0 ∧ p 3 = 3 ∧ s 1 = s0 1 ∧ s 2 = s0 2) := by
  refine MM.of (by decide +kernel) (Nat.le_of_ble_eq_true rfl) ?_
  intro p e s m below meth cd X hH ls hl
  have X : CX g p s m _ meth cd c_Model_take 8 none R_Model _ := X
  have hl : lv_has ls 8 [(0, .ref mo), (1, .int 1), (2, .int (nI j)), (3, .int (nI i)), (4, .int n), (5, .int 0), (6, .int 0)] := hl
  have hS : va_S (AA (fun q => mo ≤ q ∧ q < mo + 23) H0) H0 H0 [] := va_S.rf
  have hlt0 := hM.lt
  have htq0 := hM.tq
  refine lv_iload_n X.x X.b d_Model_take_0 rfl (lv_at hl 1 rfl) ?_
  refine lv_iconst (v := 1) X.x X.b d_Model_take_1 (by decide) ?_
  refine lv_icmp_ne (tgt := 69) X.x X.b d_Model_take_2 (by decide) (fun c1 => ?_) (fun c1 => ?_)
  · exact absurd c1 (by decide)
  · skip
    refine lv_aload_n X.x X.b d_Model_take_5 rfl (lv_at hl 0 rfl) ?_
    refine lv_iload_n X.x X.b d_Model_take_6 rfl (lv_at hl 3 rfl) ?_
    refine lv_iload X.x X.b d_Model_take_7 (lv_at hl 5 rfl) ?_
    have hR := M_Model_setNow_0 (j := i) l g hM (by omega) (show s0 25 i = 0 from (by rw [hi25])) 0
    refine m_callM X hS hR v_Model_141 hM.1 rfl rfl rfl (Nat.le_of_ble_eq_true rfl) hl.1 d_Model_take_9 (by omega) (by decide) ⟨by omega, by omega⟩ (fun q z => by have z : mo ≤ q ∧ q < mo + 23 := z; exact ⟨by omega, by omega⟩) (fun H locs hM hfr hS => ?_)
    obtain ⟨p_1, ep_1⟩ : ∃ z, z = upd p0 3 3 := ⟨_, rfl⟩
    rw [← ep_1] at hM
    obtain ⟨p_2, ep_2⟩ : ∃ z, z = upd p_1 4 0 := ⟨_, rfl⟩
    rw [← ep_2] at hM
    refine lv_iload X.x X.b d_Model_take_12 (lv_at hl 4 rfl) ?_
    refine lv_iadd X.x X.b d_Model_take_14 ?_
    refine lv_istore (lv' := [(7, .int (0 + n)), (0, .ref mo), (1, .int 1), (2, .int (nI j)), (3, .int (nI i)), (4, .int n), (5, .int 0), (6, .int 0)]) X.x X.b d_Model_take_15 hl (by decide) rfl (fun ls hl => ?_)
    refine lv_aload_n X.x X.b d_Model_take_17 rfl (lv_at hl 1 rfl) ?_
    refine m_get (v := .int 3) X ok_Model hM.1 3 (by decide) k_Model_126 (congrArg (fun z => some (Value.int z)) (show p_2 3 = 3 from (by rw [ep_2, upd_mi _ _ _ (show 3 ≠ 4 by decide), ep_1, upd_hit]))) d_Model_take_18 ?_
    refine lv_if_le (tgt := 25) X.x X.b d_Model_take_21 (by decide) (fun c2 => ?_) (fun c2 => ?_)
    · exact absurd c2 (by decide)
    · skip
      have c2q := Int32.not_le.mp c2
      exact m_vret X hS (by omega) (by omega) d_Model_take_24 rfl ⟨_, _, hM, (by rw [ep_2, upd_mi _ _ _ (show 0 ≠ 4 by decide), ep_1, upd_mi _ _ _ (show 0 ≠ 3 by decide)]), (by rw [ep_2, upd_mi _ _ _ (show 3 ≠ 4 by decide), ep_1, upd_hit]), rfl, rfl⟩
set_option maxRecDepth 100000 in
set_option maxHeartbeats 4000000 in
theorem M_Model_expand_L0n (l : Launch) (g : GG) {mo tq : Nat} {p0 : Nat → Int32} {s0 : Nat → Nat → Int32} {H0 : Heap} (hM : mAt g mo tq p0 s0 H0) {v_ r : Int32} {j : Nat} (hj : j < 8) (hL : oneL 0 (nI j) (-1) v_ r s0) (hf3 : p0 3 = 0) : MM l y_Model_expand c_Model_expand 13 none 3 3 18 g H0 [.ref mo] (fun q => mo ≤ q ∧ q < mo + 23) (none) (fun H1 => ∃ p s, mAt g mo tq p s H1 ∧ p 0 = p0 0 ∧ s 2 = s0 2 ∧ (p 3 = 0 ∧ p 5 = 2) ∧ s 8 0 = 0 ∧ s 9 0 = (nI j) ∧ s 10 0 = (-1) ∧ s 8 1 = 6 ∧ s 11 0 = v_) := by
  refine MM.of (by decide +kernel) (Nat.le_of_ble_eq_true rfl) ?_
  intro p e s m below meth cd X hH ls hl
  have X : CX g p s m _ meth cd c_Model_expand 13 none R_Model _ := X
  have hl : lv_has ls 13 [(0, .ref mo)] := hl
  have hS : va_S (AA (fun q => mo ≤ q ∧ q < mo + 23) H0) H0 H0 [] := va_S.rf
  have hlt0 := hM.lt
  have htq0 := hM.tq
  refine lv_bipush (v := 6) X.x X.b d_Model_expand_0 (by decide) ?_
  obtain ⟨q2, hq2⟩ := sz_of hS
  have hlt2 := hM.lt
  have hsz2 := hS.1
  refine m_newI X hS hq2 6 (by decide) (by decide) (by decide) (by omega) (by omega) d_Model_expand_2 (fun H hL2 hgr hS hz2 => ?_)
  have hfr := fr.of_grow (A := noA) hgr
  have hM := hM.frame hfr (fun q z => z.elim)
  refine lv_astore_n (lv' := [(1, .ref q2), (0, .ref mo)]) X.x X.b d_Model_expand_4 rfl hl (by decide) rfl (fun ls hl => ?_)
  refine lv_bipush (v := 6) X.x X.b d_Model_expand_5 (by decide) ?_
  obtain ⟨q7, hq7⟩ := sz_of hS
  have hlt7 := hM.lt
  have hsz7 := hS.1
  refine m_newI X hS hq7 6 (by decide) (by decide) (by decide) (by omega) (by omega) d_Model_expand_7 (fun H hL7 hgr hS hz2 => ?_)
  have hfr := fr.of_grow (A := noA) hgr
  have hM := hM.frame hfr (fun q z => z.elim)
  have hL2 := hL2.fr hfr (fun z => z)
  refine lv_astore_n (lv' := [(2, .ref q7), (1, .ref q2), (0, .ref mo)]) X.x X.b d_Model_expand_9 rfl hl (by decide) rfl (fun ls hl => ?_)
  refine lv_bipush (v := 6) X.x X.b d_Model_expand_10 (by decide) ?_
  obtain ⟨q12, hq12⟩ := sz_of hS
  have hlt12 := hM.lt
  have hsz12 := hS.1
  refine m_newI X hS hq12 6 (by decide) (by decide) (by decide) (by omega) (by omega) d_Model_expand_12 (fun H hL12 hgr hS hz2 => ?_)
  have hfr := fr.of_grow (A := noA) hgr
  have hM := hM.frame hfr (fun q z => z.elim)
  have hL2 := hL2.fr hfr (fun z => z)
  have hL7 := hL7.fr hfr (fun z => z)
  refine lv_astore_n (lv' := [(3, .ref q12), (2, .ref q7), (1, .ref q2), (0, .ref mo)]) X.x X.b d_Model_expand_14 rfl hl (by decide) rfl (fun ls hl => ?_)
  refine lv_iconst (v := 0) X.x X.b d_Model_expand_15 (by decide) ?_
  refine lv_istore (lv' := [(4, .int 0), (3, .ref q12), (2, .ref q7), (1, .ref q2), (0, .ref mo)]) X.x X.b d_Model_expand_16 hl (by decide) rfl (fun ls hl => ?_)
  refine lv_iconst (v := 0) X.x X.b d_Model_expand_18 (by decide) ?_
  refine lv_istore (lv' := [(5, .int 0), (4, .int 0), (3, .ref q12), (2, .ref q7), (1, .ref q2), (0, .ref mo)]) X.x X.b d_Model_expand_19 hl (by decide) rfl (fun ls hl => ?_)
  refine lv_aload_n X.x X.b d_Model_expand_21 rfl (lv_at hl 5 rfl) ?_
  refine lv_iconst (v := 0) X.x X.b d_Model_expand_22 (by decide) ?_
  refine m_put X ok_Model hS (Or.inl ⟨by omega, by omega⟩) hM.1 5 (by decide) k_Model_132 rfl (ok_Model.2.2.1 _ (by decide)) rfl rfl (Nat.le_of_ble_eq_true rfl) d_Model_expand_23 (fun H locs hp hcg hS => ?_)
  have hM := hM.f5 hp hcg
  obtain ⟨p_1, ep_1⟩ : ∃ z, z = upd p0 5 0 := ⟨_, rfl⟩
  rw [← ep_1] at hM
  have hL2 := hL2.off hcg (by omega)
  have hL7 := hL7.off hcg (by omega)
  have hL12 := hL12.off hcg (by omega)
  obtain ⟨p1, hp1⟩ : ∃ z, z = p_1 := ⟨_, rfl⟩
  rw [← hp1] at hM
  have hp1 : p1 = upd p0 5 0 := by rw [hp1, ep_1]
  have hp15 : p1 5 = 0 := by rw [hp1]; exact upd_hit _ _ _
  have hp13 : p1 3 = 0 := by rw [hp1]; exact (upd_mi _ _ _ (by decide)).trans hf3
  have hp10 : p1 0 = p0 0 := by rw [hp1]; exact upd_mi _ _ _ (by decide)
  refine lv_iconst (v := 0) X.x X.b d_Model_expand_26 (by decide) ?_
  refine lv_istore (lv' := [(6, .int 0), (5, .int 0), (4, .int 0), (3, .ref q12), (2, .ref q7), (1, .ref q2), (0, .ref mo)]) X.x X.b d_Model_expand_27 hl (by decide) rfl (fun ls hl => ?_)
  have lp : ∀ (n i : Nat) (s1 : Nat → Nat → Int32), n = 8 - i → i < 5000 → ((∀ j, j < i → s1 25 j = 0 ∧ s1 27 j = -1) ∧ same [25, 27] s0 s1) → ∀ (H : Heap) (locs : List Loc) (ls : Array Slot), mAt g mo tq p1 s1 H → pt g q2 (.inl (g.2 0, 6, .inl (fun _ => 0))) H → pt g q7 (.inl (g.2 0, 6, .inl (fun _ => 0))) H → pt g q12 (.inl (g.2 0, 6, .inl (fun _ => 0))) H → va_S (AA (fun q => mo ≤ q ∧ q < mo + 23) H0) H0 H locs → lv_has ls 13 [(0, .ref mo), (1, .ref q2), (2, .ref q7), (3, .ref q12), (4, .int 0), (5, .int 0), (6, .int (nI i))] → W p l e (rmK 3 3 18) s m ([.ref mo] : List Value).toArray below meth cd H locs 3 18 (MQ below (QM (none) (fun H1 => ∃ p s, mAt g mo tq p s H1 ∧ p 0 = p0 0 ∧ s 2 = s0 2 ∧ (p 3 = 0 ∧ p 5 = 2) ∧ s 8 0 = 0 ∧ s 9 0 = (nI j) ∧ s 10 0 = (-1) ∧ s 8 1 = 6 ∧ s 11 0 = v_) (fun q => mo ≤ q ∧ q < mo + 23) H0) ([.ref mo] : List Value).toArray s 3 18 (AA (fun q => mo ≤ q ∧ q < mo + 23) H0)) (F0 m 29 ls []) := by
    intro n
    induction n with
    | zero =>
      intro i s1 hin hi5 hE H locs ls hM hL2 hL7 hL12 hS hl
      refine lv_iload X.x X.b d_Model_expand_29 (lv_at hl 6 rfl) ?_
      refine lv_bipush (v := 8) X.x X.b d_Model_expand_31 (by decide) ?_
      refine lv_icmp_ge (tgt := 58) X.x X.b d_Model_expand_33 (by decide) (fun c1 => ?_) (fun c1 => ?_)
      · skip
        have c1q := Int32.not_lt.mpr c1
        refine lv_iload X.x X.b d_Model_expand_58 (lv_at hl 4 rfl) ?_
        refine lv_if_lt (tgt := 369) X.x X.b d_Model_expand_60 (by decide) (fun c2 => ?_) (fun c2 => ?_)
        · exact absurd c2 (by decide)
        · skip
          have c2q := Int32.not_lt.mp c2
          refine lv_aload_n X.x X.b d_Model_expand_63 rfl (lv_at hl 0 rfl) ?_
          refine m_get (v := .int 0) X ok_Model hM.1 3 (by decide) k_Model_126 (congrArg (fun z => some (Value.int z)) (show p1 3 = 0 from (by rw [hp13]))) d_Model_expand_64 ?_
          refine lv_if_ne (tgt := 369) X.x X.b d_Model_expand_67 (by decide) (fun c3 => ?_) (fun c3 => ?_)
          · exact absurd c3 (by decide)
          · skip
            refine lv_aload_n X.x X.b d_Model_expand_70 rfl (lv_at hl 1 rfl) ?_
            refine lv_iload X.x X.b d_Model_expand_71 (lv_at hl 4 rfl) ?_
            refine m_ild (v := 0) X hL2 0 rfl (by omega) (by decide) (show (fun _ => 0) 0 = 0 from rfl) d_Model_expand_73 ?_
            refine lv_istore (lv' := [(6, .int 0), (0, .ref mo), (1, .ref q2), (2, .ref q7), (3, .ref q12), (4, .int 0), (5, .int 0)]) X.x X.b d_Model_expand_74 hl (by decide) rfl (fun ls hl => ?_)
            refine lv_aload_n X.x X.b d_Model_expand_76 rfl (lv_at hl 3 rfl) ?_
            refine lv_iload X.x X.b d_Model_expand_77 (lv_at hl 5 rfl) ?_
            refine m_ild (v := 0) X hL7 0 rfl (by omega) (by decide) (show (fun _ => 0) 0 = 0 from rfl) d_Model_expand_79 ?_
            refine lv_aload_n X.x X.b d_Model_expand_80 rfl (lv_at hl 1 rfl) ?_
            refine m_get (v := .ref (mo + 2)) X ok_Model hM.1 2 (by decide) k_Model_13 rfl d_Model_expand_81 ?_
            refine lv_iload X.x X.b d_Model_expand_84 (lv_at hl 0 rfl) ?_
            refine m_ild (v := 1) X hM.a2 0 rfl (by omega) (by decide) (show s1 2 0 = 1 from (by rw [hE.2 2 (by decide), hL.1.1])) d_Model_expand_86 ?_
            refine lv_icmp_ne (tgt := 96) X.x X.b d_Model_expand_87 (by decide) (fun c4 => ?_) (fun c4 => ?_)
            · skip
              refine lv_aload_n X.x X.b d_Model_expand_96 rfl (lv_at hl 3 rfl) ?_
              refine lv_iload X.x X.b d_Model_expand_97 (lv_at hl 5 rfl) ?_
              refine lv_dup2_11 X.x X.b d_Model_expand_99 rfl rfl ?_
              refine m_ild (v := 0) X hL7 0 rfl (by omega) (by decide) (show (fun _ => 0) 0 = 0 from rfl) d_Model_expand_100 ?_
              refine lv_dup_x2 X.x X.b d_Model_expand_101 rfl rfl rfl ?_
              refine lv_iconst (v := 1) X.x X.b d_Model_expand_102 (by decide) ?_
              refine lv_iadd X.x X.b d_Model_expand_103 ?_
              rw [show (0 + 1 : Int32) = 1 from by decide]
              refine m_ist X hS (Or.inr (by omega)) hL7 0 rfl (by omega) (by decide) d_Model_expand_104 (fun H locs hp hcg hS => ?_)
              have hL7 := hp
              obtain ⟨r_2, er_2⟩ : ∃ z, z = upd (fun _ => 0) 0 1 := ⟨_, rfl⟩
              rw [← er_2] at hL7
              have hM := hM.frame (fr.of_chg (A := fun q => q = q7) hcg rfl) (fun q z => by have z : q = q7 := z; have := hM.tq; omega)
              have hL2 := hL2.off hcg (by omega)
              have hL12 := hL12.off hcg (by omega)
              refine lv_istore (lv' := [(7, .int 0), (6, .int 0), (0, .ref mo), (1, .ref q2), (2, .ref q7), (3, .ref q12), (4, .int 0), (5, .int 0)]) X.x X.b d_Model_expand_105 hl (by decide) rfl (fun ls hl => ?_)
              refine lv_iload X.x X.b d_Model_expand_107 (lv_at hl 1 rfl) ?_
              refine lv_iload X.x X.b d_Model_expand_109 (lv_at hl 0 rfl) ?_
              refine m_callSP X hS (MP_ans (M_Model_at l g 0 0) (show (((0 : Int32) * 64 + 0) * 5) = 0 from by decide)) s_Model_96 rfl rfl (Nat.le_of_ble_eq_true rfl) hl.1 d_Model_expand_111 (by omega) (by decide) ⟨by omega, by omega⟩ (fun locs hS => ?_)
              refine lv_istore (lv' := [(8, .int 0), (7, .int 0), (6, .int 0), (0, .ref mo), (1, .ref q2), (2, .ref q7), (3, .ref q12), (4, .int 0), (5, .int 0)]) X.x X.b d_Model_expand_114 hl (by decide) rfl (fun ls hl => ?_)
              refine lv_aload_n X.x X.b d_Model_expand_116 rfl (lv_at hl 5 rfl) ?_
              refine lv_iconst (v := 0) X.x X.b d_Model_expand_117 (by decide) ?_
              refine m_ild (v := 1) X hL7 0 rfl (by omega) (by decide) (show r_2 0 = 1 from (by rw [er_2, upd_hit])) d_Model_expand_118 ?_
              refine lv_iconst (v := 1) X.x X.b d_Model_expand_119 (by decide) ?_
              refine lv_isub X.x X.b d_Model_expand_120 ?_
              rw [show (1 - 1 : Int32) = 0 from by decide]
              refine lv_istore (lv' := [(9, .int 0), (8, .int 0), (7, .int 0), (6, .int 0), (0, .ref mo), (1, .ref q2), (2, .ref q7), (3, .ref q12), (4, .int 0), (5, .int 0)]) X.x X.b d_Model_expand_121 hl (by decide) rfl (fun ls hl => ?_)
              refine lv_aload_n X.x X.b d_Model_expand_123 rfl (lv_at hl 4 rfl) ?_
              refine m_get (v := .ref tq) X ok_Model hM.1 1 (by decide) k_Model_9 rfl d_Model_expand_124 ?_
              refine lv_iload X.x X.b d_Model_expand_127 (lv_at hl 1 rfl) ?_
              refine m_ild (v := 0) X hM.a1 0 rfl (by omega) (by decide) (show s1 1 0 = 0 from (by rw [hE.2 1 (by decide), hL.2.1])) d_Model_expand_129 ?_
              refine lv_istore (lv' := [(10, .int 0), (9, .int 0), (8, .int 0), (7, .int 0), (6, .int 0), (0, .ref mo), (1, .ref q2), (2, .ref q7), (3, .ref q12), (4, .int 0), (5, .int 0)]) X.x X.b d_Model_expand_130 hl (by decide) rfl (fun ls hl => ?_)
              refine lv_aload_n X.x X.b d_Model_expand_132 rfl (lv_at hl 5 rfl) ?_
              refine m_get (v := .ref tq) X ok_Model hM.1 1 (by decide) k_Model_9 rfl d_Model_expand_133 ?_
              refine lv_iload X.x X.b d_Model_expand_136 (lv_at hl 2 rfl) ?_
              refine lv_iconst (v := 3) X.x X.b d_Model_expand_138 (by decide) ?_
              refine lv_iadd X.x X.b d_Model_expand_139 ?_
              rw [show (0 + 3 : Int32) = 3 from by decide]
              refine m_ild (v := v_) X hM.a1 3 rfl (by omega) (by decide) (show s1 1 3 = v_ from (by rw [hE.2 1 (by decide), hL.2.2.2.2.1])) d_Model_expand_140 ?_
              refine lv_aload_n X.x X.b d_Model_expand_141 rfl (lv_at hl 5 rfl) ?_
              refine m_get (v := .ref tq) X ok_Model hM.1 1 (by decide) k_Model_9 rfl d_Model_expand_142 ?_
              refine lv_iload X.x X.b d_Model_expand_145 (lv_at hl 2 rfl) ?_
              refine lv_iconst (v := 4) X.x X.b d_Model_expand_147 (by decide) ?_
              refine lv_iadd X.x X.b d_Model_expand_148 ?_
              rw [show (0 + 4 : Int32) = 4 from by decide]
              refine m_ild (v := r) X hM.a1 4 rfl (by omega) (by decide) (show s1 1 4 = r from (by rw [hE.2 1 (by decide), hL.2.2.2.2.2])) d_Model_expand_149 ?_
              refine lv_iconst (v := 1) X.x X.b d_Model_expand_150 (by decide) ?_
              refine lv_icmp_ne (tgt := 161) X.x X.b d_Model_expand_151 (by decide) (fun c5 => ?_) (fun c5 => ?_)
              · skip
                refine lv_iconst (v := 0) X.x X.b d_Model_expand_161 (by decide) ?_
                refine lv_iadd X.x X.b d_Model_expand_162 ?_
                rw [show (v_ + 0 : Int32) = v_ from Int32.add_zero _]
                refine lv_istore (lv' := [(11, .int v_), (10, .int 0), (9, .int 0), (8, .int 0), (7, .int 0), (6, .int 0), (0, .ref mo), (1, .ref q2), (2, .ref q7), (3, .ref q12), (4, .int 0), (5, .int 0)]) X.x X.b d_Model_expand_163 hl (by decide) rfl (fun ls hl => ?_)
                refine lv_iinc (v := 1) (lv' := [(5, .int 1), (11, .int v_), (10, .int 0), (9, .int 0), (8, .int 0), (7, .int 0), (6, .int 0), (0, .ref mo), (1, .ref q2), (2, .ref q7), (3, .ref q12), (4, .int 0)]) X.x X.b d_Model_expand_165 hl (k := 11) rfl (by decide) (by decide) rfl (fun ls hl => ?_)
                refine lv_iload X.x X.b d_Model_expand_168 (lv_at hl 0 rfl) ?_
                refine lv_sipush (v := 400) X.x X.b d_Model_expand_170 (by decide) ?_
                refine lv_icmp_gt (tgt := 193) X.x X.b d_Model_expand_173 (by decide) (fun c6 => ?_) (fun c6 => ?_)
                · exact absurd c6 (by decide)
                · skip
                  have c6q := Int32.not_lt.mp c6
                  refine lv_iload X.x X.b d_Model_expand_176 (lv_at hl 2 rfl) ?_
                  refine m_callSP X hS (MP_ans (M_Model_makes l g 0) (show b2i ((0 : Int32) < 8) = 1 from by decide)) s_Model_138 rfl rfl (Nat.le_of_ble_eq_true rfl) hl.1 d_Model_expand_178 (by omega) (by decide) ⟨by omega, by omega⟩ (fun locs hS => ?_)
                  refine lv_if_eq (tgt := 203) X.x X.b d_Model_expand_181 (by decide) (fun c7 => ?_) (fun c7 => ?_)
                  · exact absurd c7 (by decide)
                  · skip
                    refine lv_aload_n X.x X.b d_Model_expand_184 rfl (lv_at hl 7 rfl) ?_
                    refine m_get (v := .int 0) X ok_Model hM.1 5 (by decide) k_Model_132 (congrArg (fun z => some (Value.int z)) (show p1 5 = 0 from (by rw [hp15]))) d_Model_expand_185 ?_
                    refine lv_bipush (v := 120) X.x X.b d_Model_expand_188 (by decide) ?_
                    refine lv_icmp_ne (tgt := 203) X.x X.b d_Model_expand_190 (by decide) (fun c8 => ?_) (fun c8 => ?_)
                    · skip
                      refine lv_iload X.x X.b d_Model_expand_203 (lv_at hl 2 rfl) ?_
                      refine lv_bipush (v := 10) X.x X.b d_Model_expand_205 (by decide) ?_
                      refine lv_icmp_ne (tgt := 259) X.x X.b d_Model_expand_207 (by decide) (fun c9 => ?_) (fun c9 => ?_)
                      · skip
                        refine lv_iload X.x X.b d_Model_expand_259 (lv_at hl 2 rfl) ?_
                        refine lv_bipush (v := 8) X.x X.b d_Model_expand_261 (by decide) ?_
                        refine lv_icmp_ne (tgt := 329) X.x X.b d_Model_expand_263 (by decide) (fun c10 => ?_) (fun c10 => ?_)
                        · skip
                          refine lv_iload X.x X.b d_Model_expand_329 (lv_at hl 2 rfl) ?_
                          refine lv_bipush (v := 9) X.x X.b d_Model_expand_331 (by decide) ?_
                          refine lv_icmp_eq (tgt := 366) X.x X.b d_Model_expand_333 (by decide) (fun c11 => ?_) (fun c11 => ?_)
                          · exact absurd c11 (by decide)
                          · skip
                            refine lv_aload_n X.x X.b d_Model_expand_336 rfl (lv_at hl 7 rfl) ?_
                            refine lv_iload X.x X.b d_Model_expand_337 (lv_at hl 2 rfl) ?_
                            refine lv_aload_n X.x X.b d_Model_expand_339 rfl (lv_at hl 7 rfl) ?_
                            refine m_get (v := .ref tq) X ok_Model hM.1 1 (by decide) k_Model_9 rfl d_Model_expand_340 ?_
                            refine lv_iload X.x X.b d_Model_expand_343 (lv_at hl 4 rfl) ?_
                            refine lv_iconst (v := 1) X.x X.b d_Model_expand_345 (by decide) ?_
                            refine lv_iadd X.x X.b d_Model_expand_346 ?_
                            rw [show (0 + 1 : Int32) = 1 from by decide]
                            refine m_ild (v := nI j) X hM.a1 1 rfl (by omega) (by decide) (show s1 1 1 = nI j from (by rw [hE.2 1 (by decide), hL.2.2.1])) d_Model_expand_347 ?_
                            refine lv_aload_n X.x X.b d_Model_expand_348 rfl (lv_at hl 7 rfl) ?_
                            refine m_get (v := .ref tq) X ok_Model hM.1 1 (by decide) k_Model_9 rfl d_Model_expand_349 ?_
                            refine lv_iload X.x X.b d_Model_expand_352 (lv_at hl 4 rfl) ?_
                            refine lv_iconst (v := 2) X.x X.b d_Model_expand_354 (by decide) ?_
                            refine lv_iadd X.x X.b d_Model_expand_355 ?_
                            rw [show (0 + 2 : Int32) = 2 from by decide]
                            refine m_ild (v := (-1)) X hM.a1 2 rfl (by omega) (by decide) (show s1 1 2 = (-1) from (by rw [hE.2 1 (by decide), hL.2.2.2.1])) d_Model_expand_356 ?_
                            refine lv_iload X.x X.b d_Model_expand_357 (lv_at hl 1 rfl) ?_
                            refine lv_iload X.x X.b d_Model_expand_359 (lv_at hl 3 rfl) ?_
                            refine lv_iload X.x X.b d_Model_expand_361 (lv_at hl 11 rfl) ?_
                            have hR := M_Model_take_0n l g hM (show p1 5 = 0 from (by rw [hp15])) (show p1 3 = 0 from (by rw [hp13])) (j := j) hj (show s1 25 j = 0 from (by rw [(hE.1 j (by omega)).1])) (show s1 27 j = -1 from (by rw [(hE.1 j (by omega)).2])) v_
                            refine m_callM X hS hR v_Model_147 hM.1 rfl rfl rfl (Nat.le_of_ble_eq_true rfl) hl.1 d_Model_expand_363 (by omega) (by decide) ⟨by omega, by omega⟩ (fun q z => by have z : mo ≤ q ∧ q < mo + 23 := z; exact ⟨by omega, by omega⟩) (fun H locs hq hfr hS => ?_)
                            have hL2 := hL2.fr hfr (fun z => by have z : mo ≤ q2 ∧ q2 < mo + 23 := z; omega)
                            have hL7 := hL7.fr hfr (fun z => by have z : mo ≤ q7 ∧ q7 < mo + 23 := z; omega)
                            have hL12 := hL12.fr hfr (fun z => by have z : mo ≤ q12 ∧ q12 < mo + 23 := z; omega)
                            obtain ⟨p_3, s_4, hM, hT0, hT3, hT5, hT8, hT9, hT10, hT11, hT1, hT2⟩ := hq
                            refine lv_goto (tgt := 58) X.x X.b d_Model_expand_366 (by decide) ?_
                            refine lv_iload X.x X.b d_Model_expand_58 (lv_at hl 11 rfl) ?_
                            refine lv_if_lt (tgt := 369) X.x X.b d_Model_expand_60 (by decide) (fun c12 => ?_) (fun c12 => ?_)
                            · exact absurd c12 c2
                            · skip
                              have c12q := Int32.not_lt.mp c12
                              refine lv_aload_n X.x X.b d_Model_expand_63 rfl (lv_at hl 7 rfl) ?_
                              refine m_get (v := .int 0) X ok_Model hM.1 3 (by decide) k_Model_126 (congrArg (fun z => some (Value.int z)) (show p_3 3 = 0 from (by rw [hT3]))) d_Model_expand_64 ?_
                              refine lv_if_ne (tgt := 369) X.x X.b d_Model_expand_67 (by decide) (fun c13 => ?_) (fun c13 => ?_)
                              · exact absurd c3 c13
                              · skip
                                refine lv_aload_n X.x X.b d_Model_expand_70 rfl (lv_at hl 8 rfl) ?_
                                refine lv_iload X.x X.b d_Model_expand_71 (lv_at hl 11 rfl) ?_
                                refine m_ild (v := 0) X hL2 0 rfl (by omega) (by decide) (show (fun _ => 0) 0 = 0 from rfl) d_Model_expand_73 ?_
                                refine lv_istore (lv' := [(6, .int 0), (5, .int 1), (11, .int v_), (10, .int 0), (9, .int 0), (8, .int 0), (7, .int 0), (0, .ref mo), (1, .ref q2), (2, .ref q7), (3, .ref q12), (4, .int 0)]) X.x X.b d_Model_expand_74 hl (by decide) rfl (fun ls hl => ?_)
                                refine lv_aload_n X.x X.b d_Model_expand_76 rfl (lv_at hl 9 rfl) ?_
                                refine lv_iload X.x X.b d_Model_expand_77 (lv_at hl 11 rfl) ?_
                                refine m_ild (v := 1) X hL7 0 rfl (by omega) (by decide) (show r_2 0 = 1 from (by rw [er_2, upd_hit])) d_Model_expand_79 ?_
                                refine lv_aload_n X.x X.b d_Model_expand_80 rfl (lv_at hl 7 rfl) ?_
                                refine m_get (v := .ref (mo + 2)) X ok_Model hM.1 2 (by decide) k_Model_13 rfl d_Model_expand_81 ?_
                                refine lv_iload X.x X.b d_Model_expand_84 (lv_at hl 0 rfl) ?_
                                refine m_ild (v := 1) X hM.a2 0 rfl (by omega) (by decide) (show s_4 2 0 = 1 from (by rw [hT2, hE.2 2 (by decide), hL.1.1])) d_Model_expand_86 ?_
                                refine lv_icmp_ne (tgt := 96) X.x X.b d_Model_expand_87 (by decide) (fun c14 => ?_) (fun c14 => ?_)
                                · exact absurd c14 (by decide)
                                · skip
                                  refine lv_iinc (v := (-1)) (lv' := [(4, .int (-1)), (6, .int 0), (5, .int 1), (11, .int v_), (10, .int 0), (9, .int 0), (8, .int 0), (7, .int 0), (0, .ref mo), (1, .ref q2), (2, .ref q7), (3, .ref q12)]) X.x X.b d_Model_expand_90 hl (k := 11) rfl (by decide) (by decide) rfl (fun ls hl => ?_)
                                  refine lv_goto (tgt := 58) X.x X.b d_Model_expand_93 (by decide) ?_
                                  refine lv_iload X.x X.b d_Model_expand_58 (lv_at hl 0 rfl) ?_
                                  refine lv_if_lt (tgt := 369) X.x X.b d_Model_expand_60 (by decide) (fun c15 => ?_) (fun c15 => ?_)
                                  · skip
                                    have c15q := Int32.not_le.mpr c15
                                    refine lv_aload_n X.x X.b d_Model_expand_369 rfl (lv_at hl 8 rfl) ?_
                                    refine m_get (v := .int 0) X ok_Model hM.1 3 (by decide) k_Model_126 (congrArg (fun z => some (Value.int z)) (show p_3 3 = 0 from (by rw [hT3]))) d_Model_expand_370 ?_
                                    refine lv_if_ne (tgt := 387) X.x X.b d_Model_expand_373 (by decide) (fun c16 => ?_) (fun c16 => ?_)
                                    · exact absurd c13 c16
                                    · skip
                                      refine lv_aload_n X.x X.b d_Model_expand_376 rfl (lv_at hl 8 rfl) ?_
                                      refine lv_bipush (v := 6) X.x X.b d_Model_expand_377 (by decide) ?_
                                      refine lv_iconst (v := -1) X.x X.b d_Model_expand_379 (by decide) ?_
                                      refine lv_iconst (v := -1) X.x X.b d_Model_expand_380 (by decide) ?_
                                      refine lv_iconst (v := 0) X.x X.b d_Model_expand_381 (by decide) ?_
                                      refine lv_iconst (v := -1) X.x X.b d_Model_expand_382 (by decide) ?_
                                      refine lv_iconst (v := 0) X.x X.b d_Model_expand_383 (by decide) ?_
                                      have hR := M_Model_item (c := 1) l g hM (show p_3 5 = 1 from (by rw [hT5])) (by omega) 6 (-1) (-1) 0 (-1) 0
                                      refine m_callM X hS hR v_Model_151 hM.1 rfl rfl rfl (Nat.le_of_ble_eq_true rfl) hl.1 d_Model_expand_384 (by omega) (by decide) ⟨by omega, by omega⟩ (fun q z => by have z : mo ≤ q ∧ q < mo + 23 := z; exact ⟨by omega, by omega⟩) (fun H locs hM hfr hS => ?_)
                                      have hL2 := hL2.fr hfr (fun z => by have z : mo ≤ q2 ∧ q2 < mo + 23 := z; omega)
                                      have hL7 := hL7.fr hfr (fun z => by have z : mo ≤ q7 ∧ q7 < mo + 23 := z; omega)
                                      have hL12 := hL12.fr hfr (fun z => by have z : mo ≤ q12 ∧ q12 < mo + 23 := z; omega)
                                      have hM : mAt g mo tq (upd p_3 5 2) _ H := hM
                                      obtain ⟨p_5, ep_5⟩ : ∃ z, z = upd p_3 5 2 := ⟨_, rfl⟩
                                      rw [← ep_5] at hM
                                      obtain ⟨s_6, es_6⟩ : ∃ z, z = itR s_4 1 6 (-1) (-1) 0 (-1) 0 := ⟨_, rfl⟩
                                      rw [← es_6] at hM
                                      exact m_vret X hS (by omega) (by omega) d_Model_expand_387 rfl ⟨_, _, hM, (by rw [ep_5, upd_mi _ _ _ (show 0 ≠ 5 by decide), hT0, hp10]), by rw [es_6, itR_o s_4 1 6 (-1) (-1) 0 (-1) 0 2 (by decide), hT2, hE.2 2 (by decide)], ⟨(by rw [ep_5, upd_mi _ _ _ (show 3 ≠ 5 by decide), hT3]), (by rw [ep_5, upd_hit])⟩, (by rw [es_6, itR_ne s_4 1 6 (-1) (-1) 0 (-1) 0 (show (0 : Nat) ≠ 1 by omega) 8, hT8]), (by rw [es_6, itR_ne s_4 1 6 (-1) (-1) 0 (-1) 0 (show (0 : Nat) ≠ 1 by omega) 9, hT9]), (by rw [es_6, itR_ne s_4 1 6 (-1) (-1) 0 (-1) 0 (show (0 : Nat) ≠ 1 by omega) 10, hT10]), (by rw [es_6, (itR_at s_4 1 6 (-1) (-1) 0 (-1) 0).1]), (by rw [es_6, itR_ne s_4 1 6 (-1) (-1) 0 (-1) 0 (show (0 : Nat) ≠ 1 by omega) 11, hT11])⟩
                                  · exact absurd c15 (by decide)
                        · exact absurd c10 (by decide)
                      · exact absurd c9 (by decide)
                    · exact absurd c8 (by decide)
              · skip
                refine lv_aload_n X.x X.b d_Model_expand_154 rfl (lv_at hl 8 rfl) ?_
                refine lv_iload X.x X.b d_Model_expand_155 (lv_at hl 9 rfl) ?_
                refine m_ild (v := 0) X hL12 0 rfl (by omega) (by decide) (show (fun _ => 0) 0 = 0 from rfl) d_Model_expand_157 ?_
                refine lv_goto (tgt := 162) X.x X.b d_Model_expand_158 (by decide) ?_
                refine lv_iadd X.x X.b d_Model_expand_162 ?_
                rw [show (v_ + 0 : Int32) = v_ from Int32.add_zero _]
                refine lv_istore (lv' := [(11, .int v_), (10, .int 0), (9, .int 0), (8, .int 0), (7, .int 0), (6, .int 0), (0, .ref mo), (1, .ref q2), (2, .ref q7), (3, .ref q12), (4, .int 0), (5, .int 0)]) X.x X.b d_Model_expand_163 hl (by decide) rfl (fun ls hl => ?_)
                refine lv_iinc (v := 1) (lv' := [(5, .int 1), (11, .int v_), (10, .int 0), (9, .int 0), (8, .int 0), (7, .int 0), (6, .int 0), (0, .ref mo), (1, .ref q2), (2, .ref q7), (3, .ref q12), (4, .int 0)]) X.x X.b d_Model_expand_165 hl (k := 11) rfl (by decide) (by decide) rfl (fun ls hl => ?_)
                refine lv_iload X.x X.b d_Model_expand_168 (lv_at hl 0 rfl) ?_
                refine lv_sipush (v := 400) X.x X.b d_Model_expand_170 (by decide) ?_
                refine lv_icmp_gt (tgt := 193) X.x X.b d_Model_expand_173 (by decide) (fun c17 => ?_) (fun c17 => ?_)
                · exact absurd c17 (by decide)
                · skip
                  have c17q := Int32.not_lt.mp c17
                  refine lv_iload X.x X.b d_Model_expand_176 (lv_at hl 2 rfl) ?_
                  refine m_callSP X hS (MP_ans (M_Model_makes l g 0) (show b2i ((0 : Int32) < 8) = 1 from by decide)) s_Model_138 rfl rfl (Nat.le_of_ble_eq_true rfl) hl.1 d_Model_expand_178 (by omega) (by decide) ⟨by omega, by omega⟩ (fun locs hS => ?_)
                  refine lv_if_eq (tgt := 203) X.x X.b d_Model_expand_181 (by decide) (fun c18 => ?_) (fun c18 => ?_)
                  · exact absurd c18 (by decide)
                  · skip
                    refine lv_aload_n X.x X.b d_Model_expand_184 rfl (lv_at hl 7 rfl) ?_
                    refine m_get (v := .int 0) X ok_Model hM.1 5 (by decide) k_Model_132 (congrArg (fun z => some (Value.int z)) (show p1 5 = 0 from (by rw [hp15]))) d_Model_expand_185 ?_
                    refine lv_bipush (v := 120) X.x X.b d_Model_expand_188 (by decide) ?_
                    refine lv_icmp_ne (tgt := 203) X.x X.b d_Model_expand_190 (by decide) (fun c19 => ?_) (fun c19 => ?_)
                    · skip
                      refine lv_iload X.x X.b d_Model_expand_203 (lv_at hl 2 rfl) ?_
                      refine lv_bipush (v := 10) X.x X.b d_Model_expand_205 (by decide) ?_
                      refine lv_icmp_ne (tgt := 259) X.x X.b d_Model_expand_207 (by decide) (fun c20 => ?_) (fun c20 => ?_)
                      · skip
                        refine lv_iload X.x X.b d_Model_expand_259 (lv_at hl 2 rfl) ?_
                        refine lv_bipush (v := 8) X.x X.b d_Model_expand_261 (by decide) ?_
                        refine lv_icmp_ne (tgt := 329) X.x X.b d_Model_expand_263 (by decide) (fun c21 => ?_) (fun c21 => ?_)
                        · skip
                          refine lv_iload X.x X.b d_Model_expand_329 (lv_at hl 2 rfl) ?_
                          refine lv_bipush (v := 9) X.x X.b d_Model_expand_331 (by decide) ?_
                          refine lv_icmp_eq (tgt := 366) X.x X.b d_Model_expand_333 (by decide) (fun c22 => ?_) (fun c22 => ?_)
                          · exact absurd c22 (by decide)
                          · skip
                            refine lv_aload_n X.x X.b d_Model_expand_336 rfl (lv_at hl 7 rfl) ?_
                            refine lv_iload X.x X.b d_Model_expand_337 (lv_at hl 2 rfl) ?_
                            refine lv_aload_n X.x X.b d_Model_expand_339 rfl (lv_at hl 7 rfl) ?_
                            refine m_get (v := .ref tq) X ok_Model hM.1 1 (by decide) k_Model_9 rfl d_Model_expand_340 ?_
                            refine lv_iload X.x X.b d_Model_expand_343 (lv_at hl 4 rfl) ?_
                            refine lv_iconst (v := 1) X.x X.b d_Model_expand_345 (by decide) ?_
                            refine lv_iadd X.x X.b d_Model_expand_346 ?_
                            rw [show (0 + 1 : Int32) = 1 from by decide]
                            refine m_ild (v := nI j) X hM.a1 1 rfl (by omega) (by decide) (show s1 1 1 = nI j from (by rw [hE.2 1 (by decide), hL.2.2.1])) d_Model_expand_347 ?_
                            refine lv_aload_n X.x X.b d_Model_expand_348 rfl (lv_at hl 7 rfl) ?_
                            refine m_get (v := .ref tq) X ok_Model hM.1 1 (by decide) k_Model_9 rfl d_Model_expand_349 ?_
                            refine lv_iload X.x X.b d_Model_expand_352 (lv_at hl 4 rfl) ?_
                            refine lv_iconst (v := 2) X.x X.b d_Model_expand_354 (by decide) ?_
                            refine lv_iadd X.x X.b d_Model_expand_355 ?_
                            rw [show (0 + 2 : Int32) = 2 from by decide]
                            refine m_ild (v := (-1)) X hM.a1 2 rfl (by omega) (by decide) (show s1 1 2 = (-1) from (by rw [hE.2 1 (by decide), hL.2.2.2.1])) d_Model_expand_356 ?_
                            refine lv_iload X.x X.b d_Model_expand_357 (lv_at hl 1 rfl) ?_
                            refine lv_iload X.x X.b d_Model_expand_359 (lv_at hl 3 rfl) ?_
                            refine lv_iload X.x X.b d_Model_expand_361 (lv_at hl 11 rfl) ?_
                            have hR := M_Model_take_0n l g hM (show p1 5 = 0 from (by rw [hp15])) (show p1 3 = 0 from (by rw [hp13])) (j := j) hj (show s1 25 j = 0 from (by rw [(hE.1 j (by omega)).1])) (show s1 27 j = -1 from (by rw [(hE.1 j (by omega)).2])) v_
                            refine m_callM X hS hR v_Model_147 hM.1 rfl rfl rfl (Nat.le_of_ble_eq_true rfl) hl.1 d_Model_expand_363 (by omega) (by decide) ⟨by omega, by omega⟩ (fun q z => by have z : mo ≤ q ∧ q < mo + 23 := z; exact ⟨by omega, by omega⟩) (fun H locs hq hfr hS => ?_)
                            have hL2 := hL2.fr hfr (fun z => by have z : mo ≤ q2 ∧ q2 < mo + 23 := z; omega)
                            have hL7 := hL7.fr hfr (fun z => by have z : mo ≤ q7 ∧ q7 < mo + 23 := z; omega)
                            have hL12 := hL12.fr hfr (fun z => by have z : mo ≤ q12 ∧ q12 < mo + 23 := z; omega)
                            obtain ⟨p_7, s_8, hM, hT0, hT3, hT5, hT8, hT9, hT10, hT11, hT1, hT2⟩ := hq
                            refine lv_goto (tgt := 58) X.x X.b d_Model_expand_366 (by decide) ?_
                            refine lv_iload X.x X.b d_Model_expand_58 (lv_at hl 11 rfl) ?_
                            refine lv_if_lt (tgt := 369) X.x X.b d_Model_expand_60 (by decide) (fun c23 => ?_) (fun c23 => ?_)
                            · exact absurd c23 c2
                            · skip
                              have c23q := Int32.not_lt.mp c23
                              refine lv_aload_n X.x X.b d_Model_expand_63 rfl (lv_at hl 7 rfl) ?_
                              refine m_get (v := .int 0) X ok_Model hM.1 3 (by decide) k_Model_126 (congrArg (fun z => some (Value.int z)) (show p_7 3 = 0 from (by rw [hT3]))) d_Model_expand_64 ?_
                              refine lv_if_ne (tgt := 369) X.x X.b d_Model_expand_67 (by decide) (fun c24 => ?_) (fun c24 => ?_)
                              · exact absurd c3 c24
                              · skip
                                refine lv_aload_n X.x X.b d_Model_expand_70 rfl (lv_at hl 8 rfl) ?_
                                refine lv_iload X.x X.b d_Model_expand_71 (lv_at hl 11 rfl) ?_
                                refine m_ild (v := 0) X hL2 0 rfl (by omega) (by decide) (show (fun _ => 0) 0 = 0 from rfl) d_Model_expand_73 ?_
                                refine lv_istore (lv' := [(6, .int 0), (5, .int 1), (11, .int v_), (10, .int 0), (9, .int 0), (8, .int 0), (7, .int 0), (0, .ref mo), (1, .ref q2), (2, .ref q7), (3, .ref q12), (4, .int 0)]) X.x X.b d_Model_expand_74 hl (by decide) rfl (fun ls hl => ?_)
                                refine lv_aload_n X.x X.b d_Model_expand_76 rfl (lv_at hl 9 rfl) ?_
                                refine lv_iload X.x X.b d_Model_expand_77 (lv_at hl 11 rfl) ?_
                                refine m_ild (v := 1) X hL7 0 rfl (by omega) (by decide) (show r_2 0 = 1 from (by rw [er_2, upd_hit])) d_Model_expand_79 ?_
                                refine lv_aload_n X.x X.b d_Model_expand_80 rfl (lv_at hl 7 rfl) ?_
                                refine m_get (v := .ref (mo + 2)) X ok_Model hM.1 2 (by decide) k_Model_13 rfl d_Model_expand_81 ?_
                                refine lv_iload X.x X.b d_Model_expand_84 (lv_at hl 0 rfl) ?_
                                refine m_ild (v := 1) X hM.a2 0 rfl (by omega) (by decide) (show s_8 2 0 = 1 from (by rw [hT2, hE.2 2 (by decide), hL.1.1])) d_Model_expand_86 ?_
                                refine lv_icmp_ne (tgt := 96) X.x X.b d_Model_expand_87 (by decide) (fun c25 => ?_) (fun c25 => ?_)
                                · exact absurd c25 (by decide)
                                · skip
                                  refine lv_iinc (v := (-1)) (lv' := [(4, .int (-1)), (6, .int 0), (5, .int 1), (11, .int v_), (10, .int 0), (9, .int 0), (8, .int 0), (7, .int 0), (0, .ref mo), (1, .ref q2), (2, .ref q7), (3, .ref q12)]) X.x X.b d_Model_expand_90 hl (k := 11) rfl (by decide) (by decide) rfl (fun ls hl => ?_)
                                  refine lv_goto (tgt := 58) X.x X.b d_Model_expand_93 (by decide) ?_
                                  refine lv_iload X.x X.b d_Model_expand_58 (lv_at hl 0 rfl) ?_
                                  refine lv_if_lt (tgt := 369) X.x X.b d_Model_expand_60 (by decide) (fun c26 => ?_) (fun c26 => ?_)
                                  · skip
                                    have c26q := Int32.not_le.mpr c26
                                    refine lv_aload_n X.x X.b d_Model_expand_369 rfl (lv_at hl 8 rfl) ?_
                                    refine m_get (v := .int 0) X ok_Model hM.1 3 (by decide) k_Model_126 (congrArg (fun z => some (Value.int z)) (show p_7 3 = 0 from (by rw [hT3]))) d_Model_expand_370 ?_
                                    refine lv_if_ne (tgt := 387) X.x X.b d_Model_expand_373 (by decide) (fun c27 => ?_) (fun c27 => ?_)
                                    · exact absurd c24 c27
                                    · skip
                                      refine lv_aload_n X.x X.b d_Model_expand_376 rfl (lv_at hl 8 rfl) ?_
                                      refine lv_bipush (v := 6) X.x X.b d_Model_expand_377 (by decide) ?_
                                      refine lv_iconst (v := -1) X.x X.b d_Model_expand_379 (by decide) ?_
                                      refine lv_iconst (v := -1) X.x X.b d_Model_expand_380 (by decide) ?_
                                      refine lv_iconst (v := 0) X.x X.b d_Model_expand_381 (by decide) ?_
                                      refine lv_iconst (v := -1) X.x X.b d_Model_expand_382 (by decide) ?_
                                      refine lv_iconst (v := 0) X.x X.b d_Model_expand_383 (by decide) ?_
                                      have hR := M_Model_item (c := 1) l g hM (show p_7 5 = 1 from (by rw [hT5])) (by omega) 6 (-1) (-1) 0 (-1) 0
                                      refine m_callM X hS hR v_Model_151 hM.1 rfl rfl rfl (Nat.le_of_ble_eq_true rfl) hl.1 d_Model_expand_384 (by omega) (by decide) ⟨by omega, by omega⟩ (fun q z => by have z : mo ≤ q ∧ q < mo + 23 := z; exact ⟨by omega, by omega⟩) (fun H locs hM hfr hS => ?_)
                                      have hL2 := hL2.fr hfr (fun z => by have z : mo ≤ q2 ∧ q2 < mo + 23 := z; omega)
                                      have hL7 := hL7.fr hfr (fun z => by have z : mo ≤ q7 ∧ q7 < mo + 23 := z; omega)
                                      have hL12 := hL12.fr hfr (fun z => by have z : mo ≤ q12 ∧ q12 < mo + 23 := z; omega)
                                      have hM : mAt g mo tq (upd p_7 5 2) _ H := hM
                                      obtain ⟨p_9, ep_9⟩ : ∃ z, z = upd p_7 5 2 := ⟨_, rfl⟩
                                      rw [← ep_9] at hM
                                      obtain ⟨s_10, es_10⟩ : ∃ z, z = itR s_8 1 6 (-1) (-1) 0 (-1) 0 := ⟨_, rfl⟩
                                      rw [← es_10] at hM
                                      exact m_vret X hS (by omega) (by omega) d_Model_expand_387 rfl ⟨_, _, hM, (by rw [ep_9, upd_mi _ _ _ (show 0 ≠ 5 by decide), hT0, hp10]), by rw [es_10, itR_o s_8 1 6 (-1) (-1) 0 (-1) 0 2 (by decide), hT2, hE.2 2 (by decide)], ⟨(by rw [ep_9, upd_mi _ _ _ (show 3 ≠ 5 by decide), hT3]), (by rw [ep_9, upd_hit])⟩, (by rw [es_10, itR_ne s_8 1 6 (-1) (-1) 0 (-1) 0 (show (0 : Nat) ≠ 1 by omega) 8, hT8]), (by rw [es_10, itR_ne s_8 1 6 (-1) (-1) 0 (-1) 0 (show (0 : Nat) ≠ 1 by omega) 9, hT9]), (by rw [es_10, itR_ne s_8 1 6 (-1) (-1) 0 (-1) 0 (show (0 : Nat) ≠ 1 by omega) 10, hT10]), (by rw [es_10, (itR_at s_8 1 6 (-1) (-1) 0 (-1) 0).1]), (by rw [es_10, itR_ne s_8 1 6 (-1) (-1) 0 (-1) 0 (show (0 : Nat) ≠ 1 by omega) 11, hT11])⟩
                                  · exact absurd c26 (by decide)
                        · exact absurd c21 (by decide)
                      · exact absurd c20 (by decide)
                    · exact absurd c19 (by decide)
            · exact absurd c4 (by decide)
      · exact absurd ((nI_ltI (a := i) (b := 8) (by omega) (by omega)).mp (Int32.not_le.mp c1)) (by omega)
    | succ n ih =>
      intro i s1 hin hi5 hE H locs ls hM hL2 hL7 hL12 hS hl
      refine lv_iload X.x X.b d_Model_expand_29 (lv_at hl 6 rfl) ?_
      refine lv_bipush (v := 8) X.x X.b d_Model_expand_31 (by decide) ?_
      refine lv_icmp_ge (tgt := 58) X.x X.b d_Model_expand_33 (by decide) (fun c28 => ?_) (fun c28 => ?_)
      · exact absurd ((nI_leI (a := 8) (b := i) (by omega) (by omega)).mp c28) (by omega)
      · skip
        have c28q := Int32.not_le.mp c28
        refine lv_aload_n X.x X.b d_Model_expand_36 rfl (lv_at hl 0 rfl) ?_
        refine m_get (v := .ref (mo + 20)) X ok_Model hM.1 25 (by decide) k_Model_68 rfl d_Model_expand_37 ?_
        refine lv_iload X.x X.b d_Model_expand_40 (lv_at hl 6 rfl) ?_
        refine lv_iconst (v := 0) X.x X.b d_Model_expand_42 (by decide) ?_
        refine m_ist X hS (Or.inl ⟨by omega, by omega⟩) hM.a25 i rfl (by omega) (by decide) d_Model_expand_43 (fun H locs hp hcg hS => ?_)
        have hM := hM.s25 hp hcg
        obtain ⟨s_11, es_11⟩ : ∃ z, z = updR s1 25 (upd (s1 25) i 0) := ⟨_, rfl⟩
        rw [← es_11] at hM
        have hL2 := hL2.off hcg (by omega)
        have hL7 := hL7.off hcg (by omega)
        have hL12 := hL12.off hcg (by omega)
        refine lv_aload_n X.x X.b d_Model_expand_44 rfl (lv_at hl 0 rfl) ?_
        refine m_get (v := .ref (mo + 22)) X ok_Model hM.1 27 (by decide) k_Model_74 rfl d_Model_expand_45 ?_
        refine lv_iload X.x X.b d_Model_expand_48 (lv_at hl 6 rfl) ?_
        refine lv_iconst (v := -1) X.x X.b d_Model_expand_50 (by decide) ?_
        refine m_ist X hS (Or.inl ⟨by omega, by omega⟩) hM.a27 i rfl (by omega) (by decide) d_Model_expand_51 (fun H locs hp hcg hS => ?_)
        have hM := hM.s27 hp hcg
        obtain ⟨s_12, es_12⟩ : ∃ z, z = updR s_11 27 (upd (s_11 27) i (-1)) := ⟨_, rfl⟩
        rw [← es_12] at hM
        have hL2 := hL2.off hcg (by omega)
        have hL7 := hL7.off hcg (by omega)
        have hL12 := hL12.off hcg (by omega)
        refine lv_iinc (v := nI (i + 1)) (lv' := [(6, .int (nI (i + 1))), (0, .ref mo), (1, .ref q2), (2, .ref q7), (3, .ref q12), (4, .int 0), (5, .int 0)]) X.x X.b d_Model_expand_52 hl (k := 6) rfl (nI_1 i) (by decide) rfl (fun ls hl => ?_)
        refine lv_goto (tgt := 29) X.x X.b d_Model_expand_55 (by decide) ?_
        exact ih (i + 1) s_12 (by omega) (by omega) (⟨fun j hj => (Nat.lt_or_ge j i).elim (fun z => ⟨by rw [es_12, updR_n2 _ _ _ _ (show j ≠ i by omega), es_11, updR_n2 _ _ _ _ (show j ≠ i by omega)]; exact (hE.1 j z).1, by rw [es_12, updR_n2 _ _ _ _ (show j ≠ i by omega), es_11, updR_n2 _ _ _ _ (show j ≠ i by omega)]; exact (hE.1 j z).2⟩) (fun z => ⟨by rw [show j = i by omega, es_12, updR_mf _ _ _ (show 25 ≠ 27 by decide), es_11, updR_hit], by rw [show j = i by omega, es_12, updR_hit]⟩), by rw [es_12, es_11]; exact (hE.2.up _ _ (by decide)).up _ _ (by decide)⟩) _ _ _ hM hL2 hL7 hL12 hS (lv_sub hl [1, 2, 3, 4, 5, 6, 0] rfl)
  exact lp 8 0 s0 (by omega) (by omega) (⟨fun j hj => absurd hj (Nat.not_lt_zero j), same.rf _ _⟩) _ _ _ hM hL2 hL7 hL12 hS (lv_sub hl [6, 5, 4, 3, 2, 1, 0] rfl)
set_option maxRecDepth 100000 in
set_option maxHeartbeats 4000000 in
theorem M_Model_expand_L0l (l : Launch) (g : GG) {mo tq : Nat} {p0 : Nat → Int32} {s0 : Nat → Nat → Int32} {H0 : Heap} (hM : mAt g mo tq p0 s0 H0) {v_ r : Int32} {j : Nat} (hj : 8 ≤ j) (hj9 : j ≤ 9) (hL : oneL 0 (nI j) (-1) v_ r s0) (hf3 : p0 3 = 0) : MM l y_Model_expand c_Model_expand 13 none 3 3 18 g H0 [.ref mo] (fun q => mo ≤ q ∧ q < mo + 23) (none) (fun H1 => ∃ p s, mAt g mo tq p s H1 ∧ p 0 = p0 0 ∧ s 2 = s0 2 ∧ (p 3 = 0 ∧ p 5 = 2) ∧ s 8 0 = 0 ∧ s 9 0 = (nI j) ∧ s 10 0 = (-1) ∧ s 8 1 = 6 ∧ s 11 0 = v_) := by
  refine MM.of (by decide +kernel) (Nat.le_of_ble_eq_true rfl) ?_
  intro p e s m below meth cd X hH ls hl
  have X : CX g p s m _ meth cd c_Model_expand 13 none R_Model _ := X
  have hl : lv_has ls 13 [(0, .ref mo)] := hl
  have hS : va_S (AA (fun q => mo ≤ q ∧ q < mo + 23) H0) H0 H0 [] := va_S.rf
  have hlt0 := hM.lt
  have htq0 := hM.tq
  refine lv_bipush (v := 6) X.x X.b d_Model_expand_0 (by decide) ?_
  obtain ⟨q2, hq2⟩ := sz_of hS
  have hlt2 := hM.lt
  have hsz2 := hS.1
  refine m_newI X hS hq2 6 (by decide) (by decide) (by decide) (by omega) (by omega) d_Model_expand_2 (fun H hL2 hgr hS hz2 => ?_)
  have hfr := fr.of_grow (A := noA) hgr
  have hM := hM.frame hfr (fun q z => z.elim)
  refine lv_astore_n (lv' := [(1, .ref q2), (0, .ref mo)]) X.x X.b d_Model_expand_4 rfl hl (by decide) rfl (fun ls hl => ?_)
  refine lv_bipush (v := 6) X.x X.b d_Model_expand_5 (by decide) ?_
  obtain ⟨q7, hq7⟩ := sz_of hS
  have hlt7 := hM.lt
  have hsz7 := hS.1
  refine m_newI X hS hq7 6 (by decide) (by decide) (by decide) (by omega) (by omega) d_Model_expand_7 (fun H hL7 hgr hS hz2 => ?_)
  have hfr := fr.of_grow (A := noA) hgr
  have hM := hM.frame hfr (fun q z => z.elim)
  have hL2 := hL2.fr hfr (fun z => z)
  refine lv_astore_n (lv' := [(2, .ref q7), (1, .ref q2), (0, .ref mo)]) X.x X.b d_Model_expand_9 rfl hl (by decide) rfl (fun ls hl => ?_)
  refine lv_bipush (v := 6) X.x X.b d_Model_expand_10 (by decide) ?_
  obtain ⟨q12, hq12⟩ := sz_of hS
  have hlt12 := hM.lt
  have hsz12 := hS.1
  refine m_newI X hS hq12 6 (by decide) (by decide) (by decide) (by omega) (by omega) d_Model_expand_12 (fun H hL12 hgr hS hz2 => ?_)
  have hfr := fr.of_grow (A := noA) hgr
  have hM := hM.frame hfr (fun q z => z.elim)
  have hL2 := hL2.fr hfr (fun z => z)
  have hL7 := hL7.fr hfr (fun z => z)
  refine lv_astore_n (lv' := [(3, .ref q12), (2, .ref q7), (1, .ref q2), (0, .ref mo)]) X.x X.b d_Model_expand_14 rfl hl (by decide) rfl (fun ls hl => ?_)
  refine lv_iconst (v := 0) X.x X.b d_Model_expand_15 (by decide) ?_
  refine lv_istore (lv' := [(4, .int 0), (3, .ref q12), (2, .ref q7), (1, .ref q2), (0, .ref mo)]) X.x X.b d_Model_expand_16 hl (by decide) rfl (fun ls hl => ?_)
  refine lv_iconst (v := 0) X.x X.b d_Model_expand_18 (by decide) ?_
  refine lv_istore (lv' := [(5, .int 0), (4, .int 0), (3, .ref q12), (2, .ref q7), (1, .ref q2), (0, .ref mo)]) X.x X.b d_Model_expand_19 hl (by decide) rfl (fun ls hl => ?_)
  refine lv_aload_n X.x X.b d_Model_expand_21 rfl (lv_at hl 5 rfl) ?_
  refine lv_iconst (v := 0) X.x X.b d_Model_expand_22 (by decide) ?_
  refine m_put X ok_Model hS (Or.inl ⟨by omega, by omega⟩) hM.1 5 (by decide) k_Model_132 rfl (ok_Model.2.2.1 _ (by decide)) rfl rfl (Nat.le_of_ble_eq_true rfl) d_Model_expand_23 (fun H locs hp hcg hS => ?_)
  have hM := hM.f5 hp hcg
  obtain ⟨p_1, ep_1⟩ : ∃ z, z = upd p0 5 0 := ⟨_, rfl⟩
  rw [← ep_1] at hM
  have hL2 := hL2.off hcg (by omega)
  have hL7 := hL7.off hcg (by omega)
  have hL12 := hL12.off hcg (by omega)
  obtain ⟨p1, hp1⟩ : ∃ z, z = p_1 := ⟨_, rfl⟩
  rw [← hp1] at hM
  have hp1 : p1 = upd p0 5 0 := by rw [hp1, ep_1]
  have hp15 : p1 5 = 0 := by rw [hp1]; exact upd_hit _ _ _
  have hp13 : p1 3 = 0 := by rw [hp1]; exact (upd_mi _ _ _ (by decide)).trans hf3
  have hp10 : p1 0 = p0 0 := by rw [hp1]; exact upd_mi _ _ _ (by decide)
  refine lv_iconst (v := 0) X.x X.b d_Model_expand_26 (by decide) ?_
  refine lv_istore (lv' := [(6, .int 0), (5, .int 0), (4, .int 0), (3, .ref q12), (2, .ref q7), (1, .ref q2), (0, .ref mo)]) X.x X.b d_Model_expand_27 hl (by decide) rfl (fun ls hl => ?_)
  have lp : ∀ (n i : Nat) (s1 : Nat → Nat → Int32), n = 8 - i → i < 5000 → ((∀ j, j < i → s1 25 j = 0 ∧ s1 27 j = -1) ∧ same [25, 27] s0 s1) → ∀ (H : Heap) (locs : List Loc) (ls : Array Slot), mAt g mo tq p1 s1 H → pt g q2 (.inl (g.2 0, 6, .inl (fun _ => 0))) H → pt g q7 (.inl (g.2 0, 6, .inl (fun _ => 0))) H → pt g q12 (.inl (g.2 0, 6, .inl (fun _ => 0))) H → va_S (AA (fun q => mo ≤ q ∧ q < mo + 23) H0) H0 H locs → lv_has ls 13 [(0, .ref mo), (1, .ref q2), (2, .ref q7), (3, .ref q12), (4, .int 0), (5, .int 0), (6, .int (nI i))] → W p l e (rmK 3 3 18) s m ([.ref mo] : List Value).toArray below meth cd H locs 3 18 (MQ below (QM (none) (fun H1 => ∃ p s, mAt g mo tq p s H1 ∧ p 0 = p0 0 ∧ s 2 = s0 2 ∧ (p 3 = 0 ∧ p 5 = 2) ∧ s 8 0 = 0 ∧ s 9 0 = (nI j) ∧ s 10 0 = (-1) ∧ s 8 1 = 6 ∧ s 11 0 = v_) (fun q => mo ≤ q ∧ q < mo + 23) H0) ([.ref mo] : List Value).toArray s 3 18 (AA (fun q => mo ≤ q ∧ q < mo + 23) H0)) (F0 m 29 ls []) := by
    intro n
    induction n with
    | zero =>
      intro i s1 hin hi5 hE H locs ls hM hL2 hL7 hL12 hS hl
      refine lv_iload X.x X.b d_Model_expand_29 (lv_at hl 6 rfl) ?_
      refine lv_bipush (v := 8) X.x X.b d_Model_expand_31 (by decide) ?_
      refine lv_icmp_ge (tgt := 58) X.x X.b d_Model_expand_33 (by decide) (fun c1 => ?_) (fun c1 => ?_)
      · skip
        have c1q := Int32.not_lt.mpr c1
        refine lv_iload X.x X.b d_Model_expand_58 (lv_at hl 4 rfl) ?_
        refine lv_if_lt (tgt := 369) X.x X.b d_Model_expand_60 (by decide) (fun c2 => ?_) (fun c2 => ?_)
        · exact absurd c2 (by decide)
        · skip
          have c2q := Int32.not_lt.mp c2
          refine lv_aload_n X.x X.b d_Model_expand_63 rfl (lv_at hl 0 rfl) ?_
          refine m_get (v := .int 0) X ok_Model hM.1 3 (by decide) k_Model_126 (congrArg (fun z => some (Value.int z)) (show p1 3 = 0 from (by rw [hp13]))) d_Model_expand_64 ?_
          refine lv_if_ne (tgt := 369) X.x X.b d_Model_expand_67 (by decide) (fun c3 => ?_) (fun c3 => ?_)
          · exact absurd c3 (by decide)
          · skip
            refine lv_aload_n X.x X.b d_Model_expand_70 rfl (lv_at hl 1 rfl) ?_
            refine lv_iload X.x X.b d_Model_expand_71 (lv_at hl 4 rfl) ?_
            refine m_ild (v := 0) X hL2 0 rfl (by omega) (by decide) (show (fun _ => 0) 0 = 0 from rfl) d_Model_expand_73 ?_
            refine lv_istore (lv' := [(6, .int 0), (0, .ref mo), (1, .ref q2), (2, .ref q7), (3, .ref q12), (4, .int 0), (5, .int 0)]) X.x X.b d_Model_expand_74 hl (by decide) rfl (fun ls hl => ?_)
            refine lv_aload_n X.x X.b d_Model_expand_76 rfl (lv_at hl 3 rfl) ?_
            refine lv_iload X.x X.b d_Model_expand_77 (lv_at hl 5 rfl) ?_
            refine m_ild (v := 0) X hL7 0 rfl (by omega) (by decide) (show (fun _ => 0) 0 = 0 from rfl) d_Model_expand_79 ?_
            refine lv_aload_n X.x X.b d_Model_expand_80 rfl (lv_at hl 1 rfl) ?_
            refine m_get (v := .ref (mo + 2)) X ok_Model hM.1 2 (by decide) k_Model_13 rfl d_Model_expand_81 ?_
            refine lv_iload X.x X.b d_Model_expand_84 (lv_at hl 0 rfl) ?_
            refine m_ild (v := 1) X hM.a2 0 rfl (by omega) (by decide) (show s1 2 0 = 1 from (by rw [hE.2 2 (by decide), hL.1.1])) d_Model_expand_86 ?_
            refine lv_icmp_ne (tgt := 96) X.x X.b d_Model_expand_87 (by decide) (fun c4 => ?_) (fun c4 => ?_)
            · skip
              refine lv_aload_n X.x X.b d_Model_expand_96 rfl (lv_at hl 3 rfl) ?_
              refine lv_iload X.x X.b d_Model_expand_97 (lv_at hl 5 rfl) ?_
              refine lv_dup2_11 X.x X.b d_Model_expand_99 rfl rfl ?_
              refine m_ild (v := 0) X hL7 0 rfl (by omega) (by decide) (show (fun _ => 0) 0 = 0 from rfl) d_Model_expand_100 ?_
              refine lv_dup_x2 X.x X.b d_Model_expand_101 rfl rfl rfl ?_
              refine lv_iconst (v := 1) X.x X.b d_Model_expand_102 (by decide) ?_
              refine lv_iadd X.x X.b d_Model_expand_103 ?_
              rw [show (0 + 1 : Int32) = 1 from by decide]
              refine m_ist X hS (Or.inr (by omega)) hL7 0 rfl (by omega) (by decide) d_Model_expand_104 (fun H locs hp hcg hS => ?_)
              have hL7 := hp
              obtain ⟨r_2, er_2⟩ : ∃ z, z = upd (fun _ => 0) 0 1 := ⟨_, rfl⟩
              rw [← er_2] at hL7
              have hM := hM.frame (fr.of_chg (A := fun q => q = q7) hcg rfl) (fun q z => by have z : q = q7 := z; have := hM.tq; omega)
              have hL2 := hL2.off hcg (by omega)
              have hL12 := hL12.off hcg (by omega)
              refine lv_istore (lv' := [(7, .int 0), (6, .int 0), (0, .ref mo), (1, .ref q2), (2, .ref q7), (3, .ref q12), (4, .int 0), (5, .int 0)]) X.x X.b d_Model_expand_105 hl (by decide) rfl (fun ls hl => ?_)
              refine lv_iload X.x X.b d_Model_expand_107 (lv_at hl 1 rfl) ?_
              refine lv_iload X.x X.b d_Model_expand_109 (lv_at hl 0 rfl) ?_
              refine m_callSP X hS (MP_ans (M_Model_at l g 0 0) (show (((0 : Int32) * 64 + 0) * 5) = 0 from by decide)) s_Model_96 rfl rfl (Nat.le_of_ble_eq_true rfl) hl.1 d_Model_expand_111 (by omega) (by decide) ⟨by omega, by omega⟩ (fun locs hS => ?_)
              refine lv_istore (lv' := [(8, .int 0), (7, .int 0), (6, .int 0), (0, .ref mo), (1, .ref q2), (2, .ref q7), (3, .ref q12), (4, .int 0), (5, .int 0)]) X.x X.b d_Model_expand_114 hl (by decide) rfl (fun ls hl => ?_)
              refine lv_aload_n X.x X.b d_Model_expand_116 rfl (lv_at hl 5 rfl) ?_
              refine lv_iconst (v := 0) X.x X.b d_Model_expand_117 (by decide) ?_
              refine m_ild (v := 1) X hL7 0 rfl (by omega) (by decide) (show r_2 0 = 1 from (by rw [er_2, upd_hit])) d_Model_expand_118 ?_
              refine lv_iconst (v := 1) X.x X.b d_Model_expand_119 (by decide) ?_
              refine lv_isub X.x X.b d_Model_expand_120 ?_
              rw [show (1 - 1 : Int32) = 0 from by decide]
              refine lv_istore (lv' := [(9, .int 0), (8, .int 0), (7, .int 0), (6, .int 0), (0, .ref mo), (1, .ref q2), (2, .ref q7), (3, .ref q12), (4, .int 0), (5, .int 0)]) X.x X.b d_Model_expand_121 hl (by decide) rfl (fun ls hl => ?_)
              refine lv_aload_n X.x X.b d_Model_expand_123 rfl (lv_at hl 4 rfl) ?_
              refine m_get (v := .ref tq) X ok_Model hM.1 1 (by decide) k_Model_9 rfl d_Model_expand_124 ?_
              refine lv_iload X.x X.b d_Model_expand_127 (lv_at hl 1 rfl) ?_
              refine m_ild (v := 0) X hM.a1 0 rfl (by omega) (by decide) (show s1 1 0 = 0 from (by rw [hE.2 1 (by decide), hL.2.1])) d_Model_expand_129 ?_
              refine lv_istore (lv' := [(10, .int 0), (9, .int 0), (8, .int 0), (7, .int 0), (6, .int 0), (0, .ref mo), (1, .ref q2), (2, .ref q7), (3, .ref q12), (4, .int 0), (5, .int 0)]) X.x X.b d_Model_expand_130 hl (by decide) rfl (fun ls hl => ?_)
              refine lv_aload_n X.x X.b d_Model_expand_132 rfl (lv_at hl 5 rfl) ?_
              refine m_get (v := .ref tq) X ok_Model hM.1 1 (by decide) k_Model_9 rfl d_Model_expand_133 ?_
              refine lv_iload X.x X.b d_Model_expand_136 (lv_at hl 2 rfl) ?_
              refine lv_iconst (v := 3) X.x X.b d_Model_expand_138 (by decide) ?_
              refine lv_iadd X.x X.b d_Model_expand_139 ?_
              rw [show (0 + 3 : Int32) = 3 from by decide]
              refine m_ild (v := v_) X hM.a1 3 rfl (by omega) (by decide) (show s1 1 3 = v_ from (by rw [hE.2 1 (by decide), hL.2.2.2.2.1])) d_Model_expand_140 ?_
              refine lv_aload_n X.x X.b d_Model_expand_141 rfl (lv_at hl 5 rfl) ?_
              refine m_get (v := .ref tq) X ok_Model hM.1 1 (by decide) k_Model_9 rfl d_Model_expand_142 ?_
              refine lv_iload X.x X.b d_Model_expand_145 (lv_at hl 2 rfl) ?_
              refine lv_iconst (v := 4) X.x X.b d_Model_expand_147 (by decide) ?_
              refine lv_iadd X.x X.b d_Model_expand_148 ?_
              rw [show (0 + 4 : Int32) = 4 from by decide]
              refine m_ild (v := r) X hM.a1 4 rfl (by omega) (by decide) (show s1 1 4 = r from (by rw [hE.2 1 (by decide), hL.2.2.2.2.2])) d_Model_expand_149 ?_
              refine lv_iconst (v := 1) X.x X.b d_Model_expand_150 (by decide) ?_
              refine lv_icmp_ne (tgt := 161) X.x X.b d_Model_expand_151 (by decide) (fun c5 => ?_) (fun c5 => ?_)
              · skip
                refine lv_iconst (v := 0) X.x X.b d_Model_expand_161 (by decide) ?_
                refine lv_iadd X.x X.b d_Model_expand_162 ?_
                rw [show (v_ + 0 : Int32) = v_ from Int32.add_zero _]
                refine lv_istore (lv' := [(11, .int v_), (10, .int 0), (9, .int 0), (8, .int 0), (7, .int 0), (6, .int 0), (0, .ref mo), (1, .ref q2), (2, .ref q7), (3, .ref q12), (4, .int 0), (5, .int 0)]) X.x X.b d_Model_expand_163 hl (by decide) rfl (fun ls hl => ?_)
                refine lv_iinc (v := 1) (lv' := [(5, .int 1), (11, .int v_), (10, .int 0), (9, .int 0), (8, .int 0), (7, .int 0), (6, .int 0), (0, .ref mo), (1, .ref q2), (2, .ref q7), (3, .ref q12), (4, .int 0)]) X.x X.b d_Model_expand_165 hl (k := 11) rfl (by decide) (by decide) rfl (fun ls hl => ?_)
                refine lv_iload X.x X.b d_Model_expand_168 (lv_at hl 0 rfl) ?_
                refine lv_sipush (v := 400) X.x X.b d_Model_expand_170 (by decide) ?_
                refine lv_icmp_gt (tgt := 193) X.x X.b d_Model_expand_173 (by decide) (fun c6 => ?_) (fun c6 => ?_)
                · exact absurd c6 (by decide)
                · skip
                  have c6q := Int32.not_lt.mp c6
                  refine lv_iload X.x X.b d_Model_expand_176 (lv_at hl 2 rfl) ?_
                  refine m_callSP X hS (MP_ans (M_Model_makes l g 0) (show b2i ((0 : Int32) < 8) = 1 from by decide)) s_Model_138 rfl rfl (Nat.le_of_ble_eq_true rfl) hl.1 d_Model_expand_178 (by omega) (by decide) ⟨by omega, by omega⟩ (fun locs hS => ?_)
                  refine lv_if_eq (tgt := 203) X.x X.b d_Model_expand_181 (by decide) (fun c7 => ?_) (fun c7 => ?_)
                  · exact absurd c7 (by decide)
                  · skip
                    refine lv_aload_n X.x X.b d_Model_expand_184 rfl (lv_at hl 7 rfl) ?_
                    refine m_get (v := .int 0) X ok_Model hM.1 5 (by decide) k_Model_132 (congrArg (fun z => some (Value.int z)) (show p1 5 = 0 from (by rw [hp15]))) d_Model_expand_185 ?_
                    refine lv_bipush (v := 120) X.x X.b d_Model_expand_188 (by decide) ?_
                    refine lv_icmp_ne (tgt := 203) X.x X.b d_Model_expand_190 (by decide) (fun c8 => ?_) (fun c8 => ?_)
                    · skip
                      refine lv_iload X.x X.b d_Model_expand_203 (lv_at hl 2 rfl) ?_
                      refine lv_bipush (v := 10) X.x X.b d_Model_expand_205 (by decide) ?_
                      refine lv_icmp_ne (tgt := 259) X.x X.b d_Model_expand_207 (by decide) (fun c9 => ?_) (fun c9 => ?_)
                      · skip
                        refine lv_iload X.x X.b d_Model_expand_259 (lv_at hl 2 rfl) ?_
                        refine lv_bipush (v := 8) X.x X.b d_Model_expand_261 (by decide) ?_
                        refine lv_icmp_ne (tgt := 329) X.x X.b d_Model_expand_263 (by decide) (fun c10 => ?_) (fun c10 => ?_)
                        · skip
                          refine lv_iload X.x X.b d_Model_expand_329 (lv_at hl 2 rfl) ?_
                          refine lv_bipush (v := 9) X.x X.b d_Model_expand_331 (by decide) ?_
                          refine lv_icmp_eq (tgt := 366) X.x X.b d_Model_expand_333 (by decide) (fun c11 => ?_) (fun c11 => ?_)
                          · exact absurd c11 (by decide)
                          · skip
                            refine lv_aload_n X.x X.b d_Model_expand_336 rfl (lv_at hl 7 rfl) ?_
                            refine lv_iload X.x X.b d_Model_expand_337 (lv_at hl 2 rfl) ?_
                            refine lv_aload_n X.x X.b d_Model_expand_339 rfl (lv_at hl 7 rfl) ?_
                            refine m_get (v := .ref tq) X ok_Model hM.1 1 (by decide) k_Model_9 rfl d_Model_expand_340 ?_
                            refine lv_iload X.x X.b d_Model_expand_343 (lv_at hl 4 rfl) ?_
                            refine lv_iconst (v := 1) X.x X.b d_Model_expand_345 (by decide) ?_
                            refine lv_iadd X.x X.b d_Model_expand_346 ?_
                            rw [show (0 + 1 : Int32) = 1 from by decide]
                            refine m_ild (v := nI j) X hM.a1 1 rfl (by omega) (by decide) (show s1 1 1 = nI j from (by rw [hE.2 1 (by decide), hL.2.2.1])) d_Model_expand_347 ?_
                            refine lv_aload_n X.x X.b d_Model_expand_348 rfl (lv_at hl 7 rfl) ?_
                            refine m_get (v := .ref tq) X ok_Model hM.1 1 (by decide) k_Model_9 rfl d_Model_expand_349 ?_
                            refine lv_iload X.x X.b d_Model_expand_352 (lv_at hl 4 rfl) ?_
                            refine lv_iconst (v := 2) X.x X.b d_Model_expand_354 (by decide) ?_
                            refine lv_iadd X.x X.b d_Model_expand_355 ?_
                            rw [show (0 + 2 : Int32) = 2 from by decide]
                            refine m_ild (v := (-1)) X hM.a1 2 rfl (by omega) (by decide) (show s1 1 2 = (-1) from (by rw [hE.2 1 (by decide), hL.2.2.2.1])) d_Model_expand_356 ?_
                            refine lv_iload X.x X.b d_Model_expand_357 (lv_at hl 1 rfl) ?_
                            refine lv_iload X.x X.b d_Model_expand_359 (lv_at hl 3 rfl) ?_
                            refine lv_iload X.x X.b d_Model_expand_361 (lv_at hl 11 rfl) ?_
                            have hR := M_Model_take_0l l g hM (show p1 5 = 0 from (by rw [hp15])) (show p1 3 = 0 from (by rw [hp13])) (j := j) hj hj9 v_
                            refine m_callM X hS hR v_Model_147 hM.1 rfl rfl rfl (Nat.le_of_ble_eq_true rfl) hl.1 d_Model_expand_363 (by omega) (by decide) ⟨by omega, by omega⟩ (fun q z => by have z : mo ≤ q ∧ q < mo + 23 := z; exact ⟨by omega, by omega⟩) (fun H locs hq hfr hS => ?_)
                            have hL2 := hL2.fr hfr (fun z => by have z : mo ≤ q2 ∧ q2 < mo + 23 := z; omega)
                            have hL7 := hL7.fr hfr (fun z => by have z : mo ≤ q7 ∧ q7 < mo + 23 := z; omega)
                            have hL12 := hL12.fr hfr (fun z => by have z : mo ≤ q12 ∧ q12 < mo + 23 := z; omega)
                            obtain ⟨p_3, s_4, hM, hT0, hT3, hT5, hT8, hT9, hT10, hT11, hT1, hT2⟩ := hq
                            refine lv_goto (tgt := 58) X.x X.b d_Model_expand_366 (by decide) ?_
                            refine lv_iload X.x X.b d_Model_expand_58 (lv_at hl 11 rfl) ?_
                            refine lv_if_lt (tgt := 369) X.x X.b d_Model_expand_60 (by decide) (fun c12 => ?_) (fun c12 => ?_)
                            · exact absurd c12 c2
                            · skip
                              have c12q := Int32.not_lt.mp c12
                              refine lv_aload_n X.x X.b d_Model_expand_63 rfl (lv_at hl 7 rfl) ?_
                              refine m_get (v := .int 0) X ok_Model hM.1 3 (by decide) k_Model_126 (congrArg (fun z => some (Value.int z)) (show p_3 3 = 0 from (by rw [hT3]))) d_Model_expand_64 ?_
                              refine lv_if_ne (tgt := 369) X.x X.b d_Model_expand_67 (by decide) (fun c13 => ?_) (fun c13 => ?_)
                              · exact absurd c3 c13
                              · skip
                                refine lv_aload_n X.x X.b d_Model_expand_70 rfl (lv_at hl 8 rfl) ?_
                                refine lv_iload X.x X.b d_Model_expand_71 (lv_at hl 11 rfl) ?_
                                refine m_ild (v := 0) X hL2 0 rfl (by omega) (by decide) (show (fun _ => 0) 0 = 0 from rfl) d_Model_expand_73 ?_
                                refine lv_istore (lv' := [(6, .int 0), (5, .int 1), (11, .int v_), (10, .int 0), (9, .int 0), (8, .int 0), (7, .int 0), (0, .ref mo), (1, .ref q2), (2, .ref q7), (3, .ref q12), (4, .int 0)]) X.x X.b d_Model_expand_74 hl (by decide) rfl (fun ls hl => ?_)
                                refine lv_aload_n X.x X.b d_Model_expand_76 rfl (lv_at hl 9 rfl) ?_
                                refine lv_iload X.x X.b d_Model_expand_77 (lv_at hl 11 rfl) ?_
                                refine m_ild (v := 1) X hL7 0 rfl (by omega) (by decide) (show r_2 0 = 1 from (by rw [er_2, upd_hit])) d_Model_expand_79 ?_
                                refine lv_aload_n X.x X.b d_Model_expand_80 rfl (lv_at hl 7 rfl) ?_
                                refine m_get (v := .ref (mo + 2)) X ok_Model hM.1 2 (by decide) k_Model_13 rfl d_Model_expand_81 ?_
                                refine lv_iload X.x X.b d_Model_expand_84 (lv_at hl 0 rfl) ?_
                                refine m_ild (v := 1) X hM.a2 0 rfl (by omega) (by decide) (show s_4 2 0 = 1 from (by rw [hT2, hE.2 2 (by decide), hL.1.1])) d_Model_expand_86 ?_
                                refine lv_icmp_ne (tgt := 96) X.x X.b d_Model_expand_87 (by decide) (fun c14 => ?_) (fun c14 => ?_)
                                · exact absurd c14 (by decide)
                                · skip
                                  refine lv_iinc (v := (-1)) (lv' := [(4, .int (-1)), (6, .int 0), (5, .int 1), (11, .int v_), (10, .int 0), (9, .int 0), (8, .int 0), (7, .int 0), (0, .ref mo), (1, .ref q2), (2, .ref q7), (3, .ref q12)]) X.x X.b d_Model_expand_90 hl (k := 11) rfl (by decide) (by decide) rfl (fun ls hl => ?_)
                                  refine lv_goto (tgt := 58) X.x X.b d_Model_expand_93 (by decide) ?_
                                  refine lv_iload X.x X.b d_Model_expand_58 (lv_at hl 0 rfl) ?_
                                  refine lv_if_lt (tgt := 369) X.x X.b d_Model_expand_60 (by decide) (fun c15 => ?_) (fun c15 => ?_)
                                  · skip
                                    have c15q := Int32.not_le.mpr c15
                                    refine lv_aload_n X.x X.b d_Model_expand_369 rfl (lv_at hl 8 rfl) ?_
                                    refine m_get (v := .int 0) X ok_Model hM.1 3 (by decide) k_Model_126 (congrArg (fun z => some (Value.int z)) (show p_3 3 = 0 from (by rw [hT3]))) d_Model_expand_370 ?_
                                    refine lv_if_ne (tgt := 387) X.x X.b d_Model_expand_373 (by decide) (fun c16 => ?_) (fun c16 => ?_)
                                    · exact absurd c13 c16
                                    · skip
                                      refine lv_aload_n X.x X.b d_Model_expand_376 rfl (lv_at hl 8 rfl) ?_
                                      refine lv_bipush (v := 6) X.x X.b d_Model_expand_377 (by decide) ?_
                                      refine lv_iconst (v := -1) X.x X.b d_Model_expand_379 (by decide) ?_
                                      refine lv_iconst (v := -1) X.x X.b d_Model_expand_380 (by decide) ?_
                                      refine lv_iconst (v := 0) X.x X.b d_Model_expand_381 (by decide) ?_
                                      refine lv_iconst (v := -1) X.x X.b d_Model_expand_382 (by decide) ?_
                                      refine lv_iconst (v := 0) X.x X.b d_Model_expand_383 (by decide) ?_
                                      have hR := M_Model_item (c := 1) l g hM (show p_3 5 = 1 from (by rw [hT5])) (by omega) 6 (-1) (-1) 0 (-1) 0
                                      refine m_callM X hS hR v_Model_151 hM.1 rfl rfl rfl (Nat.le_of_ble_eq_true rfl) hl.1 d_Model_expand_384 (by omega) (by decide) ⟨by omega, by omega⟩ (fun q z => by have z : mo ≤ q ∧ q < mo + 23 := z; exact ⟨by omega, by omega⟩) (fun H locs hM hfr hS => ?_)
                                      have hL2 := hL2.fr hfr (fun z => by have z : mo ≤ q2 ∧ q2 < mo + 23 := z; omega)
                                      have hL7 := hL7.fr hfr (fun z => by have z : mo ≤ q7 ∧ q7 < mo + 23 := z; omega)
                                      have hL12 := hL12.fr hfr (fun z => by have z : mo ≤ q12 ∧ q12 < mo + 23 := z; omega)
                                      have hM : mAt g mo tq (upd p_3 5 2) _ H := hM
                                      obtain ⟨p_5, ep_5⟩ : ∃ z, z = upd p_3 5 2 := ⟨_, rfl⟩
                                      rw [← ep_5] at hM
                                      obtain ⟨s_6, es_6⟩ : ∃ z, z = itR s_4 1 6 (-1) (-1) 0 (-1) 0 := ⟨_, rfl⟩
                                      rw [← es_6] at hM
                                      exact m_vret X hS (by omega) (by omega) d_Model_expand_387 rfl ⟨_, _, hM, (by rw [ep_5, upd_mi _ _ _ (show 0 ≠ 5 by decide), hT0, hp10]), by rw [es_6, itR_o s_4 1 6 (-1) (-1) 0 (-1) 0 2 (by decide), hT2, hE.2 2 (by decide)], ⟨(by rw [ep_5, upd_mi _ _ _ (show 3 ≠ 5 by decide), hT3]), (by rw [ep_5, upd_hit])⟩, (by rw [es_6, itR_ne s_4 1 6 (-1) (-1) 0 (-1) 0 (show (0 : Nat) ≠ 1 by omega) 8, hT8]), (by rw [es_6, itR_ne s_4 1 6 (-1) (-1) 0 (-1) 0 (show (0 : Nat) ≠ 1 by omega) 9, hT9]), (by rw [es_6, itR_ne s_4 1 6 (-1) (-1) 0 (-1) 0 (show (0 : Nat) ≠ 1 by omega) 10, hT10]), (by rw [es_6, (itR_at s_4 1 6 (-1) (-1) 0 (-1) 0).1]), (by rw [es_6, itR_ne s_4 1 6 (-1) (-1) 0 (-1) 0 (show (0 : Nat) ≠ 1 by omega) 11, hT11])⟩
                                  · exact absurd c15 (by decide)
                        · exact absurd c10 (by decide)
                      · exact absurd c9 (by decide)
                    · exact absurd c8 (by decide)
              · skip
                refine lv_aload_n X.x X.b d_Model_expand_154 rfl (lv_at hl 8 rfl) ?_
                refine lv_iload X.x X.b d_Model_expand_155 (lv_at hl 9 rfl) ?_
                refine m_ild (v := 0) X hL12 0 rfl (by omega) (by decide) (show (fun _ => 0) 0 = 0 from rfl) d_Model_expand_157 ?_
                refine lv_goto (tgt := 162) X.x X.b d_Model_expand_158 (by decide) ?_
                refine lv_iadd X.x X.b d_Model_expand_162 ?_
                rw [show (v_ + 0 : Int32) = v_ from Int32.add_zero _]
                refine lv_istore (lv' := [(11, .int v_), (10, .int 0), (9, .int 0), (8, .int 0), (7, .int 0), (6, .int 0), (0, .ref mo), (1, .ref q2), (2, .ref q7), (3, .ref q12), (4, .int 0), (5, .int 0)]) X.x X.b d_Model_expand_163 hl (by decide) rfl (fun ls hl => ?_)
                refine lv_iinc (v := 1) (lv' := [(5, .int 1), (11, .int v_), (10, .int 0), (9, .int 0), (8, .int 0), (7, .int 0), (6, .int 0), (0, .ref mo), (1, .ref q2), (2, .ref q7), (3, .ref q12), (4, .int 0)]) X.x X.b d_Model_expand_165 hl (k := 11) rfl (by decide) (by decide) rfl (fun ls hl => ?_)
                refine lv_iload X.x X.b d_Model_expand_168 (lv_at hl 0 rfl) ?_
                refine lv_sipush (v := 400) X.x X.b d_Model_expand_170 (by decide) ?_
                refine lv_icmp_gt (tgt := 193) X.x X.b d_Model_expand_173 (by decide) (fun c17 => ?_) (fun c17 => ?_)
                · exact absurd c17 (by decide)
                · skip
                  have c17q := Int32.not_lt.mp c17
                  refine lv_iload X.x X.b d_Model_expand_176 (lv_at hl 2 rfl) ?_
                  refine m_callSP X hS (MP_ans (M_Model_makes l g 0) (show b2i ((0 : Int32) < 8) = 1 from by decide)) s_Model_138 rfl rfl (Nat.le_of_ble_eq_true rfl) hl.1 d_Model_expand_178 (by omega) (by decide) ⟨by omega, by omega⟩ (fun locs hS => ?_)
                  refine lv_if_eq (tgt := 203) X.x X.b d_Model_expand_181 (by decide) (fun c18 => ?_) (fun c18 => ?_)
                  · exact absurd c18 (by decide)
                  · skip
                    refine lv_aload_n X.x X.b d_Model_expand_184 rfl (lv_at hl 7 rfl) ?_
                    refine m_get (v := .int 0) X ok_Model hM.1 5 (by decide) k_Model_132 (congrArg (fun z => some (Value.int z)) (show p1 5 = 0 from (by rw [hp15]))) d_Model_expand_185 ?_
                    refine lv_bipush (v := 120) X.x X.b d_Model_expand_188 (by decide) ?_
                    refine lv_icmp_ne (tgt := 203) X.x X.b d_Model_expand_190 (by decide) (fun c19 => ?_) (fun c19 => ?_)
                    · skip
                      refine lv_iload X.x X.b d_Model_expand_203 (lv_at hl 2 rfl) ?_
                      refine lv_bipush (v := 10) X.x X.b d_Model_expand_205 (by decide) ?_
                      refine lv_icmp_ne (tgt := 259) X.x X.b d_Model_expand_207 (by decide) (fun c20 => ?_) (fun c20 => ?_)
                      · skip
                        refine lv_iload X.x X.b d_Model_expand_259 (lv_at hl 2 rfl) ?_
                        refine lv_bipush (v := 8) X.x X.b d_Model_expand_261 (by decide) ?_
                        refine lv_icmp_ne (tgt := 329) X.x X.b d_Model_expand_263 (by decide) (fun c21 => ?_) (fun c21 => ?_)
                        · skip
                          refine lv_iload X.x X.b d_Model_expand_329 (lv_at hl 2 rfl) ?_
                          refine lv_bipush (v := 9) X.x X.b d_Model_expand_331 (by decide) ?_
                          refine lv_icmp_eq (tgt := 366) X.x X.b d_Model_expand_333 (by decide) (fun c22 => ?_) (fun c22 => ?_)
                          · exact absurd c22 (by decide)
                          · skip
                            refine lv_aload_n X.x X.b d_Model_expand_336 rfl (lv_at hl 7 rfl) ?_
                            refine lv_iload X.x X.b d_Model_expand_337 (lv_at hl 2 rfl) ?_
                            refine lv_aload_n X.x X.b d_Model_expand_339 rfl (lv_at hl 7 rfl) ?_
                            refine m_get (v := .ref tq) X ok_Model hM.1 1 (by decide) k_Model_9 rfl d_Model_expand_340 ?_
                            refine lv_iload X.x X.b d_Model_expand_343 (lv_at hl 4 rfl) ?_
                            refine lv_iconst (v := 1) X.x X.b d_Model_expand_345 (by decide) ?_
                            refine lv_iadd X.x X.b d_Model_expand_346 ?_
                            rw [show (0 + 1 : Int32) = 1 from by decide]
                            refine m_ild (v := nI j) X hM.a1 1 rfl (by omega) (by decide) (show s1 1 1 = nI j from (by rw [hE.2 1 (by decide), hL.2.2.1])) d_Model_expand_347 ?_
                            refine lv_aload_n X.x X.b d_Model_expand_348 rfl (lv_at hl 7 rfl) ?_
                            refine m_get (v := .ref tq) X ok_Model hM.1 1 (by decide) k_Model_9 rfl d_Model_expand_349 ?_
                            refine lv_iload X.x X.b d_Model_expand_352 (lv_at hl 4 rfl) ?_
                            refine lv_iconst (v := 2) X.x X.b d_Model_expand_354 (by decide) ?_
                            refine lv_iadd X.x X.b d_Model_expand_355 ?_
                            rw [show (0 + 2 : Int32) = 2 from by decide]
                            refine m_ild (v := (-1)) X hM.a1 2 rfl (by omega) (by decide) (show s1 1 2 = (-1) from (by rw [hE.2 1 (by decide), hL.2.2.2.1])) d_Model_expand_356 ?_
                            refine lv_iload X.x X.b d_Model_expand_357 (lv_at hl 1 rfl) ?_
                            refine lv_iload X.x X.b d_Model_expand_359 (lv_at hl 3 rfl) ?_
                            refine lv_iload X.x X.b d_Model_expand_361 (lv_at hl 11 rfl) ?_
                            have hR := M_Model_take_0l l g hM (show p1 5 = 0 from (by rw [hp15])) (show p1 3 = 0 from (by rw [hp13])) (j := j) hj hj9 v_
                            refine m_callM X hS hR v_Model_147 hM.1 rfl rfl rfl (Nat.le_of_ble_eq_true rfl) hl.1 d_Model_expand_363 (by omega) (by decide) ⟨by omega, by omega⟩ (fun q z => by have z : mo ≤ q ∧ q < mo + 23 := z; exact ⟨by omega, by omega⟩) (fun H locs hq hfr hS => ?_)
                            have hL2 := hL2.fr hfr (fun z => by have z : mo ≤ q2 ∧ q2 < mo + 23 := z; omega)
                            have hL7 := hL7.fr hfr (fun z => by have z : mo ≤ q7 ∧ q7 < mo + 23 := z; omega)
                            have hL12 := hL12.fr hfr (fun z => by have z : mo ≤ q12 ∧ q12 < mo + 23 := z; omega)
                            obtain ⟨p_7, s_8, hM, hT0, hT3, hT5, hT8, hT9, hT10, hT11, hT1, hT2⟩ := hq
                            refine lv_goto (tgt := 58) X.x X.b d_Model_expand_366 (by decide) ?_
                            refine lv_iload X.x X.b d_Model_expand_58 (lv_at hl 11 rfl) ?_
                            refine lv_if_lt (tgt := 369) X.x X.b d_Model_expand_60 (by decide) (fun c23 => ?_) (fun c23 => ?_)
                            · exact absurd c23 c2
                            · skip
                              have c23q := Int32.not_lt.mp c23
                              refine lv_aload_n X.x X.b d_Model_expand_63 rfl (lv_at hl 7 rfl) ?_
                              refine m_get (v := .int 0) X ok_Model hM.1 3 (by decide) k_Model_126 (congrArg (fun z => some (Value.int z)) (show p_7 3 = 0 from (by rw [hT3]))) d_Model_expand_64 ?_
                              refine lv_if_ne (tgt := 369) X.x X.b d_Model_expand_67 (by decide) (fun c24 => ?_) (fun c24 => ?_)
                              · exact absurd c3 c24
                              · skip
                                refine lv_aload_n X.x X.b d_Model_expand_70 rfl (lv_at hl 8 rfl) ?_
                                refine lv_iload X.x X.b d_Model_expand_71 (lv_at hl 11 rfl) ?_
                                refine m_ild (v := 0) X hL2 0 rfl (by omega) (by decide) (show (fun _ => 0) 0 = 0 from rfl) d_Model_expand_73 ?_
                                refine lv_istore (lv' := [(6, .int 0), (5, .int 1), (11, .int v_), (10, .int 0), (9, .int 0), (8, .int 0), (7, .int 0), (0, .ref mo), (1, .ref q2), (2, .ref q7), (3, .ref q12), (4, .int 0)]) X.x X.b d_Model_expand_74 hl (by decide) rfl (fun ls hl => ?_)
                                refine lv_aload_n X.x X.b d_Model_expand_76 rfl (lv_at hl 9 rfl) ?_
                                refine lv_iload X.x X.b d_Model_expand_77 (lv_at hl 11 rfl) ?_
                                refine m_ild (v := 1) X hL7 0 rfl (by omega) (by decide) (show r_2 0 = 1 from (by rw [er_2, upd_hit])) d_Model_expand_79 ?_
                                refine lv_aload_n X.x X.b d_Model_expand_80 rfl (lv_at hl 7 rfl) ?_
                                refine m_get (v := .ref (mo + 2)) X ok_Model hM.1 2 (by decide) k_Model_13 rfl d_Model_expand_81 ?_
                                refine lv_iload X.x X.b d_Model_expand_84 (lv_at hl 0 rfl) ?_
                                refine m_ild (v := 1) X hM.a2 0 rfl (by omega) (by decide) (show s_8 2 0 = 1 from (by rw [hT2, hE.2 2 (by decide), hL.1.1])) d_Model_expand_86 ?_
                                refine lv_icmp_ne (tgt := 96) X.x X.b d_Model_expand_87 (by decide) (fun c25 => ?_) (fun c25 => ?_)
                                · exact absurd c25 (by decide)
                                · skip
                                  refine lv_iinc (v := (-1)) (lv' := [(4, .int (-1)), (6, .int 0), (5, .int 1), (11, .int v_), (10, .int 0), (9, .int 0), (8, .int 0), (7, .int 0), (0, .ref mo), (1, .ref q2), (2, .ref q7), (3, .ref q12)]) X.x X.b d_Model_expand_90 hl (k := 11) rfl (by decide) (by decide) rfl (fun ls hl => ?_)
                                  refine lv_goto (tgt := 58) X.x X.b d_Model_expand_93 (by decide) ?_
                                  refine lv_iload X.x X.b d_Model_expand_58 (lv_at hl 0 rfl) ?_
                                  refine lv_if_lt (tgt := 369) X.x X.b d_Model_expand_60 (by decide) (fun c26 => ?_) (fun c26 => ?_)
                                  · skip
                                    have c26q := Int32.not_le.mpr c26
                                    refine lv_aload_n X.x X.b d_Model_expand_369 rfl (lv_at hl 8 rfl) ?_
                                    refine m_get (v := .int 0) X ok_Model hM.1 3 (by decide) k_Model_126 (congrArg (fun z => some (Value.int z)) (show p_7 3 = 0 from (by rw [hT3]))) d_Model_expand_370 ?_
                                    refine lv_if_ne (tgt := 387) X.x X.b d_Model_expand_373 (by decide) (fun c27 => ?_) (fun c27 => ?_)
                                    · exact absurd c24 c27
                                    · skip
                                      refine lv_aload_n X.x X.b d_Model_expand_376 rfl (lv_at hl 8 rfl) ?_
                                      refine lv_bipush (v := 6) X.x X.b d_Model_expand_377 (by decide) ?_
                                      refine lv_iconst (v := -1) X.x X.b d_Model_expand_379 (by decide) ?_
                                      refine lv_iconst (v := -1) X.x X.b d_Model_expand_380 (by decide) ?_
                                      refine lv_iconst (v := 0) X.x X.b d_Model_expand_381 (by decide) ?_
                                      refine lv_iconst (v := -1) X.x X.b d_Model_expand_382 (by decide) ?_
                                      refine lv_iconst (v := 0) X.x X.b d_Model_expand_383 (by decide) ?_
                                      have hR := M_Model_item (c := 1) l g hM (show p_7 5 = 1 from (by rw [hT5])) (by omega) 6 (-1) (-1) 0 (-1) 0
                                      refine m_callM X hS hR v_Model_151 hM.1 rfl rfl rfl (Nat.le_of_ble_eq_true rfl) hl.1 d_Model_expand_384 (by omega) (by decide) ⟨by omega, by omega⟩ (fun q z => by have z : mo ≤ q ∧ q < mo + 23 := z; exact ⟨by omega, by omega⟩) (fun H locs hM hfr hS => ?_)
                                      have hL2 := hL2.fr hfr (fun z => by have z : mo ≤ q2 ∧ q2 < mo + 23 := z; omega)
                                      have hL7 := hL7.fr hfr (fun z => by have z : mo ≤ q7 ∧ q7 < mo + 23 := z; omega)
                                      have hL12 := hL12.fr hfr (fun z => by have z : mo ≤ q12 ∧ q12 < mo + 23 := z; omega)
                                      have hM : mAt g mo tq (upd p_7 5 2) _ H := hM
                                      obtain ⟨p_9, ep_9⟩ : ∃ z, z = upd p_7 5 2 := ⟨_, rfl⟩
                                      rw [← ep_9] at hM
                                      obtain ⟨s_10, es_10⟩ : ∃ z, z = itR s_8 1 6 (-1) (-1) 0 (-1) 0 := ⟨_, rfl⟩
                                      rw [← es_10] at hM
                                      exact m_vret X hS (by omega) (by omega) d_Model_expand_387 rfl ⟨_, _, hM, (by rw [ep_9, upd_mi _ _ _ (show 0 ≠ 5 by decide), hT0, hp10]), by rw [es_10, itR_o s_8 1 6 (-1) (-1) 0 (-1) 0 2 (by decide), hT2, hE.2 2 (by decide)], ⟨(by rw [ep_9, upd_mi _ _ _ (show 3 ≠ 5 by decide), hT3]), (by rw [ep_9, upd_hit])⟩, (by rw [es_10, itR_ne s_8 1 6 (-1) (-1) 0 (-1) 0 (show (0 : Nat) ≠ 1 by omega) 8, hT8]), (by rw [es_10, itR_ne s_8 1 6 (-1) (-1) 0 (-1) 0 (show (0 : Nat) ≠ 1 by omega) 9, hT9]), (by rw [es_10, itR_ne s_8 1 6 (-1) (-1) 0 (-1) 0 (show (0 : Nat) ≠ 1 by omega) 10, hT10]), (by rw [es_10, (itR_at s_8 1 6 (-1) (-1) 0 (-1) 0).1]), (by rw [es_10, itR_ne s_8 1 6 (-1) (-1) 0 (-1) 0 (show (0 : Nat) ≠ 1 by omega) 11, hT11])⟩
                                  · exact absurd c26 (by decide)
                        · exact absurd c21 (by decide)
                      · exact absurd c20 (by decide)
                    · exact absurd c19 (by decide)
            · exact absurd c4 (by decide)
      · exact absurd ((nI_ltI (a := i) (b := 8) (by omega) (by omega)).mp (Int32.not_le.mp c1)) (by omega)
    | succ n ih =>
      intro i s1 hin hi5 hE H locs ls hM hL2 hL7 hL12 hS hl
      refine lv_iload X.x X.b d_Model_expand_29 (lv_at hl 6 rfl) ?_
      refine lv_bipush (v := 8) X.x X.b d_Model_expand_31 (by decide) ?_
      refine lv_icmp_ge (tgt := 58) X.x X.b d_Model_expand_33 (by decide) (fun c28 => ?_) (fun c28 => ?_)
      · exact absurd ((nI_leI (a := 8) (b := i) (by omega) (by omega)).mp c28) (by omega)
      · skip
        have c28q := Int32.not_le.mp c28
        refine lv_aload_n X.x X.b d_Model_expand_36 rfl (lv_at hl 0 rfl) ?_
        refine m_get (v := .ref (mo + 20)) X ok_Model hM.1 25 (by decide) k_Model_68 rfl d_Model_expand_37 ?_
        refine lv_iload X.x X.b d_Model_expand_40 (lv_at hl 6 rfl) ?_
        refine lv_iconst (v := 0) X.x X.b d_Model_expand_42 (by decide) ?_
        refine m_ist X hS (Or.inl ⟨by omega, by omega⟩) hM.a25 i rfl (by omega) (by decide) d_Model_expand_43 (fun H locs hp hcg hS => ?_)
        have hM := hM.s25 hp hcg
        obtain ⟨s_11, es_11⟩ : ∃ z, z = updR s1 25 (upd (s1 25) i 0) := ⟨_, rfl⟩
        rw [← es_11] at hM
        have hL2 := hL2.off hcg (by omega)
        have hL7 := hL7.off hcg (by omega)
        have hL12 := hL12.off hcg (by omega)
        refine lv_aload_n X.x X.b d_Model_expand_44 rfl (lv_at hl 0 rfl) ?_
        refine m_get (v := .ref (mo + 22)) X ok_Model hM.1 27 (by decide) k_Model_74 rfl d_Model_expand_45 ?_
        refine lv_iload X.x X.b d_Model_expand_48 (lv_at hl 6 rfl) ?_
        refine lv_iconst (v := -1) X.x X.b d_Model_expand_50 (by decide) ?_
        refine m_ist X hS (Or.inl ⟨by omega, by omega⟩) hM.a27 i rfl (by omega) (by decide) d_Model_expand_51 (fun H locs hp hcg hS => ?_)
        have hM := hM.s27 hp hcg
        obtain ⟨s_12, es_12⟩ : ∃ z, z = updR s_11 27 (upd (s_11 27) i (-1)) := ⟨_, rfl⟩
        rw [← es_12] at hM
        have hL2 := hL2.off hcg (by omega)
        have hL7 := hL7.off hcg (by omega)
        have hL12 := hL12.off hcg (by omega)
        refine lv_iinc (v := nI (i + 1)) (lv' := [(6, .int (nI (i + 1))), (0, .ref mo), (1, .ref q2), (2, .ref q7), (3, .ref q12), (4, .int 0), (5, .int 0)]) X.x X.b d_Model_expand_52 hl (k := 6) rfl (nI_1 i) (by decide) rfl (fun ls hl => ?_)
        refine lv_goto (tgt := 29) X.x X.b d_Model_expand_55 (by decide) ?_
        exact ih (i + 1) s_12 (by omega) (by omega) (⟨fun j hj => (Nat.lt_or_ge j i).elim (fun z => ⟨by rw [es_12, updR_n2 _ _ _ _ (show j ≠ i by omega), es_11, updR_n2 _ _ _ _ (show j ≠ i by omega)]; exact (hE.1 j z).1, by rw [es_12, updR_n2 _ _ _ _ (show j ≠ i by omega), es_11, updR_n2 _ _ _ _ (show j ≠ i by omega)]; exact (hE.1 j z).2⟩) (fun z => ⟨by rw [show j = i by omega, es_12, updR_mf _ _ _ (show 25 ≠ 27 by decide), es_11, updR_hit], by rw [show j = i by omega, es_12, updR_hit]⟩), by rw [es_12, es_11]; exact (hE.2.up _ _ (by decide)).up _ _ (by decide)⟩) _ _ _ hM hL2 hL7 hL12 hS (lv_sub hl [1, 2, 3, 4, 5, 6, 0] rfl)
  exact lp 8 0 s0 (by omega) (by omega) (⟨fun j hj => absurd hj (Nat.not_lt_zero j), same.rf _ _⟩) _ _ _ hM hL2 hL7 hL12 hS (lv_sub hl [6, 5, 4, 3, 2, 1, 0] rfl)
set_option maxRecDepth 100000 in
set_option maxHeartbeats 4000000 in
theorem M_Model_expand_L1n (l : Launch) (g : GG) {mo tq : Nat} {p0 : Nat → Int32} {s0 : Nat → Nat → Int32} {H0 : Heap} (hM : mAt g mo tq p0 s0 H0) {v_ r : Int32} {j : Nat} (hj : j < 8) (hL : oneL 1 (nI j) (-1) v_ r s0) (hf3 : p0 3 = 0) : MM l y_Model_expand c_Model_expand 13 none 3 3 18 g H0 [.ref mo] (fun q => mo ≤ q ∧ q < mo + 23) (none) (fun H1 => ∃ p s, mAt g mo tq p s H1 ∧ p 0 = p0 0 ∧ s 2 = s0 2 ∧ (p 3 = 0 ∧ p 5 = 2) ∧ s 8 0 = 1 ∧ s 9 0 = (nI j) ∧ s 10 0 = (-1) ∧ s 8 1 = 6 ∧ s 11 0 = v_) := by
  refine MM.of (by decide +kernel) (Nat.le_of_ble_eq_true rfl) ?_
  intro p e s m below meth cd X hH ls hl
  have X : CX g p s m _ meth cd c_Model_expand 13 none R_Model _ := X
  have hl : lv_has ls 13 [(0, .ref mo)] := hl
  have hS : va_S (AA (fun q => mo ≤ q ∧ q < mo + 23) H0) H0 H0 [] := va_S.rf
  have hlt0 := hM.lt
  have htq0 := hM.tq
  refine lv_bipush (v := 6) X.x X.b d_Model_expand_0 (by decide) ?_
  obtain ⟨q2, hq2⟩ := sz_of hS
  have hlt2 := hM.lt
  have hsz2 := hS.1
  refine m_newI X hS hq2 6 (by decide) (by decide) (by decide) (by omega) (by omega) d_Model_expand_2 (fun H hL2 hgr hS hz2 => ?_)
  have hfr := fr.of_grow (A := noA) hgr
  have hM := hM.frame hfr (fun q z => z.elim)
  refine lv_astore_n (lv' := [(1, .ref q2), (0, .ref mo)]) X.x X.b d_Model_expand_4 rfl hl (by decide) rfl (fun ls hl => ?_)
  refine lv_bipush (v := 6) X.x X.b d_Model_expand_5 (by decide) ?_
  obtain ⟨q7, hq7⟩ := sz_of hS
  have hlt7 := hM.lt
  have hsz7 := hS.1
  refine m_newI X hS hq7 6 (by decide) (by decide) (by decide) (by omega) (by omega) d_Model_expand_7 (fun H hL7 hgr hS hz2 => ?_)
  have hfr := fr.of_grow (A := noA) hgr
  have hM := hM.frame hfr (fun q z => z.elim)
  have hL2 := hL2.fr hfr (fun z => z)
  refine lv_astore_n (lv' := [(2, .ref q7), (1, .ref q2), (0, .ref mo)]) X.x X.b d_Model_expand_9 rfl hl (by decide) rfl (fun ls hl => ?_)
  refine lv_bipush (v := 6) X.x X.b d_Model_expand_10 (by decide) ?_
  obtain ⟨q12, hq12⟩ := sz_of hS
  have hlt12 := hM.lt
  have hsz12 := hS.1
  refine m_newI X hS hq12 6 (by decide) (by decide) (by decide) (by omega) (by omega) d_Model_expand_12 (fun H hL12 hgr hS hz2 => ?_)
  have hfr := fr.of_grow (A := noA) hgr
  have hM := hM.frame hfr (fun q z => z.elim)
  have hL2 := hL2.fr hfr (fun z => z)
  have hL7 := hL7.fr hfr (fun z => z)
  refine lv_astore_n (lv' := [(3, .ref q12), (2, .ref q7), (1, .ref q2), (0, .ref mo)]) X.x X.b d_Model_expand_14 rfl hl (by decide) rfl (fun ls hl => ?_)
  refine lv_iconst (v := 0) X.x X.b d_Model_expand_15 (by decide) ?_
  refine lv_istore (lv' := [(4, .int 0), (3, .ref q12), (2, .ref q7), (1, .ref q2), (0, .ref mo)]) X.x X.b d_Model_expand_16 hl (by decide) rfl (fun ls hl => ?_)
  refine lv_iconst (v := 0) X.x X.b d_Model_expand_18 (by decide) ?_
  refine lv_istore (lv' := [(5, .int 0), (4, .int 0), (3, .ref q12), (2, .ref q7), (1, .ref q2), (0, .ref mo)]) X.x X.b d_Model_expand_19 hl (by decide) rfl (fun ls hl => ?_)
  refine lv_aload_n X.x X.b d_Model_expand_21 rfl (lv_at hl 5 rfl) ?_
  refine lv_iconst (v := 0) X.x X.b d_Model_expand_22 (by decide) ?_
  refine m_put X ok_Model hS (Or.inl ⟨by omega, by omega⟩) hM.1 5 (by decide) k_Model_132 rfl (ok_Model.2.2.1 _ (by decide)) rfl rfl (Nat.le_of_ble_eq_true rfl) d_Model_expand_23 (fun H locs hp hcg hS => ?_)
  have hM := hM.f5 hp hcg
  obtain ⟨p_1, ep_1⟩ : ∃ z, z = upd p0 5 0 := ⟨_, rfl⟩
  rw [← ep_1] at hM
  have hL2 := hL2.off hcg (by omega)
  have hL7 := hL7.off hcg (by omega)
  have hL12 := hL12.off hcg (by omega)
  obtain ⟨p1, hp1⟩ : ∃ z, z = p_1 := ⟨_, rfl⟩
  rw [← hp1] at hM
  have hp1 : p1 = upd p0 5 0 := by rw [hp1, ep_1]
  have hp15 : p1 5 = 0 := by rw [hp1]; exact upd_hit _ _ _
  have hp13 : p1 3 = 0 := by rw [hp1]; exact (upd_mi _ _ _ (by decide)).trans hf3
  have hp10 : p1 0 = p0 0 := by rw [hp1]; exact upd_mi _ _ _ (by decide)
  refine lv_iconst (v := 0) X.x X.b d_Model_expand_26 (by decide) ?_
  refine lv_istore (lv' := [(6, .int 0), (5, .int 0), (4, .int 0), (3, .ref q12), (2, .ref q7), (1, .ref q2), (0, .ref mo)]) X.x X.b d_Model_expand_27 hl (by decide) rfl (fun ls hl => ?_)
  have lp : ∀ (n i : Nat) (s1 : Nat → Nat → Int32), n = 8 - i → i < 5000 → ((∀ j, j < i → s1 25 j = 0 ∧ s1 27 j = -1) ∧ same [25, 27] s0 s1) → ∀ (H : Heap) (locs : List Loc) (ls : Array Slot), mAt g mo tq p1 s1 H → pt g q2 (.inl (g.2 0, 6, .inl (fun _ => 0))) H → pt g q7 (.inl (g.2 0, 6, .inl (fun _ => 0))) H → pt g q12 (.inl (g.2 0, 6, .inl (fun _ => 0))) H → va_S (AA (fun q => mo ≤ q ∧ q < mo + 23) H0) H0 H locs → lv_has ls 13 [(0, .ref mo), (1, .ref q2), (2, .ref q7), (3, .ref q12), (4, .int 0), (5, .int 0), (6, .int (nI i))] → W p l e (rmK 3 3 18) s m ([.ref mo] : List Value).toArray below meth cd H locs 3 18 (MQ below (QM (none) (fun H1 => ∃ p s, mAt g mo tq p s H1 ∧ p 0 = p0 0 ∧ s 2 = s0 2 ∧ (p 3 = 0 ∧ p 5 = 2) ∧ s 8 0 = 1 ∧ s 9 0 = (nI j) ∧ s 10 0 = (-1) ∧ s 8 1 = 6 ∧ s 11 0 = v_) (fun q => mo ≤ q ∧ q < mo + 23) H0) ([.ref mo] : List Value).toArray s 3 18 (AA (fun q => mo ≤ q ∧ q < mo + 23) H0)) (F0 m 29 ls []) := by
    intro n
    induction n with
    | zero =>
      intro i s1 hin hi5 hE H locs ls hM hL2 hL7 hL12 hS hl
      refine lv_iload X.x X.b d_Model_expand_29 (lv_at hl 6 rfl) ?_
      refine lv_bipush (v := 8) X.x X.b d_Model_expand_31 (by decide) ?_
      refine lv_icmp_ge (tgt := 58) X.x X.b d_Model_expand_33 (by decide) (fun c1 => ?_) (fun c1 => ?_)
      · skip
        have c1q := Int32.not_lt.mpr c1
        refine lv_iload X.x X.b d_Model_expand_58 (lv_at hl 4 rfl) ?_
        refine lv_if_lt (tgt := 369) X.x X.b d_Model_expand_60 (by decide) (fun c2 => ?_) (fun c2 => ?_)
        · exact absurd c2 (by decide)
        · skip
          have c2q := Int32.not_lt.mp c2
          refine lv_aload_n X.x X.b d_Model_expand_63 rfl (lv_at hl 0 rfl) ?_
          refine m_get (v := .int 0) X ok_Model hM.1 3 (by decide) k_Model_126 (congrArg (fun z => some (Value.int z)) (show p1 3 = 0 from (by rw [hp13]))) d_Model_expand_64 ?_
          refine lv_if_ne (tgt := 369) X.x X.b d_Model_expand_67 (by decide) (fun c3 => ?_) (fun c3 => ?_)
          · exact absurd c3 (by decide)
          · skip
            refine lv_aload_n X.x X.b d_Model_expand_70 rfl (lv_at hl 1 rfl) ?_
            refine lv_iload X.x X.b d_Model_expand_71 (lv_at hl 4 rfl) ?_
            refine m_ild (v := 0) X hL2 0 rfl (by omega) (by decide) (show (fun _ => 0) 0 = 0 from rfl) d_Model_expand_73 ?_
            refine lv_istore (lv' := [(6, .int 0), (0, .ref mo), (1, .ref q2), (2, .ref q7), (3, .ref q12), (4, .int 0), (5, .int 0)]) X.x X.b d_Model_expand_74 hl (by decide) rfl (fun ls hl => ?_)
            refine lv_aload_n X.x X.b d_Model_expand_76 rfl (lv_at hl 3 rfl) ?_
            refine lv_iload X.x X.b d_Model_expand_77 (lv_at hl 5 rfl) ?_
            refine m_ild (v := 0) X hL7 0 rfl (by omega) (by decide) (show (fun _ => 0) 0 = 0 from rfl) d_Model_expand_79 ?_
            refine lv_aload_n X.x X.b d_Model_expand_80 rfl (lv_at hl 1 rfl) ?_
            refine m_get (v := .ref (mo + 2)) X ok_Model hM.1 2 (by decide) k_Model_13 rfl d_Model_expand_81 ?_
            refine lv_iload X.x X.b d_Model_expand_84 (lv_at hl 0 rfl) ?_
            refine m_ild (v := 1) X hM.a2 0 rfl (by omega) (by decide) (show s1 2 0 = 1 from (by rw [hE.2 2 (by decide), hL.1.1])) d_Model_expand_86 ?_
            refine lv_icmp_ne (tgt := 96) X.x X.b d_Model_expand_87 (by decide) (fun c4 => ?_) (fun c4 => ?_)
            · skip
              refine lv_aload_n X.x X.b d_Model_expand_96 rfl (lv_at hl 3 rfl) ?_
              refine lv_iload X.x X.b d_Model_expand_97 (lv_at hl 5 rfl) ?_
              refine lv_dup2_11 X.x X.b d_Model_expand_99 rfl rfl ?_
              refine m_ild (v := 0) X hL7 0 rfl (by omega) (by decide) (show (fun _ => 0) 0 = 0 from rfl) d_Model_expand_100 ?_
              refine lv_dup_x2 X.x X.b d_Model_expand_101 rfl rfl rfl ?_
              refine lv_iconst (v := 1) X.x X.b d_Model_expand_102 (by decide) ?_
              refine lv_iadd X.x X.b d_Model_expand_103 ?_
              rw [show (0 + 1 : Int32) = 1 from by decide]
              refine m_ist X hS (Or.inr (by omega)) hL7 0 rfl (by omega) (by decide) d_Model_expand_104 (fun H locs hp hcg hS => ?_)
              have hL7 := hp
              obtain ⟨r_2, er_2⟩ : ∃ z, z = upd (fun _ => 0) 0 1 := ⟨_, rfl⟩
              rw [← er_2] at hL7
              have hM := hM.frame (fr.of_chg (A := fun q => q = q7) hcg rfl) (fun q z => by have z : q = q7 := z; have := hM.tq; omega)
              have hL2 := hL2.off hcg (by omega)
              have hL12 := hL12.off hcg (by omega)
              refine lv_istore (lv' := [(7, .int 0), (6, .int 0), (0, .ref mo), (1, .ref q2), (2, .ref q7), (3, .ref q12), (4, .int 0), (5, .int 0)]) X.x X.b d_Model_expand_105 hl (by decide) rfl (fun ls hl => ?_)
              refine lv_iload X.x X.b d_Model_expand_107 (lv_at hl 1 rfl) ?_
              refine lv_iload X.x X.b d_Model_expand_109 (lv_at hl 0 rfl) ?_
              refine m_callSP X hS (MP_ans (M_Model_at l g 0 0) (show (((0 : Int32) * 64 + 0) * 5) = 0 from by decide)) s_Model_96 rfl rfl (Nat.le_of_ble_eq_true rfl) hl.1 d_Model_expand_111 (by omega) (by decide) ⟨by omega, by omega⟩ (fun locs hS => ?_)
              refine lv_istore (lv' := [(8, .int 0), (7, .int 0), (6, .int 0), (0, .ref mo), (1, .ref q2), (2, .ref q7), (3, .ref q12), (4, .int 0), (5, .int 0)]) X.x X.b d_Model_expand_114 hl (by decide) rfl (fun ls hl => ?_)
              refine lv_aload_n X.x X.b d_Model_expand_116 rfl (lv_at hl 5 rfl) ?_
              refine lv_iconst (v := 0) X.x X.b d_Model_expand_117 (by decide) ?_
              refine m_ild (v := 1) X hL7 0 rfl (by omega) (by decide) (show r_2 0 = 1 from (by rw [er_2, upd_hit])) d_Model_expand_118 ?_
              refine lv_iconst (v := 1) X.x X.b d_Model_expand_119 (by decide) ?_
              refine lv_isub X.x X.b d_Model_expand_120 ?_
              rw [show (1 - 1 : Int32) = 0 from by decide]
              refine lv_istore (lv' := [(9, .int 0), (8, .int 0), (7, .int 0), (6, .int 0), (0, .ref mo), (1, .ref q2), (2, .ref q7), (3, .ref q12), (4, .int 0), (5, .int 0)]) X.x X.b d_Model_expand_121 hl (by decide) rfl (fun ls hl => ?_)
              refine lv_aload_n X.x X.b d_Model_expand_123 rfl (lv_at hl 4 rfl) ?_
              refine m_get (v := .ref tq) X ok_Model hM.1 1 (by decide) k_Model_9 rfl d_Model_expand_124 ?_
              refine lv_iload X.x X.b d_Model_expand_127 (lv_at hl 1 rfl) ?_
              refine m_ild (v := 1) X hM.a1 0 rfl (by omega) (by decide) (show s1 1 0 = 1 from (by rw [hE.2 1 (by decide), hL.2.1])) d_Model_expand_129 ?_
              refine lv_istore (lv' := [(10, .int 1), (9, .int 0), (8, .int 0), (7, .int 0), (6, .int 0), (0, .ref mo), (1, .ref q2), (2, .ref q7), (3, .ref q12), (4, .int 0), (5, .int 0)]) X.x X.b d_Model_expand_130 hl (by decide) rfl (fun ls hl => ?_)
              refine lv_aload_n X.x X.b d_Model_expand_132 rfl (lv_at hl 5 rfl) ?_
              refine m_get (v := .ref tq) X ok_Model hM.1 1 (by decide) k_Model_9 rfl d_Model_expand_133 ?_
              refine lv_iload X.x X.b d_Model_expand_136 (lv_at hl 2 rfl) ?_
              refine lv_iconst (v := 3) X.x X.b d_Model_expand_138 (by decide) ?_
              refine lv_iadd X.x X.b d_Model_expand_139 ?_
              rw [show (0 + 3 : Int32) = 3 from by decide]
              refine m_ild (v := v_) X hM.a1 3 rfl (by omega) (by decide) (show s1 1 3 = v_ from (by rw [hE.2 1 (by decide), hL.2.2.2.2.1])) d_Model_expand_140 ?_
              refine lv_aload_n X.x X.b d_Model_expand_141 rfl (lv_at hl 5 rfl) ?_
              refine m_get (v := .ref tq) X ok_Model hM.1 1 (by decide) k_Model_9 rfl d_Model_expand_142 ?_
              refine lv_iload X.x X.b d_Model_expand_145 (lv_at hl 2 rfl) ?_
              refine lv_iconst (v := 4) X.x X.b d_Model_expand_147 (by decide) ?_
              refine lv_iadd X.x X.b d_Model_expand_148 ?_
              rw [show (0 + 4 : Int32) = 4 from by decide]
              refine m_ild (v := r) X hM.a1 4 rfl (by omega) (by decide) (show s1 1 4 = r from (by rw [hE.2 1 (by decide), hL.2.2.2.2.2])) d_Model_expand_149 ?_
              refine lv_iconst (v := 1) X.x X.b d_Model_expand_150 (by decide) ?_
              refine lv_icmp_ne (tgt := 161) X.x X.b d_Model_expand_151 (by decide) (fun c5 => ?_) (fun c5 => ?_)
              · skip
                refine lv_iconst (v := 0) X.x X.b d_Model_expand_161 (by decide) ?_
                refine lv_iadd X.x X.b d_Model_expand_162 ?_
                rw [show (v_ + 0 : Int32) = v_ from Int32.add_zero _]
                refine lv_istore (lv' := [(11, .int v_), (10, .int 1), (9, .int 0), (8, .int 0), (7, .int 0), (6, .int 0), (0, .ref mo), (1, .ref q2), (2, .ref q7), (3, .ref q12), (4, .int 0), (5, .int 0)]) X.x X.b d_Model_expand_163 hl (by decide) rfl (fun ls hl => ?_)
                refine lv_iinc (v := 1) (lv' := [(5, .int 1), (11, .int v_), (10, .int 1), (9, .int 0), (8, .int 0), (7, .int 0), (6, .int 0), (0, .ref mo), (1, .ref q2), (2, .ref q7), (3, .ref q12), (4, .int 0)]) X.x X.b d_Model_expand_165 hl (k := 11) rfl (by decide) (by decide) rfl (fun ls hl => ?_)
                refine lv_iload X.x X.b d_Model_expand_168 (lv_at hl 0 rfl) ?_
                refine lv_sipush (v := 400) X.x X.b d_Model_expand_170 (by decide) ?_
                refine lv_icmp_gt (tgt := 193) X.x X.b d_Model_expand_173 (by decide) (fun c6 => ?_) (fun c6 => ?_)
                · exact absurd c6 (by decide)
                · skip
                  have c6q := Int32.not_lt.mp c6
                  refine lv_iload X.x X.b d_Model_expand_176 (lv_at hl 2 rfl) ?_
                  refine m_callSP X hS (MP_ans (M_Model_makes l g 1) (show b2i ((1 : Int32) < 8) = 1 from by decide)) s_Model_138 rfl rfl (Nat.le_of_ble_eq_true rfl) hl.1 d_Model_expand_178 (by omega) (by decide) ⟨by omega, by omega⟩ (fun locs hS => ?_)
                  refine lv_if_eq (tgt := 203) X.x X.b d_Model_expand_181 (by decide) (fun c7 => ?_) (fun c7 => ?_)
                  · exact absurd c7 (by decide)
                  · skip
                    refine lv_aload_n X.x X.b d_Model_expand_184 rfl (lv_at hl 7 rfl) ?_
                    refine m_get (v := .int 0) X ok_Model hM.1 5 (by decide) k_Model_132 (congrArg (fun z => some (Value.int z)) (show p1 5 = 0 from (by rw [hp15]))) d_Model_expand_185 ?_
                    refine lv_bipush (v := 120) X.x X.b d_Model_expand_188 (by decide) ?_
                    refine lv_icmp_ne (tgt := 203) X.x X.b d_Model_expand_190 (by decide) (fun c8 => ?_) (fun c8 => ?_)
                    · skip
                      refine lv_iload X.x X.b d_Model_expand_203 (lv_at hl 2 rfl) ?_
                      refine lv_bipush (v := 10) X.x X.b d_Model_expand_205 (by decide) ?_
                      refine lv_icmp_ne (tgt := 259) X.x X.b d_Model_expand_207 (by decide) (fun c9 => ?_) (fun c9 => ?_)
                      · skip
                        refine lv_iload X.x X.b d_Model_expand_259 (lv_at hl 2 rfl) ?_
                        refine lv_bipush (v := 8) X.x X.b d_Model_expand_261 (by decide) ?_
                        refine lv_icmp_ne (tgt := 329) X.x X.b d_Model_expand_263 (by decide) (fun c10 => ?_) (fun c10 => ?_)
                        · skip
                          refine lv_iload X.x X.b d_Model_expand_329 (lv_at hl 2 rfl) ?_
                          refine lv_bipush (v := 9) X.x X.b d_Model_expand_331 (by decide) ?_
                          refine lv_icmp_eq (tgt := 366) X.x X.b d_Model_expand_333 (by decide) (fun c11 => ?_) (fun c11 => ?_)
                          · exact absurd c11 (by decide)
                          · skip
                            refine lv_aload_n X.x X.b d_Model_expand_336 rfl (lv_at hl 7 rfl) ?_
                            refine lv_iload X.x X.b d_Model_expand_337 (lv_at hl 2 rfl) ?_
                            refine lv_aload_n X.x X.b d_Model_expand_339 rfl (lv_at hl 7 rfl) ?_
                            refine m_get (v := .ref tq) X ok_Model hM.1 1 (by decide) k_Model_9 rfl d_Model_expand_340 ?_
                            refine lv_iload X.x X.b d_Model_expand_343 (lv_at hl 4 rfl) ?_
                            refine lv_iconst (v := 1) X.x X.b d_Model_expand_345 (by decide) ?_
                            refine lv_iadd X.x X.b d_Model_expand_346 ?_
                            rw [show (0 + 1 : Int32) = 1 from by decide]
                            refine m_ild (v := nI j) X hM.a1 1 rfl (by omega) (by decide) (show s1 1 1 = nI j from (by rw [hE.2 1 (by decide), hL.2.2.1])) d_Model_expand_347 ?_
                            refine lv_aload_n X.x X.b d_Model_expand_348 rfl (lv_at hl 7 rfl) ?_
                            refine m_get (v := .ref tq) X ok_Model hM.1 1 (by decide) k_Model_9 rfl d_Model_expand_349 ?_
                            refine lv_iload X.x X.b d_Model_expand_352 (lv_at hl 4 rfl) ?_
                            refine lv_iconst (v := 2) X.x X.b d_Model_expand_354 (by decide) ?_
                            refine lv_iadd X.x X.b d_Model_expand_355 ?_
                            rw [show (0 + 2 : Int32) = 2 from by decide]
                            refine m_ild (v := (-1)) X hM.a1 2 rfl (by omega) (by decide) (show s1 1 2 = (-1) from (by rw [hE.2 1 (by decide), hL.2.2.2.1])) d_Model_expand_356 ?_
                            refine lv_iload X.x X.b d_Model_expand_357 (lv_at hl 1 rfl) ?_
                            refine lv_iload X.x X.b d_Model_expand_359 (lv_at hl 3 rfl) ?_
                            refine lv_iload X.x X.b d_Model_expand_361 (lv_at hl 11 rfl) ?_
                            have hR := M_Model_take_1n l g hM (show p1 5 = 0 from (by rw [hp15])) (show p1 3 = 0 from (by rw [hp13])) (j := j) hj (show s1 25 j = 0 from (by rw [(hE.1 j (by omega)).1])) (show s1 27 j = -1 from (by rw [(hE.1 j (by omega)).2])) v_
                            refine m_callM X hS hR v_Model_147 hM.1 rfl rfl rfl (Nat.le_of_ble_eq_true rfl) hl.1 d_Model_expand_363 (by omega) (by decide) ⟨by omega, by omega⟩ (fun q z => by have z : mo ≤ q ∧ q < mo + 23 := z; exact ⟨by omega, by omega⟩) (fun H locs hq hfr hS => ?_)
                            have hL2 := hL2.fr hfr (fun z => by have z : mo ≤ q2 ∧ q2 < mo + 23 := z; omega)
                            have hL7 := hL7.fr hfr (fun z => by have z : mo ≤ q7 ∧ q7 < mo + 23 := z; omega)
                            have hL12 := hL12.fr hfr (fun z => by have z : mo ≤ q12 ∧ q12 < mo + 23 := z; omega)
                            obtain ⟨p_3, s_4, hM, hT0, hT3, hT5, hT8, hT9, hT10, hT11, hT1, hT2⟩ := hq
                            refine lv_goto (tgt := 58) X.x X.b d_Model_expand_366 (by decide) ?_
                            refine lv_iload X.x X.b d_Model_expand_58 (lv_at hl 11 rfl) ?_
                            refine lv_if_lt (tgt := 369) X.x X.b d_Model_expand_60 (by decide) (fun c12 => ?_) (fun c12 => ?_)
                            · exact absurd c12 c2
                            · skip
                              have c12q := Int32.not_lt.mp c12
                              refine lv_aload_n X.x X.b d_Model_expand_63 rfl (lv_at hl 7 rfl) ?_
                              refine m_get (v := .int 0) X ok_Model hM.1 3 (by decide) k_Model_126 (congrArg (fun z => some (Value.int z)) (show p_3 3 = 0 from (by rw [hT3]))) d_Model_expand_64 ?_
                              refine lv_if_ne (tgt := 369) X.x X.b d_Model_expand_67 (by decide) (fun c13 => ?_) (fun c13 => ?_)
                              · exact absurd c3 c13
                              · skip
                                refine lv_aload_n X.x X.b d_Model_expand_70 rfl (lv_at hl 8 rfl) ?_
                                refine lv_iload X.x X.b d_Model_expand_71 (lv_at hl 11 rfl) ?_
                                refine m_ild (v := 0) X hL2 0 rfl (by omega) (by decide) (show (fun _ => 0) 0 = 0 from rfl) d_Model_expand_73 ?_
                                refine lv_istore (lv' := [(6, .int 0), (5, .int 1), (11, .int v_), (10, .int 1), (9, .int 0), (8, .int 0), (7, .int 0), (0, .ref mo), (1, .ref q2), (2, .ref q7), (3, .ref q12), (4, .int 0)]) X.x X.b d_Model_expand_74 hl (by decide) rfl (fun ls hl => ?_)
                                refine lv_aload_n X.x X.b d_Model_expand_76 rfl (lv_at hl 9 rfl) ?_
                                refine lv_iload X.x X.b d_Model_expand_77 (lv_at hl 11 rfl) ?_
                                refine m_ild (v := 1) X hL7 0 rfl (by omega) (by decide) (show r_2 0 = 1 from (by rw [er_2, upd_hit])) d_Model_expand_79 ?_
                                refine lv_aload_n X.x X.b d_Model_expand_80 rfl (lv_at hl 7 rfl) ?_
                                refine m_get (v := .ref (mo + 2)) X ok_Model hM.1 2 (by decide) k_Model_13 rfl d_Model_expand_81 ?_
                                refine lv_iload X.x X.b d_Model_expand_84 (lv_at hl 0 rfl) ?_
                                refine m_ild (v := 1) X hM.a2 0 rfl (by omega) (by decide) (show s_4 2 0 = 1 from (by rw [hT2, hE.2 2 (by decide), hL.1.1])) d_Model_expand_86 ?_
                                refine lv_icmp_ne (tgt := 96) X.x X.b d_Model_expand_87 (by decide) (fun c14 => ?_) (fun c14 => ?_)
                                · exact absurd c14 (by decide)
                                · skip
                                  refine lv_iinc (v := (-1)) (lv' := [(4, .int (-1)), (6, .int 0), (5, .int 1), (11, .int v_), (10, .int 1), (9, .int 0), (8, .int 0), (7, .int 0), (0, .ref mo), (1, .ref q2), (2, .ref q7), (3, .ref q12)]) X.x X.b d_Model_expand_90 hl (k := 11) rfl (by decide) (by decide) rfl (fun ls hl => ?_)
                                  refine lv_goto (tgt := 58) X.x X.b d_Model_expand_93 (by decide) ?_
                                  refine lv_iload X.x X.b d_Model_expand_58 (lv_at hl 0 rfl) ?_
                                  refine lv_if_lt (tgt := 369) X.x X.b d_Model_expand_60 (by decide) (fun c15 => ?_) (fun c15 => ?_)
                                  · skip
                                    have c15q := Int32.not_le.mpr c15
                                    refine lv_aload_n X.x X.b d_Model_expand_369 rfl (lv_at hl 8 rfl) ?_
                                    refine m_get (v := .int 0) X ok_Model hM.1 3 (by decide) k_Model_126 (congrArg (fun z => some (Value.int z)) (show p_3 3 = 0 from (by rw [hT3]))) d_Model_expand_370 ?_
                                    refine lv_if_ne (tgt := 387) X.x X.b d_Model_expand_373 (by decide) (fun c16 => ?_) (fun c16 => ?_)
                                    · exact absurd c13 c16
                                    · skip
                                      refine lv_aload_n X.x X.b d_Model_expand_376 rfl (lv_at hl 8 rfl) ?_
                                      refine lv_bipush (v := 6) X.x X.b d_Model_expand_377 (by decide) ?_
                                      refine lv_iconst (v := -1) X.x X.b d_Model_expand_379 (by decide) ?_
                                      refine lv_iconst (v := -1) X.x X.b d_Model_expand_380 (by decide) ?_
                                      refine lv_iconst (v := 0) X.x X.b d_Model_expand_381 (by decide) ?_
                                      refine lv_iconst (v := -1) X.x X.b d_Model_expand_382 (by decide) ?_
                                      refine lv_iconst (v := 0) X.x X.b d_Model_expand_383 (by decide) ?_
                                      have hR := M_Model_item (c := 1) l g hM (show p_3 5 = 1 from (by rw [hT5])) (by omega) 6 (-1) (-1) 0 (-1) 0
                                      refine m_callM X hS hR v_Model_151 hM.1 rfl rfl rfl (Nat.le_of_ble_eq_true rfl) hl.1 d_Model_expand_384 (by omega) (by decide) ⟨by omega, by omega⟩ (fun q z => by have z : mo ≤ q ∧ q < mo + 23 := z; exact ⟨by omega, by omega⟩) (fun H locs hM hfr hS => ?_)
                                      have hL2 := hL2.fr hfr (fun z => by have z : mo ≤ q2 ∧ q2 < mo + 23 := z; omega)
                                      have hL7 := hL7.fr hfr (fun z => by have z : mo ≤ q7 ∧ q7 < mo + 23 := z; omega)
                                      have hL12 := hL12.fr hfr (fun z => by have z : mo ≤ q12 ∧ q12 < mo + 23 := z; omega)
                                      have hM : mAt g mo tq (upd p_3 5 2) _ H := hM
                                      obtain ⟨p_5, ep_5⟩ : ∃ z, z = upd p_3 5 2 := ⟨_, rfl⟩
                                      rw [← ep_5] at hM
                                      obtain ⟨s_6, es_6⟩ : ∃ z, z = itR s_4 1 6 (-1) (-1) 0 (-1) 0 := ⟨_, rfl⟩
                                      rw [← es_6] at hM
                                      exact m_vret X hS (by omega) (by omega) d_Model_expand_387 rfl ⟨_, _, hM, (by rw [ep_5, upd_mi _ _ _ (show 0 ≠ 5 by decide), hT0, hp10]), by rw [es_6, itR_o s_4 1 6 (-1) (-1) 0 (-1) 0 2 (by decide), hT2, hE.2 2 (by decide)], ⟨(by rw [ep_5, upd_mi _ _ _ (show 3 ≠ 5 by decide), hT3]), (by rw [ep_5, upd_hit])⟩, (by rw [es_6, itR_ne s_4 1 6 (-1) (-1) 0 (-1) 0 (show (0 : Nat) ≠ 1 by omega) 8, hT8]), (by rw [es_6, itR_ne s_4 1 6 (-1) (-1) 0 (-1) 0 (show (0 : Nat) ≠ 1 by omega) 9, hT9]), (by rw [es_6, itR_ne s_4 1 6 (-1) (-1) 0 (-1) 0 (show (0 : Nat) ≠ 1 by omega) 10, hT10]), (by rw [es_6, (itR_at s_4 1 6 (-1) (-1) 0 (-1) 0).1]), (by rw [es_6, itR_ne s_4 1 6 (-1) (-1) 0 (-1) 0 (show (0 : Nat) ≠ 1 by omega) 11, hT11])⟩
                                  · exact absurd c15 (by decide)
                        · exact absurd c10 (by decide)
                      · exact absurd c9 (by decide)
                    · exact absurd c8 (by decide)
              · skip
                refine lv_aload_n X.x X.b d_Model_expand_154 rfl (lv_at hl 8 rfl) ?_
                refine lv_iload X.x X.b d_Model_expand_155 (lv_at hl 9 rfl) ?_
                refine m_ild (v := 0) X hL12 0 rfl (by omega) (by decide) (show (fun _ => 0) 0 = 0 from rfl) d_Model_expand_157 ?_
                refine lv_goto (tgt := 162) X.x X.b d_Model_expand_158 (by decide) ?_
                refine lv_iadd X.x X.b d_Model_expand_162 ?_
                rw [show (v_ + 0 : Int32) = v_ from Int32.add_zero _]
                refine lv_istore (lv' := [(11, .int v_), (10, .int 1), (9, .int 0), (8, .int 0), (7, .int 0), (6, .int 0), (0, .ref mo), (1, .ref q2), (2, .ref q7), (3, .ref q12), (4, .int 0), (5, .int 0)]) X.x X.b d_Model_expand_163 hl (by decide) rfl (fun ls hl => ?_)
                refine lv_iinc (v := 1) (lv' := [(5, .int 1), (11, .int v_), (10, .int 1), (9, .int 0), (8, .int 0), (7, .int 0), (6, .int 0), (0, .ref mo), (1, .ref q2), (2, .ref q7), (3, .ref q12), (4, .int 0)]) X.x X.b d_Model_expand_165 hl (k := 11) rfl (by decide) (by decide) rfl (fun ls hl => ?_)
                refine lv_iload X.x X.b d_Model_expand_168 (lv_at hl 0 rfl) ?_
                refine lv_sipush (v := 400) X.x X.b d_Model_expand_170 (by decide) ?_
                refine lv_icmp_gt (tgt := 193) X.x X.b d_Model_expand_173 (by decide) (fun c17 => ?_) (fun c17 => ?_)
                · exact absurd c17 (by decide)
                · skip
                  have c17q := Int32.not_lt.mp c17
                  refine lv_iload X.x X.b d_Model_expand_176 (lv_at hl 2 rfl) ?_
                  refine m_callSP X hS (MP_ans (M_Model_makes l g 1) (show b2i ((1 : Int32) < 8) = 1 from by decide)) s_Model_138 rfl rfl (Nat.le_of_ble_eq_true rfl) hl.1 d_Model_expand_178 (by omega) (by decide) ⟨by omega, by omega⟩ (fun locs hS => ?_)
                  refine lv_if_eq (tgt := 203) X.x X.b d_Model_expand_181 (by decide) (fun c18 => ?_) (fun c18 => ?_)
                  · exact absurd c18 (by decide)
                  · skip
                    refine lv_aload_n X.x X.b d_Model_expand_184 rfl (lv_at hl 7 rfl) ?_
                    refine m_get (v := .int 0) X ok_Model hM.1 5 (by decide) k_Model_132 (congrArg (fun z => some (Value.int z)) (show p1 5 = 0 from (by rw [hp15]))) d_Model_expand_185 ?_
                    refine lv_bipush (v := 120) X.x X.b d_Model_expand_188 (by decide) ?_
                    refine lv_icmp_ne (tgt := 203) X.x X.b d_Model_expand_190 (by decide) (fun c19 => ?_) (fun c19 => ?_)
                    · skip
                      refine lv_iload X.x X.b d_Model_expand_203 (lv_at hl 2 rfl) ?_
                      refine lv_bipush (v := 10) X.x X.b d_Model_expand_205 (by decide) ?_
                      refine lv_icmp_ne (tgt := 259) X.x X.b d_Model_expand_207 (by decide) (fun c20 => ?_) (fun c20 => ?_)
                      · skip
                        refine lv_iload X.x X.b d_Model_expand_259 (lv_at hl 2 rfl) ?_
                        refine lv_bipush (v := 8) X.x X.b d_Model_expand_261 (by decide) ?_
                        refine lv_icmp_ne (tgt := 329) X.x X.b d_Model_expand_263 (by decide) (fun c21 => ?_) (fun c21 => ?_)
                        · skip
                          refine lv_iload X.x X.b d_Model_expand_329 (lv_at hl 2 rfl) ?_
                          refine lv_bipush (v := 9) X.x X.b d_Model_expand_331 (by decide) ?_
                          refine lv_icmp_eq (tgt := 366) X.x X.b d_Model_expand_333 (by decide) (fun c22 => ?_) (fun c22 => ?_)
                          · exact absurd c22 (by decide)
                          · skip
                            refine lv_aload_n X.x X.b d_Model_expand_336 rfl (lv_at hl 7 rfl) ?_
                            refine lv_iload X.x X.b d_Model_expand_337 (lv_at hl 2 rfl) ?_
                            refine lv_aload_n X.x X.b d_Model_expand_339 rfl (lv_at hl 7 rfl) ?_
                            refine m_get (v := .ref tq) X ok_Model hM.1 1 (by decide) k_Model_9 rfl d_Model_expand_340 ?_
                            refine lv_iload X.x X.b d_Model_expand_343 (lv_at hl 4 rfl) ?_
                            refine lv_iconst (v := 1) X.x X.b d_Model_expand_345 (by decide) ?_
                            refine lv_iadd X.x X.b d_Model_expand_346 ?_
                            rw [show (0 + 1 : Int32) = 1 from by decide]
                            refine m_ild (v := nI j) X hM.a1 1 rfl (by omega) (by decide) (show s1 1 1 = nI j from (by rw [hE.2 1 (by decide), hL.2.2.1])) d_Model_expand_347 ?_
                            refine lv_aload_n X.x X.b d_Model_expand_348 rfl (lv_at hl 7 rfl) ?_
                            refine m_get (v := .ref tq) X ok_Model hM.1 1 (by decide) k_Model_9 rfl d_Model_expand_349 ?_
                            refine lv_iload X.x X.b d_Model_expand_352 (lv_at hl 4 rfl) ?_
                            refine lv_iconst (v := 2) X.x X.b d_Model_expand_354 (by decide) ?_
                            refine lv_iadd X.x X.b d_Model_expand_355 ?_
                            rw [show (0 + 2 : Int32) = 2 from by decide]
                            refine m_ild (v := (-1)) X hM.a1 2 rfl (by omega) (by decide) (show s1 1 2 = (-1) from (by rw [hE.2 1 (by decide), hL.2.2.2.1])) d_Model_expand_356 ?_
                            refine lv_iload X.x X.b d_Model_expand_357 (lv_at hl 1 rfl) ?_
                            refine lv_iload X.x X.b d_Model_expand_359 (lv_at hl 3 rfl) ?_
                            refine lv_iload X.x X.b d_Model_expand_361 (lv_at hl 11 rfl) ?_
                            have hR := M_Model_take_1n l g hM (show p1 5 = 0 from (by rw [hp15])) (show p1 3 = 0 from (by rw [hp13])) (j := j) hj (show s1 25 j = 0 from (by rw [(hE.1 j (by omega)).1])) (show s1 27 j = -1 from (by rw [(hE.1 j (by omega)).2])) v_
                            refine m_callM X hS hR v_Model_147 hM.1 rfl rfl rfl (Nat.le_of_ble_eq_true rfl) hl.1 d_Model_expand_363 (by omega) (by decide) ⟨by omega, by omega⟩ (fun q z => by have z : mo ≤ q ∧ q < mo + 23 := z; exact ⟨by omega, by omega⟩) (fun H locs hq hfr hS => ?_)
                            have hL2 := hL2.fr hfr (fun z => by have z : mo ≤ q2 ∧ q2 < mo + 23 := z; omega)
                            have hL7 := hL7.fr hfr (fun z => by have z : mo ≤ q7 ∧ q7 < mo + 23 := z; omega)
                            have hL12 := hL12.fr hfr (fun z => by have z : mo ≤ q12 ∧ q12 < mo + 23 := z; omega)
                            obtain ⟨p_7, s_8, hM, hT0, hT3, hT5, hT8, hT9, hT10, hT11, hT1, hT2⟩ := hq
                            refine lv_goto (tgt := 58) X.x X.b d_Model_expand_366 (by decide) ?_
                            refine lv_iload X.x X.b d_Model_expand_58 (lv_at hl 11 rfl) ?_
                            refine lv_if_lt (tgt := 369) X.x X.b d_Model_expand_60 (by decide) (fun c23 => ?_) (fun c23 => ?_)
                            · exact absurd c23 c2
                            · skip
                              have c23q := Int32.not_lt.mp c23
                              refine lv_aload_n X.x X.b d_Model_expand_63 rfl (lv_at hl 7 rfl) ?_
                              refine m_get (v := .int 0) X ok_Model hM.1 3 (by decide) k_Model_126 (congrArg (fun z => some (Value.int z)) (show p_7 3 = 0 from (by rw [hT3]))) d_Model_expand_64 ?_
                              refine lv_if_ne (tgt := 369) X.x X.b d_Model_expand_67 (by decide) (fun c24 => ?_) (fun c24 => ?_)
                              · exact absurd c3 c24
                              · skip
                                refine lv_aload_n X.x X.b d_Model_expand_70 rfl (lv_at hl 8 rfl) ?_
                                refine lv_iload X.x X.b d_Model_expand_71 (lv_at hl 11 rfl) ?_
                                refine m_ild (v := 0) X hL2 0 rfl (by omega) (by decide) (show (fun _ => 0) 0 = 0 from rfl) d_Model_expand_73 ?_
                                refine lv_istore (lv' := [(6, .int 0), (5, .int 1), (11, .int v_), (10, .int 1), (9, .int 0), (8, .int 0), (7, .int 0), (0, .ref mo), (1, .ref q2), (2, .ref q7), (3, .ref q12), (4, .int 0)]) X.x X.b d_Model_expand_74 hl (by decide) rfl (fun ls hl => ?_)
                                refine lv_aload_n X.x X.b d_Model_expand_76 rfl (lv_at hl 9 rfl) ?_
                                refine lv_iload X.x X.b d_Model_expand_77 (lv_at hl 11 rfl) ?_
                                refine m_ild (v := 1) X hL7 0 rfl (by omega) (by decide) (show r_2 0 = 1 from (by rw [er_2, upd_hit])) d_Model_expand_79 ?_
                                refine lv_aload_n X.x X.b d_Model_expand_80 rfl (lv_at hl 7 rfl) ?_
                                refine m_get (v := .ref (mo + 2)) X ok_Model hM.1 2 (by decide) k_Model_13 rfl d_Model_expand_81 ?_
                                refine lv_iload X.x X.b d_Model_expand_84 (lv_at hl 0 rfl) ?_
                                refine m_ild (v := 1) X hM.a2 0 rfl (by omega) (by decide) (show s_8 2 0 = 1 from (by rw [hT2, hE.2 2 (by decide), hL.1.1])) d_Model_expand_86 ?_
                                refine lv_icmp_ne (tgt := 96) X.x X.b d_Model_expand_87 (by decide) (fun c25 => ?_) (fun c25 => ?_)
                                · exact absurd c25 (by decide)
                                · skip
                                  refine lv_iinc (v := (-1)) (lv' := [(4, .int (-1)), (6, .int 0), (5, .int 1), (11, .int v_), (10, .int 1), (9, .int 0), (8, .int 0), (7, .int 0), (0, .ref mo), (1, .ref q2), (2, .ref q7), (3, .ref q12)]) X.x X.b d_Model_expand_90 hl (k := 11) rfl (by decide) (by decide) rfl (fun ls hl => ?_)
                                  refine lv_goto (tgt := 58) X.x X.b d_Model_expand_93 (by decide) ?_
                                  refine lv_iload X.x X.b d_Model_expand_58 (lv_at hl 0 rfl) ?_
                                  refine lv_if_lt (tgt := 369) X.x X.b d_Model_expand_60 (by decide) (fun c26 => ?_) (fun c26 => ?_)
                                  · skip
                                    have c26q := Int32.not_le.mpr c26
                                    refine lv_aload_n X.x X.b d_Model_expand_369 rfl (lv_at hl 8 rfl) ?_
                                    refine m_get (v := .int 0) X ok_Model hM.1 3 (by decide) k_Model_126 (congrArg (fun z => some (Value.int z)) (show p_7 3 = 0 from (by rw [hT3]))) d_Model_expand_370 ?_
                                    refine lv_if_ne (tgt := 387) X.x X.b d_Model_expand_373 (by decide) (fun c27 => ?_) (fun c27 => ?_)
                                    · exact absurd c24 c27
                                    · skip
                                      refine lv_aload_n X.x X.b d_Model_expand_376 rfl (lv_at hl 8 rfl) ?_
                                      refine lv_bipush (v := 6) X.x X.b d_Model_expand_377 (by decide) ?_
                                      refine lv_iconst (v := -1) X.x X.b d_Model_expand_379 (by decide) ?_
                                      refine lv_iconst (v := -1) X.x X.b d_Model_expand_380 (by decide) ?_
                                      refine lv_iconst (v := 0) X.x X.b d_Model_expand_381 (by decide) ?_
                                      refine lv_iconst (v := -1) X.x X.b d_Model_expand_382 (by decide) ?_
                                      refine lv_iconst (v := 0) X.x X.b d_Model_expand_383 (by decide) ?_
                                      have hR := M_Model_item (c := 1) l g hM (show p_7 5 = 1 from (by rw [hT5])) (by omega) 6 (-1) (-1) 0 (-1) 0
                                      refine m_callM X hS hR v_Model_151 hM.1 rfl rfl rfl (Nat.le_of_ble_eq_true rfl) hl.1 d_Model_expand_384 (by omega) (by decide) ⟨by omega, by omega⟩ (fun q z => by have z : mo ≤ q ∧ q < mo + 23 := z; exact ⟨by omega, by omega⟩) (fun H locs hM hfr hS => ?_)
                                      have hL2 := hL2.fr hfr (fun z => by have z : mo ≤ q2 ∧ q2 < mo + 23 := z; omega)
                                      have hL7 := hL7.fr hfr (fun z => by have z : mo ≤ q7 ∧ q7 < mo + 23 := z; omega)
                                      have hL12 := hL12.fr hfr (fun z => by have z : mo ≤ q12 ∧ q12 < mo + 23 := z; omega)
                                      have hM : mAt g mo tq (upd p_7 5 2) _ H := hM
                                      obtain ⟨p_9, ep_9⟩ : ∃ z, z = upd p_7 5 2 := ⟨_, rfl⟩
                                      rw [← ep_9] at hM
                                      obtain ⟨s_10, es_10⟩ : ∃ z, z = itR s_8 1 6 (-1) (-1) 0 (-1) 0 := ⟨_, rfl⟩
                                      rw [← es_10] at hM
                                      exact m_vret X hS (by omega) (by omega) d_Model_expand_387 rfl ⟨_, _, hM, (by rw [ep_9, upd_mi _ _ _ (show 0 ≠ 5 by decide), hT0, hp10]), by rw [es_10, itR_o s_8 1 6 (-1) (-1) 0 (-1) 0 2 (by decide), hT2, hE.2 2 (by decide)], ⟨(by rw [ep_9, upd_mi _ _ _ (show 3 ≠ 5 by decide), hT3]), (by rw [ep_9, upd_hit])⟩, (by rw [es_10, itR_ne s_8 1 6 (-1) (-1) 0 (-1) 0 (show (0 : Nat) ≠ 1 by omega) 8, hT8]), (by rw [es_10, itR_ne s_8 1 6 (-1) (-1) 0 (-1) 0 (show (0 : Nat) ≠ 1 by omega) 9, hT9]), (by rw [es_10, itR_ne s_8 1 6 (-1) (-1) 0 (-1) 0 (show (0 : Nat) ≠ 1 by omega) 10, hT10]), (by rw [es_10, (itR_at s_8 1 6 (-1) (-1) 0 (-1) 0).1]), (by rw [es_10, itR_ne s_8 1 6 (-1) (-1) 0 (-1) 0 (show (0 : Nat) ≠ 1 by omega) 11, hT11])⟩
                                  · exact absurd c26 (by decide)
                        · exact absurd c21 (by decide)
                      · exact absurd c20 (by decide)
                    · exact absurd c19 (by decide)
            · exact absurd c4 (by decide)
      · exact absurd ((nI_ltI (a := i) (b := 8) (by omega) (by omega)).mp (Int32.not_le.mp c1)) (by omega)
    | succ n ih =>
      intro i s1 hin hi5 hE H locs ls hM hL2 hL7 hL12 hS hl
      refine lv_iload X.x X.b d_Model_expand_29 (lv_at hl 6 rfl) ?_
      refine lv_bipush (v := 8) X.x X.b d_Model_expand_31 (by decide) ?_
      refine lv_icmp_ge (tgt := 58) X.x X.b d_Model_expand_33 (by decide) (fun c28 => ?_) (fun c28 => ?_)
      · exact absurd ((nI_leI (a := 8) (b := i) (by omega) (by omega)).mp c28) (by omega)
      · skip
        have c28q := Int32.not_le.mp c28
        refine lv_aload_n X.x X.b d_Model_expand_36 rfl (lv_at hl 0 rfl) ?_
        refine m_get (v := .ref (mo + 20)) X ok_Model hM.1 25 (by decide) k_Model_68 rfl d_Model_expand_37 ?_
        refine lv_iload X.x X.b d_Model_expand_40 (lv_at hl 6 rfl) ?_
        refine lv_iconst (v := 0) X.x X.b d_Model_expand_42 (by decide) ?_
        refine m_ist X hS (Or.inl ⟨by omega, by omega⟩) hM.a25 i rfl (by omega) (by decide) d_Model_expand_43 (fun H locs hp hcg hS => ?_)
        have hM := hM.s25 hp hcg
        obtain ⟨s_11, es_11⟩ : ∃ z, z = updR s1 25 (upd (s1 25) i 0) := ⟨_, rfl⟩
        rw [← es_11] at hM
        have hL2 := hL2.off hcg (by omega)
        have hL7 := hL7.off hcg (by omega)
        have hL12 := hL12.off hcg (by omega)
        refine lv_aload_n X.x X.b d_Model_expand_44 rfl (lv_at hl 0 rfl) ?_
        refine m_get (v := .ref (mo + 22)) X ok_Model hM.1 27 (by decide) k_Model_74 rfl d_Model_expand_45 ?_
        refine lv_iload X.x X.b d_Model_expand_48 (lv_at hl 6 rfl) ?_
        refine lv_iconst (v := -1) X.x X.b d_Model_expand_50 (by decide) ?_
        refine m_ist X hS (Or.inl ⟨by omega, by omega⟩) hM.a27 i rfl (by omega) (by decide) d_Model_expand_51 (fun H locs hp hcg hS => ?_)
        have hM := hM.s27 hp hcg
        obtain ⟨s_12, es_12⟩ : ∃ z, z = updR s_11 27 (upd (s_11 27) i (-1)) := ⟨_, rfl⟩
        rw [← es_12] at hM
        have hL2 := hL2.off hcg (by omega)
        have hL7 := hL7.off hcg (by omega)
        have hL12 := hL12.off hcg (by omega)
        refine lv_iinc (v := nI (i + 1)) (lv' := [(6, .int (nI (i + 1))), (0, .ref mo), (1, .ref q2), (2, .ref q7), (3, .ref q12), (4, .int 0), (5, .int 0)]) X.x X.b d_Model_expand_52 hl (k := 6) rfl (nI_1 i) (by decide) rfl (fun ls hl => ?_)
        refine lv_goto (tgt := 29) X.x X.b d_Model_expand_55 (by decide) ?_
        exact ih (i + 1) s_12 (by omega) (by omega) (⟨fun j hj => (Nat.lt_or_ge j i).elim (fun z => ⟨by rw [es_12, updR_n2 _ _ _ _ (show j ≠ i by omega), es_11, updR_n2 _ _ _ _ (show j ≠ i by omega)]; exact (hE.1 j z).1, by rw [es_12, updR_n2 _ _ _ _ (show j ≠ i by omega), es_11, updR_n2 _ _ _ _ (show j ≠ i by omega)]; exact (hE.1 j z).2⟩) (fun z => ⟨by rw [show j = i by omega, es_12, updR_mf _ _ _ (show 25 ≠ 27 by decide), es_11, updR_hit], by rw [show j = i by omega, es_12, updR_hit]⟩), by rw [es_12, es_11]; exact (hE.2.up _ _ (by decide)).up _ _ (by decide)⟩) _ _ _ hM hL2 hL7 hL12 hS (lv_sub hl [1, 2, 3, 4, 5, 6, 0] rfl)
  exact lp 8 0 s0 (by omega) (by omega) (⟨fun j hj => absurd hj (Nat.not_lt_zero j), same.rf _ _⟩) _ _ _ hM hL2 hL7 hL12 hS (lv_sub hl [6, 5, 4, 3, 2, 1, 0] rfl)
set_option maxRecDepth 100000 in
set_option maxHeartbeats 4000000 in
theorem M_Model_expand_L1f (l : Launch) (g : GG) {mo tq : Nat} {p0 : Nat → Int32} {s0 : Nat → Nat → Int32} {H0 : Heap} (hM : mAt g mo tq p0 s0 H0) {v_ r : Int32} {j i2 : Nat} (hj : j < 8) (hi2 : i2 < 8) (hL : oneL 1 (nI j) (nI i2) v_ r s0) (hf3 : p0 3 = 0) : MM l y_Model_expand c_Model_expand 13 none 3 3 18 g H0 [.ref mo] (fun q => mo ≤ q ∧ q < mo + 23) (none) (fun H1 => ∃ p s, mAt g mo tq p s H1 ∧ p 0 = p0 0 ∧ s 2 = s0 2 ∧ p 3 = 3) := by
  refine MM.of (by decide +kernel) (Nat.le_of_ble_eq_true rfl) ?_
  intro p e s m below meth cd X hH ls hl
  have X : CX g p s m _ meth cd c_Model_expand 13 none R_Model _ := X
  have hl : lv_has ls 13 [(0, .ref mo)] := hl
  have hS : va_S (AA (fun q => mo ≤ q ∧ q < mo + 23) H0) H0 H0 [] := va_S.rf
  have hlt0 := hM.lt
  have htq0 := hM.tq
  refine lv_bipush (v := 6) X.x X.b d_Model_expand_0 (by decide) ?_
  obtain ⟨q2, hq2⟩ := sz_of hS
  have hlt2 := hM.lt
  have hsz2 := hS.1
  refine m_newI X hS hq2 6 (by decide) (by decide) (by decide) (by omega) (by omega) d_Model_expand_2 (fun H hL2 hgr hS hz2 => ?_)
  have hfr := fr.of_grow (A := noA) hgr
  have hM := hM.frame hfr (fun q z => z.elim)
  refine lv_astore_n (lv' := [(1, .ref q2), (0, .ref mo)]) X.x X.b d_Model_expand_4 rfl hl (by decide) rfl (fun ls hl => ?_)
  refine lv_bipush (v := 6) X.x X.b d_Model_expand_5 (by decide) ?_
  obtain ⟨q7, hq7⟩ := sz_of hS
  have hlt7 := hM.lt
  have hsz7 := hS.1
  refine m_newI X hS hq7 6 (by decide) (by decide) (by decide) (by omega) (by omega) d_Model_expand_7 (fun H hL7 hgr hS hz2 => ?_)
  have hfr := fr.of_grow (A := noA) hgr
  have hM := hM.frame hfr (fun q z => z.elim)
  have hL2 := hL2.fr hfr (fun z => z)
  refine lv_astore_n (lv' := [(2, .ref q7), (1, .ref q2), (0, .ref mo)]) X.x X.b d_Model_expand_9 rfl hl (by decide) rfl (fun ls hl => ?_)
  refine lv_bipush (v := 6) X.x X.b d_Model_expand_10 (by decide) ?_
  obtain ⟨q12, hq12⟩ := sz_of hS
  have hlt12 := hM.lt
  have hsz12 := hS.1
  refine m_newI X hS hq12 6 (by decide) (by decide) (by decide) (by omega) (by omega) d_Model_expand_12 (fun H hL12 hgr hS hz2 => ?_)
  have hfr := fr.of_grow (A := noA) hgr
  have hM := hM.frame hfr (fun q z => z.elim)
  have hL2 := hL2.fr hfr (fun z => z)
  have hL7 := hL7.fr hfr (fun z => z)
  refine lv_astore_n (lv' := [(3, .ref q12), (2, .ref q7), (1, .ref q2), (0, .ref mo)]) X.x X.b d_Model_expand_14 rfl hl (by decide) rfl (fun ls hl => ?_)
  refine lv_iconst (v := 0) X.x X.b d_Model_expand_15 (by decide) ?_
  refine lv_istore (lv' := [(4, .int 0), (3, .ref q12), (2, .ref q7), (1, .ref q2), (0, .ref mo)]) X.x X.b d_Model_expand_16 hl (by decide) rfl (fun ls hl => ?_)
  refine lv_iconst (v := 0) X.x X.b d_Model_expand_18 (by decide) ?_
  refine lv_istore (lv' := [(5, .int 0), (4, .int 0), (3, .ref q12), (2, .ref q7), (1, .ref q2), (0, .ref mo)]) X.x X.b d_Model_expand_19 hl (by decide) rfl (fun ls hl => ?_)
  refine lv_aload_n X.x X.b d_Model_expand_21 rfl (lv_at hl 5 rfl) ?_
  refine lv_iconst (v := 0) X.x X.b d_Model_expand_22 (by decide) ?_
  refine m_put X ok_Model hS (Or.inl ⟨by omega, by omega⟩) hM.1 5 (by decide) k_Model_132 rfl (ok_Model.2.2.1 _ (by decide)) rfl rfl (Nat.le_of_ble_eq_true rfl) d_Model_expand_23 (fun H locs hp hcg hS => ?_)
  have hM := hM.f5 hp hcg
  obtain ⟨p_1, ep_1⟩ : ∃ z, z = upd p0 5 0 := ⟨_, rfl⟩
  rw [← ep_1] at hM
  have hL2 := hL2.off hcg (by omega)
  have hL7 := hL7.off hcg (by omega)
  have hL12 := hL12.off hcg (by omega)
  obtain ⟨p1, hp1⟩ : ∃ z, z = p_1 := ⟨_, rfl⟩
  rw [← hp1] at hM
  have hp1 : p1 = upd p0 5 0 := by rw [hp1, ep_1]
  have hp15 : p1 5 = 0 := by rw [hp1]; exact upd_hit _ _ _
  have hp13 : p1 3 = 0 := by rw [hp1]; exact (upd_mi _ _ _ (by decide)).trans hf3
  have hp10 : p1 0 = p0 0 := by rw [hp1]; exact upd_mi _ _ _ (by decide)
  refine lv_iconst (v := 0) X.x X.b d_Model_expand_26 (by decide) ?_
  refine lv_istore (lv' := [(6, .int 0), (5, .int 0), (4, .int 0), (3, .ref q12), (2, .ref q7), (1, .ref q2), (0, .ref mo)]) X.x X.b d_Model_expand_27 hl (by decide) rfl (fun ls hl => ?_)
  have lp : ∀ (n i : Nat) (s1 : Nat → Nat → Int32), n = 8 - i → i < 5000 → ((∀ j, j < i → s1 25 j = 0 ∧ s1 27 j = -1) ∧ same [25, 27] s0 s1) → ∀ (H : Heap) (locs : List Loc) (ls : Array Slot), mAt g mo tq p1 s1 H → pt g q2 (.inl (g.2 0, 6, .inl (fun _ => 0))) H → pt g q7 (.inl (g.2 0, 6, .inl (fun _ => 0))) H → pt g q12 (.inl (g.2 0, 6, .inl (fun _ => 0))) H → va_S (AA (fun q => mo ≤ q ∧ q < mo + 23) H0) H0 H locs → lv_has ls 13 [(0, .ref mo), (1, .ref q2), (2, .ref q7), (3, .ref q12), (4, .int 0), (5, .int 0), (6, .int (nI i))] → W p l e (rmK 3 3 18) s m ([.ref mo] : List Value).toArray below meth cd H locs 3 18 (MQ below (QM (none) (fun H1 => ∃ p s, mAt g mo tq p s H1 ∧ p 0 = p0 0 ∧ s 2 = s0 2 ∧ p 3 = 3) (fun q => mo ≤ q ∧ q < mo + 23) H0) ([.ref mo] : List Value).toArray s 3 18 (AA (fun q => mo ≤ q ∧ q < mo + 23) H0)) (F0 m 29 ls []) := by
    intro n
    induction n with
    | zero =>
      intro i s1 hin hi5 hE H locs ls hM hL2 hL7 hL12 hS hl
      refine lv_iload X.x X.b d_Model_expand_29 (lv_at hl 6 rfl) ?_
      refine lv_bipush (v := 8) X.x X.b d_Model_expand_31 (by decide) ?_
      refine lv_icmp_ge (tgt := 58) X.x X.b d_Model_expand_33 (by decide) (fun c1 => ?_) (fun c1 => ?_)
      · skip
        have c1q := Int32.not_lt.mpr c1
        refine lv_iload X.x X.b d_Model_expand_58 (lv_at hl 4 rfl) ?_
        refine lv_if_lt (tgt := 369) X.x X.b d_Model_expand_60 (by decide) (fun c2 => ?_) (fun c2 => ?_)
        · exact absurd c2 (by decide)
        · skip
          have c2q := Int32.not_lt.mp c2
          refine lv_aload_n X.x X.b d_Model_expand_63 rfl (lv_at hl 0 rfl) ?_
          refine m_get (v := .int 0) X ok_Model hM.1 3 (by decide) k_Model_126 (congrArg (fun z => some (Value.int z)) (show p1 3 = 0 from (by rw [hp13]))) d_Model_expand_64 ?_
          refine lv_if_ne (tgt := 369) X.x X.b d_Model_expand_67 (by decide) (fun c3 => ?_) (fun c3 => ?_)
          · exact absurd c3 (by decide)
          · skip
            refine lv_aload_n X.x X.b d_Model_expand_70 rfl (lv_at hl 1 rfl) ?_
            refine lv_iload X.x X.b d_Model_expand_71 (lv_at hl 4 rfl) ?_
            refine m_ild (v := 0) X hL2 0 rfl (by omega) (by decide) (show (fun _ => 0) 0 = 0 from rfl) d_Model_expand_73 ?_
            refine lv_istore (lv' := [(6, .int 0), (0, .ref mo), (1, .ref q2), (2, .ref q7), (3, .ref q12), (4, .int 0), (5, .int 0)]) X.x X.b d_Model_expand_74 hl (by decide) rfl (fun ls hl => ?_)
            refine lv_aload_n X.x X.b d_Model_expand_76 rfl (lv_at hl 3 rfl) ?_
            refine lv_iload X.x X.b d_Model_expand_77 (lv_at hl 5 rfl) ?_
            refine m_ild (v := 0) X hL7 0 rfl (by omega) (by decide) (show (fun _ => 0) 0 = 0 from rfl) d_Model_expand_79 ?_
            refine lv_aload_n X.x X.b d_Model_expand_80 rfl (lv_at hl 1 rfl) ?_
            refine m_get (v := .ref (mo + 2)) X ok_Model hM.1 2 (by decide) k_Model_13 rfl d_Model_expand_81 ?_
            refine lv_iload X.x X.b d_Model_expand_84 (lv_at hl 0 rfl) ?_
            refine m_ild (v := 1) X hM.a2 0 rfl (by omega) (by decide) (show s1 2 0 = 1 from (by rw [hE.2 2 (by decide), hL.1.1])) d_Model_expand_86 ?_
            refine lv_icmp_ne (tgt := 96) X.x X.b d_Model_expand_87 (by decide) (fun c4 => ?_) (fun c4 => ?_)
            · skip
              refine lv_aload_n X.x X.b d_Model_expand_96 rfl (lv_at hl 3 rfl) ?_
              refine lv_iload X.x X.b d_Model_expand_97 (lv_at hl 5 rfl) ?_
              refine lv_dup2_11 X.x X.b d_Model_expand_99 rfl rfl ?_
              refine m_ild (v := 0) X hL7 0 rfl (by omega) (by decide) (show (fun _ => 0) 0 = 0 from rfl) d_Model_expand_100 ?_
              refine lv_dup_x2 X.x X.b d_Model_expand_101 rfl rfl rfl ?_
              refine lv_iconst (v := 1) X.x X.b d_Model_expand_102 (by decide) ?_
              refine lv_iadd X.x X.b d_Model_expand_103 ?_
              rw [show (0 + 1 : Int32) = 1 from by decide]
              refine m_ist X hS (Or.inr (by omega)) hL7 0 rfl (by omega) (by decide) d_Model_expand_104 (fun H locs hp hcg hS => ?_)
              have hL7 := hp
              obtain ⟨r_2, er_2⟩ : ∃ z, z = upd (fun _ => 0) 0 1 := ⟨_, rfl⟩
              rw [← er_2] at hL7
              have hM := hM.frame (fr.of_chg (A := fun q => q = q7) hcg rfl) (fun q z => by have z : q = q7 := z; have := hM.tq; omega)
              have hL2 := hL2.off hcg (by omega)
              have hL12 := hL12.off hcg (by omega)
              refine lv_istore (lv' := [(7, .int 0), (6, .int 0), (0, .ref mo), (1, .ref q2), (2, .ref q7), (3, .ref q12), (4, .int 0), (5, .int 0)]) X.x X.b d_Model_expand_105 hl (by decide) rfl (fun ls hl => ?_)
              refine lv_iload X.x X.b d_Model_expand_107 (lv_at hl 1 rfl) ?_
              refine lv_iload X.x X.b d_Model_expand_109 (lv_at hl 0 rfl) ?_
              refine m_callSP X hS (MP_ans (M_Model_at l g 0 0) (show (((0 : Int32) * 64 + 0) * 5) = 0 from by decide)) s_Model_96 rfl rfl (Nat.le_of_ble_eq_true rfl) hl.1 d_Model_expand_111 (by omega) (by decide) ⟨by omega, by omega⟩ (fun locs hS => ?_)
              refine lv_istore (lv' := [(8, .int 0), (7, .int 0), (6, .int 0), (0, .ref mo), (1, .ref q2), (2, .ref q7), (3, .ref q12), (4, .int 0), (5, .int 0)]) X.x X.b d_Model_expand_114 hl (by decide) rfl (fun ls hl => ?_)
              refine lv_aload_n X.x X.b d_Model_expand_116 rfl (lv_at hl 5 rfl) ?_
              refine lv_iconst (v := 0) X.x X.b d_Model_expand_117 (by decide) ?_
              refine m_ild (v := 1) X hL7 0 rfl (by omega) (by decide) (show r_2 0 = 1 from (by rw [er_2, upd_hit])) d_Model_expand_118 ?_
              refine lv_iconst (v := 1) X.x X.b d_Model_expand_119 (by decide) ?_
              refine lv_isub X.x X.b d_Model_expand_120 ?_
              rw [show (1 - 1 : Int32) = 0 from by decide]
              refine lv_istore (lv' := [(9, .int 0), (8, .int 0), (7, .int 0), (6, .int 0), (0, .ref mo), (1, .ref q2), (2, .ref q7), (3, .ref q12), (4, .int 0), (5, .int 0)]) X.x X.b d_Model_expand_121 hl (by decide) rfl (fun ls hl => ?_)
              refine lv_aload_n X.x X.b d_Model_expand_123 rfl (lv_at hl 4 rfl) ?_
              refine m_get (v := .ref tq) X ok_Model hM.1 1 (by decide) k_Model_9 rfl d_Model_expand_124 ?_
              refine lv_iload X.x X.b d_Model_expand_127 (lv_at hl 1 rfl) ?_
              refine m_ild (v := 1) X hM.a1 0 rfl (by omega) (by decide) (show s1 1 0 = 1 from (by rw [hE.2 1 (by decide), hL.2.1])) d_Model_expand_129 ?_
              refine lv_istore (lv' := [(10, .int 1), (9, .int 0), (8, .int 0), (7, .int 0), (6, .int 0), (0, .ref mo), (1, .ref q2), (2, .ref q7), (3, .ref q12), (4, .int 0), (5, .int 0)]) X.x X.b d_Model_expand_130 hl (by decide) rfl (fun ls hl => ?_)
              refine lv_aload_n X.x X.b d_Model_expand_132 rfl (lv_at hl 5 rfl) ?_
              refine m_get (v := .ref tq) X ok_Model hM.1 1 (by decide) k_Model_9 rfl d_Model_expand_133 ?_
              refine lv_iload X.x X.b d_Model_expand_136 (lv_at hl 2 rfl) ?_
              refine lv_iconst (v := 3) X.x X.b d_Model_expand_138 (by decide) ?_
              refine lv_iadd X.x X.b d_Model_expand_139 ?_
              rw [show (0 + 3 : Int32) = 3 from by decide]
              refine m_ild (v := v_) X hM.a1 3 rfl (by omega) (by decide) (show s1 1 3 = v_ from (by rw [hE.2 1 (by decide), hL.2.2.2.2.1])) d_Model_expand_140 ?_
              refine lv_aload_n X.x X.b d_Model_expand_141 rfl (lv_at hl 5 rfl) ?_
              refine m_get (v := .ref tq) X ok_Model hM.1 1 (by decide) k_Model_9 rfl d_Model_expand_142 ?_
              refine lv_iload X.x X.b d_Model_expand_145 (lv_at hl 2 rfl) ?_
              refine lv_iconst (v := 4) X.x X.b d_Model_expand_147 (by decide) ?_
              refine lv_iadd X.x X.b d_Model_expand_148 ?_
              rw [show (0 + 4 : Int32) = 4 from by decide]
              refine m_ild (v := r) X hM.a1 4 rfl (by omega) (by decide) (show s1 1 4 = r from (by rw [hE.2 1 (by decide), hL.2.2.2.2.2])) d_Model_expand_149 ?_
              refine lv_iconst (v := 1) X.x X.b d_Model_expand_150 (by decide) ?_
              refine lv_icmp_ne (tgt := 161) X.x X.b d_Model_expand_151 (by decide) (fun c5 => ?_) (fun c5 => ?_)
              · skip
                refine lv_iconst (v := 0) X.x X.b d_Model_expand_161 (by decide) ?_
                refine lv_iadd X.x X.b d_Model_expand_162 ?_
                rw [show (v_ + 0 : Int32) = v_ from Int32.add_zero _]
                refine lv_istore (lv' := [(11, .int v_), (10, .int 1), (9, .int 0), (8, .int 0), (7, .int 0), (6, .int 0), (0, .ref mo), (1, .ref q2), (2, .ref q7), (3, .ref q12), (4, .int 0), (5, .int 0)]) X.x X.b d_Model_expand_163 hl (by decide) rfl (fun ls hl => ?_)
                refine lv_iinc (v := 1) (lv' := [(5, .int 1), (11, .int v_), (10, .int 1), (9, .int 0), (8, .int 0), (7, .int 0), (6, .int 0), (0, .ref mo), (1, .ref q2), (2, .ref q7), (3, .ref q12), (4, .int 0)]) X.x X.b d_Model_expand_165 hl (k := 11) rfl (by decide) (by decide) rfl (fun ls hl => ?_)
                refine lv_iload X.x X.b d_Model_expand_168 (lv_at hl 0 rfl) ?_
                refine lv_sipush (v := 400) X.x X.b d_Model_expand_170 (by decide) ?_
                refine lv_icmp_gt (tgt := 193) X.x X.b d_Model_expand_173 (by decide) (fun c6 => ?_) (fun c6 => ?_)
                · exact absurd c6 (by decide)
                · skip
                  have c6q := Int32.not_lt.mp c6
                  refine lv_iload X.x X.b d_Model_expand_176 (lv_at hl 2 rfl) ?_
                  refine m_callSP X hS (MP_ans (M_Model_makes l g 1) (show b2i ((1 : Int32) < 8) = 1 from by decide)) s_Model_138 rfl rfl (Nat.le_of_ble_eq_true rfl) hl.1 d_Model_expand_178 (by omega) (by decide) ⟨by omega, by omega⟩ (fun locs hS => ?_)
                  refine lv_if_eq (tgt := 203) X.x X.b d_Model_expand_181 (by decide) (fun c7 => ?_) (fun c7 => ?_)
                  · exact absurd c7 (by decide)
                  · skip
                    refine lv_aload_n X.x X.b d_Model_expand_184 rfl (lv_at hl 7 rfl) ?_
                    refine m_get (v := .int 0) X ok_Model hM.1 5 (by decide) k_Model_132 (congrArg (fun z => some (Value.int z)) (show p1 5 = 0 from (by rw [hp15]))) d_Model_expand_185 ?_
                    refine lv_bipush (v := 120) X.x X.b d_Model_expand_188 (by decide) ?_
                    refine lv_icmp_ne (tgt := 203) X.x X.b d_Model_expand_190 (by decide) (fun c8 => ?_) (fun c8 => ?_)
                    · skip
                      refine lv_iload X.x X.b d_Model_expand_203 (lv_at hl 2 rfl) ?_
                      refine lv_bipush (v := 10) X.x X.b d_Model_expand_205 (by decide) ?_
                      refine lv_icmp_ne (tgt := 259) X.x X.b d_Model_expand_207 (by decide) (fun c9 => ?_) (fun c9 => ?_)
                      · skip
                        refine lv_iload X.x X.b d_Model_expand_259 (lv_at hl 2 rfl) ?_
                        refine lv_bipush (v := 8) X.x X.b d_Model_expand_261 (by decide) ?_
                        refine lv_icmp_ne (tgt := 329) X.x X.b d_Model_expand_263 (by decide) (fun c10 => ?_) (fun c10 => ?_)
                        · skip
                          refine lv_iload X.x X.b d_Model_expand_329 (lv_at hl 2 rfl) ?_
                          refine lv_bipush (v := 9) X.x X.b d_Model_expand_331 (by decide) ?_
                          refine lv_icmp_eq (tgt := 366) X.x X.b d_Model_expand_333 (by decide) (fun c11 => ?_) (fun c11 => ?_)
                          · exact absurd c11 (by decide)
                          · skip
                            refine lv_aload_n X.x X.b d_Model_expand_336 rfl (lv_at hl 7 rfl) ?_
                            refine lv_iload X.x X.b d_Model_expand_337 (lv_at hl 2 rfl) ?_
                            refine lv_aload_n X.x X.b d_Model_expand_339 rfl (lv_at hl 7 rfl) ?_
                            refine m_get (v := .ref tq) X ok_Model hM.1 1 (by decide) k_Model_9 rfl d_Model_expand_340 ?_
                            refine lv_iload X.x X.b d_Model_expand_343 (lv_at hl 4 rfl) ?_
                            refine lv_iconst (v := 1) X.x X.b d_Model_expand_345 (by decide) ?_
                            refine lv_iadd X.x X.b d_Model_expand_346 ?_
                            rw [show (0 + 1 : Int32) = 1 from by decide]
                            refine m_ild (v := nI j) X hM.a1 1 rfl (by omega) (by decide) (show s1 1 1 = nI j from (by rw [hE.2 1 (by decide), hL.2.2.1])) d_Model_expand_347 ?_
                            refine lv_aload_n X.x X.b d_Model_expand_348 rfl (lv_at hl 7 rfl) ?_
                            refine m_get (v := .ref tq) X ok_Model hM.1 1 (by decide) k_Model_9 rfl d_Model_expand_349 ?_
                            refine lv_iload X.x X.b d_Model_expand_352 (lv_at hl 4 rfl) ?_
                            refine lv_iconst (v := 2) X.x X.b d_Model_expand_354 (by decide) ?_
                            refine lv_iadd X.x X.b d_Model_expand_355 ?_
                            rw [show (0 + 2 : Int32) = 2 from by decide]
                            refine m_ild (v := nI i2) X hM.a1 2 rfl (by omega) (by decide) (show s1 1 2 = nI i2 from (by rw [hE.2 1 (by decide), hL.2.2.2.1])) d_Model_expand_356 ?_
                            refine lv_iload X.x X.b d_Model_expand_357 (lv_at hl 1 rfl) ?_
                            refine lv_iload X.x X.b d_Model_expand_359 (lv_at hl 3 rfl) ?_
                            refine lv_iload X.x X.b d_Model_expand_361 (lv_at hl 11 rfl) ?_
                            have hR := M_Model_take_1f l g hM (show p1 5 = 0 from (by rw [hp15])) (show p1 3 = 0 from (by rw [hp13])) (j := j) hj (show s1 25 j = 0 from (by rw [(hE.1 j (by omega)).1])) (show s1 27 j = -1 from (by rw [(hE.1 j (by omega)).2])) (i := i2) hi2 (show s1 25 i2 = 0 from (by rw [(hE.1 i2 (by omega)).1])) v_
                            refine m_callM X hS hR v_Model_147 hM.1 rfl rfl rfl (Nat.le_of_ble_eq_true rfl) hl.1 d_Model_expand_363 (by omega) (by decide) ⟨by omega, by omega⟩ (fun q z => by have z : mo ≤ q ∧ q < mo + 23 := z; exact ⟨by omega, by omega⟩) (fun H locs hq hfr hS => ?_)
                            have hL2 := hL2.fr hfr (fun z => by have z : mo ≤ q2 ∧ q2 < mo + 23 := z; omega)
                            have hL7 := hL7.fr hfr (fun z => by have z : mo ≤ q7 ∧ q7 < mo + 23 := z; omega)
                            have hL12 := hL12.fr hfr (fun z => by have z : mo ≤ q12 ∧ q12 < mo + 23 := z; omega)
                            obtain ⟨p_3, s_4, hM, hT0, hT3, hT1, hT2⟩ := hq
                            refine lv_goto (tgt := 58) X.x X.b d_Model_expand_366 (by decide) ?_
                            refine lv_iload X.x X.b d_Model_expand_58 (lv_at hl 11 rfl) ?_
                            refine lv_if_lt (tgt := 369) X.x X.b d_Model_expand_60 (by decide) (fun c12 => ?_) (fun c12 => ?_)
                            · exact absurd c12 c2
                            · skip
                              have c12q := Int32.not_lt.mp c12
                              refine lv_aload_n X.x X.b d_Model_expand_63 rfl (lv_at hl 7 rfl) ?_
                              refine m_get (v := .int 3) X ok_Model hM.1 3 (by decide) k_Model_126 (congrArg (fun z => some (Value.int z)) (show p_3 3 = 3 from (by rw [hT3]))) d_Model_expand_64 ?_
                              refine lv_if_ne (tgt := 369) X.x X.b d_Model_expand_67 (by decide) (fun c13 => ?_) (fun c13 => ?_)
                              · skip
                                refine lv_aload_n X.x X.b d_Model_expand_369 rfl (lv_at hl 7 rfl) ?_
                                refine m_get (v := .int 3) X ok_Model hM.1 3 (by decide) k_Model_126 (congrArg (fun z => some (Value.int z)) (show p_3 3 = 3 from (by rw [hT3]))) d_Model_expand_370 ?_
                                refine lv_if_ne (tgt := 387) X.x X.b d_Model_expand_373 (by decide) (fun c14 => ?_) (fun c14 => ?_)
                                · skip
                                  exact m_vret X hS (by omega) (by omega) d_Model_expand_387 rfl ⟨_, _, hM, (by rw [hT0, hp10]), by rw [hT2, hE.2 2 (by decide)], (by rw [hT3])⟩
                                · exact absurd c14 c13
                              · exact absurd c13 (by decide)
                        · exact absurd c10 (by decide)
                      · exact absurd c9 (by decide)
                    · exact absurd c8 (by decide)
              · skip
                refine lv_aload_n X.x X.b d_Model_expand_154 rfl (lv_at hl 8 rfl) ?_
                refine lv_iload X.x X.b d_Model_expand_155 (lv_at hl 9 rfl) ?_
                refine m_ild (v := 0) X hL12 0 rfl (by omega) (by decide) (show (fun _ => 0) 0 = 0 from rfl) d_Model_expand_157 ?_
                refine lv_goto (tgt := 162) X.x X.b d_Model_expand_158 (by decide) ?_
                refine lv_iadd X.x X.b d_Model_expand_162 ?_
                rw [show (v_ + 0 : Int32) = v_ from Int32.add_zero _]
                refine lv_istore (lv' := [(11, .int v_), (10, .int 1), (9, .int 0), (8, .int 0), (7, .int 0), (6, .int 0), (0, .ref mo), (1, .ref q2), (2, .ref q7), (3, .ref q12), (4, .int 0), (5, .int 0)]) X.x X.b d_Model_expand_163 hl (by decide) rfl (fun ls hl => ?_)
                refine lv_iinc (v := 1) (lv' := [(5, .int 1), (11, .int v_), (10, .int 1), (9, .int 0), (8, .int 0), (7, .int 0), (6, .int 0), (0, .ref mo), (1, .ref q2), (2, .ref q7), (3, .ref q12), (4, .int 0)]) X.x X.b d_Model_expand_165 hl (k := 11) rfl (by decide) (by decide) rfl (fun ls hl => ?_)
                refine lv_iload X.x X.b d_Model_expand_168 (lv_at hl 0 rfl) ?_
                refine lv_sipush (v := 400) X.x X.b d_Model_expand_170 (by decide) ?_
                refine lv_icmp_gt (tgt := 193) X.x X.b d_Model_expand_173 (by decide) (fun c15 => ?_) (fun c15 => ?_)
                · exact absurd c15 (by decide)
                · skip
                  have c15q := Int32.not_lt.mp c15
                  refine lv_iload X.x X.b d_Model_expand_176 (lv_at hl 2 rfl) ?_
                  refine m_callSP X hS (MP_ans (M_Model_makes l g 1) (show b2i ((1 : Int32) < 8) = 1 from by decide)) s_Model_138 rfl rfl (Nat.le_of_ble_eq_true rfl) hl.1 d_Model_expand_178 (by omega) (by decide) ⟨by omega, by omega⟩ (fun locs hS => ?_)
                  refine lv_if_eq (tgt := 203) X.x X.b d_Model_expand_181 (by decide) (fun c16 => ?_) (fun c16 => ?_)
                  · exact absurd c16 (by decide)
                  · skip
                    refine lv_aload_n X.x X.b d_Model_expand_184 rfl (lv_at hl 7 rfl) ?_
                    refine m_get (v := .int 0) X ok_Model hM.1 5 (by decide) k_Model_132 (congrArg (fun z => some (Value.int z)) (show p1 5 = 0 from (by rw [hp15]))) d_Model_expand_185 ?_
                    refine lv_bipush (v := 120) X.x X.b d_Model_expand_188 (by decide) ?_
                    refine lv_icmp_ne (tgt := 203) X.x X.b d_Model_expand_190 (by decide) (fun c17 => ?_) (fun c17 => ?_)
                    · skip
                      refine lv_iload X.x X.b d_Model_expand_203 (lv_at hl 2 rfl) ?_
                      refine lv_bipush (v := 10) X.x X.b d_Model_expand_205 (by decide) ?_
                      refine lv_icmp_ne (tgt := 259) X.x X.b d_Model_expand_207 (by decide) (fun c18 => ?_) (fun c18 => ?_)
                      · skip
                        refine lv_iload X.x X.b d_Model_expand_259 (lv_at hl 2 rfl) ?_
                        refine lv_bipush (v := 8) X.x X.b d_Model_expand_261 (by decide) ?_
                        refine lv_icmp_ne (tgt := 329) X.x X.b d_Model_expand_263 (by decide) (fun c19 => ?_) (fun c19 => ?_)
                        · skip
                          refine lv_iload X.x X.b d_Model_expand_329 (lv_at hl 2 rfl) ?_
                          refine lv_bipush (v := 9) X.x X.b d_Model_expand_331 (by decide) ?_
                          refine lv_icmp_eq (tgt := 366) X.x X.b d_Model_expand_333 (by decide) (fun c20 => ?_) (fun c20 => ?_)
                          · exact absurd c20 (by decide)
                          · skip
                            refine lv_aload_n X.x X.b d_Model_expand_336 rfl (lv_at hl 7 rfl) ?_
                            refine lv_iload X.x X.b d_Model_expand_337 (lv_at hl 2 rfl) ?_
                            refine lv_aload_n X.x X.b d_Model_expand_339 rfl (lv_at hl 7 rfl) ?_
                            refine m_get (v := .ref tq) X ok_Model hM.1 1 (by decide) k_Model_9 rfl d_Model_expand_340 ?_
                            refine lv_iload X.x X.b d_Model_expand_343 (lv_at hl 4 rfl) ?_
                            refine lv_iconst (v := 1) X.x X.b d_Model_expand_345 (by decide) ?_
                            refine lv_iadd X.x X.b d_Model_expand_346 ?_
                            rw [show (0 + 1 : Int32) = 1 from by decide]
                            refine m_ild (v := nI j) X hM.a1 1 rfl (by omega) (by decide) (show s1 1 1 = nI j from (by rw [hE.2 1 (by decide), hL.2.2.1])) d_Model_expand_347 ?_
                            refine lv_aload_n X.x X.b d_Model_expand_348 rfl (lv_at hl 7 rfl) ?_
                            refine m_get (v := .ref tq) X ok_Model hM.1 1 (by decide) k_Model_9 rfl d_Model_expand_349 ?_
                            refine lv_iload X.x X.b d_Model_expand_352 (lv_at hl 4 rfl) ?_
                            refine lv_iconst (v := 2) X.x X.b d_Model_expand_354 (by decide) ?_
                            refine lv_iadd X.x X.b d_Model_expand_355 ?_
                            rw [show (0 + 2 : Int32) = 2 from by decide]
                            refine m_ild (v := nI i2) X hM.a1 2 rfl (by omega) (by decide) (show s1 1 2 = nI i2 from (by rw [hE.2 1 (by decide), hL.2.2.2.1])) d_Model_expand_356 ?_
                            refine lv_iload X.x X.b d_Model_expand_357 (lv_at hl 1 rfl) ?_
                            refine lv_iload X.x X.b d_Model_expand_359 (lv_at hl 3 rfl) ?_
                            refine lv_iload X.x X.b d_Model_expand_361 (lv_at hl 11 rfl) ?_
                            have hR := M_Model_take_1f l g hM (show p1 5 = 0 from (by rw [hp15])) (show p1 3 = 0 from (by rw [hp13])) (j := j) hj (show s1 25 j = 0 from (by rw [(hE.1 j (by omega)).1])) (show s1 27 j = -1 from (by rw [(hE.1 j (by omega)).2])) (i := i2) hi2 (show s1 25 i2 = 0 from (by rw [(hE.1 i2 (by omega)).1])) v_
                            refine m_callM X hS hR v_Model_147 hM.1 rfl rfl rfl (Nat.le_of_ble_eq_true rfl) hl.1 d_Model_expand_363 (by omega) (by decide) ⟨by omega, by omega⟩ (fun q z => by have z : mo ≤ q ∧ q < mo + 23 := z; exact ⟨by omega, by omega⟩) (fun H locs hq hfr hS => ?_)
                            have hL2 := hL2.fr hfr (fun z => by have z : mo ≤ q2 ∧ q2 < mo + 23 := z; omega)
                            have hL7 := hL7.fr hfr (fun z => by have z : mo ≤ q7 ∧ q7 < mo + 23 := z; omega)
                            have hL12 := hL12.fr hfr (fun z => by have z : mo ≤ q12 ∧ q12 < mo + 23 := z; omega)
                            obtain ⟨p_5, s_6, hM, hT0, hT3, hT1, hT2⟩ := hq
                            refine lv_goto (tgt := 58) X.x X.b d_Model_expand_366 (by decide) ?_
                            refine lv_iload X.x X.b d_Model_expand_58 (lv_at hl 11 rfl) ?_
                            refine lv_if_lt (tgt := 369) X.x X.b d_Model_expand_60 (by decide) (fun c21 => ?_) (fun c21 => ?_)
                            · exact absurd c21 c2
                            · skip
                              have c21q := Int32.not_lt.mp c21
                              refine lv_aload_n X.x X.b d_Model_expand_63 rfl (lv_at hl 7 rfl) ?_
                              refine m_get (v := .int 3) X ok_Model hM.1 3 (by decide) k_Model_126 (congrArg (fun z => some (Value.int z)) (show p_5 3 = 3 from (by rw [hT3]))) d_Model_expand_64 ?_
                              refine lv_if_ne (tgt := 369) X.x X.b d_Model_expand_67 (by decide) (fun c22 => ?_) (fun c22 => ?_)
                              · skip
                                refine lv_aload_n X.x X.b d_Model_expand_369 rfl (lv_at hl 7 rfl) ?_
                                refine m_get (v := .int 3) X ok_Model hM.1 3 (by decide) k_Model_126 (congrArg (fun z => some (Value.int z)) (show p_5 3 = 3 from (by rw [hT3]))) d_Model_expand_370 ?_
                                refine lv_if_ne (tgt := 387) X.x X.b d_Model_expand_373 (by decide) (fun c23 => ?_) (fun c23 => ?_)
                                · skip
                                  exact m_vret X hS (by omega) (by omega) d_Model_expand_387 rfl ⟨_, _, hM, (by rw [hT0, hp10]), by rw [hT2, hE.2 2 (by decide)], (by rw [hT3])⟩
                                · exact absurd c23 c22
                              · exact absurd c22 (by decide)
                        · exact absurd c19 (by decide)
                      · exact absurd c18 (by decide)
                    · exact absurd c17 (by decide)
            · exact absurd c4 (by decide)
      · exact absurd ((nI_ltI (a := i) (b := 8) (by omega) (by omega)).mp (Int32.not_le.mp c1)) (by omega)
    | succ n ih =>
      intro i s1 hin hi5 hE H locs ls hM hL2 hL7 hL12 hS hl
      refine lv_iload X.x X.b d_Model_expand_29 (lv_at hl 6 rfl) ?_
      refine lv_bipush (v := 8) X.x X.b d_Model_expand_31 (by decide) ?_
      refine lv_icmp_ge (tgt := 58) X.x X.b d_Model_expand_33 (by decide) (fun c24 => ?_) (fun c24 => ?_)
      · exact absurd ((nI_leI (a := 8) (b := i) (by omega) (by omega)).mp c24) (by omega)
      · skip
        have c24q := Int32.not_le.mp c24
        refine lv_aload_n X.x X.b d_Model_expand_36 rfl (lv_at hl 0 rfl) ?_
        refine m_get (v := .ref (mo + 20)) X ok_Model hM.1 25 (by decide) k_Model_68 rfl d_Model_expand_37 ?_
        refine lv_iload X.x X.b d_Model_expand_40 (lv_at hl 6 rfl) ?_
        refine lv_iconst (v := 0) X.x X.b d_Model_expand_42 (by decide) ?_
        refine m_ist X hS (Or.inl ⟨by omega, by omega⟩) hM.a25 i rfl (by omega) (by decide) d_Model_expand_43 (fun H locs hp hcg hS => ?_)
        have hM := hM.s25 hp hcg
        obtain ⟨s_7, es_7⟩ : ∃ z, z = updR s1 25 (upd (s1 25) i 0) := ⟨_, rfl⟩
        rw [← es_7] at hM
        have hL2 := hL2.off hcg (by omega)
        have hL7 := hL7.off hcg (by omega)
        have hL12 := hL12.off hcg (by omega)
        refine lv_aload_n X.x X.b d_Model_expand_44 rfl (lv_at hl 0 rfl) ?_
        refine m_get (v := .ref (mo + 22)) X ok_Model hM.1 27 (by decide) k_Model_74 rfl d_Model_expand_45 ?_
        refine lv_iload X.x X.b d_Model_expand_48 (lv_at hl 6 rfl) ?_
        refine lv_iconst (v := -1) X.x X.b d_Model_expand_50 (by decide) ?_
        refine m_ist X hS (Or.inl ⟨by omega, by omega⟩) hM.a27 i rfl (by omega) (by decide) d_Model_expand_51 (fun H locs hp hcg hS => ?_)
        have hM := hM.s27 hp hcg
        obtain ⟨s_8, es_8⟩ : ∃ z, z = updR s_7 27 (upd (s_7 27) i (-1)) := ⟨_, rfl⟩
        rw [← es_8] at hM
        have hL2 := hL2.off hcg (by omega)
        have hL7 := hL7.off hcg (by omega)
        have hL12 := hL12.off hcg (by omega)
        refine lv_iinc (v := nI (i + 1)) (lv' := [(6, .int (nI (i + 1))), (0, .ref mo), (1, .ref q2), (2, .ref q7), (3, .ref q12), (4, .int 0), (5, .int 0)]) X.x X.b d_Model_expand_52 hl (k := 6) rfl (nI_1 i) (by decide) rfl (fun ls hl => ?_)
        refine lv_goto (tgt := 29) X.x X.b d_Model_expand_55 (by decide) ?_
        exact ih (i + 1) s_8 (by omega) (by omega) (⟨fun j hj => (Nat.lt_or_ge j i).elim (fun z => ⟨by rw [es_8, updR_n2 _ _ _ _ (show j ≠ i by omega), es_7, updR_n2 _ _ _ _ (show j ≠ i by omega)]; exact (hE.1 j z).1, by rw [es_8, updR_n2 _ _ _ _ (show j ≠ i by omega), es_7, updR_n2 _ _ _ _ (show j ≠ i by omega)]; exact (hE.1 j z).2⟩) (fun z => ⟨by rw [show j = i by omega, es_8, updR_mf _ _ _ (show 25 ≠ 27 by decide), es_7, updR_hit], by rw [show j = i by omega, es_8, updR_hit]⟩), by rw [es_8, es_7]; exact (hE.2.up _ _ (by decide)).up _ _ (by decide)⟩) _ _ _ hM hL2 hL7 hL12 hS (lv_sub hl [1, 2, 3, 4, 5, 6, 0] rfl)
  exact lp 8 0 s0 (by omega) (by omega) (⟨fun j hj => absurd hj (Nat.not_lt_zero j), same.rf _ _⟩) _ _ _ hM hL2 hL7 hL12 hS (lv_sub hl [6, 5, 4, 3, 2, 1, 0] rfl)
set_option maxRecDepth 100000 in
set_option maxHeartbeats 4000000 in
theorem M_Model_expand_L2 (l : Launch) (g : GG) {mo tq : Nat} {p0 : Nat → Int32} {s0 : Nat → Nat → Int32} {H0 : Heap} (hM : mAt g mo tq p0 s0 H0) {x y v_ r : Int32} (hL : oneL 2 x y v_ r s0) (hf3 : p0 3 = 0) : MM l y_Model_expand c_Model_expand 13 none 3 3 18 g H0 [.ref mo] (fun q => mo ≤ q ∧ q < mo + 23) (none) (fun H1 => ∃ p s, mAt g mo tq p s H1 ∧ p 0 = p0 0 ∧ s 2 = s0 2 ∧ (p 3 = 0 ∧ p 5 = 2) ∧ s 8 0 = 2 ∧ s 9 0 = x ∧ s 10 0 = y ∧ s 8 1 = 6 ∧ s 11 0 = v_ ∧ ∀ j, j < 8 → s 27 j = -1) := by
  refine MM.of (by decide +kernel) (Nat.le_of_ble_eq_true rfl) ?_
  intro p e s m below meth cd X hH ls hl
  have X : CX g p s m _ meth cd c_Model_expand 13 none R_Model _ := X
  have hl : lv_has ls 13 [(0, .ref mo)] := hl
  have hS : va_S (AA (fun q => mo ≤ q ∧ q < mo + 23) H0) H0 H0 [] := va_S.rf
  have hlt0 := hM.lt
  have htq0 := hM.tq
  refine lv_bipush (v := 6) X.x X.b d_Model_expand_0 (by decide) ?_
  obtain ⟨q2, hq2⟩ := sz_of hS
  have hlt2 := hM.lt
  have hsz2 := hS.1
  refine m_newI X hS hq2 6 (by decide) (by decide) (by decide) (by omega) (by omega) d_Model_expand_2 (fun H hL2 hgr hS hz2 => ?_)
  have hfr := fr.of_grow (A := noA) hgr
  have hM := hM.frame hfr (fun q z => z.elim)
  refine lv_astore_n (lv' := [(1, .ref q2), (0, .ref mo)]) X.x X.b d_Model_expand_4 rfl hl (by decide) rfl (fun ls hl => ?_)
  refine lv_bipush (v := 6) X.x X.b d_Model_expand_5 (by decide) ?_
  obtain ⟨q7, hq7⟩ := sz_of hS
  have hlt7 := hM.lt
  have hsz7 := hS.1
  refine m_newI X hS hq7 6 (by decide) (by decide) (by decide) (by omega) (by omega) d_Model_expand_7 (fun H hL7 hgr hS hz2 => ?_)
  have hfr := fr.of_grow (A := noA) hgr
  have hM := hM.frame hfr (fun q z => z.elim)
  have hL2 := hL2.fr hfr (fun z => z)
  refine lv_astore_n (lv' := [(2, .ref q7), (1, .ref q2), (0, .ref mo)]) X.x X.b d_Model_expand_9 rfl hl (by decide) rfl (fun ls hl => ?_)
  refine lv_bipush (v := 6) X.x X.b d_Model_expand_10 (by decide) ?_
  obtain ⟨q12, hq12⟩ := sz_of hS
  have hlt12 := hM.lt
  have hsz12 := hS.1
  refine m_newI X hS hq12 6 (by decide) (by decide) (by decide) (by omega) (by omega) d_Model_expand_12 (fun H hL12 hgr hS hz2 => ?_)
  have hfr := fr.of_grow (A := noA) hgr
  have hM := hM.frame hfr (fun q z => z.elim)
  have hL2 := hL2.fr hfr (fun z => z)
  have hL7 := hL7.fr hfr (fun z => z)
  refine lv_astore_n (lv' := [(3, .ref q12), (2, .ref q7), (1, .ref q2), (0, .ref mo)]) X.x X.b d_Model_expand_14 rfl hl (by decide) rfl (fun ls hl => ?_)
  refine lv_iconst (v := 0) X.x X.b d_Model_expand_15 (by decide) ?_
  refine lv_istore (lv' := [(4, .int 0), (3, .ref q12), (2, .ref q7), (1, .ref q2), (0, .ref mo)]) X.x X.b d_Model_expand_16 hl (by decide) rfl (fun ls hl => ?_)
  refine lv_iconst (v := 0) X.x X.b d_Model_expand_18 (by decide) ?_
  refine lv_istore (lv' := [(5, .int 0), (4, .int 0), (3, .ref q12), (2, .ref q7), (1, .ref q2), (0, .ref mo)]) X.x X.b d_Model_expand_19 hl (by decide) rfl (fun ls hl => ?_)
  refine lv_aload_n X.x X.b d_Model_expand_21 rfl (lv_at hl 5 rfl) ?_
  refine lv_iconst (v := 0) X.x X.b d_Model_expand_22 (by decide) ?_
  refine m_put X ok_Model hS (Or.inl ⟨by omega, by omega⟩) hM.1 5 (by decide) k_Model_132 rfl (ok_Model.2.2.1 _ (by decide)) rfl rfl (Nat.le_of_ble_eq_true rfl) d_Model_expand_23 (fun H locs hp hcg hS => ?_)
  have hM := hM.f5 hp hcg
  obtain ⟨p_1, ep_1⟩ : ∃ z, z = upd p0 5 0 := ⟨_, rfl⟩
  rw [← ep_1] at hM
  have hL2 := hL2.off hcg (by omega)
  have hL7 := hL7.off hcg (by omega)
  have hL12 := hL12.off hcg (by omega)
  obtain ⟨p1, hp1⟩ : ∃ z, z = p_1 := ⟨_, rfl⟩
  rw [← hp1] at hM
  have hp1 : p1 = upd p0 5 0 := by rw [hp1, ep_1]
  have hp15 : p1 5 = 0 := by rw [hp1]; exact upd_hit _ _ _
  have hp13 : p1 3 = 0 := by rw [hp1]; exact (upd_mi _ _ _ (by decide)).trans hf3
  have hp10 : p1 0 = p0 0 := by rw [hp1]; exact upd_mi _ _ _ (by decide)
  refine lv_iconst (v := 0) X.x X.b d_Model_expand_26 (by decide) ?_
  refine lv_istore (lv' := [(6, .int 0), (5, .int 0), (4, .int 0), (3, .ref q12), (2, .ref q7), (1, .ref q2), (0, .ref mo)]) X.x X.b d_Model_expand_27 hl (by decide) rfl (fun ls hl => ?_)
  have lp : ∀ (n i : Nat) (s1 : Nat → Nat → Int32), n = 8 - i → i < 5000 → ((∀ j, j < i → s1 25 j = 0 ∧ s1 27 j = -1) ∧ same [25, 27] s0 s1) → ∀ (H : Heap) (locs : List Loc) (ls : Array Slot), mAt g mo tq p1 s1 H → pt g q2 (.inl (g.2 0, 6, .inl (fun _ => 0))) H → pt g q7 (.inl (g.2 0, 6, .inl (fun _ => 0))) H → pt g q12 (.inl (g.2 0, 6, .inl (fun _ => 0))) H → va_S (AA (fun q => mo ≤ q ∧ q < mo + 23) H0) H0 H locs → lv_has ls 13 [(0, .ref mo), (1, .ref q2), (2, .ref q7), (3, .ref q12), (4, .int 0), (5, .int 0), (6, .int (nI i))] → W p l e (rmK 3 3 18) s m ([.ref mo] : List Value).toArray below meth cd H locs 3 18 (MQ below (QM (none) (fun H1 => ∃ p s, mAt g mo tq p s H1 ∧ p 0 = p0 0 ∧ s 2 = s0 2 ∧ (p 3 = 0 ∧ p 5 = 2) ∧ s 8 0 = 2 ∧ s 9 0 = x ∧ s 10 0 = y ∧ s 8 1 = 6 ∧ s 11 0 = v_ ∧ ∀ j, j < 8 → s 27 j = -1) (fun q => mo ≤ q ∧ q < mo + 23) H0) ([.ref mo] : List Value).toArray s 3 18 (AA (fun q => mo ≤ q ∧ q < mo + 23) H0)) (F0 m 29 ls []) := by
    intro n
    induction n with
    | zero =>
      intro i s1 hin hi5 hE H locs ls hM hL2 hL7 hL12 hS hl
      refine lv_iload X.x X.b d_Model_expand_29 (lv_at hl 6 rfl) ?_
      refine lv_bipush (v := 8) X.x X.b d_Model_expand_31 (by decide) ?_
      refine lv_icmp_ge (tgt := 58) X.x X.b d_Model_expand_33 (by decide) (fun c1 => ?_) (fun c1 => ?_)
      · skip
        have c1q := Int32.not_lt.mpr c1
        refine lv_iload X.x X.b d_Model_expand_58 (lv_at hl 4 rfl) ?_
        refine lv_if_lt (tgt := 369) X.x X.b d_Model_expand_60 (by decide) (fun c2 => ?_) (fun c2 => ?_)
        · exact absurd c2 (by decide)
        · skip
          have c2q := Int32.not_lt.mp c2
          refine lv_aload_n X.x X.b d_Model_expand_63 rfl (lv_at hl 0 rfl) ?_
          refine m_get (v := .int 0) X ok_Model hM.1 3 (by decide) k_Model_126 (congrArg (fun z => some (Value.int z)) (show p1 3 = 0 from (by rw [hp13]))) d_Model_expand_64 ?_
          refine lv_if_ne (tgt := 369) X.x X.b d_Model_expand_67 (by decide) (fun c3 => ?_) (fun c3 => ?_)
          · exact absurd c3 (by decide)
          · skip
            refine lv_aload_n X.x X.b d_Model_expand_70 rfl (lv_at hl 1 rfl) ?_
            refine lv_iload X.x X.b d_Model_expand_71 (lv_at hl 4 rfl) ?_
            refine m_ild (v := 0) X hL2 0 rfl (by omega) (by decide) (show (fun _ => 0) 0 = 0 from rfl) d_Model_expand_73 ?_
            refine lv_istore (lv' := [(6, .int 0), (0, .ref mo), (1, .ref q2), (2, .ref q7), (3, .ref q12), (4, .int 0), (5, .int 0)]) X.x X.b d_Model_expand_74 hl (by decide) rfl (fun ls hl => ?_)
            refine lv_aload_n X.x X.b d_Model_expand_76 rfl (lv_at hl 3 rfl) ?_
            refine lv_iload X.x X.b d_Model_expand_77 (lv_at hl 5 rfl) ?_
            refine m_ild (v := 0) X hL7 0 rfl (by omega) (by decide) (show (fun _ => 0) 0 = 0 from rfl) d_Model_expand_79 ?_
            refine lv_aload_n X.x X.b d_Model_expand_80 rfl (lv_at hl 1 rfl) ?_
            refine m_get (v := .ref (mo + 2)) X ok_Model hM.1 2 (by decide) k_Model_13 rfl d_Model_expand_81 ?_
            refine lv_iload X.x X.b d_Model_expand_84 (lv_at hl 0 rfl) ?_
            refine m_ild (v := 1) X hM.a2 0 rfl (by omega) (by decide) (show s1 2 0 = 1 from (by rw [hE.2 2 (by decide), hL.1.1])) d_Model_expand_86 ?_
            refine lv_icmp_ne (tgt := 96) X.x X.b d_Model_expand_87 (by decide) (fun c4 => ?_) (fun c4 => ?_)
            · skip
              refine lv_aload_n X.x X.b d_Model_expand_96 rfl (lv_at hl 3 rfl) ?_
              refine lv_iload X.x X.b d_Model_expand_97 (lv_at hl 5 rfl) ?_
              refine lv_dup2_11 X.x X.b d_Model_expand_99 rfl rfl ?_
              refine m_ild (v := 0) X hL7 0 rfl (by omega) (by decide) (show (fun _ => 0) 0 = 0 from rfl) d_Model_expand_100 ?_
              refine lv_dup_x2 X.x X.b d_Model_expand_101 rfl rfl rfl ?_
              refine lv_iconst (v := 1) X.x X.b d_Model_expand_102 (by decide) ?_
              refine lv_iadd X.x X.b d_Model_expand_103 ?_
              rw [show (0 + 1 : Int32) = 1 from by decide]
              refine m_ist X hS (Or.inr (by omega)) hL7 0 rfl (by omega) (by decide) d_Model_expand_104 (fun H locs hp hcg hS => ?_)
              have hL7 := hp
              obtain ⟨r_2, er_2⟩ : ∃ z, z = upd (fun _ => 0) 0 1 := ⟨_, rfl⟩
              rw [← er_2] at hL7
              have hM := hM.frame (fr.of_chg (A := fun q => q = q7) hcg rfl) (fun q z => by have z : q = q7 := z; have := hM.tq; omega)
              have hL2 := hL2.off hcg (by omega)
              have hL12 := hL12.off hcg (by omega)
              refine lv_istore (lv' := [(7, .int 0), (6, .int 0), (0, .ref mo), (1, .ref q2), (2, .ref q7), (3, .ref q12), (4, .int 0), (5, .int 0)]) X.x X.b d_Model_expand_105 hl (by decide) rfl (fun ls hl => ?_)
              refine lv_iload X.x X.b d_Model_expand_107 (lv_at hl 1 rfl) ?_
              refine lv_iload X.x X.b d_Model_expand_109 (lv_at hl 0 rfl) ?_
              refine m_callSP X hS (MP_ans (M_Model_at l g 0 0) (show (((0 : Int32) * 64 + 0) * 5) = 0 from by decide)) s_Model_96 rfl rfl (Nat.le_of_ble_eq_true rfl) hl.1 d_Model_expand_111 (by omega) (by decide) ⟨by omega, by omega⟩ (fun locs hS => ?_)
              refine lv_istore (lv' := [(8, .int 0), (7, .int 0), (6, .int 0), (0, .ref mo), (1, .ref q2), (2, .ref q7), (3, .ref q12), (4, .int 0), (5, .int 0)]) X.x X.b d_Model_expand_114 hl (by decide) rfl (fun ls hl => ?_)
              refine lv_aload_n X.x X.b d_Model_expand_116 rfl (lv_at hl 5 rfl) ?_
              refine lv_iconst (v := 0) X.x X.b d_Model_expand_117 (by decide) ?_
              refine m_ild (v := 1) X hL7 0 rfl (by omega) (by decide) (show r_2 0 = 1 from (by rw [er_2, upd_hit])) d_Model_expand_118 ?_
              refine lv_iconst (v := 1) X.x X.b d_Model_expand_119 (by decide) ?_
              refine lv_isub X.x X.b d_Model_expand_120 ?_
              rw [show (1 - 1 : Int32) = 0 from by decide]
              refine lv_istore (lv' := [(9, .int 0), (8, .int 0), (7, .int 0), (6, .int 0), (0, .ref mo), (1, .ref q2), (2, .ref q7), (3, .ref q12), (4, .int 0), (5, .int 0)]) X.x X.b d_Model_expand_121 hl (by decide) rfl (fun ls hl => ?_)
              refine lv_aload_n X.x X.b d_Model_expand_123 rfl (lv_at hl 4 rfl) ?_
              refine m_get (v := .ref tq) X ok_Model hM.1 1 (by decide) k_Model_9 rfl d_Model_expand_124 ?_
              refine lv_iload X.x X.b d_Model_expand_127 (lv_at hl 1 rfl) ?_
              refine m_ild (v := 2) X hM.a1 0 rfl (by omega) (by decide) (show s1 1 0 = 2 from (by rw [hE.2 1 (by decide), hL.2.1])) d_Model_expand_129 ?_
              refine lv_istore (lv' := [(10, .int 2), (9, .int 0), (8, .int 0), (7, .int 0), (6, .int 0), (0, .ref mo), (1, .ref q2), (2, .ref q7), (3, .ref q12), (4, .int 0), (5, .int 0)]) X.x X.b d_Model_expand_130 hl (by decide) rfl (fun ls hl => ?_)
              refine lv_aload_n X.x X.b d_Model_expand_132 rfl (lv_at hl 5 rfl) ?_
              refine m_get (v := .ref tq) X ok_Model hM.1 1 (by decide) k_Model_9 rfl d_Model_expand_133 ?_
              refine lv_iload X.x X.b d_Model_expand_136 (lv_at hl 2 rfl) ?_
              refine lv_iconst (v := 3) X.x X.b d_Model_expand_138 (by decide) ?_
              refine lv_iadd X.x X.b d_Model_expand_139 ?_
              rw [show (0 + 3 : Int32) = 3 from by decide]
              refine m_ild (v := v_) X hM.a1 3 rfl (by omega) (by decide) (show s1 1 3 = v_ from (by rw [hE.2 1 (by decide), hL.2.2.2.2.1])) d_Model_expand_140 ?_
              refine lv_aload_n X.x X.b d_Model_expand_141 rfl (lv_at hl 5 rfl) ?_
              refine m_get (v := .ref tq) X ok_Model hM.1 1 (by decide) k_Model_9 rfl d_Model_expand_142 ?_
              refine lv_iload X.x X.b d_Model_expand_145 (lv_at hl 2 rfl) ?_
              refine lv_iconst (v := 4) X.x X.b d_Model_expand_147 (by decide) ?_
              refine lv_iadd X.x X.b d_Model_expand_148 ?_
              rw [show (0 + 4 : Int32) = 4 from by decide]
              refine m_ild (v := r) X hM.a1 4 rfl (by omega) (by decide) (show s1 1 4 = r from (by rw [hE.2 1 (by decide), hL.2.2.2.2.2])) d_Model_expand_149 ?_
              refine lv_iconst (v := 1) X.x X.b d_Model_expand_150 (by decide) ?_
              refine lv_icmp_ne (tgt := 161) X.x X.b d_Model_expand_151 (by decide) (fun c5 => ?_) (fun c5 => ?_)
              · skip
                refine lv_iconst (v := 0) X.x X.b d_Model_expand_161 (by decide) ?_
                refine lv_iadd X.x X.b d_Model_expand_162 ?_
                rw [show (v_ + 0 : Int32) = v_ from Int32.add_zero _]
                refine lv_istore (lv' := [(11, .int v_), (10, .int 2), (9, .int 0), (8, .int 0), (7, .int 0), (6, .int 0), (0, .ref mo), (1, .ref q2), (2, .ref q7), (3, .ref q12), (4, .int 0), (5, .int 0)]) X.x X.b d_Model_expand_163 hl (by decide) rfl (fun ls hl => ?_)
                refine lv_iinc (v := 1) (lv' := [(5, .int 1), (11, .int v_), (10, .int 2), (9, .int 0), (8, .int 0), (7, .int 0), (6, .int 0), (0, .ref mo), (1, .ref q2), (2, .ref q7), (3, .ref q12), (4, .int 0)]) X.x X.b d_Model_expand_165 hl (k := 11) rfl (by decide) (by decide) rfl (fun ls hl => ?_)
                refine lv_iload X.x X.b d_Model_expand_168 (lv_at hl 0 rfl) ?_
                refine lv_sipush (v := 400) X.x X.b d_Model_expand_170 (by decide) ?_
                refine lv_icmp_gt (tgt := 193) X.x X.b d_Model_expand_173 (by decide) (fun c6 => ?_) (fun c6 => ?_)
                · exact absurd c6 (by decide)
                · skip
                  have c6q := Int32.not_lt.mp c6
                  refine lv_iload X.x X.b d_Model_expand_176 (lv_at hl 2 rfl) ?_
                  refine m_callSP X hS (MP_ans (M_Model_makes l g 2) (show b2i ((2 : Int32) < 8) = 1 from by decide)) s_Model_138 rfl rfl (Nat.le_of_ble_eq_true rfl) hl.1 d_Model_expand_178 (by omega) (by decide) ⟨by omega, by omega⟩ (fun locs hS => ?_)
                  refine lv_if_eq (tgt := 203) X.x X.b d_Model_expand_181 (by decide) (fun c7 => ?_) (fun c7 => ?_)
                  · exact absurd c7 (by decide)
                  · skip
                    refine lv_aload_n X.x X.b d_Model_expand_184 rfl (lv_at hl 7 rfl) ?_
                    refine m_get (v := .int 0) X ok_Model hM.1 5 (by decide) k_Model_132 (congrArg (fun z => some (Value.int z)) (show p1 5 = 0 from (by rw [hp15]))) d_Model_expand_185 ?_
                    refine lv_bipush (v := 120) X.x X.b d_Model_expand_188 (by decide) ?_
                    refine lv_icmp_ne (tgt := 203) X.x X.b d_Model_expand_190 (by decide) (fun c8 => ?_) (fun c8 => ?_)
                    · skip
                      refine lv_iload X.x X.b d_Model_expand_203 (lv_at hl 2 rfl) ?_
                      refine lv_bipush (v := 10) X.x X.b d_Model_expand_205 (by decide) ?_
                      refine lv_icmp_ne (tgt := 259) X.x X.b d_Model_expand_207 (by decide) (fun c9 => ?_) (fun c9 => ?_)
                      · skip
                        refine lv_iload X.x X.b d_Model_expand_259 (lv_at hl 2 rfl) ?_
                        refine lv_bipush (v := 8) X.x X.b d_Model_expand_261 (by decide) ?_
                        refine lv_icmp_ne (tgt := 329) X.x X.b d_Model_expand_263 (by decide) (fun c10 => ?_) (fun c10 => ?_)
                        · skip
                          refine lv_iload X.x X.b d_Model_expand_329 (lv_at hl 2 rfl) ?_
                          refine lv_bipush (v := 9) X.x X.b d_Model_expand_331 (by decide) ?_
                          refine lv_icmp_eq (tgt := 366) X.x X.b d_Model_expand_333 (by decide) (fun c11 => ?_) (fun c11 => ?_)
                          · exact absurd c11 (by decide)
                          · skip
                            refine lv_aload_n X.x X.b d_Model_expand_336 rfl (lv_at hl 7 rfl) ?_
                            refine lv_iload X.x X.b d_Model_expand_337 (lv_at hl 2 rfl) ?_
                            refine lv_aload_n X.x X.b d_Model_expand_339 rfl (lv_at hl 7 rfl) ?_
                            refine m_get (v := .ref tq) X ok_Model hM.1 1 (by decide) k_Model_9 rfl d_Model_expand_340 ?_
                            refine lv_iload X.x X.b d_Model_expand_343 (lv_at hl 4 rfl) ?_
                            refine lv_iconst (v := 1) X.x X.b d_Model_expand_345 (by decide) ?_
                            refine lv_iadd X.x X.b d_Model_expand_346 ?_
                            rw [show (0 + 1 : Int32) = 1 from by decide]
                            refine m_ild (v := x) X hM.a1 1 rfl (by omega) (by decide) (show s1 1 1 = x from (by rw [hE.2 1 (by decide), hL.2.2.1])) d_Model_expand_347 ?_
                            refine lv_aload_n X.x X.b d_Model_expand_348 rfl (lv_at hl 7 rfl) ?_
                            refine m_get (v := .ref tq) X ok_Model hM.1 1 (by decide) k_Model_9 rfl d_Model_expand_349 ?_
                            refine lv_iload X.x X.b d_Model_expand_352 (lv_at hl 4 rfl) ?_
                            refine lv_iconst (v := 2) X.x X.b d_Model_expand_354 (by decide) ?_
                            refine lv_iadd X.x X.b d_Model_expand_355 ?_
                            rw [show (0 + 2 : Int32) = 2 from by decide]
                            refine m_ild (v := y) X hM.a1 2 rfl (by omega) (by decide) (show s1 1 2 = y from (by rw [hE.2 1 (by decide), hL.2.2.2.1])) d_Model_expand_356 ?_
                            refine lv_iload X.x X.b d_Model_expand_357 (lv_at hl 1 rfl) ?_
                            refine lv_iload X.x X.b d_Model_expand_359 (lv_at hl 3 rfl) ?_
                            refine lv_iload X.x X.b d_Model_expand_361 (lv_at hl 11 rfl) ?_
                            have hR := M_Model_take_o (c := 0) l g hM (show p1 5 = 0 from (by rw [hp15])) (by omega) 2 x y v_ 0 0 (by decide) (by decide)
                            refine m_callM X hS hR v_Model_147 hM.1 rfl rfl rfl (Nat.le_of_ble_eq_true rfl) hl.1 d_Model_expand_363 (by omega) (by decide) ⟨by omega, by omega⟩ (fun q z => by have z : mo ≤ q ∧ q < mo + 23 := z; exact ⟨by omega, by omega⟩) (fun H locs hM hfr hS => ?_)
                            have hL2 := hL2.fr hfr (fun z => by have z : mo ≤ q2 ∧ q2 < mo + 23 := z; omega)
                            have hL7 := hL7.fr hfr (fun z => by have z : mo ≤ q7 ∧ q7 < mo + 23 := z; omega)
                            have hL12 := hL12.fr hfr (fun z => by have z : mo ≤ q12 ∧ q12 < mo + 23 := z; omega)
                            have hM : mAt g mo tq (upd p1 5 1) _ H := hM
                            obtain ⟨p_3, ep_3⟩ : ∃ z, z = upd p1 5 1 := ⟨_, rfl⟩
                            rw [← ep_3] at hM
                            obtain ⟨s_4, es_4⟩ : ∃ z, z = itR s1 0 2 x y v_ 0 0 := ⟨_, rfl⟩
                            rw [← es_4] at hM
                            refine lv_goto (tgt := 58) X.x X.b d_Model_expand_366 (by decide) ?_
                            refine lv_iload X.x X.b d_Model_expand_58 (lv_at hl 11 rfl) ?_
                            refine lv_if_lt (tgt := 369) X.x X.b d_Model_expand_60 (by decide) (fun c12 => ?_) (fun c12 => ?_)
                            · exact absurd c12 c2
                            · skip
                              have c12q := Int32.not_lt.mp c12
                              refine lv_aload_n X.x X.b d_Model_expand_63 rfl (lv_at hl 7 rfl) ?_
                              refine m_get (v := .int 0) X ok_Model hM.1 3 (by decide) k_Model_126 (congrArg (fun z => some (Value.int z)) (show p_3 3 = 0 from (by rw [ep_3, upd_mi _ _ _ (show 3 ≠ 5 by decide), hp13]))) d_Model_expand_64 ?_
                              refine lv_if_ne (tgt := 369) X.x X.b d_Model_expand_67 (by decide) (fun c13 => ?_) (fun c13 => ?_)
                              · exact absurd c3 c13
                              · skip
                                refine lv_aload_n X.x X.b d_Model_expand_70 rfl (lv_at hl 8 rfl) ?_
                                refine lv_iload X.x X.b d_Model_expand_71 (lv_at hl 11 rfl) ?_
                                refine m_ild (v := 0) X hL2 0 rfl (by omega) (by decide) (show (fun _ => 0) 0 = 0 from rfl) d_Model_expand_73 ?_
                                refine lv_istore (lv' := [(6, .int 0), (5, .int 1), (11, .int v_), (10, .int 2), (9, .int 0), (8, .int 0), (7, .int 0), (0, .ref mo), (1, .ref q2), (2, .ref q7), (3, .ref q12), (4, .int 0)]) X.x X.b d_Model_expand_74 hl (by decide) rfl (fun ls hl => ?_)
                                refine lv_aload_n X.x X.b d_Model_expand_76 rfl (lv_at hl 9 rfl) ?_
                                refine lv_iload X.x X.b d_Model_expand_77 (lv_at hl 11 rfl) ?_
                                refine m_ild (v := 1) X hL7 0 rfl (by omega) (by decide) (show r_2 0 = 1 from (by rw [er_2, upd_hit])) d_Model_expand_79 ?_
                                refine lv_aload_n X.x X.b d_Model_expand_80 rfl (lv_at hl 7 rfl) ?_
                                refine m_get (v := .ref (mo + 2)) X ok_Model hM.1 2 (by decide) k_Model_13 rfl d_Model_expand_81 ?_
                                refine lv_iload X.x X.b d_Model_expand_84 (lv_at hl 0 rfl) ?_
                                refine m_ild (v := 1) X hM.a2 0 rfl (by omega) (by decide) (show s_4 2 0 = 1 from (by rw [es_4, itR_o s1 0 2 x y v_ 0 0 2 (by decide), hE.2 2 (by decide), hL.1.1])) d_Model_expand_86 ?_
                                refine lv_icmp_ne (tgt := 96) X.x X.b d_Model_expand_87 (by decide) (fun c14 => ?_) (fun c14 => ?_)
                                · exact absurd c14 (by decide)
                                · skip
                                  refine lv_iinc (v := (-1)) (lv' := [(4, .int (-1)), (6, .int 0), (5, .int 1), (11, .int v_), (10, .int 2), (9, .int 0), (8, .int 0), (7, .int 0), (0, .ref mo), (1, .ref q2), (2, .ref q7), (3, .ref q12)]) X.x X.b d_Model_expand_90 hl (k := 11) rfl (by decide) (by decide) rfl (fun ls hl => ?_)
                                  refine lv_goto (tgt := 58) X.x X.b d_Model_expand_93 (by decide) ?_
                                  refine lv_iload X.x X.b d_Model_expand_58 (lv_at hl 0 rfl) ?_
                                  refine lv_if_lt (tgt := 369) X.x X.b d_Model_expand_60 (by decide) (fun c15 => ?_) (fun c15 => ?_)
                                  · skip
                                    have c15q := Int32.not_le.mpr c15
                                    refine lv_aload_n X.x X.b d_Model_expand_369 rfl (lv_at hl 8 rfl) ?_
                                    refine m_get (v := .int 0) X ok_Model hM.1 3 (by decide) k_Model_126 (congrArg (fun z => some (Value.int z)) (show p_3 3 = 0 from (by rw [ep_3, upd_mi _ _ _ (show 3 ≠ 5 by decide), hp13]))) d_Model_expand_370 ?_
                                    refine lv_if_ne (tgt := 387) X.x X.b d_Model_expand_373 (by decide) (fun c16 => ?_) (fun c16 => ?_)
                                    · exact absurd c13 c16
                                    · skip
                                      refine lv_aload_n X.x X.b d_Model_expand_376 rfl (lv_at hl 8 rfl) ?_
                                      refine lv_bipush (v := 6) X.x X.b d_Model_expand_377 (by decide) ?_
                                      refine lv_iconst (v := -1) X.x X.b d_Model_expand_379 (by decide) ?_
                                      refine lv_iconst (v := -1) X.x X.b d_Model_expand_380 (by decide) ?_
                                      refine lv_iconst (v := 0) X.x X.b d_Model_expand_381 (by decide) ?_
                                      refine lv_iconst (v := -1) X.x X.b d_Model_expand_382 (by decide) ?_
                                      refine lv_iconst (v := 0) X.x X.b d_Model_expand_383 (by decide) ?_
                                      have hR := M_Model_item (c := 1) l g hM (show p_3 5 = 1 from (by rw [ep_3, upd_hit])) (by omega) 6 (-1) (-1) 0 (-1) 0
                                      refine m_callM X hS hR v_Model_151 hM.1 rfl rfl rfl (Nat.le_of_ble_eq_true rfl) hl.1 d_Model_expand_384 (by omega) (by decide) ⟨by omega, by omega⟩ (fun q z => by have z : mo ≤ q ∧ q < mo + 23 := z; exact ⟨by omega, by omega⟩) (fun H locs hM hfr hS => ?_)
                                      have hL2 := hL2.fr hfr (fun z => by have z : mo ≤ q2 ∧ q2 < mo + 23 := z; omega)
                                      have hL7 := hL7.fr hfr (fun z => by have z : mo ≤ q7 ∧ q7 < mo + 23 := z; omega)
                                      have hL12 := hL12.fr hfr (fun z => by have z : mo ≤ q12 ∧ q12 < mo + 23 := z; omega)
                                      have hM : mAt g mo tq (upd p_3 5 2) _ H := hM
                                      obtain ⟨p_5, ep_5⟩ : ∃ z, z = upd p_3 5 2 := ⟨_, rfl⟩
                                      rw [← ep_5] at hM
                                      obtain ⟨s_6, es_6⟩ : ∃ z, z = itR s_4 1 6 (-1) (-1) 0 (-1) 0 := ⟨_, rfl⟩
                                      rw [← es_6] at hM
                                      exact m_vret X hS (by omega) (by omega) d_Model_expand_387 rfl ⟨_, _, hM, (by rw [ep_5, upd_mi _ _ _ (show 0 ≠ 5 by decide), ep_3, upd_mi _ _ _ (show 0 ≠ 5 by decide), hp10]), by rw [es_6, itR_o s_4 1 6 (-1) (-1) 0 (-1) 0 2 (by decide), es_4, itR_o s1 0 2 x y v_ 0 0 2 (by decide), hE.2 2 (by decide)], ⟨(by rw [ep_5, upd_mi _ _ _ (show 3 ≠ 5 by decide), ep_3, upd_mi _ _ _ (show 3 ≠ 5 by decide), hp13]), (by rw [ep_5, upd_hit])⟩, (by rw [es_6, itR_ne s_4 1 6 (-1) (-1) 0 (-1) 0 (show (0 : Nat) ≠ 1 by omega) 8, es_4, (itR_at s1 0 2 x y v_ 0 0).1]), (by rw [es_6, itR_ne s_4 1 6 (-1) (-1) 0 (-1) 0 (show (0 : Nat) ≠ 1 by omega) 9, es_4, (itR_at s1 0 2 x y v_ 0 0).2.1]), (by rw [es_6, itR_ne s_4 1 6 (-1) (-1) 0 (-1) 0 (show (0 : Nat) ≠ 1 by omega) 10, es_4, (itR_at s1 0 2 x y v_ 0 0).2.2.1]), (by rw [es_6, (itR_at s_4 1 6 (-1) (-1) 0 (-1) 0).1]), (by rw [es_6, itR_ne s_4 1 6 (-1) (-1) 0 (-1) 0 (show (0 : Nat) ≠ 1 by omega) 11, es_4, (itR_at s1 0 2 x y v_ 0 0).2.2.2.1]), fun j hj => (by rw [es_6, itR_o s_4 1 6 (-1) (-1) 0 (-1) 0 27 (by decide), es_4, itR_o s1 0 2 x y v_ 0 0 27 (by decide), (hE.1 j (by omega)).2])⟩
                                  · exact absurd c15 (by decide)
                        · exact absurd c10 (by decide)
                      · exact absurd c9 (by decide)
                    · exact absurd c8 (by decide)
              · skip
                refine lv_aload_n X.x X.b d_Model_expand_154 rfl (lv_at hl 8 rfl) ?_
                refine lv_iload X.x X.b d_Model_expand_155 (lv_at hl 9 rfl) ?_
                refine m_ild (v := 0) X hL12 0 rfl (by omega) (by decide) (show (fun _ => 0) 0 = 0 from rfl) d_Model_expand_157 ?_
                refine lv_goto (tgt := 162) X.x X.b d_Model_expand_158 (by decide) ?_
                refine lv_iadd X.x X.b d_Model_expand_162 ?_
                rw [show (v_ + 0 : Int32) = v_ from Int32.add_zero _]
                refine lv_istore (lv' := [(11, .int v_), (10, .int 2), (9, .int 0), (8, .int 0), (7, .int 0), (6, .int 0), (0, .ref mo), (1, .ref q2), (2, .ref q7), (3, .ref q12), (4, .int 0), (5, .int 0)]) X.x X.b d_Model_expand_163 hl (by decide) rfl (fun ls hl => ?_)
                refine lv_iinc (v := 1) (lv' := [(5, .int 1), (11, .int v_), (10, .int 2), (9, .int 0), (8, .int 0), (7, .int 0), (6, .int 0), (0, .ref mo), (1, .ref q2), (2, .ref q7), (3, .ref q12), (4, .int 0)]) X.x X.b d_Model_expand_165 hl (k := 11) rfl (by decide) (by decide) rfl (fun ls hl => ?_)
                refine lv_iload X.x X.b d_Model_expand_168 (lv_at hl 0 rfl) ?_
                refine lv_sipush (v := 400) X.x X.b d_Model_expand_170 (by decide) ?_
                refine lv_icmp_gt (tgt := 193) X.x X.b d_Model_expand_173 (by decide) (fun c17 => ?_) (fun c17 => ?_)
                · exact absurd c17 (by decide)
                · skip
                  have c17q := Int32.not_lt.mp c17
                  refine lv_iload X.x X.b d_Model_expand_176 (lv_at hl 2 rfl) ?_
                  refine m_callSP X hS (MP_ans (M_Model_makes l g 2) (show b2i ((2 : Int32) < 8) = 1 from by decide)) s_Model_138 rfl rfl (Nat.le_of_ble_eq_true rfl) hl.1 d_Model_expand_178 (by omega) (by decide) ⟨by omega, by omega⟩ (fun locs hS => ?_)
                  refine lv_if_eq (tgt := 203) X.x X.b d_Model_expand_181 (by decide) (fun c18 => ?_) (fun c18 => ?_)
                  · exact absurd c18 (by decide)
                  · skip
                    refine lv_aload_n X.x X.b d_Model_expand_184 rfl (lv_at hl 7 rfl) ?_
                    refine m_get (v := .int 0) X ok_Model hM.1 5 (by decide) k_Model_132 (congrArg (fun z => some (Value.int z)) (show p1 5 = 0 from (by rw [hp15]))) d_Model_expand_185 ?_
                    refine lv_bipush (v := 120) X.x X.b d_Model_expand_188 (by decide) ?_
                    refine lv_icmp_ne (tgt := 203) X.x X.b d_Model_expand_190 (by decide) (fun c19 => ?_) (fun c19 => ?_)
                    · skip
                      refine lv_iload X.x X.b d_Model_expand_203 (lv_at hl 2 rfl) ?_
                      refine lv_bipush (v := 10) X.x X.b d_Model_expand_205 (by decide) ?_
                      refine lv_icmp_ne (tgt := 259) X.x X.b d_Model_expand_207 (by decide) (fun c20 => ?_) (fun c20 => ?_)
                      · skip
                        refine lv_iload X.x X.b d_Model_expand_259 (lv_at hl 2 rfl) ?_
                        refine lv_bipush (v := 8) X.x X.b d_Model_expand_261 (by decide) ?_
                        refine lv_icmp_ne (tgt := 329) X.x X.b d_Model_expand_263 (by decide) (fun c21 => ?_) (fun c21 => ?_)
                        · skip
                          refine lv_iload X.x X.b d_Model_expand_329 (lv_at hl 2 rfl) ?_
                          refine lv_bipush (v := 9) X.x X.b d_Model_expand_331 (by decide) ?_
                          refine lv_icmp_eq (tgt := 366) X.x X.b d_Model_expand_333 (by decide) (fun c22 => ?_) (fun c22 => ?_)
                          · exact absurd c22 (by decide)
                          · skip
                            refine lv_aload_n X.x X.b d_Model_expand_336 rfl (lv_at hl 7 rfl) ?_
                            refine lv_iload X.x X.b d_Model_expand_337 (lv_at hl 2 rfl) ?_
                            refine lv_aload_n X.x X.b d_Model_expand_339 rfl (lv_at hl 7 rfl) ?_
                            refine m_get (v := .ref tq) X ok_Model hM.1 1 (by decide) k_Model_9 rfl d_Model_expand_340 ?_
                            refine lv_iload X.x X.b d_Model_expand_343 (lv_at hl 4 rfl) ?_
                            refine lv_iconst (v := 1) X.x X.b d_Model_expand_345 (by decide) ?_
                            refine lv_iadd X.x X.b d_Model_expand_346 ?_
                            rw [show (0 + 1 : Int32) = 1 from by decide]
                            refine m_ild (v := x) X hM.a1 1 rfl (by omega) (by decide) (show s1 1 1 = x from (by rw [hE.2 1 (by decide), hL.2.2.1])) d_Model_expand_347 ?_
                            refine lv_aload_n X.x X.b d_Model_expand_348 rfl (lv_at hl 7 rfl) ?_
                            refine m_get (v := .ref tq) X ok_Model hM.1 1 (by decide) k_Model_9 rfl d_Model_expand_349 ?_
                            refine lv_iload X.x X.b d_Model_expand_352 (lv_at hl 4 rfl) ?_
                            refine lv_iconst (v := 2) X.x X.b d_Model_expand_354 (by decide) ?_
                            refine lv_iadd X.x X.b d_Model_expand_355 ?_
                            rw [show (0 + 2 : Int32) = 2 from by decide]
                            refine m_ild (v := y) X hM.a1 2 rfl (by omega) (by decide) (show s1 1 2 = y from (by rw [hE.2 1 (by decide), hL.2.2.2.1])) d_Model_expand_356 ?_
                            refine lv_iload X.x X.b d_Model_expand_357 (lv_at hl 1 rfl) ?_
                            refine lv_iload X.x X.b d_Model_expand_359 (lv_at hl 3 rfl) ?_
                            refine lv_iload X.x X.b d_Model_expand_361 (lv_at hl 11 rfl) ?_
                            have hR := M_Model_take_o (c := 0) l g hM (show p1 5 = 0 from (by rw [hp15])) (by omega) 2 x y v_ 0 0 (by decide) (by decide)
                            refine m_callM X hS hR v_Model_147 hM.1 rfl rfl rfl (Nat.le_of_ble_eq_true rfl) hl.1 d_Model_expand_363 (by omega) (by decide) ⟨by omega, by omega⟩ (fun q z => by have z : mo ≤ q ∧ q < mo + 23 := z; exact ⟨by omega, by omega⟩) (fun H locs hM hfr hS => ?_)
                            have hL2 := hL2.fr hfr (fun z => by have z : mo ≤ q2 ∧ q2 < mo + 23 := z; omega)
                            have hL7 := hL7.fr hfr (fun z => by have z : mo ≤ q7 ∧ q7 < mo + 23 := z; omega)
                            have hL12 := hL12.fr hfr (fun z => by have z : mo ≤ q12 ∧ q12 < mo + 23 := z; omega)
                            have hM : mAt g mo tq (upd p1 5 1) _ H := hM
                            obtain ⟨p_7, ep_7⟩ : ∃ z, z = upd p1 5 1 := ⟨_, rfl⟩
                            rw [← ep_7] at hM
                            obtain ⟨s_8, es_8⟩ : ∃ z, z = itR s1 0 2 x y v_ 0 0 := ⟨_, rfl⟩
                            rw [← es_8] at hM
                            refine lv_goto (tgt := 58) X.x X.b d_Model_expand_366 (by decide) ?_
                            refine lv_iload X.x X.b d_Model_expand_58 (lv_at hl 11 rfl) ?_
                            refine lv_if_lt (tgt := 369) X.x X.b d_Model_expand_60 (by decide) (fun c23 => ?_) (fun c23 => ?_)
                            · exact absurd c23 c2
                            · skip
                              have c23q := Int32.not_lt.mp c23
                              refine lv_aload_n X.x X.b d_Model_expand_63 rfl (lv_at hl 7 rfl) ?_
                              refine m_get (v := .int 0) X ok_Model hM.1 3 (by decide) k_Model_126 (congrArg (fun z => some (Value.int z)) (show p_7 3 = 0 from (by rw [ep_7, upd_mi _ _ _ (show 3 ≠ 5 by decide), hp13]))) d_Model_expand_64 ?_
                              refine lv_if_ne (tgt := 369) X.x X.b d_Model_expand_67 (by decide) (fun c24 => ?_) (fun c24 => ?_)
                              · exact absurd c3 c24
                              · skip
                                refine lv_aload_n X.x X.b d_Model_expand_70 rfl (lv_at hl 8 rfl) ?_
                                refine lv_iload X.x X.b d_Model_expand_71 (lv_at hl 11 rfl) ?_
                                refine m_ild (v := 0) X hL2 0 rfl (by omega) (by decide) (show (fun _ => 0) 0 = 0 from rfl) d_Model_expand_73 ?_
                                refine lv_istore (lv' := [(6, .int 0), (5, .int 1), (11, .int v_), (10, .int 2), (9, .int 0), (8, .int 0), (7, .int 0), (0, .ref mo), (1, .ref q2), (2, .ref q7), (3, .ref q12), (4, .int 0)]) X.x X.b d_Model_expand_74 hl (by decide) rfl (fun ls hl => ?_)
                                refine lv_aload_n X.x X.b d_Model_expand_76 rfl (lv_at hl 9 rfl) ?_
                                refine lv_iload X.x X.b d_Model_expand_77 (lv_at hl 11 rfl) ?_
                                refine m_ild (v := 1) X hL7 0 rfl (by omega) (by decide) (show r_2 0 = 1 from (by rw [er_2, upd_hit])) d_Model_expand_79 ?_
                                refine lv_aload_n X.x X.b d_Model_expand_80 rfl (lv_at hl 7 rfl) ?_
                                refine m_get (v := .ref (mo + 2)) X ok_Model hM.1 2 (by decide) k_Model_13 rfl d_Model_expand_81 ?_
                                refine lv_iload X.x X.b d_Model_expand_84 (lv_at hl 0 rfl) ?_
                                refine m_ild (v := 1) X hM.a2 0 rfl (by omega) (by decide) (show s_8 2 0 = 1 from (by rw [es_8, itR_o s1 0 2 x y v_ 0 0 2 (by decide), hE.2 2 (by decide), hL.1.1])) d_Model_expand_86 ?_
                                refine lv_icmp_ne (tgt := 96) X.x X.b d_Model_expand_87 (by decide) (fun c25 => ?_) (fun c25 => ?_)
                                · exact absurd c25 (by decide)
                                · skip
                                  refine lv_iinc (v := (-1)) (lv' := [(4, .int (-1)), (6, .int 0), (5, .int 1), (11, .int v_), (10, .int 2), (9, .int 0), (8, .int 0), (7, .int 0), (0, .ref mo), (1, .ref q2), (2, .ref q7), (3, .ref q12)]) X.x X.b d_Model_expand_90 hl (k := 11) rfl (by decide) (by decide) rfl (fun ls hl => ?_)
                                  refine lv_goto (tgt := 58) X.x X.b d_Model_expand_93 (by decide) ?_
                                  refine lv_iload X.x X.b d_Model_expand_58 (lv_at hl 0 rfl) ?_
                                  refine lv_if_lt (tgt := 369) X.x X.b d_Model_expand_60 (by decide) (fun c26 => ?_) (fun c26 => ?_)
                                  · skip
                                    have c26q := Int32.not_le.mpr c26
                                    refine lv_aload_n X.x X.b d_Model_expand_369 rfl (lv_at hl 8 rfl) ?_
                                    refine m_get (v := .int 0) X ok_Model hM.1 3 (by decide) k_Model_126 (congrArg (fun z => some (Value.int z)) (show p_7 3 = 0 from (by rw [ep_7, upd_mi _ _ _ (show 3 ≠ 5 by decide), hp13]))) d_Model_expand_370 ?_
                                    refine lv_if_ne (tgt := 387) X.x X.b d_Model_expand_373 (by decide) (fun c27 => ?_) (fun c27 => ?_)
                                    · exact absurd c24 c27
                                    · skip
                                      refine lv_aload_n X.x X.b d_Model_expand_376 rfl (lv_at hl 8 rfl) ?_
                                      refine lv_bipush (v := 6) X.x X.b d_Model_expand_377 (by decide) ?_
                                      refine lv_iconst (v := -1) X.x X.b d_Model_expand_379 (by decide) ?_
                                      refine lv_iconst (v := -1) X.x X.b d_Model_expand_380 (by decide) ?_
                                      refine lv_iconst (v := 0) X.x X.b d_Model_expand_381 (by decide) ?_
                                      refine lv_iconst (v := -1) X.x X.b d_Model_expand_382 (by decide) ?_
                                      refine lv_iconst (v := 0) X.x X.b d_Model_expand_383 (by decide) ?_
                                      have hR := M_Model_item (c := 1) l g hM (show p_7 5 = 1 from (by rw [ep_7, upd_hit])) (by omega) 6 (-1) (-1) 0 (-1) 0
                                      refine m_callM X hS hR v_Model_151 hM.1 rfl rfl rfl (Nat.le_of_ble_eq_true rfl) hl.1 d_Model_expand_384 (by omega) (by decide) ⟨by omega, by omega⟩ (fun q z => by have z : mo ≤ q ∧ q < mo + 23 := z; exact ⟨by omega, by omega⟩) (fun H locs hM hfr hS => ?_)
                                      have hL2 := hL2.fr hfr (fun z => by have z : mo ≤ q2 ∧ q2 < mo + 23 := z; omega)
                                      have hL7 := hL7.fr hfr (fun z => by have z : mo ≤ q7 ∧ q7 < mo + 23 := z; omega)
                                      have hL12 := hL12.fr hfr (fun z => by have z : mo ≤ q12 ∧ q12 < mo + 23 := z; omega)
                                      have hM : mAt g mo tq (upd p_7 5 2) _ H := hM
                                      obtain ⟨p_9, ep_9⟩ : ∃ z, z = upd p_7 5 2 := ⟨_, rfl⟩
                                      rw [← ep_9] at hM
                                      obtain ⟨s_10, es_10⟩ : ∃ z, z = itR s_8 1 6 (-1) (-1) 0 (-1) 0 := ⟨_, rfl⟩
                                      rw [← es_10] at hM
                                      exact m_vret X hS (by omega) (by omega) d_Model_expand_387 rfl ⟨_, _, hM, (by rw [ep_9, upd_mi _ _ _ (show 0 ≠ 5 by decide), ep_7, upd_mi _ _ _ (show 0 ≠ 5 by decide), hp10]), by rw [es_10, itR_o s_8 1 6 (-1) (-1) 0 (-1) 0 2 (by decide), es_8, itR_o s1 0 2 x y v_ 0 0 2 (by decide), hE.2 2 (by decide)], ⟨(by rw [ep_9, upd_mi _ _ _ (show 3 ≠ 5 by decide), ep_7, upd_mi _ _ _ (show 3 ≠ 5 by decide), hp13]), (by rw [ep_9, upd_hit])⟩, (by rw [es_10, itR_ne s_8 1 6 (-1) (-1) 0 (-1) 0 (show (0 : Nat) ≠ 1 by omega) 8, es_8, (itR_at s1 0 2 x y v_ 0 0).1]), (by rw [es_10, itR_ne s_8 1 6 (-1) (-1) 0 (-1) 0 (show (0 : Nat) ≠ 1 by omega) 9, es_8, (itR_at s1 0 2 x y v_ 0 0).2.1]), (by rw [es_10, itR_ne s_8 1 6 (-1) (-1) 0 (-1) 0 (show (0 : Nat) ≠ 1 by omega) 10, es_8, (itR_at s1 0 2 x y v_ 0 0).2.2.1]), (by rw [es_10, (itR_at s_8 1 6 (-1) (-1) 0 (-1) 0).1]), (by rw [es_10, itR_ne s_8 1 6 (-1) (-1) 0 (-1) 0 (show (0 : Nat) ≠ 1 by omega) 11, es_8, (itR_at s1 0 2 x y v_ 0 0).2.2.2.1]), fun j hj => (by rw [es_10, itR_o s_8 1 6 (-1) (-1) 0 (-1) 0 27 (by decide), es_8, itR_o s1 0 2 x y v_ 0 0 27 (by decide), (hE.1 j (by omega)).2])⟩
                                  · exact absurd c26 (by decide)
                        · exact absurd c21 (by decide)
                      · exact absurd c20 (by decide)
                    · exact absurd c19 (by decide)
            · exact absurd c4 (by decide)
      · exact absurd ((nI_ltI (a := i) (b := 8) (by omega) (by omega)).mp (Int32.not_le.mp c1)) (by omega)
    | succ n ih =>
      intro i s1 hin hi5 hE H locs ls hM hL2 hL7 hL12 hS hl
      refine lv_iload X.x X.b d_Model_expand_29 (lv_at hl 6 rfl) ?_
      refine lv_bipush (v := 8) X.x X.b d_Model_expand_31 (by decide) ?_
      refine lv_icmp_ge (tgt := 58) X.x X.b d_Model_expand_33 (by decide) (fun c28 => ?_) (fun c28 => ?_)
      · exact absurd ((nI_leI (a := 8) (b := i) (by omega) (by omega)).mp c28) (by omega)
      · skip
        have c28q := Int32.not_le.mp c28
        refine lv_aload_n X.x X.b d_Model_expand_36 rfl (lv_at hl 0 rfl) ?_
        refine m_get (v := .ref (mo + 20)) X ok_Model hM.1 25 (by decide) k_Model_68 rfl d_Model_expand_37 ?_
        refine lv_iload X.x X.b d_Model_expand_40 (lv_at hl 6 rfl) ?_
        refine lv_iconst (v := 0) X.x X.b d_Model_expand_42 (by decide) ?_
        refine m_ist X hS (Or.inl ⟨by omega, by omega⟩) hM.a25 i rfl (by omega) (by decide) d_Model_expand_43 (fun H locs hp hcg hS => ?_)
        have hM := hM.s25 hp hcg
        obtain ⟨s_11, es_11⟩ : ∃ z, z = updR s1 25 (upd (s1 25) i 0) := ⟨_, rfl⟩
        rw [← es_11] at hM
        have hL2 := hL2.off hcg (by omega)
        have hL7 := hL7.off hcg (by omega)
        have hL12 := hL12.off hcg (by omega)
        refine lv_aload_n X.x X.b d_Model_expand_44 rfl (lv_at hl 0 rfl) ?_
        refine m_get (v := .ref (mo + 22)) X ok_Model hM.1 27 (by decide) k_Model_74 rfl d_Model_expand_45 ?_
        refine lv_iload X.x X.b d_Model_expand_48 (lv_at hl 6 rfl) ?_
        refine lv_iconst (v := -1) X.x X.b d_Model_expand_50 (by decide) ?_
        refine m_ist X hS (Or.inl ⟨by omega, by omega⟩) hM.a27 i rfl (by omega) (by decide) d_Model_expand_51 (fun H locs hp hcg hS => ?_)
        have hM := hM.s27 hp hcg
        obtain ⟨s_12, es_12⟩ : ∃ z, z = updR s_11 27 (upd (s_11 27) i (-1)) := ⟨_, rfl⟩
        rw [← es_12] at hM
        have hL2 := hL2.off hcg (by omega)
        have hL7 := hL7.off hcg (by omega)
        have hL12 := hL12.off hcg (by omega)
        refine lv_iinc (v := nI (i + 1)) (lv' := [(6, .int (nI (i + 1))), (0, .ref mo), (1, .ref q2), (2, .ref q7), (3, .ref q12), (4, .int 0), (5, .int 0)]) X.x X.b d_Model_expand_52 hl (k := 6) rfl (nI_1 i) (by decide) rfl (fun ls hl => ?_)
        refine lv_goto (tgt := 29) X.x X.b d_Model_expand_55 (by decide) ?_
        exact ih (i + 1) s_12 (by omega) (by omega) (⟨fun j hj => (Nat.lt_or_ge j i).elim (fun z => ⟨by rw [es_12, updR_n2 _ _ _ _ (show j ≠ i by omega), es_11, updR_n2 _ _ _ _ (show j ≠ i by omega)]; exact (hE.1 j z).1, by rw [es_12, updR_n2 _ _ _ _ (show j ≠ i by omega), es_11, updR_n2 _ _ _ _ (show j ≠ i by omega)]; exact (hE.1 j z).2⟩) (fun z => ⟨by rw [show j = i by omega, es_12, updR_mf _ _ _ (show 25 ≠ 27 by decide), es_11, updR_hit], by rw [show j = i by omega, es_12, updR_hit]⟩), by rw [es_12, es_11]; exact (hE.2.up _ _ (by decide)).up _ _ (by decide)⟩) _ _ _ hM hL2 hL7 hL12 hS (lv_sub hl [1, 2, 3, 4, 5, 6, 0] rfl)
  exact lp 8 0 s0 (by omega) (by omega) (⟨fun j hj => absurd hj (Nat.not_lt_zero j), same.rf _ _⟩) _ _ _ hM hL2 hL7 hL12 hS (lv_sub hl [6, 5, 4, 3, 2, 1, 0] rfl)
set_option maxRecDepth 100000 in
set_option maxHeartbeats 4000000 in
theorem M_Model_expand_L3 (l : Launch) (g : GG) {mo tq : Nat} {p0 : Nat → Int32} {s0 : Nat → Nat → Int32} {H0 : Heap} (hM : mAt g mo tq p0 s0 H0) {x y v_ r : Int32} (hL : oneL 3 x y v_ r s0) (hf3 : p0 3 = 0) : MM l y_Model_expand c_Model_expand 13 none 3 3 18 g H0 [.ref mo] (fun q => mo ≤ q ∧ q < mo + 23) (none) (fun H1 => ∃ p s, mAt g mo tq p s H1 ∧ p 0 = p0 0 ∧ s 2 = s0 2 ∧ (p 3 = 0 ∧ p 5 = 2) ∧ s 8 0 = 3 ∧ s 9 0 = x ∧ s 10 0 = y ∧ s 8 1 = 6 ∧ s 11 0 = v_ ∧ ∀ j, j < 8 → s 27 j = -1) := by
  refine MM.of (by decide +kernel) (Nat.le_of_ble_eq_true rfl) ?_
  intro p e s m below meth cd X hH ls hl
  have X : CX g p s m _ meth cd c_Model_expand 13 none R_Model _ := X
  have hl : lv_has ls 13 [(0, .ref mo)] := hl
  have hS : va_S (AA (fun q => mo ≤ q ∧ q < mo + 23) H0) H0 H0 [] := va_S.rf
  have hlt0 := hM.lt
  have htq0 := hM.tq
  refine lv_bipush (v := 6) X.x X.b d_Model_expand_0 (by decide) ?_
  obtain ⟨q2, hq2⟩ := sz_of hS
  have hlt2 := hM.lt
  have hsz2 := hS.1
  refine m_newI X hS hq2 6 (by decide) (by decide) (by decide) (by omega) (by omega) d_Model_expand_2 (fun H hL2 hgr hS hz2 => ?_)
  have hfr := fr.of_grow (A := noA) hgr
  have hM := hM.frame hfr (fun q z => z.elim)
  refine lv_astore_n (lv' := [(1, .ref q2), (0, .ref mo)]) X.x X.b d_Model_expand_4 rfl hl (by decide) rfl (fun ls hl => ?_)
  refine lv_bipush (v := 6) X.x X.b d_Model_expand_5 (by decide) ?_
  obtain ⟨q7, hq7⟩ := sz_of hS
  have hlt7 := hM.lt
  have hsz7 := hS.1
  refine m_newI X hS hq7 6 (by decide) (by decide) (by decide) (by omega) (by omega) d_Model_expand_7 (fun H hL7 hgr hS hz2 => ?_)
  have hfr := fr.of_grow (A := noA) hgr
  have hM := hM.frame hfr (fun q z => z.elim)
  have hL2 := hL2.fr hfr (fun z => z)
  refine lv_astore_n (lv' := [(2, .ref q7), (1, .ref q2), (0, .ref mo)]) X.x X.b d_Model_expand_9 rfl hl (by decide) rfl (fun ls hl => ?_)
  refine lv_bipush (v := 6) X.x X.b d_Model_expand_10 (by decide) ?_
  obtain ⟨q12, hq12⟩ := sz_of hS
  have hlt12 := hM.lt
  have hsz12 := hS.1
  refine m_newI X hS hq12 6 (by decide) (by decide) (by decide) (by omega) (by omega) d_Model_expand_12 (fun H hL12 hgr hS hz2 => ?_)
  have hfr := fr.of_grow (A := noA) hgr
  have hM := hM.frame hfr (fun q z => z.elim)
  have hL2 := hL2.fr hfr (fun z => z)
  have hL7 := hL7.fr hfr (fun z => z)
  refine lv_astore_n (lv' := [(3, .ref q12), (2, .ref q7), (1, .ref q2), (0, .ref mo)]) X.x X.b d_Model_expand_14 rfl hl (by decide) rfl (fun ls hl => ?_)
  refine lv_iconst (v := 0) X.x X.b d_Model_expand_15 (by decide) ?_
  refine lv_istore (lv' := [(4, .int 0), (3, .ref q12), (2, .ref q7), (1, .ref q2), (0, .ref mo)]) X.x X.b d_Model_expand_16 hl (by decide) rfl (fun ls hl => ?_)
  refine lv_iconst (v := 0) X.x X.b d_Model_expand_18 (by decide) ?_
  refine lv_istore (lv' := [(5, .int 0), (4, .int 0), (3, .ref q12), (2, .ref q7), (1, .ref q2), (0, .ref mo)]) X.x X.b d_Model_expand_19 hl (by decide) rfl (fun ls hl => ?_)
  refine lv_aload_n X.x X.b d_Model_expand_21 rfl (lv_at hl 5 rfl) ?_
  refine lv_iconst (v := 0) X.x X.b d_Model_expand_22 (by decide) ?_
  refine m_put X ok_Model hS (Or.inl ⟨by omega, by omega⟩) hM.1 5 (by decide) k_Model_132 rfl (ok_Model.2.2.1 _ (by decide)) rfl rfl (Nat.le_of_ble_eq_true rfl) d_Model_expand_23 (fun H locs hp hcg hS => ?_)
  have hM := hM.f5 hp hcg
  obtain ⟨p_1, ep_1⟩ : ∃ z, z = upd p0 5 0 := ⟨_, rfl⟩
  rw [← ep_1] at hM
  have hL2 := hL2.off hcg (by omega)
  have hL7 := hL7.off hcg (by omega)
  have hL12 := hL12.off hcg (by omega)
  obtain ⟨p1, hp1⟩ : ∃ z, z = p_1 := ⟨_, rfl⟩
  rw [← hp1] at hM
  have hp1 : p1 = upd p0 5 0 := by rw [hp1, ep_1]
  have hp15 : p1 5 = 0 := by rw [hp1]; exact upd_hit _ _ _
  have hp13 : p1 3 = 0 := by rw [hp1]; exact (upd_mi _ _ _ (by decide)).trans hf3
  have hp10 : p1 0 = p0 0 := by rw [hp1]; exact upd_mi _ _ _ (by decide)
  refine lv_iconst (v := 0) X.x X.b d_Model_expand_26 (by decide) ?_
  refine lv_istore (lv' := [(6, .int 0), (5, .int 0), (4, .int 0), (3, .ref q12), (2, .ref q7), (1, .ref q2), (0, .ref mo)]) X.x X.b d_Model_expand_27 hl (by decide) rfl (fun ls hl => ?_)
  have lp : ∀ (n i : Nat) (s1 : Nat → Nat → Int32), n = 8 - i → i < 5000 → ((∀ j, j < i → s1 25 j = 0 ∧ s1 27 j = -1) ∧ same [25, 27] s0 s1) → ∀ (H : Heap) (locs : List Loc) (ls : Array Slot), mAt g mo tq p1 s1 H → pt g q2 (.inl (g.2 0, 6, .inl (fun _ => 0))) H → pt g q7 (.inl (g.2 0, 6, .inl (fun _ => 0))) H → pt g q12 (.inl (g.2 0, 6, .inl (fun _ => 0))) H → va_S (AA (fun q => mo ≤ q ∧ q < mo + 23) H0) H0 H locs → lv_has ls 13 [(0, .ref mo), (1, .ref q2), (2, .ref q7), (3, .ref q12), (4, .int 0), (5, .int 0), (6, .int (nI i))] → W p l e (rmK 3 3 18) s m ([.ref mo] : List Value).toArray below meth cd H locs 3 18 (MQ below (QM (none) (fun H1 => ∃ p s, mAt g mo tq p s H1 ∧ p 0 = p0 0 ∧ s 2 = s0 2 ∧ (p 3 = 0 ∧ p 5 = 2) ∧ s 8 0 = 3 ∧ s 9 0 = x ∧ s 10 0 = y ∧ s 8 1 = 6 ∧ s 11 0 = v_ ∧ ∀ j, j < 8 → s 27 j = -1) (fun q => mo ≤ q ∧ q < mo + 23) H0) ([.ref mo] : List Value).toArray s 3 18 (AA (fun q => mo ≤ q ∧ q < mo + 23) H0)) (F0 m 29 ls []) := by
    intro n
    induction n with
    | zero =>
      intro i s1 hin hi5 hE H locs ls hM hL2 hL7 hL12 hS hl
      refine lv_iload X.x X.b d_Model_expand_29 (lv_at hl 6 rfl) ?_
      refine lv_bipush (v := 8) X.x X.b d_Model_expand_31 (by decide) ?_
      refine lv_icmp_ge (tgt := 58) X.x X.b d_Model_expand_33 (by decide) (fun c1 => ?_) (fun c1 => ?_)
      · skip
        have c1q := Int32.not_lt.mpr c1
        refine lv_iload X.x X.b d_Model_expand_58 (lv_at hl 4 rfl) ?_
        refine lv_if_lt (tgt := 369) X.x X.b d_Model_expand_60 (by decide) (fun c2 => ?_) (fun c2 => ?_)
        · exact absurd c2 (by decide)
        · skip
          have c2q := Int32.not_lt.mp c2
          refine lv_aload_n X.x X.b d_Model_expand_63 rfl (lv_at hl 0 rfl) ?_
          refine m_get (v := .int 0) X ok_Model hM.1 3 (by decide) k_Model_126 (congrArg (fun z => some (Value.int z)) (show p1 3 = 0 from (by rw [hp13]))) d_Model_expand_64 ?_
          refine lv_if_ne (tgt := 369) X.x X.b d_Model_expand_67 (by decide) (fun c3 => ?_) (fun c3 => ?_)
          · exact absurd c3 (by decide)
          · skip
            refine lv_aload_n X.x X.b d_Model_expand_70 rfl (lv_at hl 1 rfl) ?_
            refine lv_iload X.x X.b d_Model_expand_71 (lv_at hl 4 rfl) ?_
            refine m_ild (v := 0) X hL2 0 rfl (by omega) (by decide) (show (fun _ => 0) 0 = 0 from rfl) d_Model_expand_73 ?_
            refine lv_istore (lv' := [(6, .int 0), (0, .ref mo), (1, .ref q2), (2, .ref q7), (3, .ref q12), (4, .int 0), (5, .int 0)]) X.x X.b d_Model_expand_74 hl (by decide) rfl (fun ls hl => ?_)
            refine lv_aload_n X.x X.b d_Model_expand_76 rfl (lv_at hl 3 rfl) ?_
            refine lv_iload X.x X.b d_Model_expand_77 (lv_at hl 5 rfl) ?_
            refine m_ild (v := 0) X hL7 0 rfl (by omega) (by decide) (show (fun _ => 0) 0 = 0 from rfl) d_Model_expand_79 ?_
            refine lv_aload_n X.x X.b d_Model_expand_80 rfl (lv_at hl 1 rfl) ?_
            refine m_get (v := .ref (mo + 2)) X ok_Model hM.1 2 (by decide) k_Model_13 rfl d_Model_expand_81 ?_
            refine lv_iload X.x X.b d_Model_expand_84 (lv_at hl 0 rfl) ?_
            refine m_ild (v := 1) X hM.a2 0 rfl (by omega) (by decide) (show s1 2 0 = 1 from (by rw [hE.2 2 (by decide), hL.1.1])) d_Model_expand_86 ?_
            refine lv_icmp_ne (tgt := 96) X.x X.b d_Model_expand_87 (by decide) (fun c4 => ?_) (fun c4 => ?_)
            · skip
              refine lv_aload_n X.x X.b d_Model_expand_96 rfl (lv_at hl 3 rfl) ?_
              refine lv_iload X.x X.b d_Model_expand_97 (lv_at hl 5 rfl) ?_
              refine lv_dup2_11 X.x X.b d_Model_expand_99 rfl rfl ?_
              refine m_ild (v := 0) X hL7 0 rfl (by omega) (by decide) (show (fun _ => 0) 0 = 0 from rfl) d_Model_expand_100 ?_
              refine lv_dup_x2 X.x X.b d_Model_expand_101 rfl rfl rfl ?_
              refine lv_iconst (v := 1) X.x X.b d_Model_expand_102 (by decide) ?_
              refine lv_iadd X.x X.b d_Model_expand_103 ?_
              rw [show (0 + 1 : Int32) = 1 from by decide]
              refine m_ist X hS (Or.inr (by omega)) hL7 0 rfl (by omega) (by decide) d_Model_expand_104 (fun H locs hp hcg hS => ?_)
              have hL7 := hp
              obtain ⟨r_2, er_2⟩ : ∃ z, z = upd (fun _ => 0) 0 1 := ⟨_, rfl⟩
              rw [← er_2] at hL7
              have hM := hM.frame (fr.of_chg (A := fun q => q = q7) hcg rfl) (fun q z => by have z : q = q7 := z; have := hM.tq; omega)
              have hL2 := hL2.off hcg (by omega)
              have hL12 := hL12.off hcg (by omega)
              refine lv_istore (lv' := [(7, .int 0), (6, .int 0), (0, .ref mo), (1, .ref q2), (2, .ref q7), (3, .ref q12), (4, .int 0), (5, .int 0)]) X.x X.b d_Model_expand_105 hl (by decide) rfl (fun ls hl => ?_)
              refine lv_iload X.x X.b d_Model_expand_107 (lv_at hl 1 rfl) ?_
              refine lv_iload X.x X.b d_Model_expand_109 (lv_at hl 0 rfl) ?_
              refine m_callSP X hS (MP_ans (M_Model_at l g 0 0) (show (((0 : Int32) * 64 + 0) * 5) = 0 from by decide)) s_Model_96 rfl rfl (Nat.le_of_ble_eq_true rfl) hl.1 d_Model_expand_111 (by omega) (by decide) ⟨by omega, by omega⟩ (fun locs hS => ?_)
              refine lv_istore (lv' := [(8, .int 0), (7, .int 0), (6, .int 0), (0, .ref mo), (1, .ref q2), (2, .ref q7), (3, .ref q12), (4, .int 0), (5, .int 0)]) X.x X.b d_Model_expand_114 hl (by decide) rfl (fun ls hl => ?_)
              refine lv_aload_n X.x X.b d_Model_expand_116 rfl (lv_at hl 5 rfl) ?_
              refine lv_iconst (v := 0) X.x X.b d_Model_expand_117 (by decide) ?_
              refine m_ild (v := 1) X hL7 0 rfl (by omega) (by decide) (show r_2 0 = 1 from (by rw [er_2, upd_hit])) d_Model_expand_118 ?_
              refine lv_iconst (v := 1) X.x X.b d_Model_expand_119 (by decide) ?_
              refine lv_isub X.x X.b d_Model_expand_120 ?_
              rw [show (1 - 1 : Int32) = 0 from by decide]
              refine lv_istore (lv' := [(9, .int 0), (8, .int 0), (7, .int 0), (6, .int 0), (0, .ref mo), (1, .ref q2), (2, .ref q7), (3, .ref q12), (4, .int 0), (5, .int 0)]) X.x X.b d_Model_expand_121 hl (by decide) rfl (fun ls hl => ?_)
              refine lv_aload_n X.x X.b d_Model_expand_123 rfl (lv_at hl 4 rfl) ?_
              refine m_get (v := .ref tq) X ok_Model hM.1 1 (by decide) k_Model_9 rfl d_Model_expand_124 ?_
              refine lv_iload X.x X.b d_Model_expand_127 (lv_at hl 1 rfl) ?_
              refine m_ild (v := 3) X hM.a1 0 rfl (by omega) (by decide) (show s1 1 0 = 3 from (by rw [hE.2 1 (by decide), hL.2.1])) d_Model_expand_129 ?_
              refine lv_istore (lv' := [(10, .int 3), (9, .int 0), (8, .int 0), (7, .int 0), (6, .int 0), (0, .ref mo), (1, .ref q2), (2, .ref q7), (3, .ref q12), (4, .int 0), (5, .int 0)]) X.x X.b d_Model_expand_130 hl (by decide) rfl (fun ls hl => ?_)
              refine lv_aload_n X.x X.b d_Model_expand_132 rfl (lv_at hl 5 rfl) ?_
              refine m_get (v := .ref tq) X ok_Model hM.1 1 (by decide) k_Model_9 rfl d_Model_expand_133 ?_
              refine lv_iload X.x X.b d_Model_expand_136 (lv_at hl 2 rfl) ?_
              refine lv_iconst (v := 3) X.x X.b d_Model_expand_138 (by decide) ?_
              refine lv_iadd X.x X.b d_Model_expand_139 ?_
              rw [show (0 + 3 : Int32) = 3 from by decide]
              refine m_ild (v := v_) X hM.a1 3 rfl (by omega) (by decide) (show s1 1 3 = v_ from (by rw [hE.2 1 (by decide), hL.2.2.2.2.1])) d_Model_expand_140 ?_
              refine lv_aload_n X.x X.b d_Model_expand_141 rfl (lv_at hl 5 rfl) ?_
              refine m_get (v := .ref tq) X ok_Model hM.1 1 (by decide) k_Model_9 rfl d_Model_expand_142 ?_
              refine lv_iload X.x X.b d_Model_expand_145 (lv_at hl 2 rfl) ?_
              refine lv_iconst (v := 4) X.x X.b d_Model_expand_147 (by decide) ?_
              refine lv_iadd X.x X.b d_Model_expand_148 ?_
              rw [show (0 + 4 : Int32) = 4 from by decide]
              refine m_ild (v := r) X hM.a1 4 rfl (by omega) (by decide) (show s1 1 4 = r from (by rw [hE.2 1 (by decide), hL.2.2.2.2.2])) d_Model_expand_149 ?_
              refine lv_iconst (v := 1) X.x X.b d_Model_expand_150 (by decide) ?_
              refine lv_icmp_ne (tgt := 161) X.x X.b d_Model_expand_151 (by decide) (fun c5 => ?_) (fun c5 => ?_)
              · skip
                refine lv_iconst (v := 0) X.x X.b d_Model_expand_161 (by decide) ?_
                refine lv_iadd X.x X.b d_Model_expand_162 ?_
                rw [show (v_ + 0 : Int32) = v_ from Int32.add_zero _]
                refine lv_istore (lv' := [(11, .int v_), (10, .int 3), (9, .int 0), (8, .int 0), (7, .int 0), (6, .int 0), (0, .ref mo), (1, .ref q2), (2, .ref q7), (3, .ref q12), (4, .int 0), (5, .int 0)]) X.x X.b d_Model_expand_163 hl (by decide) rfl (fun ls hl => ?_)
                refine lv_iinc (v := 1) (lv' := [(5, .int 1), (11, .int v_), (10, .int 3), (9, .int 0), (8, .int 0), (7, .int 0), (6, .int 0), (0, .ref mo), (1, .ref q2), (2, .ref q7), (3, .ref q12), (4, .int 0)]) X.x X.b d_Model_expand_165 hl (k := 11) rfl (by decide) (by decide) rfl (fun ls hl => ?_)
                refine lv_iload X.x X.b d_Model_expand_168 (lv_at hl 0 rfl) ?_
                refine lv_sipush (v := 400) X.x X.b d_Model_expand_170 (by decide) ?_
                refine lv_icmp_gt (tgt := 193) X.x X.b d_Model_expand_173 (by decide) (fun c6 => ?_) (fun c6 => ?_)
                · exact absurd c6 (by decide)
                · skip
                  have c6q := Int32.not_lt.mp c6
                  refine lv_iload X.x X.b d_Model_expand_176 (lv_at hl 2 rfl) ?_
                  refine m_callSP X hS (MP_ans (M_Model_makes l g 3) (show b2i ((3 : Int32) < 8) = 1 from by decide)) s_Model_138 rfl rfl (Nat.le_of_ble_eq_true rfl) hl.1 d_Model_expand_178 (by omega) (by decide) ⟨by omega, by omega⟩ (fun locs hS => ?_)
                  refine lv_if_eq (tgt := 203) X.x X.b d_Model_expand_181 (by decide) (fun c7 => ?_) (fun c7 => ?_)
                  · exact absurd c7 (by decide)
                  · skip
                    refine lv_aload_n X.x X.b d_Model_expand_184 rfl (lv_at hl 7 rfl) ?_
                    refine m_get (v := .int 0) X ok_Model hM.1 5 (by decide) k_Model_132 (congrArg (fun z => some (Value.int z)) (show p1 5 = 0 from (by rw [hp15]))) d_Model_expand_185 ?_
                    refine lv_bipush (v := 120) X.x X.b d_Model_expand_188 (by decide) ?_
                    refine lv_icmp_ne (tgt := 203) X.x X.b d_Model_expand_190 (by decide) (fun c8 => ?_) (fun c8 => ?_)
                    · skip
                      refine lv_iload X.x X.b d_Model_expand_203 (lv_at hl 2 rfl) ?_
                      refine lv_bipush (v := 10) X.x X.b d_Model_expand_205 (by decide) ?_
                      refine lv_icmp_ne (tgt := 259) X.x X.b d_Model_expand_207 (by decide) (fun c9 => ?_) (fun c9 => ?_)
                      · skip
                        refine lv_iload X.x X.b d_Model_expand_259 (lv_at hl 2 rfl) ?_
                        refine lv_bipush (v := 8) X.x X.b d_Model_expand_261 (by decide) ?_
                        refine lv_icmp_ne (tgt := 329) X.x X.b d_Model_expand_263 (by decide) (fun c10 => ?_) (fun c10 => ?_)
                        · skip
                          refine lv_iload X.x X.b d_Model_expand_329 (lv_at hl 2 rfl) ?_
                          refine lv_bipush (v := 9) X.x X.b d_Model_expand_331 (by decide) ?_
                          refine lv_icmp_eq (tgt := 366) X.x X.b d_Model_expand_333 (by decide) (fun c11 => ?_) (fun c11 => ?_)
                          · exact absurd c11 (by decide)
                          · skip
                            refine lv_aload_n X.x X.b d_Model_expand_336 rfl (lv_at hl 7 rfl) ?_
                            refine lv_iload X.x X.b d_Model_expand_337 (lv_at hl 2 rfl) ?_
                            refine lv_aload_n X.x X.b d_Model_expand_339 rfl (lv_at hl 7 rfl) ?_
                            refine m_get (v := .ref tq) X ok_Model hM.1 1 (by decide) k_Model_9 rfl d_Model_expand_340 ?_
                            refine lv_iload X.x X.b d_Model_expand_343 (lv_at hl 4 rfl) ?_
                            refine lv_iconst (v := 1) X.x X.b d_Model_expand_345 (by decide) ?_
                            refine lv_iadd X.x X.b d_Model_expand_346 ?_
                            rw [show (0 + 1 : Int32) = 1 from by decide]
                            refine m_ild (v := x) X hM.a1 1 rfl (by omega) (by decide) (show s1 1 1 = x from (by rw [hE.2 1 (by decide), hL.2.2.1])) d_Model_expand_347 ?_
                            refine lv_aload_n X.x X.b d_Model_expand_348 rfl (lv_at hl 7 rfl) ?_
                            refine m_get (v := .ref tq) X ok_Model hM.1 1 (by decide) k_Model_9 rfl d_Model_expand_349 ?_
                            refine lv_iload X.x X.b d_Model_expand_352 (lv_at hl 4 rfl) ?_
                            refine lv_iconst (v := 2) X.x X.b d_Model_expand_354 (by decide) ?_
                            refine lv_iadd X.x X.b d_Model_expand_355 ?_
                            rw [show (0 + 2 : Int32) = 2 from by decide]
                            refine m_ild (v := y) X hM.a1 2 rfl (by omega) (by decide) (show s1 1 2 = y from (by rw [hE.2 1 (by decide), hL.2.2.2.1])) d_Model_expand_356 ?_
                            refine lv_iload X.x X.b d_Model_expand_357 (lv_at hl 1 rfl) ?_
                            refine lv_iload X.x X.b d_Model_expand_359 (lv_at hl 3 rfl) ?_
                            refine lv_iload X.x X.b d_Model_expand_361 (lv_at hl 11 rfl) ?_
                            have hR := M_Model_take_o (c := 0) l g hM (show p1 5 = 0 from (by rw [hp15])) (by omega) 3 x y v_ 0 0 (by decide) (by decide)
                            refine m_callM X hS hR v_Model_147 hM.1 rfl rfl rfl (Nat.le_of_ble_eq_true rfl) hl.1 d_Model_expand_363 (by omega) (by decide) ⟨by omega, by omega⟩ (fun q z => by have z : mo ≤ q ∧ q < mo + 23 := z; exact ⟨by omega, by omega⟩) (fun H locs hM hfr hS => ?_)
                            have hL2 := hL2.fr hfr (fun z => by have z : mo ≤ q2 ∧ q2 < mo + 23 := z; omega)
                            have hL7 := hL7.fr hfr (fun z => by have z : mo ≤ q7 ∧ q7 < mo + 23 := z; omega)
                            have hL12 := hL12.fr hfr (fun z => by have z : mo ≤ q12 ∧ q12 < mo + 23 := z; omega)
                            have hM : mAt g mo tq (upd p1 5 1) _ H := hM
                            obtain ⟨p_3, ep_3⟩ : ∃ z, z = upd p1 5 1 := ⟨_, rfl⟩
                            rw [← ep_3] at hM
                            obtain ⟨s_4, es_4⟩ : ∃ z, z = itR s1 0 3 x y v_ 0 0 := ⟨_, rfl⟩
                            rw [← es_4] at hM
                            refine lv_goto (tgt := 58) X.x X.b d_Model_expand_366 (by decide) ?_
                            refine lv_iload X.x X.b d_Model_expand_58 (lv_at hl 11 rfl) ?_
                            refine lv_if_lt (tgt := 369) X.x X.b d_Model_expand_60 (by decide) (fun c12 => ?_) (fun c12 => ?_)
                            · exact absurd c12 c2
                            · skip
                              have c12q := Int32.not_lt.mp c12
                              refine lv_aload_n X.x X.b d_Model_expand_63 rfl (lv_at hl 7 rfl) ?_
                              refine m_get (v := .int 0) X ok_Model hM.1 3 (by decide) k_Model_126 (congrArg (fun z => some (Value.int z)) (show p_3 3 = 0 from (by rw [ep_3, upd_mi _ _ _ (show 3 ≠ 5 by decide), hp13]))) d_Model_expand_64 ?_
                              refine lv_if_ne (tgt := 369) X.x X.b d_Model_expand_67 (by decide) (fun c13 => ?_) (fun c13 => ?_)
                              · exact absurd c3 c13
                              · skip
                                refine lv_aload_n X.x X.b d_Model_expand_70 rfl (lv_at hl 8 rfl) ?_
                                refine lv_iload X.x X.b d_Model_expand_71 (lv_at hl 11 rfl) ?_
                                refine m_ild (v := 0) X hL2 0 rfl (by omega) (by decide) (show (fun _ => 0) 0 = 0 from rfl) d_Model_expand_73 ?_
                                refine lv_istore (lv' := [(6, .int 0), (5, .int 1), (11, .int v_), (10, .int 3), (9, .int 0), (8, .int 0), (7, .int 0), (0, .ref mo), (1, .ref q2), (2, .ref q7), (3, .ref q12), (4, .int 0)]) X.x X.b d_Model_expand_74 hl (by decide) rfl (fun ls hl => ?_)
                                refine lv_aload_n X.x X.b d_Model_expand_76 rfl (lv_at hl 9 rfl) ?_
                                refine lv_iload X.x X.b d_Model_expand_77 (lv_at hl 11 rfl) ?_
                                refine m_ild (v := 1) X hL7 0 rfl (by omega) (by decide) (show r_2 0 = 1 from (by rw [er_2, upd_hit])) d_Model_expand_79 ?_
                                refine lv_aload_n X.x X.b d_Model_expand_80 rfl (lv_at hl 7 rfl) ?_
                                refine m_get (v := .ref (mo + 2)) X ok_Model hM.1 2 (by decide) k_Model_13 rfl d_Model_expand_81 ?_
                                refine lv_iload X.x X.b d_Model_expand_84 (lv_at hl 0 rfl) ?_
                                refine m_ild (v := 1) X hM.a2 0 rfl (by omega) (by decide) (show s_4 2 0 = 1 from (by rw [es_4, itR_o s1 0 3 x y v_ 0 0 2 (by decide), hE.2 2 (by decide), hL.1.1])) d_Model_expand_86 ?_
                                refine lv_icmp_ne (tgt := 96) X.x X.b d_Model_expand_87 (by decide) (fun c14 => ?_) (fun c14 => ?_)
                                · exact absurd c14 (by decide)
                                · skip
                                  refine lv_iinc (v := (-1)) (lv' := [(4, .int (-1)), (6, .int 0), (5, .int 1), (11, .int v_), (10, .int 3), (9, .int 0), (8, .int 0), (7, .int 0), (0, .ref mo), (1, .ref q2), (2, .ref q7), (3, .ref q12)]) X.x X.b d_Model_expand_90 hl (k := 11) rfl (by decide) (by decide) rfl (fun ls hl => ?_)
                                  refine lv_goto (tgt := 58) X.x X.b d_Model_expand_93 (by decide) ?_
                                  refine lv_iload X.x X.b d_Model_expand_58 (lv_at hl 0 rfl) ?_
                                  refine lv_if_lt (tgt := 369) X.x X.b d_Model_expand_60 (by decide) (fun c15 => ?_) (fun c15 => ?_)
                                  · skip
                                    have c15q := Int32.not_le.mpr c15
                                    refine lv_aload_n X.x X.b d_Model_expand_369 rfl (lv_at hl 8 rfl) ?_
                                    refine m_get (v := .int 0) X ok_Model hM.1 3 (by decide) k_Model_126 (congrArg (fun z => some (Value.int z)) (show p_3 3 = 0 from (by rw [ep_3, upd_mi _ _ _ (show 3 ≠ 5 by decide), hp13]))) d_Model_expand_370 ?_
                                    refine lv_if_ne (tgt := 387) X.x X.b d_Model_expand_373 (by decide) (fun c16 => ?_) (fun c16 => ?_)
                                    · exact absurd c13 c16
                                    · skip
                                      refine lv_aload_n X.x X.b d_Model_expand_376 rfl (lv_at hl 8 rfl) ?_
                                      refine lv_bipush (v := 6) X.x X.b d_Model_expand_377 (by decide) ?_
                                      refine lv_iconst (v := -1) X.x X.b d_Model_expand_379 (by decide) ?_
                                      refine lv_iconst (v := -1) X.x X.b d_Model_expand_380 (by decide) ?_
                                      refine lv_iconst (v := 0) X.x X.b d_Model_expand_381 (by decide) ?_
                                      refine lv_iconst (v := -1) X.x X.b d_Model_expand_382 (by decide) ?_
                                      refine lv_iconst (v := 0) X.x X.b d_Model_expand_383 (by decide) ?_
                                      have hR := M_Model_item (c := 1) l g hM (show p_3 5 = 1 from (by rw [ep_3, upd_hit])) (by omega) 6 (-1) (-1) 0 (-1) 0
                                      refine m_callM X hS hR v_Model_151 hM.1 rfl rfl rfl (Nat.le_of_ble_eq_true rfl) hl.1 d_Model_expand_384 (by omega) (by decide) ⟨by omega, by omega⟩ (fun q z => by have z : mo ≤ q ∧ q < mo + 23 := z; exact ⟨by omega, by omega⟩) (fun H locs hM hfr hS => ?_)
                                      have hL2 := hL2.fr hfr (fun z => by have z : mo ≤ q2 ∧ q2 < mo + 23 := z; omega)
                                      have hL7 := hL7.fr hfr (fun z => by have z : mo ≤ q7 ∧ q7 < mo + 23 := z; omega)
                                      have hL12 := hL12.fr hfr (fun z => by have z : mo ≤ q12 ∧ q12 < mo + 23 := z; omega)
                                      have hM : mAt g mo tq (upd p_3 5 2) _ H := hM
                                      obtain ⟨p_5, ep_5⟩ : ∃ z, z = upd p_3 5 2 := ⟨_, rfl⟩
                                      rw [← ep_5] at hM
                                      obtain ⟨s_6, es_6⟩ : ∃ z, z = itR s_4 1 6 (-1) (-1) 0 (-1) 0 := ⟨_, rfl⟩
                                      rw [← es_6] at hM
                                      exact m_vret X hS (by omega) (by omega) d_Model_expand_387 rfl ⟨_, _, hM, (by rw [ep_5, upd_mi _ _ _ (show 0 ≠ 5 by decide), ep_3, upd_mi _ _ _ (show 0 ≠ 5 by decide), hp10]), by rw [es_6, itR_o s_4 1 6 (-1) (-1) 0 (-1) 0 2 (by decide), es_4, itR_o s1 0 3 x y v_ 0 0 2 (by decide), hE.2 2 (by decide)], ⟨(by rw [ep_5, upd_mi _ _ _ (show 3 ≠ 5 by decide), ep_3, upd_mi _ _ _ (show 3 ≠ 5 by decide), hp13]), (by rw [ep_5, upd_hit])⟩, (by rw [es_6, itR_ne s_4 1 6 (-1) (-1) 0 (-1) 0 (show (0 : Nat) ≠ 1 by omega) 8, es_4, (itR_at s1 0 3 x y v_ 0 0).1]), (by rw [es_6, itR_ne s_4 1 6 (-1) (-1) 0 (-1) 0 (show (0 : Nat) ≠ 1 by omega) 9, es_4, (itR_at s1 0 3 x y v_ 0 0).2.1]), (by rw [es_6, itR_ne s_4 1 6 (-1) (-1) 0 (-1) 0 (show (0 : Nat) ≠ 1 by omega) 10, es_4, (itR_at s1 0 3 x y v_ 0 0).2.2.1]), (by rw [es_6, (itR_at s_4 1 6 (-1) (-1) 0 (-1) 0).1]), (by rw [es_6, itR_ne s_4 1 6 (-1) (-1) 0 (-1) 0 (show (0 : Nat) ≠ 1 by omega) 11, es_4, (itR_at s1 0 3 x y v_ 0 0).2.2.2.1]), fun j hj => (by rw [es_6, itR_o s_4 1 6 (-1) (-1) 0 (-1) 0 27 (by decide), es_4, itR_o s1 0 3 x y v_ 0 0 27 (by decide), (hE.1 j (by omega)).2])⟩
                                  · exact absurd c15 (by decide)
                        · exact absurd c10 (by decide)
                      · exact absurd c9 (by decide)
                    · exact absurd c8 (by decide)
              · skip
                refine lv_aload_n X.x X.b d_Model_expand_154 rfl (lv_at hl 8 rfl) ?_
                refine lv_iload X.x X.b d_Model_expand_155 (lv_at hl 9 rfl) ?_
                refine m_ild (v := 0) X hL12 0 rfl (by omega) (by decide) (show (fun _ => 0) 0 = 0 from rfl) d_Model_expand_157 ?_
                refine lv_goto (tgt := 162) X.x X.b d_Model_expand_158 (by decide) ?_
                refine lv_iadd X.x X.b d_Model_expand_162 ?_
                rw [show (v_ + 0 : Int32) = v_ from Int32.add_zero _]
                refine lv_istore (lv' := [(11, .int v_), (10, .int 3), (9, .int 0), (8, .int 0), (7, .int 0), (6, .int 0), (0, .ref mo), (1, .ref q2), (2, .ref q7), (3, .ref q12), (4, .int 0), (5, .int 0)]) X.x X.b d_Model_expand_163 hl (by decide) rfl (fun ls hl => ?_)
                refine lv_iinc (v := 1) (lv' := [(5, .int 1), (11, .int v_), (10, .int 3), (9, .int 0), (8, .int 0), (7, .int 0), (6, .int 0), (0, .ref mo), (1, .ref q2), (2, .ref q7), (3, .ref q12), (4, .int 0)]) X.x X.b d_Model_expand_165 hl (k := 11) rfl (by decide) (by decide) rfl (fun ls hl => ?_)
                refine lv_iload X.x X.b d_Model_expand_168 (lv_at hl 0 rfl) ?_
                refine lv_sipush (v := 400) X.x X.b d_Model_expand_170 (by decide) ?_
                refine lv_icmp_gt (tgt := 193) X.x X.b d_Model_expand_173 (by decide) (fun c17 => ?_) (fun c17 => ?_)
                · exact absurd c17 (by decide)
                · skip
                  have c17q := Int32.not_lt.mp c17
                  refine lv_iload X.x X.b d_Model_expand_176 (lv_at hl 2 rfl) ?_
                  refine m_callSP X hS (MP_ans (M_Model_makes l g 3) (show b2i ((3 : Int32) < 8) = 1 from by decide)) s_Model_138 rfl rfl (Nat.le_of_ble_eq_true rfl) hl.1 d_Model_expand_178 (by omega) (by decide) ⟨by omega, by omega⟩ (fun locs hS => ?_)
                  refine lv_if_eq (tgt := 203) X.x X.b d_Model_expand_181 (by decide) (fun c18 => ?_) (fun c18 => ?_)
                  · exact absurd c18 (by decide)
                  · skip
                    refine lv_aload_n X.x X.b d_Model_expand_184 rfl (lv_at hl 7 rfl) ?_
                    refine m_get (v := .int 0) X ok_Model hM.1 5 (by decide) k_Model_132 (congrArg (fun z => some (Value.int z)) (show p1 5 = 0 from (by rw [hp15]))) d_Model_expand_185 ?_
                    refine lv_bipush (v := 120) X.x X.b d_Model_expand_188 (by decide) ?_
                    refine lv_icmp_ne (tgt := 203) X.x X.b d_Model_expand_190 (by decide) (fun c19 => ?_) (fun c19 => ?_)
                    · skip
                      refine lv_iload X.x X.b d_Model_expand_203 (lv_at hl 2 rfl) ?_
                      refine lv_bipush (v := 10) X.x X.b d_Model_expand_205 (by decide) ?_
                      refine lv_icmp_ne (tgt := 259) X.x X.b d_Model_expand_207 (by decide) (fun c20 => ?_) (fun c20 => ?_)
                      · skip
                        refine lv_iload X.x X.b d_Model_expand_259 (lv_at hl 2 rfl) ?_
                        refine lv_bipush (v := 8) X.x X.b d_Model_expand_261 (by decide) ?_
                        refine lv_icmp_ne (tgt := 329) X.x X.b d_Model_expand_263 (by decide) (fun c21 => ?_) (fun c21 => ?_)
                        · skip
                          refine lv_iload X.x X.b d_Model_expand_329 (lv_at hl 2 rfl) ?_
                          refine lv_bipush (v := 9) X.x X.b d_Model_expand_331 (by decide) ?_
                          refine lv_icmp_eq (tgt := 366) X.x X.b d_Model_expand_333 (by decide) (fun c22 => ?_) (fun c22 => ?_)
                          · exact absurd c22 (by decide)
                          · skip
                            refine lv_aload_n X.x X.b d_Model_expand_336 rfl (lv_at hl 7 rfl) ?_
                            refine lv_iload X.x X.b d_Model_expand_337 (lv_at hl 2 rfl) ?_
                            refine lv_aload_n X.x X.b d_Model_expand_339 rfl (lv_at hl 7 rfl) ?_
                            refine m_get (v := .ref tq) X ok_Model hM.1 1 (by decide) k_Model_9 rfl d_Model_expand_340 ?_
                            refine lv_iload X.x X.b d_Model_expand_343 (lv_at hl 4 rfl) ?_
                            refine lv_iconst (v := 1) X.x X.b d_Model_expand_345 (by decide) ?_
                            refine lv_iadd X.x X.b d_Model_expand_346 ?_
                            rw [show (0 + 1 : Int32) = 1 from by decide]
                            refine m_ild (v := x) X hM.a1 1 rfl (by omega) (by decide) (show s1 1 1 = x from (by rw [hE.2 1 (by decide), hL.2.2.1])) d_Model_expand_347 ?_
                            refine lv_aload_n X.x X.b d_Model_expand_348 rfl (lv_at hl 7 rfl) ?_
                            refine m_get (v := .ref tq) X ok_Model hM.1 1 (by decide) k_Model_9 rfl d_Model_expand_349 ?_
                            refine lv_iload X.x X.b d_Model_expand_352 (lv_at hl 4 rfl) ?_
                            refine lv_iconst (v := 2) X.x X.b d_Model_expand_354 (by decide) ?_
                            refine lv_iadd X.x X.b d_Model_expand_355 ?_
                            rw [show (0 + 2 : Int32) = 2 from by decide]
                            refine m_ild (v := y) X hM.a1 2 rfl (by omega) (by decide) (show s1 1 2 = y from (by rw [hE.2 1 (by decide), hL.2.2.2.1])) d_Model_expand_356 ?_
                            refine lv_iload X.x X.b d_Model_expand_357 (lv_at hl 1 rfl) ?_
                            refine lv_iload X.x X.b d_Model_expand_359 (lv_at hl 3 rfl) ?_
                            refine lv_iload X.x X.b d_Model_expand_361 (lv_at hl 11 rfl) ?_
                            have hR := M_Model_take_o (c := 0) l g hM (show p1 5 = 0 from (by rw [hp15])) (by omega) 3 x y v_ 0 0 (by decide) (by decide)
                            refine m_callM X hS hR v_Model_147 hM.1 rfl rfl rfl (Nat.le_of_ble_eq_true rfl) hl.1 d_Model_expand_363 (by omega) (by decide) ⟨by omega, by omega⟩ (fun q z => by have z : mo ≤ q ∧ q < mo + 23 := z; exact ⟨by omega, by omega⟩) (fun H locs hM hfr hS => ?_)
                            have hL2 := hL2.fr hfr (fun z => by have z : mo ≤ q2 ∧ q2 < mo + 23 := z; omega)
                            have hL7 := hL7.fr hfr (fun z => by have z : mo ≤ q7 ∧ q7 < mo + 23 := z; omega)
                            have hL12 := hL12.fr hfr (fun z => by have z : mo ≤ q12 ∧ q12 < mo + 23 := z; omega)
                            have hM : mAt g mo tq (upd p1 5 1) _ H := hM
                            obtain ⟨p_7, ep_7⟩ : ∃ z, z = upd p1 5 1 := ⟨_, rfl⟩
                            rw [← ep_7] at hM
                            obtain ⟨s_8, es_8⟩ : ∃ z, z = itR s1 0 3 x y v_ 0 0 := ⟨_, rfl⟩
                            rw [← es_8] at hM
                            refine lv_goto (tgt := 58) X.x X.b d_Model_expand_366 (by decide) ?_
                            refine lv_iload X.x X.b d_Model_expand_58 (lv_at hl 11 rfl) ?_
                            refine lv_if_lt (tgt := 369) X.x X.b d_Model_expand_60 (by decide) (fun c23 => ?_) (fun c23 => ?_)
                            · exact absurd c23 c2
                            · skip
                              have c23q := Int32.not_lt.mp c23
                              refine lv_aload_n X.x X.b d_Model_expand_63 rfl (lv_at hl 7 rfl) ?_
                              refine m_get (v := .int 0) X ok_Model hM.1 3 (by decide) k_Model_126 (congrArg (fun z => some (Value.int z)) (show p_7 3 = 0 from (by rw [ep_7, upd_mi _ _ _ (show 3 ≠ 5 by decide), hp13]))) d_Model_expand_64 ?_
                              refine lv_if_ne (tgt := 369) X.x X.b d_Model_expand_67 (by decide) (fun c24 => ?_) (fun c24 => ?_)
                              · exact absurd c3 c24
                              · skip
                                refine lv_aload_n X.x X.b d_Model_expand_70 rfl (lv_at hl 8 rfl) ?_
                                refine lv_iload X.x X.b d_Model_expand_71 (lv_at hl 11 rfl) ?_
                                refine m_ild (v := 0) X hL2 0 rfl (by omega) (by decide) (show (fun _ => 0) 0 = 0 from rfl) d_Model_expand_73 ?_
                                refine lv_istore (lv' := [(6, .int 0), (5, .int 1), (11, .int v_), (10, .int 3), (9, .int 0), (8, .int 0), (7, .int 0), (0, .ref mo), (1, .ref q2), (2, .ref q7), (3, .ref q12), (4, .int 0)]) X.x X.b d_Model_expand_74 hl (by decide) rfl (fun ls hl => ?_)
                                refine lv_aload_n X.x X.b d_Model_expand_76 rfl (lv_at hl 9 rfl) ?_
                                refine lv_iload X.x X.b d_Model_expand_77 (lv_at hl 11 rfl) ?_
                                refine m_ild (v := 1) X hL7 0 rfl (by omega) (by decide) (show r_2 0 = 1 from (by rw [er_2, upd_hit])) d_Model_expand_79 ?_
                                refine lv_aload_n X.x X.b d_Model_expand_80 rfl (lv_at hl 7 rfl) ?_
                                refine m_get (v := .ref (mo + 2)) X ok_Model hM.1 2 (by decide) k_Model_13 rfl d_Model_expand_81 ?_
                                refine lv_iload X.x X.b d_Model_expand_84 (lv_at hl 0 rfl) ?_
                                refine m_ild (v := 1) X hM.a2 0 rfl (by omega) (by decide) (show s_8 2 0 = 1 from (by rw [es_8, itR_o s1 0 3 x y v_ 0 0 2 (by decide), hE.2 2 (by decide), hL.1.1])) d_Model_expand_86 ?_
                                refine lv_icmp_ne (tgt := 96) X.x X.b d_Model_expand_87 (by decide) (fun c25 => ?_) (fun c25 => ?_)
                                · exact absurd c25 (by decide)
                                · skip
                                  refine lv_iinc (v := (-1)) (lv' := [(4, .int (-1)), (6, .int 0), (5, .int 1), (11, .int v_), (10, .int 3), (9, .int 0), (8, .int 0), (7, .int 0), (0, .ref mo), (1, .ref q2), (2, .ref q7), (3, .ref q12)]) X.x X.b d_Model_expand_90 hl (k := 11) rfl (by decide) (by decide) rfl (fun ls hl => ?_)
                                  refine lv_goto (tgt := 58) X.x X.b d_Model_expand_93 (by decide) ?_
                                  refine lv_iload X.x X.b d_Model_expand_58 (lv_at hl 0 rfl) ?_
                                  refine lv_if_lt (tgt := 369) X.x X.b d_Model_expand_60 (by decide) (fun c26 => ?_) (fun c26 => ?_)
                                  · skip
                                    have c26q := Int32.not_le.mpr c26
                                    refine lv_aload_n X.x X.b d_Model_expand_369 rfl (lv_at hl 8 rfl) ?_
                                    refine m_get (v := .int 0) X ok_Model hM.1 3 (by decide) k_Model_126 (congrArg (fun z => some (Value.int z)) (show p_7 3 = 0 from (by rw [ep_7, upd_mi _ _ _ (show 3 ≠ 5 by decide), hp13]))) d_Model_expand_370 ?_
                                    refine lv_if_ne (tgt := 387) X.x X.b d_Model_expand_373 (by decide) (fun c27 => ?_) (fun c27 => ?_)
                                    · exact absurd c24 c27
                                    · skip
                                      refine lv_aload_n X.x X.b d_Model_expand_376 rfl (lv_at hl 8 rfl) ?_
                                      refine lv_bipush (v := 6) X.x X.b d_Model_expand_377 (by decide) ?_
                                      refine lv_iconst (v := -1) X.x X.b d_Model_expand_379 (by decide) ?_
                                      refine lv_iconst (v := -1) X.x X.b d_Model_expand_380 (by decide) ?_
                                      refine lv_iconst (v := 0) X.x X.b d_Model_expand_381 (by decide) ?_
                                      refine lv_iconst (v := -1) X.x X.b d_Model_expand_382 (by decide) ?_
                                      refine lv_iconst (v := 0) X.x X.b d_Model_expand_383 (by decide) ?_
                                      have hR := M_Model_item (c := 1) l g hM (show p_7 5 = 1 from (by rw [ep_7, upd_hit])) (by omega) 6 (-1) (-1) 0 (-1) 0
                                      refine m_callM X hS hR v_Model_151 hM.1 rfl rfl rfl (Nat.le_of_ble_eq_true rfl) hl.1 d_Model_expand_384 (by omega) (by decide) ⟨by omega, by omega⟩ (fun q z => by have z : mo ≤ q ∧ q < mo + 23 := z; exact ⟨by omega, by omega⟩) (fun H locs hM hfr hS => ?_)
                                      have hL2 := hL2.fr hfr (fun z => by have z : mo ≤ q2 ∧ q2 < mo + 23 := z; omega)
                                      have hL7 := hL7.fr hfr (fun z => by have z : mo ≤ q7 ∧ q7 < mo + 23 := z; omega)
                                      have hL12 := hL12.fr hfr (fun z => by have z : mo ≤ q12 ∧ q12 < mo + 23 := z; omega)
                                      have hM : mAt g mo tq (upd p_7 5 2) _ H := hM
                                      obtain ⟨p_9, ep_9⟩ : ∃ z, z = upd p_7 5 2 := ⟨_, rfl⟩
                                      rw [← ep_9] at hM
                                      obtain ⟨s_10, es_10⟩ : ∃ z, z = itR s_8 1 6 (-1) (-1) 0 (-1) 0 := ⟨_, rfl⟩
                                      rw [← es_10] at hM
                                      exact m_vret X hS (by omega) (by omega) d_Model_expand_387 rfl ⟨_, _, hM, (by rw [ep_9, upd_mi _ _ _ (show 0 ≠ 5 by decide), ep_7, upd_mi _ _ _ (show 0 ≠ 5 by decide), hp10]), by rw [es_10, itR_o s_8 1 6 (-1) (-1) 0 (-1) 0 2 (by decide), es_8, itR_o s1 0 3 x y v_ 0 0 2 (by decide), hE.2 2 (by decide)], ⟨(by rw [ep_9, upd_mi _ _ _ (show 3 ≠ 5 by decide), ep_7, upd_mi _ _ _ (show 3 ≠ 5 by decide), hp13]), (by rw [ep_9, upd_hit])⟩, (by rw [es_10, itR_ne s_8 1 6 (-1) (-1) 0 (-1) 0 (show (0 : Nat) ≠ 1 by omega) 8, es_8, (itR_at s1 0 3 x y v_ 0 0).1]), (by rw [es_10, itR_ne s_8 1 6 (-1) (-1) 0 (-1) 0 (show (0 : Nat) ≠ 1 by omega) 9, es_8, (itR_at s1 0 3 x y v_ 0 0).2.1]), (by rw [es_10, itR_ne s_8 1 6 (-1) (-1) 0 (-1) 0 (show (0 : Nat) ≠ 1 by omega) 10, es_8, (itR_at s1 0 3 x y v_ 0 0).2.2.1]), (by rw [es_10, (itR_at s_8 1 6 (-1) (-1) 0 (-1) 0).1]), (by rw [es_10, itR_ne s_8 1 6 (-1) (-1) 0 (-1) 0 (show (0 : Nat) ≠ 1 by omega) 11, es_8, (itR_at s1 0 3 x y v_ 0 0).2.2.2.1]), fun j hj => (by rw [es_10, itR_o s_8 1 6 (-1) (-1) 0 (-1) 0 27 (by decide), es_8, itR_o s1 0 3 x y v_ 0 0 27 (by decide), (hE.1 j (by omega)).2])⟩
                                  · exact absurd c26 (by decide)
                        · exact absurd c21 (by decide)
                      · exact absurd c20 (by decide)
                    · exact absurd c19 (by decide)
            · exact absurd c4 (by decide)
      · exact absurd ((nI_ltI (a := i) (b := 8) (by omega) (by omega)).mp (Int32.not_le.mp c1)) (by omega)
    | succ n ih =>
      intro i s1 hin hi5 hE H locs ls hM hL2 hL7 hL12 hS hl
      refine lv_iload X.x X.b d_Model_expand_29 (lv_at hl 6 rfl) ?_
      refine lv_bipush (v := 8) X.x X.b d_Model_expand_31 (by decide) ?_
      refine lv_icmp_ge (tgt := 58) X.x X.b d_Model_expand_33 (by decide) (fun c28 => ?_) (fun c28 => ?_)
      · exact absurd ((nI_leI (a := 8) (b := i) (by omega) (by omega)).mp c28) (by omega)
      · skip
        have c28q := Int32.not_le.mp c28
        refine lv_aload_n X.x X.b d_Model_expand_36 rfl (lv_at hl 0 rfl) ?_
        refine m_get (v := .ref (mo + 20)) X ok_Model hM.1 25 (by decide) k_Model_68 rfl d_Model_expand_37 ?_
        refine lv_iload X.x X.b d_Model_expand_40 (lv_at hl 6 rfl) ?_
        refine lv_iconst (v := 0) X.x X.b d_Model_expand_42 (by decide) ?_
        refine m_ist X hS (Or.inl ⟨by omega, by omega⟩) hM.a25 i rfl (by omega) (by decide) d_Model_expand_43 (fun H locs hp hcg hS => ?_)
        have hM := hM.s25 hp hcg
        obtain ⟨s_11, es_11⟩ : ∃ z, z = updR s1 25 (upd (s1 25) i 0) := ⟨_, rfl⟩
        rw [← es_11] at hM
        have hL2 := hL2.off hcg (by omega)
        have hL7 := hL7.off hcg (by omega)
        have hL12 := hL12.off hcg (by omega)
        refine lv_aload_n X.x X.b d_Model_expand_44 rfl (lv_at hl 0 rfl) ?_
        refine m_get (v := .ref (mo + 22)) X ok_Model hM.1 27 (by decide) k_Model_74 rfl d_Model_expand_45 ?_
        refine lv_iload X.x X.b d_Model_expand_48 (lv_at hl 6 rfl) ?_
        refine lv_iconst (v := -1) X.x X.b d_Model_expand_50 (by decide) ?_
        refine m_ist X hS (Or.inl ⟨by omega, by omega⟩) hM.a27 i rfl (by omega) (by decide) d_Model_expand_51 (fun H locs hp hcg hS => ?_)
        have hM := hM.s27 hp hcg
        obtain ⟨s_12, es_12⟩ : ∃ z, z = updR s_11 27 (upd (s_11 27) i (-1)) := ⟨_, rfl⟩
        rw [← es_12] at hM
        have hL2 := hL2.off hcg (by omega)
        have hL7 := hL7.off hcg (by omega)
        have hL12 := hL12.off hcg (by omega)
        refine lv_iinc (v := nI (i + 1)) (lv' := [(6, .int (nI (i + 1))), (0, .ref mo), (1, .ref q2), (2, .ref q7), (3, .ref q12), (4, .int 0), (5, .int 0)]) X.x X.b d_Model_expand_52 hl (k := 6) rfl (nI_1 i) (by decide) rfl (fun ls hl => ?_)
        refine lv_goto (tgt := 29) X.x X.b d_Model_expand_55 (by decide) ?_
        exact ih (i + 1) s_12 (by omega) (by omega) (⟨fun j hj => (Nat.lt_or_ge j i).elim (fun z => ⟨by rw [es_12, updR_n2 _ _ _ _ (show j ≠ i by omega), es_11, updR_n2 _ _ _ _ (show j ≠ i by omega)]; exact (hE.1 j z).1, by rw [es_12, updR_n2 _ _ _ _ (show j ≠ i by omega), es_11, updR_n2 _ _ _ _ (show j ≠ i by omega)]; exact (hE.1 j z).2⟩) (fun z => ⟨by rw [show j = i by omega, es_12, updR_mf _ _ _ (show 25 ≠ 27 by decide), es_11, updR_hit], by rw [show j = i by omega, es_12, updR_hit]⟩), by rw [es_12, es_11]; exact (hE.2.up _ _ (by decide)).up _ _ (by decide)⟩) _ _ _ hM hL2 hL7 hL12 hS (lv_sub hl [1, 2, 3, 4, 5, 6, 0] rfl)
  exact lp 8 0 s0 (by omega) (by omega) (⟨fun j hj => absurd hj (Nat.not_lt_zero j), same.rf _ _⟩) _ _ _ hM hL2 hL7 hL12 hS (lv_sub hl [6, 5, 4, 3, 2, 1, 0] rfl)
set_option maxRecDepth 100000 in
set_option maxHeartbeats 4000000 in
theorem M_Model_expand_L4 (l : Launch) (g : GG) {mo tq : Nat} {p0 : Nat → Int32} {s0 : Nat → Nat → Int32} {H0 : Heap} (hM : mAt g mo tq p0 s0 H0) {x y v_ r : Int32} (hL : oneL 4 x y v_ r s0) (hf3 : p0 3 = 0) : MM l y_Model_expand c_Model_expand 13 none 3 3 18 g H0 [.ref mo] (fun q => mo ≤ q ∧ q < mo + 23) (none) (fun H1 => ∃ p s, mAt g mo tq p s H1 ∧ p 0 = p0 0 ∧ s 2 = s0 2 ∧ (p 3 = 0 ∧ p 5 = 2) ∧ s 8 0 = 4 ∧ s 9 0 = x ∧ s 10 0 = y ∧ s 8 1 = 6 ∧ s 11 0 = v_ ∧ ∀ j, j < 8 → s 27 j = -1) := by
  refine MM.of (by decide +kernel) (Nat.le_of_ble_eq_true rfl) ?_
  intro p e s m below meth cd X hH ls hl
  have X : CX g p s m _ meth cd c_Model_expand 13 none R_Model _ := X
  have hl : lv_has ls 13 [(0, .ref mo)] := hl
  have hS : va_S (AA (fun q => mo ≤ q ∧ q < mo + 23) H0) H0 H0 [] := va_S.rf
  have hlt0 := hM.lt
  have htq0 := hM.tq
  refine lv_bipush (v := 6) X.x X.b d_Model_expand_0 (by decide) ?_
  obtain ⟨q2, hq2⟩ := sz_of hS
  have hlt2 := hM.lt
  have hsz2 := hS.1
  refine m_newI X hS hq2 6 (by decide) (by decide) (by decide) (by omega) (by omega) d_Model_expand_2 (fun H hL2 hgr hS hz2 => ?_)
  have hfr := fr.of_grow (A := noA) hgr
  have hM := hM.frame hfr (fun q z => z.elim)
  refine lv_astore_n (lv' := [(1, .ref q2), (0, .ref mo)]) X.x X.b d_Model_expand_4 rfl hl (by decide) rfl (fun ls hl => ?_)
  refine lv_bipush (v := 6) X.x X.b d_Model_expand_5 (by decide) ?_
  obtain ⟨q7, hq7⟩ := sz_of hS
  have hlt7 := hM.lt
  have hsz7 := hS.1
  refine m_newI X hS hq7 6 (by decide) (by decide) (by decide) (by omega) (by omega) d_Model_expand_7 (fun H hL7 hgr hS hz2 => ?_)
  have hfr := fr.of_grow (A := noA) hgr
  have hM := hM.frame hfr (fun q z => z.elim)
  have hL2 := hL2.fr hfr (fun z => z)
  refine lv_astore_n (lv' := [(2, .ref q7), (1, .ref q2), (0, .ref mo)]) X.x X.b d_Model_expand_9 rfl hl (by decide) rfl (fun ls hl => ?_)
  refine lv_bipush (v := 6) X.x X.b d_Model_expand_10 (by decide) ?_
  obtain ⟨q12, hq12⟩ := sz_of hS
  have hlt12 := hM.lt
  have hsz12 := hS.1
  refine m_newI X hS hq12 6 (by decide) (by decide) (by decide) (by omega) (by omega) d_Model_expand_12 (fun H hL12 hgr hS hz2 => ?_)
  have hfr := fr.of_grow (A := noA) hgr
  have hM := hM.frame hfr (fun q z => z.elim)
  have hL2 := hL2.fr hfr (fun z => z)
  have hL7 := hL7.fr hfr (fun z => z)
  refine lv_astore_n (lv' := [(3, .ref q12), (2, .ref q7), (1, .ref q2), (0, .ref mo)]) X.x X.b d_Model_expand_14 rfl hl (by decide) rfl (fun ls hl => ?_)
  refine lv_iconst (v := 0) X.x X.b d_Model_expand_15 (by decide) ?_
  refine lv_istore (lv' := [(4, .int 0), (3, .ref q12), (2, .ref q7), (1, .ref q2), (0, .ref mo)]) X.x X.b d_Model_expand_16 hl (by decide) rfl (fun ls hl => ?_)
  refine lv_iconst (v := 0) X.x X.b d_Model_expand_18 (by decide) ?_
  refine lv_istore (lv' := [(5, .int 0), (4, .int 0), (3, .ref q12), (2, .ref q7), (1, .ref q2), (0, .ref mo)]) X.x X.b d_Model_expand_19 hl (by decide) rfl (fun ls hl => ?_)
  refine lv_aload_n X.x X.b d_Model_expand_21 rfl (lv_at hl 5 rfl) ?_
  refine lv_iconst (v := 0) X.x X.b d_Model_expand_22 (by decide) ?_
  refine m_put X ok_Model hS (Or.inl ⟨by omega, by omega⟩) hM.1 5 (by decide) k_Model_132 rfl (ok_Model.2.2.1 _ (by decide)) rfl rfl (Nat.le_of_ble_eq_true rfl) d_Model_expand_23 (fun H locs hp hcg hS => ?_)
  have hM := hM.f5 hp hcg
  obtain ⟨p_1, ep_1⟩ : ∃ z, z = upd p0 5 0 := ⟨_, rfl⟩
  rw [← ep_1] at hM
  have hL2 := hL2.off hcg (by omega)
  have hL7 := hL7.off hcg (by omega)
  have hL12 := hL12.off hcg (by omega)
  obtain ⟨p1, hp1⟩ : ∃ z, z = p_1 := ⟨_, rfl⟩
  rw [← hp1] at hM
  have hp1 : p1 = upd p0 5 0 := by rw [hp1, ep_1]
  have hp15 : p1 5 = 0 := by rw [hp1]; exact upd_hit _ _ _
  have hp13 : p1 3 = 0 := by rw [hp1]; exact (upd_mi _ _ _ (by decide)).trans hf3
  have hp10 : p1 0 = p0 0 := by rw [hp1]; exact upd_mi _ _ _ (by decide)
  refine lv_iconst (v := 0) X.x X.b d_Model_expand_26 (by decide) ?_
  refine lv_istore (lv' := [(6, .int 0), (5, .int 0), (4, .int 0), (3, .ref q12), (2, .ref q7), (1, .ref q2), (0, .ref mo)]) X.x X.b d_Model_expand_27 hl (by decide) rfl (fun ls hl => ?_)
  have lp : ∀ (n i : Nat) (s1 : Nat → Nat → Int32), n = 8 - i → i < 5000 → ((∀ j, j < i → s1 25 j = 0 ∧ s1 27 j = -1) ∧ same [25, 27] s0 s1) → ∀ (H : Heap) (locs : List Loc) (ls : Array Slot), mAt g mo tq p1 s1 H → pt g q2 (.inl (g.2 0, 6, .inl (fun _ => 0))) H → pt g q7 (.inl (g.2 0, 6, .inl (fun _ => 0))) H → pt g q12 (.inl (g.2 0, 6, .inl (fun _ => 0))) H → va_S (AA (fun q => mo ≤ q ∧ q < mo + 23) H0) H0 H locs → lv_has ls 13 [(0, .ref mo), (1, .ref q2), (2, .ref q7), (3, .ref q12), (4, .int 0), (5, .int 0), (6, .int (nI i))] → W p l e (rmK 3 3 18) s m ([.ref mo] : List Value).toArray below meth cd H locs 3 18 (MQ below (QM (none) (fun H1 => ∃ p s, mAt g mo tq p s H1 ∧ p 0 = p0 0 ∧ s 2 = s0 2 ∧ (p 3 = 0 ∧ p 5 = 2) ∧ s 8 0 = 4 ∧ s 9 0 = x ∧ s 10 0 = y ∧ s 8 1 = 6 ∧ s 11 0 = v_ ∧ ∀ j, j < 8 → s 27 j = -1) (fun q => mo ≤ q ∧ q < mo + 23) H0) ([.ref mo] : List Value).toArray s 3 18 (AA (fun q => mo ≤ q ∧ q < mo + 23) H0)) (F0 m 29 ls []) := by
    intro n
    induction n with
    | zero =>
      intro i s1 hin hi5 hE H locs ls hM hL2 hL7 hL12 hS hl
      refine lv_iload X.x X.b d_Model_expand_29 (lv_at hl 6 rfl) ?_
      refine lv_bipush (v := 8) X.x X.b d_Model_expand_31 (by decide) ?_
      refine lv_icmp_ge (tgt := 58) X.x X.b d_Model_expand_33 (by decide) (fun c1 => ?_) (fun c1 => ?_)
      · skip
        have c1q := Int32.not_lt.mpr c1
        refine lv_iload X.x X.b d_Model_expand_58 (lv_at hl 4 rfl) ?_
        refine lv_if_lt (tgt := 369) X.x X.b d_Model_expand_60 (by decide) (fun c2 => ?_) (fun c2 => ?_)
        · exact absurd c2 (by decide)
        · skip
          have c2q := Int32.not_lt.mp c2
          refine lv_aload_n X.x X.b d_Model_expand_63 rfl (lv_at hl 0 rfl) ?_
          refine m_get (v := .int 0) X ok_Model hM.1 3 (by decide) k_Model_126 (congrArg (fun z => some (Value.int z)) (show p1 3 = 0 from (by rw [hp13]))) d_Model_expand_64 ?_
          refine lv_if_ne (tgt := 369) X.x X.b d_Model_expand_67 (by decide) (fun c3 => ?_) (fun c3 => ?_)
          · exact absurd c3 (by decide)
          · skip
            refine lv_aload_n X.x X.b d_Model_expand_70 rfl (lv_at hl 1 rfl) ?_
            refine lv_iload X.x X.b d_Model_expand_71 (lv_at hl 4 rfl) ?_
            refine m_ild (v := 0) X hL2 0 rfl (by omega) (by decide) (show (fun _ => 0) 0 = 0 from rfl) d_Model_expand_73 ?_
            refine lv_istore (lv' := [(6, .int 0), (0, .ref mo), (1, .ref q2), (2, .ref q7), (3, .ref q12), (4, .int 0), (5, .int 0)]) X.x X.b d_Model_expand_74 hl (by decide) rfl (fun ls hl => ?_)
            refine lv_aload_n X.x X.b d_Model_expand_76 rfl (lv_at hl 3 rfl) ?_
            refine lv_iload X.x X.b d_Model_expand_77 (lv_at hl 5 rfl) ?_
            refine m_ild (v := 0) X hL7 0 rfl (by omega) (by decide) (show (fun _ => 0) 0 = 0 from rfl) d_Model_expand_79 ?_
            refine lv_aload_n X.x X.b d_Model_expand_80 rfl (lv_at hl 1 rfl) ?_
            refine m_get (v := .ref (mo + 2)) X ok_Model hM.1 2 (by decide) k_Model_13 rfl d_Model_expand_81 ?_
            refine lv_iload X.x X.b d_Model_expand_84 (lv_at hl 0 rfl) ?_
            refine m_ild (v := 1) X hM.a2 0 rfl (by omega) (by decide) (show s1 2 0 = 1 from (by rw [hE.2 2 (by decide), hL.1.1])) d_Model_expand_86 ?_
            refine lv_icmp_ne (tgt := 96) X.x X.b d_Model_expand_87 (by decide) (fun c4 => ?_) (fun c4 => ?_)
            · skip
              refine lv_aload_n X.x X.b d_Model_expand_96 rfl (lv_at hl 3 rfl) ?_
              refine lv_iload X.x X.b d_Model_expand_97 (lv_at hl 5 rfl) ?_
              refine lv_dup2_11 X.x X.b d_Model_expand_99 rfl rfl ?_
              refine m_ild (v := 0) X hL7 0 rfl (by omega) (by decide) (show (fun _ => 0) 0 = 0 from rfl) d_Model_expand_100 ?_
              refine lv_dup_x2 X.x X.b d_Model_expand_101 rfl rfl rfl ?_
              refine lv_iconst (v := 1) X.x X.b d_Model_expand_102 (by decide) ?_
              refine lv_iadd X.x X.b d_Model_expand_103 ?_
              rw [show (0 + 1 : Int32) = 1 from by decide]
              refine m_ist X hS (Or.inr (by omega)) hL7 0 rfl (by omega) (by decide) d_Model_expand_104 (fun H locs hp hcg hS => ?_)
              have hL7 := hp
              obtain ⟨r_2, er_2⟩ : ∃ z, z = upd (fun _ => 0) 0 1 := ⟨_, rfl⟩
              rw [← er_2] at hL7
              have hM := hM.frame (fr.of_chg (A := fun q => q = q7) hcg rfl) (fun q z => by have z : q = q7 := z; have := hM.tq; omega)
              have hL2 := hL2.off hcg (by omega)
              have hL12 := hL12.off hcg (by omega)
              refine lv_istore (lv' := [(7, .int 0), (6, .int 0), (0, .ref mo), (1, .ref q2), (2, .ref q7), (3, .ref q12), (4, .int 0), (5, .int 0)]) X.x X.b d_Model_expand_105 hl (by decide) rfl (fun ls hl => ?_)
              refine lv_iload X.x X.b d_Model_expand_107 (lv_at hl 1 rfl) ?_
              refine lv_iload X.x X.b d_Model_expand_109 (lv_at hl 0 rfl) ?_
              refine m_callSP X hS (MP_ans (M_Model_at l g 0 0) (show (((0 : Int32) * 64 + 0) * 5) = 0 from by decide)) s_Model_96 rfl rfl (Nat.le_of_ble_eq_true rfl) hl.1 d_Model_expand_111 (by omega) (by decide) ⟨by omega, by omega⟩ (fun locs hS => ?_)
              refine lv_istore (lv' := [(8, .int 0), (7, .int 0), (6, .int 0), (0, .ref mo), (1, .ref q2), (2, .ref q7), (3, .ref q12), (4, .int 0), (5, .int 0)]) X.x X.b d_Model_expand_114 hl (by decide) rfl (fun ls hl => ?_)
              refine lv_aload_n X.x X.b d_Model_expand_116 rfl (lv_at hl 5 rfl) ?_
              refine lv_iconst (v := 0) X.x X.b d_Model_expand_117 (by decide) ?_
              refine m_ild (v := 1) X hL7 0 rfl (by omega) (by decide) (show r_2 0 = 1 from (by rw [er_2, upd_hit])) d_Model_expand_118 ?_
              refine lv_iconst (v := 1) X.x X.b d_Model_expand_119 (by decide) ?_
              refine lv_isub X.x X.b d_Model_expand_120 ?_
              rw [show (1 - 1 : Int32) = 0 from by decide]
              refine lv_istore (lv' := [(9, .int 0), (8, .int 0), (7, .int 0), (6, .int 0), (0, .ref mo), (1, .ref q2), (2, .ref q7), (3, .ref q12), (4, .int 0), (5, .int 0)]) X.x X.b d_Model_expand_121 hl (by decide) rfl (fun ls hl => ?_)
              refine lv_aload_n X.x X.b d_Model_expand_123 rfl (lv_at hl 4 rfl) ?_
              refine m_get (v := .ref tq) X ok_Model hM.1 1 (by decide) k_Model_9 rfl d_Model_expand_124 ?_
              refine lv_iload X.x X.b d_Model_expand_127 (lv_at hl 1 rfl) ?_
              refine m_ild (v := 4) X hM.a1 0 rfl (by omega) (by decide) (show s1 1 0 = 4 from (by rw [hE.2 1 (by decide), hL.2.1])) d_Model_expand_129 ?_
              refine lv_istore (lv' := [(10, .int 4), (9, .int 0), (8, .int 0), (7, .int 0), (6, .int 0), (0, .ref mo), (1, .ref q2), (2, .ref q7), (3, .ref q12), (4, .int 0), (5, .int 0)]) X.x X.b d_Model_expand_130 hl (by decide) rfl (fun ls hl => ?_)
              refine lv_aload_n X.x X.b d_Model_expand_132 rfl (lv_at hl 5 rfl) ?_
              refine m_get (v := .ref tq) X ok_Model hM.1 1 (by decide) k_Model_9 rfl d_Model_expand_133 ?_
              refine lv_iload X.x X.b d_Model_expand_136 (lv_at hl 2 rfl) ?_
              refine lv_iconst (v := 3) X.x X.b d_Model_expand_138 (by decide) ?_
              refine lv_iadd X.x X.b d_Model_expand_139 ?_
              rw [show (0 + 3 : Int32) = 3 from by decide]
              refine m_ild (v := v_) X hM.a1 3 rfl (by omega) (by decide) (show s1 1 3 = v_ from (by rw [hE.2 1 (by decide), hL.2.2.2.2.1])) d_Model_expand_140 ?_
              refine lv_aload_n X.x X.b d_Model_expand_141 rfl (lv_at hl 5 rfl) ?_
              refine m_get (v := .ref tq) X ok_Model hM.1 1 (by decide) k_Model_9 rfl d_Model_expand_142 ?_
              refine lv_iload X.x X.b d_Model_expand_145 (lv_at hl 2 rfl) ?_
              refine lv_iconst (v := 4) X.x X.b d_Model_expand_147 (by decide) ?_
              refine lv_iadd X.x X.b d_Model_expand_148 ?_
              rw [show (0 + 4 : Int32) = 4 from by decide]
              refine m_ild (v := r) X hM.a1 4 rfl (by omega) (by decide) (show s1 1 4 = r from (by rw [hE.2 1 (by decide), hL.2.2.2.2.2])) d_Model_expand_149 ?_
              refine lv_iconst (v := 1) X.x X.b d_Model_expand_150 (by decide) ?_
              refine lv_icmp_ne (tgt := 161) X.x X.b d_Model_expand_151 (by decide) (fun c5 => ?_) (fun c5 => ?_)
              · skip
                refine lv_iconst (v := 0) X.x X.b d_Model_expand_161 (by decide) ?_
                refine lv_iadd X.x X.b d_Model_expand_162 ?_
                rw [show (v_ + 0 : Int32) = v_ from Int32.add_zero _]
                refine lv_istore (lv' := [(11, .int v_), (10, .int 4), (9, .int 0), (8, .int 0), (7, .int 0), (6, .int 0), (0, .ref mo), (1, .ref q2), (2, .ref q7), (3, .ref q12), (4, .int 0), (5, .int 0)]) X.x X.b d_Model_expand_163 hl (by decide) rfl (fun ls hl => ?_)
                refine lv_iinc (v := 1) (lv' := [(5, .int 1), (11, .int v_), (10, .int 4), (9, .int 0), (8, .int 0), (7, .int 0), (6, .int 0), (0, .ref mo), (1, .ref q2), (2, .ref q7), (3, .ref q12), (4, .int 0)]) X.x X.b d_Model_expand_165 hl (k := 11) rfl (by decide) (by decide) rfl (fun ls hl => ?_)
                refine lv_iload X.x X.b d_Model_expand_168 (lv_at hl 0 rfl) ?_
                refine lv_sipush (v := 400) X.x X.b d_Model_expand_170 (by decide) ?_
                refine lv_icmp_gt (tgt := 193) X.x X.b d_Model_expand_173 (by decide) (fun c6 => ?_) (fun c6 => ?_)
                · exact absurd c6 (by decide)
                · skip
                  have c6q := Int32.not_lt.mp c6
                  refine lv_iload X.x X.b d_Model_expand_176 (lv_at hl 2 rfl) ?_
                  refine m_callSP X hS (MP_ans (M_Model_makes l g 4) (show b2i ((4 : Int32) < 8) = 1 from by decide)) s_Model_138 rfl rfl (Nat.le_of_ble_eq_true rfl) hl.1 d_Model_expand_178 (by omega) (by decide) ⟨by omega, by omega⟩ (fun locs hS => ?_)
                  refine lv_if_eq (tgt := 203) X.x X.b d_Model_expand_181 (by decide) (fun c7 => ?_) (fun c7 => ?_)
                  · exact absurd c7 (by decide)
                  · skip
                    refine lv_aload_n X.x X.b d_Model_expand_184 rfl (lv_at hl 7 rfl) ?_
                    refine m_get (v := .int 0) X ok_Model hM.1 5 (by decide) k_Model_132 (congrArg (fun z => some (Value.int z)) (show p1 5 = 0 from (by rw [hp15]))) d_Model_expand_185 ?_
                    refine lv_bipush (v := 120) X.x X.b d_Model_expand_188 (by decide) ?_
                    refine lv_icmp_ne (tgt := 203) X.x X.b d_Model_expand_190 (by decide) (fun c8 => ?_) (fun c8 => ?_)
                    · skip
                      refine lv_iload X.x X.b d_Model_expand_203 (lv_at hl 2 rfl) ?_
                      refine lv_bipush (v := 10) X.x X.b d_Model_expand_205 (by decide) ?_
                      refine lv_icmp_ne (tgt := 259) X.x X.b d_Model_expand_207 (by decide) (fun c9 => ?_) (fun c9 => ?_)
                      · skip
                        refine lv_iload X.x X.b d_Model_expand_259 (lv_at hl 2 rfl) ?_
                        refine lv_bipush (v := 8) X.x X.b d_Model_expand_261 (by decide) ?_
                        refine lv_icmp_ne (tgt := 329) X.x X.b d_Model_expand_263 (by decide) (fun c10 => ?_) (fun c10 => ?_)
                        · skip
                          refine lv_iload X.x X.b d_Model_expand_329 (lv_at hl 2 rfl) ?_
                          refine lv_bipush (v := 9) X.x X.b d_Model_expand_331 (by decide) ?_
                          refine lv_icmp_eq (tgt := 366) X.x X.b d_Model_expand_333 (by decide) (fun c11 => ?_) (fun c11 => ?_)
                          · exact absurd c11 (by decide)
                          · skip
                            refine lv_aload_n X.x X.b d_Model_expand_336 rfl (lv_at hl 7 rfl) ?_
                            refine lv_iload X.x X.b d_Model_expand_337 (lv_at hl 2 rfl) ?_
                            refine lv_aload_n X.x X.b d_Model_expand_339 rfl (lv_at hl 7 rfl) ?_
                            refine m_get (v := .ref tq) X ok_Model hM.1 1 (by decide) k_Model_9 rfl d_Model_expand_340 ?_
                            refine lv_iload X.x X.b d_Model_expand_343 (lv_at hl 4 rfl) ?_
                            refine lv_iconst (v := 1) X.x X.b d_Model_expand_345 (by decide) ?_
                            refine lv_iadd X.x X.b d_Model_expand_346 ?_
                            rw [show (0 + 1 : Int32) = 1 from by decide]
                            refine m_ild (v := x) X hM.a1 1 rfl (by omega) (by decide) (show s1 1 1 = x from (by rw [hE.2 1 (by decide), hL.2.2.1])) d_Model_expand_347 ?_
                            refine lv_aload_n X.x X.b d_Model_expand_348 rfl (lv_at hl 7 rfl) ?_
                            refine m_get (v := .ref tq) X ok_Model hM.1 1 (by decide) k_Model_9 rfl d_Model_expand_349 ?_
                            refine lv_iload X.x X.b d_Model_expand_352 (lv_at hl 4 rfl) ?_
                            refine lv_iconst (v := 2) X.x X.b d_Model_expand_354 (by decide) ?_
                            refine lv_iadd X.x X.b d_Model_expand_355 ?_
                            rw [show (0 + 2 : Int32) = 2 from by decide]
                            refine m_ild (v := y) X hM.a1 2 rfl (by omega) (by decide) (show s1 1 2 = y from (by rw [hE.2 1 (by decide), hL.2.2.2.1])) d_Model_expand_356 ?_
                            refine lv_iload X.x X.b d_Model_expand_357 (lv_at hl 1 rfl) ?_
                            refine lv_iload X.x X.b d_Model_expand_359 (lv_at hl 3 rfl) ?_
                            refine lv_iload X.x X.b d_Model_expand_361 (lv_at hl 11 rfl) ?_
                            have hR := M_Model_take_o (c := 0) l g hM (show p1 5 = 0 from (by rw [hp15])) (by omega) 4 x y v_ 0 0 (by decide) (by decide)
                            refine m_callM X hS hR v_Model_147 hM.1 rfl rfl rfl (Nat.le_of_ble_eq_true rfl) hl.1 d_Model_expand_363 (by omega) (by decide) ⟨by omega, by omega⟩ (fun q z => by have z : mo ≤ q ∧ q < mo + 23 := z; exact ⟨by omega, by omega⟩) (fun H locs hM hfr hS => ?_)
                            have hL2 := hL2.fr hfr (fun z => by have z : mo ≤ q2 ∧ q2 < mo + 23 := z; omega)
                            have hL7 := hL7.fr hfr (fun z => by have z : mo ≤ q7 ∧ q7 < mo + 23 := z; omega)
                            have hL12 := hL12.fr hfr (fun z => by have z : mo ≤ q12 ∧ q12 < mo + 23 := z; omega)
                            have hM : mAt g mo tq (upd p1 5 1) _ H := hM
                            obtain ⟨p_3, ep_3⟩ : ∃ z, z = upd p1 5 1 := ⟨_, rfl⟩
                            rw [← ep_3] at hM
                            obtain ⟨s_4, es_4⟩ : ∃ z, z = itR s1 0 4 x y v_ 0 0 := ⟨_, rfl⟩
                            rw [← es_4] at hM
                            refine lv_goto (tgt := 58) X.x X.b d_Model_expand_366 (by decide) ?_
                            refine lv_iload X.x X.b d_Model_expand_58 (lv_at hl 11 rfl) ?_
                            refine lv_if_lt (tgt := 369) X.x X.b d_Model_expand_60 (by decide) (fun c12 => ?_) (fun c12 => ?_)
                            · exact absurd c12 c2
                            · skip
                              have c12q := Int32.not_lt.mp c12
                              refine lv_aload_n X.x X.b d_Model_expand_63 rfl (lv_at hl 7 rfl) ?_
                              refine m_get (v := .int 0) X ok_Model hM.1 3 (by decide) k_Model_126 (congrArg (fun z => some (Value.int z)) (show p_3 3 = 0 from (by rw [ep_3, upd_mi _ _ _ (show 3 ≠ 5 by decide), hp13]))) d_Model_expand_64 ?_
                              refine lv_if_ne (tgt := 369) X.x X.b d_Model_expand_67 (by decide) (fun c13 => ?_) (fun c13 => ?_)
                              · exact absurd c3 c13
                              · skip
                                refine lv_aload_n X.x X.b d_Model_expand_70 rfl (lv_at hl 8 rfl) ?_
                                refine lv_iload X.x X.b d_Model_expand_71 (lv_at hl 11 rfl) ?_
                                refine m_ild (v := 0) X hL2 0 rfl (by omega) (by decide) (show (fun _ => 0) 0 = 0 from rfl) d_Model_expand_73 ?_
                                refine lv_istore (lv' := [(6, .int 0), (5, .int 1), (11, .int v_), (10, .int 4), (9, .int 0), (8, .int 0), (7, .int 0), (0, .ref mo), (1, .ref q2), (2, .ref q7), (3, .ref q12), (4, .int 0)]) X.x X.b d_Model_expand_74 hl (by decide) rfl (fun ls hl => ?_)
                                refine lv_aload_n X.x X.b d_Model_expand_76 rfl (lv_at hl 9 rfl) ?_
                                refine lv_iload X.x X.b d_Model_expand_77 (lv_at hl 11 rfl) ?_
                                refine m_ild (v := 1) X hL7 0 rfl (by omega) (by decide) (show r_2 0 = 1 from (by rw [er_2, upd_hit])) d_Model_expand_79 ?_
                                refine lv_aload_n X.x X.b d_Model_expand_80 rfl (lv_at hl 7 rfl) ?_
                                refine m_get (v := .ref (mo + 2)) X ok_Model hM.1 2 (by decide) k_Model_13 rfl d_Model_expand_81 ?_
                                refine lv_iload X.x X.b d_Model_expand_84 (lv_at hl 0 rfl) ?_
                                refine m_ild (v := 1) X hM.a2 0 rfl (by omega) (by decide) (show s_4 2 0 = 1 from (by rw [es_4, itR_o s1 0 4 x y v_ 0 0 2 (by decide), hE.2 2 (by decide), hL.1.1])) d_Model_expand_86 ?_
                                refine lv_icmp_ne (tgt := 96) X.x X.b d_Model_expand_87 (by decide) (fun c14 => ?_) (fun c14 => ?_)
                                · exact absurd c14 (by decide)
                                · skip
                                  refine lv_iinc (v := (-1)) (lv' := [(4, .int (-1)), (6, .int 0), (5, .int 1), (11, .int v_), (10, .int 4), (9, .int 0), (8, .int 0), (7, .int 0), (0, .ref mo), (1, .ref q2), (2, .ref q7), (3, .ref q12)]) X.x X.b d_Model_expand_90 hl (k := 11) rfl (by decide) (by decide) rfl (fun ls hl => ?_)
                                  refine lv_goto (tgt := 58) X.x X.b d_Model_expand_93 (by decide) ?_
                                  refine lv_iload X.x X.b d_Model_expand_58 (lv_at hl 0 rfl) ?_
                                  refine lv_if_lt (tgt := 369) X.x X.b d_Model_expand_60 (by decide) (fun c15 => ?_) (fun c15 => ?_)
                                  · skip
                                    have c15q := Int32.not_le.mpr c15
                                    refine lv_aload_n X.x X.b d_Model_expand_369 rfl (lv_at hl 8 rfl) ?_
                                    refine m_get (v := .int 0) X ok_Model hM.1 3 (by decide) k_Model_126 (congrArg (fun z => some (Value.int z)) (show p_3 3 = 0 from (by rw [ep_3, upd_mi _ _ _ (show 3 ≠ 5 by decide), hp13]))) d_Model_expand_370 ?_
                                    refine lv_if_ne (tgt := 387) X.x X.b d_Model_expand_373 (by decide) (fun c16 => ?_) (fun c16 => ?_)
                                    · exact absurd c13 c16
                                    · skip
                                      refine lv_aload_n X.x X.b d_Model_expand_376 rfl (lv_at hl 8 rfl) ?_
                                      refine lv_bipush (v := 6) X.x X.b d_Model_expand_377 (by decide) ?_
                                      refine lv_iconst (v := -1) X.x X.b d_Model_expand_379 (by decide) ?_
                                      refine lv_iconst (v := -1) X.x X.b d_Model_expand_380 (by decide) ?_
                                      refine lv_iconst (v := 0) X.x X.b d_Model_expand_381 (by decide) ?_
                                      refine lv_iconst (v := -1) X.x X.b d_Model_expand_382 (by decide) ?_
                                      refine lv_iconst (v := 0) X.x X.b d_Model_expand_383 (by decide) ?_
                                      have hR := M_Model_item (c := 1) l g hM (show p_3 5 = 1 from (by rw [ep_3, upd_hit])) (by omega) 6 (-1) (-1) 0 (-1) 0
                                      refine m_callM X hS hR v_Model_151 hM.1 rfl rfl rfl (Nat.le_of_ble_eq_true rfl) hl.1 d_Model_expand_384 (by omega) (by decide) ⟨by omega, by omega⟩ (fun q z => by have z : mo ≤ q ∧ q < mo + 23 := z; exact ⟨by omega, by omega⟩) (fun H locs hM hfr hS => ?_)
                                      have hL2 := hL2.fr hfr (fun z => by have z : mo ≤ q2 ∧ q2 < mo + 23 := z; omega)
                                      have hL7 := hL7.fr hfr (fun z => by have z : mo ≤ q7 ∧ q7 < mo + 23 := z; omega)
                                      have hL12 := hL12.fr hfr (fun z => by have z : mo ≤ q12 ∧ q12 < mo + 23 := z; omega)
                                      have hM : mAt g mo tq (upd p_3 5 2) _ H := hM
                                      obtain ⟨p_5, ep_5⟩ : ∃ z, z = upd p_3 5 2 := ⟨_, rfl⟩
                                      rw [← ep_5] at hM
                                      obtain ⟨s_6, es_6⟩ : ∃ z, z = itR s_4 1 6 (-1) (-1) 0 (-1) 0 := ⟨_, rfl⟩
                                      rw [← es_6] at hM
                                      exact m_vret X hS (by omega) (by omega) d_Model_expand_387 rfl ⟨_, _, hM, (by rw [ep_5, upd_mi _ _ _ (show 0 ≠ 5 by decide), ep_3, upd_mi _ _ _ (show 0 ≠ 5 by decide), hp10]), by rw [es_6, itR_o s_4 1 6 (-1) (-1) 0 (-1) 0 2 (by decide), es_4, itR_o s1 0 4 x y v_ 0 0 2 (by decide), hE.2 2 (by decide)], ⟨(by rw [ep_5, upd_mi _ _ _ (show 3 ≠ 5 by decide), ep_3, upd_mi _ _ _ (show 3 ≠ 5 by decide), hp13]), (by rw [ep_5, upd_hit])⟩, (by rw [es_6, itR_ne s_4 1 6 (-1) (-1) 0 (-1) 0 (show (0 : Nat) ≠ 1 by omega) 8, es_4, (itR_at s1 0 4 x y v_ 0 0).1]), (by rw [es_6, itR_ne s_4 1 6 (-1) (-1) 0 (-1) 0 (show (0 : Nat) ≠ 1 by omega) 9, es_4, (itR_at s1 0 4 x y v_ 0 0).2.1]), (by rw [es_6, itR_ne s_4 1 6 (-1) (-1) 0 (-1) 0 (show (0 : Nat) ≠ 1 by omega) 10, es_4, (itR_at s1 0 4 x y v_ 0 0).2.2.1]), (by rw [es_6, (itR_at s_4 1 6 (-1) (-1) 0 (-1) 0).1]), (by rw [es_6, itR_ne s_4 1 6 (-1) (-1) 0 (-1) 0 (show (0 : Nat) ≠ 1 by omega) 11, es_4, (itR_at s1 0 4 x y v_ 0 0).2.2.2.1]), fun j hj => (by rw [es_6, itR_o s_4 1 6 (-1) (-1) 0 (-1) 0 27 (by decide), es_4, itR_o s1 0 4 x y v_ 0 0 27 (by decide), (hE.1 j (by omega)).2])⟩
                                  · exact absurd c15 (by decide)
                        · exact absurd c10 (by decide)
                      · exact absurd c9 (by decide)
                    · exact absurd c8 (by decide)
              · skip
                refine lv_aload_n X.x X.b d_Model_expand_154 rfl (lv_at hl 8 rfl) ?_
                refine lv_iload X.x X.b d_Model_expand_155 (lv_at hl 9 rfl) ?_
                refine m_ild (v := 0) X hL12 0 rfl (by omega) (by decide) (show (fun _ => 0) 0 = 0 from rfl) d_Model_expand_157 ?_
                refine lv_goto (tgt := 162) X.x X.b d_Model_expand_158 (by decide) ?_
                refine lv_iadd X.x X.b d_Model_expand_162 ?_
                rw [show (v_ + 0 : Int32) = v_ from Int32.add_zero _]
                refine lv_istore (lv' := [(11, .int v_), (10, .int 4), (9, .int 0), (8, .int 0), (7, .int 0), (6, .int 0), (0, .ref mo), (1, .ref q2), (2, .ref q7), (3, .ref q12), (4, .int 0), (5, .int 0)]) X.x X.b d_Model_expand_163 hl (by decide) rfl (fun ls hl => ?_)
                refine lv_iinc (v := 1) (lv' := [(5, .int 1), (11, .int v_), (10, .int 4), (9, .int 0), (8, .int 0), (7, .int 0), (6, .int 0), (0, .ref mo), (1, .ref q2), (2, .ref q7), (3, .ref q12), (4, .int 0)]) X.x X.b d_Model_expand_165 hl (k := 11) rfl (by decide) (by decide) rfl (fun ls hl => ?_)
                refine lv_iload X.x X.b d_Model_expand_168 (lv_at hl 0 rfl) ?_
                refine lv_sipush (v := 400) X.x X.b d_Model_expand_170 (by decide) ?_
                refine lv_icmp_gt (tgt := 193) X.x X.b d_Model_expand_173 (by decide) (fun c17 => ?_) (fun c17 => ?_)
                · exact absurd c17 (by decide)
                · skip
                  have c17q := Int32.not_lt.mp c17
                  refine lv_iload X.x X.b d_Model_expand_176 (lv_at hl 2 rfl) ?_
                  refine m_callSP X hS (MP_ans (M_Model_makes l g 4) (show b2i ((4 : Int32) < 8) = 1 from by decide)) s_Model_138 rfl rfl (Nat.le_of_ble_eq_true rfl) hl.1 d_Model_expand_178 (by omega) (by decide) ⟨by omega, by omega⟩ (fun locs hS => ?_)
                  refine lv_if_eq (tgt := 203) X.x X.b d_Model_expand_181 (by decide) (fun c18 => ?_) (fun c18 => ?_)
                  · exact absurd c18 (by decide)
                  · skip
                    refine lv_aload_n X.x X.b d_Model_expand_184 rfl (lv_at hl 7 rfl) ?_
                    refine m_get (v := .int 0) X ok_Model hM.1 5 (by decide) k_Model_132 (congrArg (fun z => some (Value.int z)) (show p1 5 = 0 from (by rw [hp15]))) d_Model_expand_185 ?_
                    refine lv_bipush (v := 120) X.x X.b d_Model_expand_188 (by decide) ?_
                    refine lv_icmp_ne (tgt := 203) X.x X.b d_Model_expand_190 (by decide) (fun c19 => ?_) (fun c19 => ?_)
                    · skip
                      refine lv_iload X.x X.b d_Model_expand_203 (lv_at hl 2 rfl) ?_
                      refine lv_bipush (v := 10) X.x X.b d_Model_expand_205 (by decide) ?_
                      refine lv_icmp_ne (tgt := 259) X.x X.b d_Model_expand_207 (by decide) (fun c20 => ?_) (fun c20 => ?_)
                      · skip
                        refine lv_iload X.x X.b d_Model_expand_259 (lv_at hl 2 rfl) ?_
                        refine lv_bipush (v := 8) X.x X.b d_Model_expand_261 (by decide) ?_
                        refine lv_icmp_ne (tgt := 329) X.x X.b d_Model_expand_263 (by decide) (fun c21 => ?_) (fun c21 => ?_)
                        · skip
                          refine lv_iload X.x X.b d_Model_expand_329 (lv_at hl 2 rfl) ?_
                          refine lv_bipush (v := 9) X.x X.b d_Model_expand_331 (by decide) ?_
                          refine lv_icmp_eq (tgt := 366) X.x X.b d_Model_expand_333 (by decide) (fun c22 => ?_) (fun c22 => ?_)
                          · exact absurd c22 (by decide)
                          · skip
                            refine lv_aload_n X.x X.b d_Model_expand_336 rfl (lv_at hl 7 rfl) ?_
                            refine lv_iload X.x X.b d_Model_expand_337 (lv_at hl 2 rfl) ?_
                            refine lv_aload_n X.x X.b d_Model_expand_339 rfl (lv_at hl 7 rfl) ?_
                            refine m_get (v := .ref tq) X ok_Model hM.1 1 (by decide) k_Model_9 rfl d_Model_expand_340 ?_
                            refine lv_iload X.x X.b d_Model_expand_343 (lv_at hl 4 rfl) ?_
                            refine lv_iconst (v := 1) X.x X.b d_Model_expand_345 (by decide) ?_
                            refine lv_iadd X.x X.b d_Model_expand_346 ?_
                            rw [show (0 + 1 : Int32) = 1 from by decide]
                            refine m_ild (v := x) X hM.a1 1 rfl (by omega) (by decide) (show s1 1 1 = x from (by rw [hE.2 1 (by decide), hL.2.2.1])) d_Model_expand_347 ?_
                            refine lv_aload_n X.x X.b d_Model_expand_348 rfl (lv_at hl 7 rfl) ?_
                            refine m_get (v := .ref tq) X ok_Model hM.1 1 (by decide) k_Model_9 rfl d_Model_expand_349 ?_
                            refine lv_iload X.x X.b d_Model_expand_352 (lv_at hl 4 rfl) ?_
                            refine lv_iconst (v := 2) X.x X.b d_Model_expand_354 (by decide) ?_
                            refine lv_iadd X.x X.b d_Model_expand_355 ?_
                            rw [show (0 + 2 : Int32) = 2 from by decide]
                            refine m_ild (v := y) X hM.a1 2 rfl (by omega) (by decide) (show s1 1 2 = y from (by rw [hE.2 1 (by decide), hL.2.2.2.1])) d_Model_expand_356 ?_
                            refine lv_iload X.x X.b d_Model_expand_357 (lv_at hl 1 rfl) ?_
                            refine lv_iload X.x X.b d_Model_expand_359 (lv_at hl 3 rfl) ?_
                            refine lv_iload X.x X.b d_Model_expand_361 (lv_at hl 11 rfl) ?_
                            have hR := M_Model_take_o (c := 0) l g hM (show p1 5 = 0 from (by rw [hp15])) (by omega) 4 x y v_ 0 0 (by decide) (by decide)
                            refine m_callM X hS hR v_Model_147 hM.1 rfl rfl rfl (Nat.le_of_ble_eq_true rfl) hl.1 d_Model_expand_363 (by omega) (by decide) ⟨by omega, by omega⟩ (fun q z => by have z : mo ≤ q ∧ q < mo + 23 := z; exact ⟨by omega, by omega⟩) (fun H locs hM hfr hS => ?_)
                            have hL2 := hL2.fr hfr (fun z => by have z : mo ≤ q2 ∧ q2 < mo + 23 := z; omega)
                            have hL7 := hL7.fr hfr (fun z => by have z : mo ≤ q7 ∧ q7 < mo + 23 := z; omega)
                            have hL12 := hL12.fr hfr (fun z => by have z : mo ≤ q12 ∧ q12 < mo + 23 := z; omega)
                            have hM : mAt g mo tq (upd p1 5 1) _ H := hM
                            obtain ⟨p_7, ep_7⟩ : ∃ z, z = upd p1 5 1 := ⟨_, rfl⟩
                            rw [← ep_7] at hM
                            obtain ⟨s_8, es_8⟩ : ∃ z, z = itR s1 0 4 x y v_ 0 0 := ⟨_, rfl⟩
                            rw [← es_8] at hM
                            refine lv_goto (tgt := 58) X.x X.b d_Model_expand_366 (by decide) ?_
                            refine lv_iload X.x X.b d_Model_expand_58 (lv_at hl 11 rfl) ?_
                            refine lv_if_lt (tgt := 369) X.x X.b d_Model_expand_60 (by decide) (fun c23 => ?_) (fun c23 => ?_)
                            · exact absurd c23 c2
                            · skip
                              have c23q := Int32.not_lt.mp c23
                              refine lv_aload_n X.x X.b d_Model_expand_63 rfl (lv_at hl 7 rfl) ?_
                              refine m_get (v := .int 0) X ok_Model hM.1 3 (by decide) k_Model_126 (congrArg (fun z => some (Value.int z)) (show p_7 3 = 0 from (by rw [ep_7, upd_mi _ _ _ (show 3 ≠ 5 by decide), hp13]))) d_Model_expand_64 ?_
                              refine lv_if_ne (tgt := 369) X.x X.b d_Model_expand_67 (by decide) (fun c24 => ?_) (fun c24 => ?_)
                              · exact absurd c3 c24
                              · skip
                                refine lv_aload_n X.x X.b d_Model_expand_70 rfl (lv_at hl 8 rfl) ?_
                                refine lv_iload X.x X.b d_Model_expand_71 (lv_at hl 11 rfl) ?_
                                refine m_ild (v := 0) X hL2 0 rfl (by omega) (by decide) (show (fun _ => 0) 0 = 0 from rfl) d_Model_expand_73 ?_
                                refine lv_istore (lv' := [(6, .int 0), (5, .int 1), (11, .int v_), (10, .int 4), (9, .int 0), (8, .int 0), (7, .int 0), (0, .ref mo), (1, .ref q2), (2, .ref q7), (3, .ref q12), (4, .int 0)]) X.x X.b d_Model_expand_74 hl (by decide) rfl (fun ls hl => ?_)
                                refine lv_aload_n X.x X.b d_Model_expand_76 rfl (lv_at hl 9 rfl) ?_
                                refine lv_iload X.x X.b d_Model_expand_77 (lv_at hl 11 rfl) ?_
                                refine m_ild (v := 1) X hL7 0 rfl (by omega) (by decide) (show r_2 0 = 1 from (by rw [er_2, upd_hit])) d_Model_expand_79 ?_
                                refine lv_aload_n X.x X.b d_Model_expand_80 rfl (lv_at hl 7 rfl) ?_
                                refine m_get (v := .ref (mo + 2)) X ok_Model hM.1 2 (by decide) k_Model_13 rfl d_Model_expand_81 ?_
                                refine lv_iload X.x X.b d_Model_expand_84 (lv_at hl 0 rfl) ?_
                                refine m_ild (v := 1) X hM.a2 0 rfl (by omega) (by decide) (show s_8 2 0 = 1 from (by rw [es_8, itR_o s1 0 4 x y v_ 0 0 2 (by decide), hE.2 2 (by decide), hL.1.1])) d_Model_expand_86 ?_
                                refine lv_icmp_ne (tgt := 96) X.x X.b d_Model_expand_87 (by decide) (fun c25 => ?_) (fun c25 => ?_)
                                · exact absurd c25 (by decide)
                                · skip
                                  refine lv_iinc (v := (-1)) (lv' := [(4, .int (-1)), (6, .int 0), (5, .int 1), (11, .int v_), (10, .int 4), (9, .int 0), (8, .int 0), (7, .int 0), (0, .ref mo), (1, .ref q2), (2, .ref q7), (3, .ref q12)]) X.x X.b d_Model_expand_90 hl (k := 11) rfl (by decide) (by decide) rfl (fun ls hl => ?_)
                                  refine lv_goto (tgt := 58) X.x X.b d_Model_expand_93 (by decide) ?_
                                  refine lv_iload X.x X.b d_Model_expand_58 (lv_at hl 0 rfl) ?_
                                  refine lv_if_lt (tgt := 369) X.x X.b d_Model_expand_60 (by decide) (fun c26 => ?_) (fun c26 => ?_)
                                  · skip
                                    have c26q := Int32.not_le.mpr c26
                                    refine lv_aload_n X.x X.b d_Model_expand_369 rfl (lv_at hl 8 rfl) ?_
                                    refine m_get (v := .int 0) X ok_Model hM.1 3 (by decide) k_Model_126 (congrArg (fun z => some (Value.int z)) (show p_7 3 = 0 from (by rw [ep_7, upd_mi _ _ _ (show 3 ≠ 5 by decide), hp13]))) d_Model_expand_370 ?_
                                    refine lv_if_ne (tgt := 387) X.x X.b d_Model_expand_373 (by decide) (fun c27 => ?_) (fun c27 => ?_)
                                    · exact absurd c24 c27
                                    · skip
                                      refine lv_aload_n X.x X.b d_Model_expand_376 rfl (lv_at hl 8 rfl) ?_
                                      refine lv_bipush (v := 6) X.x X.b d_Model_expand_377 (by decide) ?_
                                      refine lv_iconst (v := -1) X.x X.b d_Model_expand_379 (by decide) ?_
                                      refine lv_iconst (v := -1) X.x X.b d_Model_expand_380 (by decide) ?_
                                      refine lv_iconst (v := 0) X.x X.b d_Model_expand_381 (by decide) ?_
                                      refine lv_iconst (v := -1) X.x X.b d_Model_expand_382 (by decide) ?_
                                      refine lv_iconst (v := 0) X.x X.b d_Model_expand_383 (by decide) ?_
                                      have hR := M_Model_item (c := 1) l g hM (show p_7 5 = 1 from (by rw [ep_7, upd_hit])) (by omega) 6 (-1) (-1) 0 (-1) 0
                                      refine m_callM X hS hR v_Model_151 hM.1 rfl rfl rfl (Nat.le_of_ble_eq_true rfl) hl.1 d_Model_expand_384 (by omega) (by decide) ⟨by omega, by omega⟩ (fun q z => by have z : mo ≤ q ∧ q < mo + 23 := z; exact ⟨by omega, by omega⟩) (fun H locs hM hfr hS => ?_)
                                      have hL2 := hL2.fr hfr (fun z => by have z : mo ≤ q2 ∧ q2 < mo + 23 := z; omega)
                                      have hL7 := hL7.fr hfr (fun z => by have z : mo ≤ q7 ∧ q7 < mo + 23 := z; omega)
                                      have hL12 := hL12.fr hfr (fun z => by have z : mo ≤ q12 ∧ q12 < mo + 23 := z; omega)
                                      have hM : mAt g mo tq (upd p_7 5 2) _ H := hM
                                      obtain ⟨p_9, ep_9⟩ : ∃ z, z = upd p_7 5 2 := ⟨_, rfl⟩
                                      rw [← ep_9] at hM
                                      obtain ⟨s_10, es_10⟩ : ∃ z, z = itR s_8 1 6 (-1) (-1) 0 (-1) 0 := ⟨_, rfl⟩
                                      rw [← es_10] at hM
                                      exact m_vret X hS (by omega) (by omega) d_Model_expand_387 rfl ⟨_, _, hM, (by rw [ep_9, upd_mi _ _ _ (show 0 ≠ 5 by decide), ep_7, upd_mi _ _ _ (show 0 ≠ 5 by decide), hp10]), by rw [es_10, itR_o s_8 1 6 (-1) (-1) 0 (-1) 0 2 (by decide), es_8, itR_o s1 0 4 x y v_ 0 0 2 (by decide), hE.2 2 (by decide)], ⟨(by rw [ep_9, upd_mi _ _ _ (show 3 ≠ 5 by decide), ep_7, upd_mi _ _ _ (show 3 ≠ 5 by decide), hp13]), (by rw [ep_9, upd_hit])⟩, (by rw [es_10, itR_ne s_8 1 6 (-1) (-1) 0 (-1) 0 (show (0 : Nat) ≠ 1 by omega) 8, es_8, (itR_at s1 0 4 x y v_ 0 0).1]), (by rw [es_10, itR_ne s_8 1 6 (-1) (-1) 0 (-1) 0 (show (0 : Nat) ≠ 1 by omega) 9, es_8, (itR_at s1 0 4 x y v_ 0 0).2.1]), (by rw [es_10, itR_ne s_8 1 6 (-1) (-1) 0 (-1) 0 (show (0 : Nat) ≠ 1 by omega) 10, es_8, (itR_at s1 0 4 x y v_ 0 0).2.2.1]), (by rw [es_10, (itR_at s_8 1 6 (-1) (-1) 0 (-1) 0).1]), (by rw [es_10, itR_ne s_8 1 6 (-1) (-1) 0 (-1) 0 (show (0 : Nat) ≠ 1 by omega) 11, es_8, (itR_at s1 0 4 x y v_ 0 0).2.2.2.1]), fun j hj => (by rw [es_10, itR_o s_8 1 6 (-1) (-1) 0 (-1) 0 27 (by decide), es_8, itR_o s1 0 4 x y v_ 0 0 27 (by decide), (hE.1 j (by omega)).2])⟩
                                  · exact absurd c26 (by decide)
                        · exact absurd c21 (by decide)
                      · exact absurd c20 (by decide)
                    · exact absurd c19 (by decide)
            · exact absurd c4 (by decide)
      · exact absurd ((nI_ltI (a := i) (b := 8) (by omega) (by omega)).mp (Int32.not_le.mp c1)) (by omega)
    | succ n ih =>
      intro i s1 hin hi5 hE H locs ls hM hL2 hL7 hL12 hS hl
      refine lv_iload X.x X.b d_Model_expand_29 (lv_at hl 6 rfl) ?_
      refine lv_bipush (v := 8) X.x X.b d_Model_expand_31 (by decide) ?_
      refine lv_icmp_ge (tgt := 58) X.x X.b d_Model_expand_33 (by decide) (fun c28 => ?_) (fun c28 => ?_)
      · exact absurd ((nI_leI (a := 8) (b := i) (by omega) (by omega)).mp c28) (by omega)
      · skip
        have c28q := Int32.not_le.mp c28
        refine lv_aload_n X.x X.b d_Model_expand_36 rfl (lv_at hl 0 rfl) ?_
        refine m_get (v := .ref (mo + 20)) X ok_Model hM.1 25 (by decide) k_Model_68 rfl d_Model_expand_37 ?_
        refine lv_iload X.x X.b d_Model_expand_40 (lv_at hl 6 rfl) ?_
        refine lv_iconst (v := 0) X.x X.b d_Model_expand_42 (by decide) ?_
        refine m_ist X hS (Or.inl ⟨by omega, by omega⟩) hM.a25 i rfl (by omega) (by decide) d_Model_expand_43 (fun H locs hp hcg hS => ?_)
        have hM := hM.s25 hp hcg
        obtain ⟨s_11, es_11⟩ : ∃ z, z = updR s1 25 (upd (s1 25) i 0) := ⟨_, rfl⟩
        rw [← es_11] at hM
        have hL2 := hL2.off hcg (by omega)
        have hL7 := hL7.off hcg (by omega)
        have hL12 := hL12.off hcg (by omega)
        refine lv_aload_n X.x X.b d_Model_expand_44 rfl (lv_at hl 0 rfl) ?_
        refine m_get (v := .ref (mo + 22)) X ok_Model hM.1 27 (by decide) k_Model_74 rfl d_Model_expand_45 ?_
        refine lv_iload X.x X.b d_Model_expand_48 (lv_at hl 6 rfl) ?_
        refine lv_iconst (v := -1) X.x X.b d_Model_expand_50 (by decide) ?_
        refine m_ist X hS (Or.inl ⟨by omega, by omega⟩) hM.a27 i rfl (by omega) (by decide) d_Model_expand_51 (fun H locs hp hcg hS => ?_)
        have hM := hM.s27 hp hcg
        obtain ⟨s_12, es_12⟩ : ∃ z, z = updR s_11 27 (upd (s_11 27) i (-1)) := ⟨_, rfl⟩
        rw [← es_12] at hM
        have hL2 := hL2.off hcg (by omega)
        have hL7 := hL7.off hcg (by omega)
        have hL12 := hL12.off hcg (by omega)
        refine lv_iinc (v := nI (i + 1)) (lv' := [(6, .int (nI (i + 1))), (0, .ref mo), (1, .ref q2), (2, .ref q7), (3, .ref q12), (4, .int 0), (5, .int 0)]) X.x X.b d_Model_expand_52 hl (k := 6) rfl (nI_1 i) (by decide) rfl (fun ls hl => ?_)
        refine lv_goto (tgt := 29) X.x X.b d_Model_expand_55 (by decide) ?_
        exact ih (i + 1) s_12 (by omega) (by omega) (⟨fun j hj => (Nat.lt_or_ge j i).elim (fun z => ⟨by rw [es_12, updR_n2 _ _ _ _ (show j ≠ i by omega), es_11, updR_n2 _ _ _ _ (show j ≠ i by omega)]; exact (hE.1 j z).1, by rw [es_12, updR_n2 _ _ _ _ (show j ≠ i by omega), es_11, updR_n2 _ _ _ _ (show j ≠ i by omega)]; exact (hE.1 j z).2⟩) (fun z => ⟨by rw [show j = i by omega, es_12, updR_mf _ _ _ (show 25 ≠ 27 by decide), es_11, updR_hit], by rw [show j = i by omega, es_12, updR_hit]⟩), by rw [es_12, es_11]; exact (hE.2.up _ _ (by decide)).up _ _ (by decide)⟩) _ _ _ hM hL2 hL7 hL12 hS (lv_sub hl [1, 2, 3, 4, 5, 6, 0] rfl)
  exact lp 8 0 s0 (by omega) (by omega) (⟨fun j hj => absurd hj (Nat.not_lt_zero j), same.rf _ _⟩) _ _ _ hM hL2 hL7 hL12 hS (lv_sub hl [6, 5, 4, 3, 2, 1, 0] rfl)
set_option maxRecDepth 100000 in
set_option maxHeartbeats 4000000 in
theorem M_Model_expand_L5 (l : Launch) (g : GG) {mo tq : Nat} {p0 : Nat → Int32} {s0 : Nat → Nat → Int32} {H0 : Heap} (hM : mAt g mo tq p0 s0 H0) {x y v_ r : Int32} (hL : oneL 5 x y v_ r s0) (hf3 : p0 3 = 0) : MM l y_Model_expand c_Model_expand 13 none 3 3 18 g H0 [.ref mo] (fun q => mo ≤ q ∧ q < mo + 23) (none) (fun H1 => ∃ p s, mAt g mo tq p s H1 ∧ p 0 = p0 0 ∧ s 2 = s0 2 ∧ (p 3 = 0 ∧ p 5 = 2) ∧ s 8 0 = 5 ∧ s 9 0 = x ∧ s 10 0 = y ∧ s 8 1 = 6 ∧ s 11 0 = v_ ∧ ∀ j, j < 8 → s 27 j = -1) := by
  refine MM.of (by decide +kernel) (Nat.le_of_ble_eq_true rfl) ?_
  intro p e s m below meth cd X hH ls hl
  have X : CX g p s m _ meth cd c_Model_expand 13 none R_Model _ := X
  have hl : lv_has ls 13 [(0, .ref mo)] := hl
  have hS : va_S (AA (fun q => mo ≤ q ∧ q < mo + 23) H0) H0 H0 [] := va_S.rf
  have hlt0 := hM.lt
  have htq0 := hM.tq
  refine lv_bipush (v := 6) X.x X.b d_Model_expand_0 (by decide) ?_
  obtain ⟨q2, hq2⟩ := sz_of hS
  have hlt2 := hM.lt
  have hsz2 := hS.1
  refine m_newI X hS hq2 6 (by decide) (by decide) (by decide) (by omega) (by omega) d_Model_expand_2 (fun H hL2 hgr hS hz2 => ?_)
  have hfr := fr.of_grow (A := noA) hgr
  have hM := hM.frame hfr (fun q z => z.elim)
  refine lv_astore_n (lv' := [(1, .ref q2), (0, .ref mo)]) X.x X.b d_Model_expand_4 rfl hl (by decide) rfl (fun ls hl => ?_)
  refine lv_bipush (v := 6) X.x X.b d_Model_expand_5 (by decide) ?_
  obtain ⟨q7, hq7⟩ := sz_of hS
  have hlt7 := hM.lt
  have hsz7 := hS.1
  refine m_newI X hS hq7 6 (by decide) (by decide) (by decide) (by omega) (by omega) d_Model_expand_7 (fun H hL7 hgr hS hz2 => ?_)
  have hfr := fr.of_grow (A := noA) hgr
  have hM := hM.frame hfr (fun q z => z.elim)
  have hL2 := hL2.fr hfr (fun z => z)
  refine lv_astore_n (lv' := [(2, .ref q7), (1, .ref q2), (0, .ref mo)]) X.x X.b d_Model_expand_9 rfl hl (by decide) rfl (fun ls hl => ?_)
  refine lv_bipush (v := 6) X.x X.b d_Model_expand_10 (by decide) ?_
  obtain ⟨q12, hq12⟩ := sz_of hS
  have hlt12 := hM.lt
  have hsz12 := hS.1
  refine m_newI X hS hq12 6 (by decide) (by decide) (by decide) (by omega) (by omega) d_Model_expand_12 (fun H hL12 hgr hS hz2 => ?_)
  have hfr := fr.of_grow (A := noA) hgr
  have hM := hM.frame hfr (fun q z => z.elim)
  have hL2 := hL2.fr hfr (fun z => z)
  have hL7 := hL7.fr hfr (fun z => z)
  refine lv_astore_n (lv' := [(3, .ref q12), (2, .ref q7), (1, .ref q2), (0, .ref mo)]) X.x X.b d_Model_expand_14 rfl hl (by decide) rfl (fun ls hl => ?_)
  refine lv_iconst (v := 0) X.x X.b d_Model_expand_15 (by decide) ?_
  refine lv_istore (lv' := [(4, .int 0), (3, .ref q12), (2, .ref q7), (1, .ref q2), (0, .ref mo)]) X.x X.b d_Model_expand_16 hl (by decide) rfl (fun ls hl => ?_)
  refine lv_iconst (v := 0) X.x X.b d_Model_expand_18 (by decide) ?_
  refine lv_istore (lv' := [(5, .int 0), (4, .int 0), (3, .ref q12), (2, .ref q7), (1, .ref q2), (0, .ref mo)]) X.x X.b d_Model_expand_19 hl (by decide) rfl (fun ls hl => ?_)
  refine lv_aload_n X.x X.b d_Model_expand_21 rfl (lv_at hl 5 rfl) ?_
  refine lv_iconst (v := 0) X.x X.b d_Model_expand_22 (by decide) ?_
  refine m_put X ok_Model hS (Or.inl ⟨by omega, by omega⟩) hM.1 5 (by decide) k_Model_132 rfl (ok_Model.2.2.1 _ (by decide)) rfl rfl (Nat.le_of_ble_eq_true rfl) d_Model_expand_23 (fun H locs hp hcg hS => ?_)
  have hM := hM.f5 hp hcg
  obtain ⟨p_1, ep_1⟩ : ∃ z, z = upd p0 5 0 := ⟨_, rfl⟩
  rw [← ep_1] at hM
  have hL2 := hL2.off hcg (by omega)
  have hL7 := hL7.off hcg (by omega)
  have hL12 := hL12.off hcg (by omega)
  obtain ⟨p1, hp1⟩ : ∃ z, z = p_1 := ⟨_, rfl⟩
  rw [← hp1] at hM
  have hp1 : p1 = upd p0 5 0 := by rw [hp1, ep_1]
  have hp15 : p1 5 = 0 := by rw [hp1]; exact upd_hit _ _ _
  have hp13 : p1 3 = 0 := by rw [hp1]; exact (upd_mi _ _ _ (by decide)).trans hf3
  have hp10 : p1 0 = p0 0 := by rw [hp1]; exact upd_mi _ _ _ (by decide)
  refine lv_iconst (v := 0) X.x X.b d_Model_expand_26 (by decide) ?_
  refine lv_istore (lv' := [(6, .int 0), (5, .int 0), (4, .int 0), (3, .ref q12), (2, .ref q7), (1, .ref q2), (0, .ref mo)]) X.x X.b d_Model_expand_27 hl (by decide) rfl (fun ls hl => ?_)
  have lp : ∀ (n i : Nat) (s1 : Nat → Nat → Int32), n = 8 - i → i < 5000 → ((∀ j, j < i → s1 25 j = 0 ∧ s1 27 j = -1) ∧ same [25, 27] s0 s1) → ∀ (H : Heap) (locs : List Loc) (ls : Array Slot), mAt g mo tq p1 s1 H → pt g q2 (.inl (g.2 0, 6, .inl (fun _ => 0))) H → pt g q7 (.inl (g.2 0, 6, .inl (fun _ => 0))) H → pt g q12 (.inl (g.2 0, 6, .inl (fun _ => 0))) H → va_S (AA (fun q => mo ≤ q ∧ q < mo + 23) H0) H0 H locs → lv_has ls 13 [(0, .ref mo), (1, .ref q2), (2, .ref q7), (3, .ref q12), (4, .int 0), (5, .int 0), (6, .int (nI i))] → W p l e (rmK 3 3 18) s m ([.ref mo] : List Value).toArray below meth cd H locs 3 18 (MQ below (QM (none) (fun H1 => ∃ p s, mAt g mo tq p s H1 ∧ p 0 = p0 0 ∧ s 2 = s0 2 ∧ (p 3 = 0 ∧ p 5 = 2) ∧ s 8 0 = 5 ∧ s 9 0 = x ∧ s 10 0 = y ∧ s 8 1 = 6 ∧ s 11 0 = v_ ∧ ∀ j, j < 8 → s 27 j = -1) (fun q => mo ≤ q ∧ q < mo + 23) H0) ([.ref mo] : List Value).toArray s 3 18 (AA (fun q => mo ≤ q ∧ q < mo + 23) H0)) (F0 m 29 ls []) := by
    intro n
    induction n with
    | zero =>
      intro i s1 hin hi5 hE H locs ls hM hL2 hL7 hL12 hS hl
      refine lv_iload X.x X.b d_Model_expand_29 (lv_at hl 6 rfl) ?_
      refine lv_bipush (v := 8) X.x X.b d_Model_expand_31 (by decide) ?_
      refine lv_icmp_ge (tgt := 58) X.x X.b d_Model_expand_33 (by decide) (fun c1 => ?_) (fun c1 => ?_)
      · skip
        have c1q := Int32.not_lt.mpr c1
        refine lv_iload X.x X.b d_Model_expand_58 (lv_at hl 4 rfl) ?_
        refine lv_if_lt (tgt := 369) X.x X.b d_Model_expand_60 (by decide) (fun c2 => ?_) (fun c2 => ?_)
        · exact absurd c2 (by decide)
        · skip
          have c2q := Int32.not_lt.mp c2
          refine lv_aload_n X.x X.b d_Model_expand_63 rfl (lv_at hl 0 rfl) ?_
          refine m_get (v := .int 0) X ok_Model hM.1 3 (by decide) k_Model_126 (congrArg (fun z => some (Value.int z)) (show p1 3 = 0 from (by rw [hp13]))) d_Model_expand_64 ?_
          refine lv_if_ne (tgt := 369) X.x X.b d_Model_expand_67 (by decide) (fun c3 => ?_) (fun c3 => ?_)
          · exact absurd c3 (by decide)
          · skip
            refine lv_aload_n X.x X.b d_Model_expand_70 rfl (lv_at hl 1 rfl) ?_
            refine lv_iload X.x X.b d_Model_expand_71 (lv_at hl 4 rfl) ?_
            refine m_ild (v := 0) X hL2 0 rfl (by omega) (by decide) (show (fun _ => 0) 0 = 0 from rfl) d_Model_expand_73 ?_
            refine lv_istore (lv' := [(6, .int 0), (0, .ref mo), (1, .ref q2), (2, .ref q7), (3, .ref q12), (4, .int 0), (5, .int 0)]) X.x X.b d_Model_expand_74 hl (by decide) rfl (fun ls hl => ?_)
            refine lv_aload_n X.x X.b d_Model_expand_76 rfl (lv_at hl 3 rfl) ?_
            refine lv_iload X.x X.b d_Model_expand_77 (lv_at hl 5 rfl) ?_
            refine m_ild (v := 0) X hL7 0 rfl (by omega) (by decide) (show (fun _ => 0) 0 = 0 from rfl) d_Model_expand_79 ?_
            refine lv_aload_n X.x X.b d_Model_expand_80 rfl (lv_at hl 1 rfl) ?_
            refine m_get (v := .ref (mo + 2)) X ok_Model hM.1 2 (by decide) k_Model_13 rfl d_Model_expand_81 ?_
            refine lv_iload X.x X.b d_Model_expand_84 (lv_at hl 0 rfl) ?_
            refine m_ild (v := 1) X hM.a2 0 rfl (by omega) (by decide) (show s1 2 0 = 1 from (by rw [hE.2 2 (by decide), hL.1.1])) d_Model_expand_86 ?_
            refine lv_icmp_ne (tgt := 96) X.x X.b d_Model_expand_87 (by decide) (fun c4 => ?_) (fun c4 => ?_)
            · skip
              refine lv_aload_n X.x X.b d_Model_expand_96 rfl (lv_at hl 3 rfl) ?_
              refine lv_iload X.x X.b d_Model_expand_97 (lv_at hl 5 rfl) ?_
              refine lv_dup2_11 X.x X.b d_Model_expand_99 rfl rfl ?_
              refine m_ild (v := 0) X hL7 0 rfl (by omega) (by decide) (show (fun _ => 0) 0 = 0 from rfl) d_Model_expand_100 ?_
              refine lv_dup_x2 X.x X.b d_Model_expand_101 rfl rfl rfl ?_
              refine lv_iconst (v := 1) X.x X.b d_Model_expand_102 (by decide) ?_
              refine lv_iadd X.x X.b d_Model_expand_103 ?_
              rw [show (0 + 1 : Int32) = 1 from by decide]
              refine m_ist X hS (Or.inr (by omega)) hL7 0 rfl (by omega) (by decide) d_Model_expand_104 (fun H locs hp hcg hS => ?_)
              have hL7 := hp
              obtain ⟨r_2, er_2⟩ : ∃ z, z = upd (fun _ => 0) 0 1 := ⟨_, rfl⟩
              rw [← er_2] at hL7
              have hM := hM.frame (fr.of_chg (A := fun q => q = q7) hcg rfl) (fun q z => by have z : q = q7 := z; have := hM.tq; omega)
              have hL2 := hL2.off hcg (by omega)
              have hL12 := hL12.off hcg (by omega)
              refine lv_istore (lv' := [(7, .int 0), (6, .int 0), (0, .ref mo), (1, .ref q2), (2, .ref q7), (3, .ref q12), (4, .int 0), (5, .int 0)]) X.x X.b d_Model_expand_105 hl (by decide) rfl (fun ls hl => ?_)
              refine lv_iload X.x X.b d_Model_expand_107 (lv_at hl 1 rfl) ?_
              refine lv_iload X.x X.b d_Model_expand_109 (lv_at hl 0 rfl) ?_
              refine m_callSP X hS (MP_ans (M_Model_at l g 0 0) (show (((0 : Int32) * 64 + 0) * 5) = 0 from by decide)) s_Model_96 rfl rfl (Nat.le_of_ble_eq_true rfl) hl.1 d_Model_expand_111 (by omega) (by decide) ⟨by omega, by omega⟩ (fun locs hS => ?_)
              refine lv_istore (lv' := [(8, .int 0), (7, .int 0), (6, .int 0), (0, .ref mo), (1, .ref q2), (2, .ref q7), (3, .ref q12), (4, .int 0), (5, .int 0)]) X.x X.b d_Model_expand_114 hl (by decide) rfl (fun ls hl => ?_)
              refine lv_aload_n X.x X.b d_Model_expand_116 rfl (lv_at hl 5 rfl) ?_
              refine lv_iconst (v := 0) X.x X.b d_Model_expand_117 (by decide) ?_
              refine m_ild (v := 1) X hL7 0 rfl (by omega) (by decide) (show r_2 0 = 1 from (by rw [er_2, upd_hit])) d_Model_expand_118 ?_
              refine lv_iconst (v := 1) X.x X.b d_Model_expand_119 (by decide) ?_
              refine lv_isub X.x X.b d_Model_expand_120 ?_
              rw [show (1 - 1 : Int32) = 0 from by decide]
              refine lv_istore (lv' := [(9, .int 0), (8, .int 0), (7, .int 0), (6, .int 0), (0, .ref mo), (1, .ref q2), (2, .ref q7), (3, .ref q12), (4, .int 0), (5, .int 0)]) X.x X.b d_Model_expand_121 hl (by decide) rfl (fun ls hl => ?_)
              refine lv_aload_n X.x X.b d_Model_expand_123 rfl (lv_at hl 4 rfl) ?_
              refine m_get (v := .ref tq) X ok_Model hM.1 1 (by decide) k_Model_9 rfl d_Model_expand_124 ?_
              refine lv_iload X.x X.b d_Model_expand_127 (lv_at hl 1 rfl) ?_
              refine m_ild (v := 5) X hM.a1 0 rfl (by omega) (by decide) (show s1 1 0 = 5 from (by rw [hE.2 1 (by decide), hL.2.1])) d_Model_expand_129 ?_
              refine lv_istore (lv' := [(10, .int 5), (9, .int 0), (8, .int 0), (7, .int 0), (6, .int 0), (0, .ref mo), (1, .ref q2), (2, .ref q7), (3, .ref q12), (4, .int 0), (5, .int 0)]) X.x X.b d_Model_expand_130 hl (by decide) rfl (fun ls hl => ?_)
              refine lv_aload_n X.x X.b d_Model_expand_132 rfl (lv_at hl 5 rfl) ?_
              refine m_get (v := .ref tq) X ok_Model hM.1 1 (by decide) k_Model_9 rfl d_Model_expand_133 ?_
              refine lv_iload X.x X.b d_Model_expand_136 (lv_at hl 2 rfl) ?_
              refine lv_iconst (v := 3) X.x X.b d_Model_expand_138 (by decide) ?_
              refine lv_iadd X.x X.b d_Model_expand_139 ?_
              rw [show (0 + 3 : Int32) = 3 from by decide]
              refine m_ild (v := v_) X hM.a1 3 rfl (by omega) (by decide) (show s1 1 3 = v_ from (by rw [hE.2 1 (by decide), hL.2.2.2.2.1])) d_Model_expand_140 ?_
              refine lv_aload_n X.x X.b d_Model_expand_141 rfl (lv_at hl 5 rfl) ?_
              refine m_get (v := .ref tq) X ok_Model hM.1 1 (by decide) k_Model_9 rfl d_Model_expand_142 ?_
              refine lv_iload X.x X.b d_Model_expand_145 (lv_at hl 2 rfl) ?_
              refine lv_iconst (v := 4) X.x X.b d_Model_expand_147 (by decide) ?_
              refine lv_iadd X.x X.b d_Model_expand_148 ?_
              rw [show (0 + 4 : Int32) = 4 from by decide]
              refine m_ild (v := r) X hM.a1 4 rfl (by omega) (by decide) (show s1 1 4 = r from (by rw [hE.2 1 (by decide), hL.2.2.2.2.2])) d_Model_expand_149 ?_
              refine lv_iconst (v := 1) X.x X.b d_Model_expand_150 (by decide) ?_
              refine lv_icmp_ne (tgt := 161) X.x X.b d_Model_expand_151 (by decide) (fun c5 => ?_) (fun c5 => ?_)
              · skip
                refine lv_iconst (v := 0) X.x X.b d_Model_expand_161 (by decide) ?_
                refine lv_iadd X.x X.b d_Model_expand_162 ?_
                rw [show (v_ + 0 : Int32) = v_ from Int32.add_zero _]
                refine lv_istore (lv' := [(11, .int v_), (10, .int 5), (9, .int 0), (8, .int 0), (7, .int 0), (6, .int 0), (0, .ref mo), (1, .ref q2), (2, .ref q7), (3, .ref q12), (4, .int 0), (5, .int 0)]) X.x X.b d_Model_expand_163 hl (by decide) rfl (fun ls hl => ?_)
                refine lv_iinc (v := 1) (lv' := [(5, .int 1), (11, .int v_), (10, .int 5), (9, .int 0), (8, .int 0), (7, .int 0), (6, .int 0), (0, .ref mo), (1, .ref q2), (2, .ref q7), (3, .ref q12), (4, .int 0)]) X.x X.b d_Model_expand_165 hl (k := 11) rfl (by decide) (by decide) rfl (fun ls hl => ?_)
                refine lv_iload X.x X.b d_Model_expand_168 (lv_at hl 0 rfl) ?_
                refine lv_sipush (v := 400) X.x X.b d_Model_expand_170 (by decide) ?_
                refine lv_icmp_gt (tgt := 193) X.x X.b d_Model_expand_173 (by decide) (fun c6 => ?_) (fun c6 => ?_)
                · exact absurd c6 (by decide)
                · skip
                  have c6q := Int32.not_lt.mp c6
                  refine lv_iload X.x X.b d_Model_expand_176 (lv_at hl 2 rfl) ?_
                  refine m_callSP X hS (MP_ans (M_Model_makes l g 5) (show b2i ((5 : Int32) < 8) = 1 from by decide)) s_Model_138 rfl rfl (Nat.le_of_ble_eq_true rfl) hl.1 d_Model_expand_178 (by omega) (by decide) ⟨by omega, by omega⟩ (fun locs hS => ?_)
                  refine lv_if_eq (tgt := 203) X.x X.b d_Model_expand_181 (by decide) (fun c7 => ?_) (fun c7 => ?_)
                  · exact absurd c7 (by decide)
                  · skip
                    refine lv_aload_n X.x X.b d_Model_expand_184 rfl (lv_at hl 7 rfl) ?_
                    refine m_get (v := .int 0) X ok_Model hM.1 5 (by decide) k_Model_132 (congrArg (fun z => some (Value.int z)) (show p1 5 = 0 from (by rw [hp15]))) d_Model_expand_185 ?_
                    refine lv_bipush (v := 120) X.x X.b d_Model_expand_188 (by decide) ?_
                    refine lv_icmp_ne (tgt := 203) X.x X.b d_Model_expand_190 (by decide) (fun c8 => ?_) (fun c8 => ?_)
                    · skip
                      refine lv_iload X.x X.b d_Model_expand_203 (lv_at hl 2 rfl) ?_
                      refine lv_bipush (v := 10) X.x X.b d_Model_expand_205 (by decide) ?_
                      refine lv_icmp_ne (tgt := 259) X.x X.b d_Model_expand_207 (by decide) (fun c9 => ?_) (fun c9 => ?_)
                      · skip
                        refine lv_iload X.x X.b d_Model_expand_259 (lv_at hl 2 rfl) ?_
                        refine lv_bipush (v := 8) X.x X.b d_Model_expand_261 (by decide) ?_
                        refine lv_icmp_ne (tgt := 329) X.x X.b d_Model_expand_263 (by decide) (fun c10 => ?_) (fun c10 => ?_)
                        · skip
                          refine lv_iload X.x X.b d_Model_expand_329 (lv_at hl 2 rfl) ?_
                          refine lv_bipush (v := 9) X.x X.b d_Model_expand_331 (by decide) ?_
                          refine lv_icmp_eq (tgt := 366) X.x X.b d_Model_expand_333 (by decide) (fun c11 => ?_) (fun c11 => ?_)
                          · exact absurd c11 (by decide)
                          · skip
                            refine lv_aload_n X.x X.b d_Model_expand_336 rfl (lv_at hl 7 rfl) ?_
                            refine lv_iload X.x X.b d_Model_expand_337 (lv_at hl 2 rfl) ?_
                            refine lv_aload_n X.x X.b d_Model_expand_339 rfl (lv_at hl 7 rfl) ?_
                            refine m_get (v := .ref tq) X ok_Model hM.1 1 (by decide) k_Model_9 rfl d_Model_expand_340 ?_
                            refine lv_iload X.x X.b d_Model_expand_343 (lv_at hl 4 rfl) ?_
                            refine lv_iconst (v := 1) X.x X.b d_Model_expand_345 (by decide) ?_
                            refine lv_iadd X.x X.b d_Model_expand_346 ?_
                            rw [show (0 + 1 : Int32) = 1 from by decide]
                            refine m_ild (v := x) X hM.a1 1 rfl (by omega) (by decide) (show s1 1 1 = x from (by rw [hE.2 1 (by decide), hL.2.2.1])) d_Model_expand_347 ?_
                            refine lv_aload_n X.x X.b d_Model_expand_348 rfl (lv_at hl 7 rfl) ?_
                            refine m_get (v := .ref tq) X ok_Model hM.1 1 (by decide) k_Model_9 rfl d_Model_expand_349 ?_
                            refine lv_iload X.x X.b d_Model_expand_352 (lv_at hl 4 rfl) ?_
                            refine lv_iconst (v := 2) X.x X.b d_Model_expand_354 (by decide) ?_
                            refine lv_iadd X.x X.b d_Model_expand_355 ?_
                            rw [show (0 + 2 : Int32) = 2 from by decide]
                            refine m_ild (v := y) X hM.a1 2 rfl (by omega) (by decide) (show s1 1 2 = y from (by rw [hE.2 1 (by decide), hL.2.2.2.1])) d_Model_expand_356 ?_
                            refine lv_iload X.x X.b d_Model_expand_357 (lv_at hl 1 rfl) ?_
                            refine lv_iload X.x X.b d_Model_expand_359 (lv_at hl 3 rfl) ?_
                            refine lv_iload X.x X.b d_Model_expand_361 (lv_at hl 11 rfl) ?_
                            have hR := M_Model_take_o (c := 0) l g hM (show p1 5 = 0 from (by rw [hp15])) (by omega) 5 x y v_ 0 0 (by decide) (by decide)
                            refine m_callM X hS hR v_Model_147 hM.1 rfl rfl rfl (Nat.le_of_ble_eq_true rfl) hl.1 d_Model_expand_363 (by omega) (by decide) ⟨by omega, by omega⟩ (fun q z => by have z : mo ≤ q ∧ q < mo + 23 := z; exact ⟨by omega, by omega⟩) (fun H locs hM hfr hS => ?_)
                            have hL2 := hL2.fr hfr (fun z => by have z : mo ≤ q2 ∧ q2 < mo + 23 := z; omega)
                            have hL7 := hL7.fr hfr (fun z => by have z : mo ≤ q7 ∧ q7 < mo + 23 := z; omega)
                            have hL12 := hL12.fr hfr (fun z => by have z : mo ≤ q12 ∧ q12 < mo + 23 := z; omega)
                            have hM : mAt g mo tq (upd p1 5 1) _ H := hM
                            obtain ⟨p_3, ep_3⟩ : ∃ z, z = upd p1 5 1 := ⟨_, rfl⟩
                            rw [← ep_3] at hM
                            obtain ⟨s_4, es_4⟩ : ∃ z, z = itR s1 0 5 x y v_ 0 0 := ⟨_, rfl⟩
                            rw [← es_4] at hM
                            refine lv_goto (tgt := 58) X.x X.b d_Model_expand_366 (by decide) ?_
                            refine lv_iload X.x X.b d_Model_expand_58 (lv_at hl 11 rfl) ?_
                            refine lv_if_lt (tgt := 369) X.x X.b d_Model_expand_60 (by decide) (fun c12 => ?_) (fun c12 => ?_)
                            · exact absurd c12 c2
                            · skip
                              have c12q := Int32.not_lt.mp c12
                              refine lv_aload_n X.x X.b d_Model_expand_63 rfl (lv_at hl 7 rfl) ?_
                              refine m_get (v := .int 0) X ok_Model hM.1 3 (by decide) k_Model_126 (congrArg (fun z => some (Value.int z)) (show p_3 3 = 0 from (by rw [ep_3, upd_mi _ _ _ (show 3 ≠ 5 by decide), hp13]))) d_Model_expand_64 ?_
                              refine lv_if_ne (tgt := 369) X.x X.b d_Model_expand_67 (by decide) (fun c13 => ?_) (fun c13 => ?_)
                              · exact absurd c3 c13
                              · skip
                                refine lv_aload_n X.x X.b d_Model_expand_70 rfl (lv_at hl 8 rfl) ?_
                                refine lv_iload X.x X.b d_Model_expand_71 (lv_at hl 11 rfl) ?_
                                refine m_ild (v := 0) X hL2 0 rfl (by omega) (by decide) (show (fun _ => 0) 0 = 0 from rfl) d_Model_expand_73 ?_
                                refine lv_istore (lv' := [(6, .int 0), (5, .int 1), (11, .int v_), (10, .int 5), (9, .int 0), (8, .int 0), (7, .int 0), (0, .ref mo), (1, .ref q2), (2, .ref q7), (3, .ref q12), (4, .int 0)]) X.x X.b d_Model_expand_74 hl (by decide) rfl (fun ls hl => ?_)
                                refine lv_aload_n X.x X.b d_Model_expand_76 rfl (lv_at hl 9 rfl) ?_
                                refine lv_iload X.x X.b d_Model_expand_77 (lv_at hl 11 rfl) ?_
                                refine m_ild (v := 1) X hL7 0 rfl (by omega) (by decide) (show r_2 0 = 1 from (by rw [er_2, upd_hit])) d_Model_expand_79 ?_
                                refine lv_aload_n X.x X.b d_Model_expand_80 rfl (lv_at hl 7 rfl) ?_
                                refine m_get (v := .ref (mo + 2)) X ok_Model hM.1 2 (by decide) k_Model_13 rfl d_Model_expand_81 ?_
                                refine lv_iload X.x X.b d_Model_expand_84 (lv_at hl 0 rfl) ?_
                                refine m_ild (v := 1) X hM.a2 0 rfl (by omega) (by decide) (show s_4 2 0 = 1 from (by rw [es_4, itR_o s1 0 5 x y v_ 0 0 2 (by decide), hE.2 2 (by decide), hL.1.1])) d_Model_expand_86 ?_
                                refine lv_icmp_ne (tgt := 96) X.x X.b d_Model_expand_87 (by decide) (fun c14 => ?_) (fun c14 => ?_)
                                · exact absurd c14 (by decide)
                                · skip
                                  refine lv_iinc (v := (-1)) (lv' := [(4, .int (-1)), (6, .int 0), (5, .int 1), (11, .int v_), (10, .int 5), (9, .int 0), (8, .int 0), (7, .int 0), (0, .ref mo), (1, .ref q2), (2, .ref q7), (3, .ref q12)]) X.x X.b d_Model_expand_90 hl (k := 11) rfl (by decide) (by decide) rfl (fun ls hl => ?_)
                                  refine lv_goto (tgt := 58) X.x X.b d_Model_expand_93 (by decide) ?_
                                  refine lv_iload X.x X.b d_Model_expand_58 (lv_at hl 0 rfl) ?_
                                  refine lv_if_lt (tgt := 369) X.x X.b d_Model_expand_60 (by decide) (fun c15 => ?_) (fun c15 => ?_)
                                  · skip
                                    have c15q := Int32.not_le.mpr c15
                                    refine lv_aload_n X.x X.b d_Model_expand_369 rfl (lv_at hl 8 rfl) ?_
                                    refine m_get (v := .int 0) X ok_Model hM.1 3 (by decide) k_Model_126 (congrArg (fun z => some (Value.int z)) (show p_3 3 = 0 from (by rw [ep_3, upd_mi _ _ _ (show 3 ≠ 5 by decide), hp13]))) d_Model_expand_370 ?_
                                    refine lv_if_ne (tgt := 387) X.x X.b d_Model_expand_373 (by decide) (fun c16 => ?_) (fun c16 => ?_)
                                    · exact absurd c13 c16
                                    · skip
                                      refine lv_aload_n X.x X.b d_Model_expand_376 rfl (lv_at hl 8 rfl) ?_
                                      refine lv_bipush (v := 6) X.x X.b d_Model_expand_377 (by decide) ?_
                                      refine lv_iconst (v := -1) X.x X.b d_Model_expand_379 (by decide) ?_
                                      refine lv_iconst (v := -1) X.x X.b d_Model_expand_380 (by decide) ?_
                                      refine lv_iconst (v := 0) X.x X.b d_Model_expand_381 (by decide) ?_
                                      refine lv_iconst (v := -1) X.x X.b d_Model_expand_382 (by decide) ?_
                                      refine lv_iconst (v := 0) X.x X.b d_Model_expand_383 (by decide) ?_
                                      have hR := M_Model_item (c := 1) l g hM (show p_3 5 = 1 from (by rw [ep_3, upd_hit])) (by omega) 6 (-1) (-1) 0 (-1) 0
                                      refine m_callM X hS hR v_Model_151 hM.1 rfl rfl rfl (Nat.le_of_ble_eq_true rfl) hl.1 d_Model_expand_384 (by omega) (by decide) ⟨by omega, by omega⟩ (fun q z => by have z : mo ≤ q ∧ q < mo + 23 := z; exact ⟨by omega, by omega⟩) (fun H locs hM hfr hS => ?_)
                                      have hL2 := hL2.fr hfr (fun z => by have z : mo ≤ q2 ∧ q2 < mo + 23 := z; omega)
                                      have hL7 := hL7.fr hfr (fun z => by have z : mo ≤ q7 ∧ q7 < mo + 23 := z; omega)
                                      have hL12 := hL12.fr hfr (fun z => by have z : mo ≤ q12 ∧ q12 < mo + 23 := z; omega)
                                      have hM : mAt g mo tq (upd p_3 5 2) _ H := hM
                                      obtain ⟨p_5, ep_5⟩ : ∃ z, z = upd p_3 5 2 := ⟨_, rfl⟩
                                      rw [← ep_5] at hM
                                      obtain ⟨s_6, es_6⟩ : ∃ z, z = itR s_4 1 6 (-1) (-1) 0 (-1) 0 := ⟨_, rfl⟩
                                      rw [← es_6] at hM
                                      exact m_vret X hS (by omega) (by omega) d_Model_expand_387 rfl ⟨_, _, hM, (by rw [ep_5, upd_mi _ _ _ (show 0 ≠ 5 by decide), ep_3, upd_mi _ _ _ (show 0 ≠ 5 by decide), hp10]), by rw [es_6, itR_o s_4 1 6 (-1) (-1) 0 (-1) 0 2 (by decide), es_4, itR_o s1 0 5 x y v_ 0 0 2 (by decide), hE.2 2 (by decide)], ⟨(by rw [ep_5, upd_mi _ _ _ (show 3 ≠ 5 by decide), ep_3, upd_mi _ _ _ (show 3 ≠ 5 by decide), hp13]), (by rw [ep_5, upd_hit])⟩, (by rw [es_6, itR_ne s_4 1 6 (-1) (-1) 0 (-1) 0 (show (0 : Nat) ≠ 1 by omega) 8, es_4, (itR_at s1 0 5 x y v_ 0 0).1]), (by rw [es_6, itR_ne s_4 1 6 (-1) (-1) 0 (-1) 0 (show (0 : Nat) ≠ 1 by omega) 9, es_4, (itR_at s1 0 5 x y v_ 0 0).2.1]), (by rw [es_6, itR_ne s_4 1 6 (-1) (-1) 0 (-1) 0 (show (0 : Nat) ≠ 1 by omega) 10, es_4, (itR_at s1 0 5 x y v_ 0 0).2.2.1]), (by rw [es_6, (itR_at s_4 1 6 (-1) (-1) 0 (-1) 0).1]), (by rw [es_6, itR_ne s_4 1 6 (-1) (-1) 0 (-1) 0 (show (0 : Nat) ≠ 1 by omega) 11, es_4, (itR_at s1 0 5 x y v_ 0 0).2.2.2.1]), fun j hj => (by rw [es_6, itR_o s_4 1 6 (-1) (-1) 0 (-1) 0 27 (by decide), es_4, itR_o s1 0 5 x y v_ 0 0 27 (by decide), (hE.1 j (by omega)).2])⟩
                                  · exact absurd c15 (by decide)
                        · exact absurd c10 (by decide)
                      · exact absurd c9 (by decide)
                    · exact absurd c8 (by decide)
              · skip
                refine lv_aload_n X.x X.b d_Model_expand_154 rfl (lv_at hl 8 rfl) ?_
                refine lv_iload X.x X.b d_Model_expand_155 (lv_at hl 9 rfl) ?_
                refine m_ild (v := 0) X hL12 0 rfl (by omega) (by decide) (show (fun _ => 0) 0 = 0 from rfl) d_Model_expand_157 ?_
                refine lv_goto (tgt := 162) X.x X.b d_Model_expand_158 (by decide) ?_
                refine lv_iadd X.x X.b d_Model_expand_162 ?_
                rw [show (v_ + 0 : Int32) = v_ from Int32.add_zero _]
                refine lv_istore (lv' := [(11, .int v_), (10, .int 5), (9, .int 0), (8, .int 0), (7, .int 0), (6, .int 0), (0, .ref mo), (1, .ref q2), (2, .ref q7), (3, .ref q12), (4, .int 0), (5, .int 0)]) X.x X.b d_Model_expand_163 hl (by decide) rfl (fun ls hl => ?_)
                refine lv_iinc (v := 1) (lv' := [(5, .int 1), (11, .int v_), (10, .int 5), (9, .int 0), (8, .int 0), (7, .int 0), (6, .int 0), (0, .ref mo), (1, .ref q2), (2, .ref q7), (3, .ref q12), (4, .int 0)]) X.x X.b d_Model_expand_165 hl (k := 11) rfl (by decide) (by decide) rfl (fun ls hl => ?_)
                refine lv_iload X.x X.b d_Model_expand_168 (lv_at hl 0 rfl) ?_
                refine lv_sipush (v := 400) X.x X.b d_Model_expand_170 (by decide) ?_
                refine lv_icmp_gt (tgt := 193) X.x X.b d_Model_expand_173 (by decide) (fun c17 => ?_) (fun c17 => ?_)
                · exact absurd c17 (by decide)
                · skip
                  have c17q := Int32.not_lt.mp c17
                  refine lv_iload X.x X.b d_Model_expand_176 (lv_at hl 2 rfl) ?_
                  refine m_callSP X hS (MP_ans (M_Model_makes l g 5) (show b2i ((5 : Int32) < 8) = 1 from by decide)) s_Model_138 rfl rfl (Nat.le_of_ble_eq_true rfl) hl.1 d_Model_expand_178 (by omega) (by decide) ⟨by omega, by omega⟩ (fun locs hS => ?_)
                  refine lv_if_eq (tgt := 203) X.x X.b d_Model_expand_181 (by decide) (fun c18 => ?_) (fun c18 => ?_)
                  · exact absurd c18 (by decide)
                  · skip
                    refine lv_aload_n X.x X.b d_Model_expand_184 rfl (lv_at hl 7 rfl) ?_
                    refine m_get (v := .int 0) X ok_Model hM.1 5 (by decide) k_Model_132 (congrArg (fun z => some (Value.int z)) (show p1 5 = 0 from (by rw [hp15]))) d_Model_expand_185 ?_
                    refine lv_bipush (v := 120) X.x X.b d_Model_expand_188 (by decide) ?_
                    refine lv_icmp_ne (tgt := 203) X.x X.b d_Model_expand_190 (by decide) (fun c19 => ?_) (fun c19 => ?_)
                    · skip
                      refine lv_iload X.x X.b d_Model_expand_203 (lv_at hl 2 rfl) ?_
                      refine lv_bipush (v := 10) X.x X.b d_Model_expand_205 (by decide) ?_
                      refine lv_icmp_ne (tgt := 259) X.x X.b d_Model_expand_207 (by decide) (fun c20 => ?_) (fun c20 => ?_)
                      · skip
                        refine lv_iload X.x X.b d_Model_expand_259 (lv_at hl 2 rfl) ?_
                        refine lv_bipush (v := 8) X.x X.b d_Model_expand_261 (by decide) ?_
                        refine lv_icmp_ne (tgt := 329) X.x X.b d_Model_expand_263 (by decide) (fun c21 => ?_) (fun c21 => ?_)
                        · skip
                          refine lv_iload X.x X.b d_Model_expand_329 (lv_at hl 2 rfl) ?_
                          refine lv_bipush (v := 9) X.x X.b d_Model_expand_331 (by decide) ?_
                          refine lv_icmp_eq (tgt := 366) X.x X.b d_Model_expand_333 (by decide) (fun c22 => ?_) (fun c22 => ?_)
                          · exact absurd c22 (by decide)
                          · skip
                            refine lv_aload_n X.x X.b d_Model_expand_336 rfl (lv_at hl 7 rfl) ?_
                            refine lv_iload X.x X.b d_Model_expand_337 (lv_at hl 2 rfl) ?_
                            refine lv_aload_n X.x X.b d_Model_expand_339 rfl (lv_at hl 7 rfl) ?_
                            refine m_get (v := .ref tq) X ok_Model hM.1 1 (by decide) k_Model_9 rfl d_Model_expand_340 ?_
                            refine lv_iload X.x X.b d_Model_expand_343 (lv_at hl 4 rfl) ?_
                            refine lv_iconst (v := 1) X.x X.b d_Model_expand_345 (by decide) ?_
                            refine lv_iadd X.x X.b d_Model_expand_346 ?_
                            rw [show (0 + 1 : Int32) = 1 from by decide]
                            refine m_ild (v := x) X hM.a1 1 rfl (by omega) (by decide) (show s1 1 1 = x from (by rw [hE.2 1 (by decide), hL.2.2.1])) d_Model_expand_347 ?_
                            refine lv_aload_n X.x X.b d_Model_expand_348 rfl (lv_at hl 7 rfl) ?_
                            refine m_get (v := .ref tq) X ok_Model hM.1 1 (by decide) k_Model_9 rfl d_Model_expand_349 ?_
                            refine lv_iload X.x X.b d_Model_expand_352 (lv_at hl 4 rfl) ?_
                            refine lv_iconst (v := 2) X.x X.b d_Model_expand_354 (by decide) ?_
                            refine lv_iadd X.x X.b d_Model_expand_355 ?_
                            rw [show (0 + 2 : Int32) = 2 from by decide]
                            refine m_ild (v := y) X hM.a1 2 rfl (by omega) (by decide) (show s1 1 2 = y from (by rw [hE.2 1 (by decide), hL.2.2.2.1])) d_Model_expand_356 ?_
                            refine lv_iload X.x X.b d_Model_expand_357 (lv_at hl 1 rfl) ?_
                            refine lv_iload X.x X.b d_Model_expand_359 (lv_at hl 3 rfl) ?_
                            refine lv_iload X.x X.b d_Model_expand_361 (lv_at hl 11 rfl) ?_
                            have hR := M_Model_take_o (c := 0) l g hM (show p1 5 = 0 from (by rw [hp15])) (by omega) 5 x y v_ 0 0 (by decide) (by decide)
                            refine m_callM X hS hR v_Model_147 hM.1 rfl rfl rfl (Nat.le_of_ble_eq_true rfl) hl.1 d_Model_expand_363 (by omega) (by decide) ⟨by omega, by omega⟩ (fun q z => by have z : mo ≤ q ∧ q < mo + 23 := z; exact ⟨by omega, by omega⟩) (fun H locs hM hfr hS => ?_)
                            have hL2 := hL2.fr hfr (fun z => by have z : mo ≤ q2 ∧ q2 < mo + 23 := z; omega)
                            have hL7 := hL7.fr hfr (fun z => by have z : mo ≤ q7 ∧ q7 < mo + 23 := z; omega)
                            have hL12 := hL12.fr hfr (fun z => by have z : mo ≤ q12 ∧ q12 < mo + 23 := z; omega)
                            have hM : mAt g mo tq (upd p1 5 1) _ H := hM
                            obtain ⟨p_7, ep_7⟩ : ∃ z, z = upd p1 5 1 := ⟨_, rfl⟩
                            rw [← ep_7] at hM
                            obtain ⟨s_8, es_8⟩ : ∃ z, z = itR s1 0 5 x y v_ 0 0 := ⟨_, rfl⟩
                            rw [← es_8] at hM
                            refine lv_goto (tgt := 58) X.x X.b d_Model_expand_366 (by decide) ?_
                            refine lv_iload X.x X.b d_Model_expand_58 (lv_at hl 11 rfl) ?_
                            refine lv_if_lt (tgt := 369) X.x X.b d_Model_expand_60 (by decide) (fun c23 => ?_) (fun c23 => ?_)
                            · exact absurd c23 c2
                            · skip
                              have c23q := Int32.not_lt.mp c23
                              refine lv_aload_n X.x X.b d_Model_expand_63 rfl (lv_at hl 7 rfl) ?_
                              refine m_get (v := .int 0) X ok_Model hM.1 3 (by decide) k_Model_126 (congrArg (fun z => some (Value.int z)) (show p_7 3 = 0 from (by rw [ep_7, upd_mi _ _ _ (show 3 ≠ 5 by decide), hp13]))) d_Model_expand_64 ?_
                              refine lv_if_ne (tgt := 369) X.x X.b d_Model_expand_67 (by decide) (fun c24 => ?_) (fun c24 => ?_)
                              · exact absurd c3 c24
                              · skip
                                refine lv_aload_n X.x X.b d_Model_expand_70 rfl (lv_at hl 8 rfl) ?_
                                refine lv_iload X.x X.b d_Model_expand_71 (lv_at hl 11 rfl) ?_
                                refine m_ild (v := 0) X hL2 0 rfl (by omega) (by decide) (show (fun _ => 0) 0 = 0 from rfl) d_Model_expand_73 ?_
                                refine lv_istore (lv' := [(6, .int 0), (5, .int 1), (11, .int v_), (10, .int 5), (9, .int 0), (8, .int 0), (7, .int 0), (0, .ref mo), (1, .ref q2), (2, .ref q7), (3, .ref q12), (4, .int 0)]) X.x X.b d_Model_expand_74 hl (by decide) rfl (fun ls hl => ?_)
                                refine lv_aload_n X.x X.b d_Model_expand_76 rfl (lv_at hl 9 rfl) ?_
                                refine lv_iload X.x X.b d_Model_expand_77 (lv_at hl 11 rfl) ?_
                                refine m_ild (v := 1) X hL7 0 rfl (by omega) (by decide) (show r_2 0 = 1 from (by rw [er_2, upd_hit])) d_Model_expand_79 ?_
                                refine lv_aload_n X.x X.b d_Model_expand_80 rfl (lv_at hl 7 rfl) ?_
                                refine m_get (v := .ref (mo + 2)) X ok_Model hM.1 2 (by decide) k_Model_13 rfl d_Model_expand_81 ?_
                                refine lv_iload X.x X.b d_Model_expand_84 (lv_at hl 0 rfl) ?_
                                refine m_ild (v := 1) X hM.a2 0 rfl (by omega) (by decide) (show s_8 2 0 = 1 from (by rw [es_8, itR_o s1 0 5 x y v_ 0 0 2 (by decide), hE.2 2 (by decide), hL.1.1])) d_Model_expand_86 ?_
                                refine lv_icmp_ne (tgt := 96) X.x X.b d_Model_expand_87 (by decide) (fun c25 => ?_) (fun c25 => ?_)
                                · exact absurd c25 (by decide)
                                · skip
                                  refine lv_iinc (v := (-1)) (lv' := [(4, .int (-1)), (6, .int 0), (5, .int 1), (11, .int v_), (10, .int 5), (9, .int 0), (8, .int 0), (7, .int 0), (0, .ref mo), (1, .ref q2), (2, .ref q7), (3, .ref q12)]) X.x X.b d_Model_expand_90 hl (k := 11) rfl (by decide) (by decide) rfl (fun ls hl => ?_)
                                  refine lv_goto (tgt := 58) X.x X.b d_Model_expand_93 (by decide) ?_
                                  refine lv_iload X.x X.b d_Model_expand_58 (lv_at hl 0 rfl) ?_
                                  refine lv_if_lt (tgt := 369) X.x X.b d_Model_expand_60 (by decide) (fun c26 => ?_) (fun c26 => ?_)
                                  · skip
                                    have c26q := Int32.not_le.mpr c26
                                    refine lv_aload_n X.x X.b d_Model_expand_369 rfl (lv_at hl 8 rfl) ?_
                                    refine m_get (v := .int 0) X ok_Model hM.1 3 (by decide) k_Model_126 (congrArg (fun z => some (Value.int z)) (show p_7 3 = 0 from (by rw [ep_7, upd_mi _ _ _ (show 3 ≠ 5 by decide), hp13]))) d_Model_expand_370 ?_
                                    refine lv_if_ne (tgt := 387) X.x X.b d_Model_expand_373 (by decide) (fun c27 => ?_) (fun c27 => ?_)
                                    · exact absurd c24 c27
                                    · skip
                                      refine lv_aload_n X.x X.b d_Model_expand_376 rfl (lv_at hl 8 rfl) ?_
                                      refine lv_bipush (v := 6) X.x X.b d_Model_expand_377 (by decide) ?_
                                      refine lv_iconst (v := -1) X.x X.b d_Model_expand_379 (by decide) ?_
                                      refine lv_iconst (v := -1) X.x X.b d_Model_expand_380 (by decide) ?_
                                      refine lv_iconst (v := 0) X.x X.b d_Model_expand_381 (by decide) ?_
                                      refine lv_iconst (v := -1) X.x X.b d_Model_expand_382 (by decide) ?_
                                      refine lv_iconst (v := 0) X.x X.b d_Model_expand_383 (by decide) ?_
                                      have hR := M_Model_item (c := 1) l g hM (show p_7 5 = 1 from (by rw [ep_7, upd_hit])) (by omega) 6 (-1) (-1) 0 (-1) 0
                                      refine m_callM X hS hR v_Model_151 hM.1 rfl rfl rfl (Nat.le_of_ble_eq_true rfl) hl.1 d_Model_expand_384 (by omega) (by decide) ⟨by omega, by omega⟩ (fun q z => by have z : mo ≤ q ∧ q < mo + 23 := z; exact ⟨by omega, by omega⟩) (fun H locs hM hfr hS => ?_)
                                      have hL2 := hL2.fr hfr (fun z => by have z : mo ≤ q2 ∧ q2 < mo + 23 := z; omega)
                                      have hL7 := hL7.fr hfr (fun z => by have z : mo ≤ q7 ∧ q7 < mo + 23 := z; omega)
                                      have hL12 := hL12.fr hfr (fun z => by have z : mo ≤ q12 ∧ q12 < mo + 23 := z; omega)
                                      have hM : mAt g mo tq (upd p_7 5 2) _ H := hM
                                      obtain ⟨p_9, ep_9⟩ : ∃ z, z = upd p_7 5 2 := ⟨_, rfl⟩
                                      rw [← ep_9] at hM
                                      obtain ⟨s_10, es_10⟩ : ∃ z, z = itR s_8 1 6 (-1) (-1) 0 (-1) 0 := ⟨_, rfl⟩
                                      rw [← es_10] at hM
                                      exact m_vret X hS (by omega) (by omega) d_Model_expand_387 rfl ⟨_, _, hM, (by rw [ep_9, upd_mi _ _ _ (show 0 ≠ 5 by decide), ep_7, upd_mi _ _ _ (show 0 ≠ 5 by decide), hp10]), by rw [es_10, itR_o s_8 1 6 (-1) (-1) 0 (-1) 0 2 (by decide), es_8, itR_o s1 0 5 x y v_ 0 0 2 (by decide), hE.2 2 (by decide)], ⟨(by rw [ep_9, upd_mi _ _ _ (show 3 ≠ 5 by decide), ep_7, upd_mi _ _ _ (show 3 ≠ 5 by decide), hp13]), (by rw [ep_9, upd_hit])⟩, (by rw [es_10, itR_ne s_8 1 6 (-1) (-1) 0 (-1) 0 (show (0 : Nat) ≠ 1 by omega) 8, es_8, (itR_at s1 0 5 x y v_ 0 0).1]), (by rw [es_10, itR_ne s_8 1 6 (-1) (-1) 0 (-1) 0 (show (0 : Nat) ≠ 1 by omega) 9, es_8, (itR_at s1 0 5 x y v_ 0 0).2.1]), (by rw [es_10, itR_ne s_8 1 6 (-1) (-1) 0 (-1) 0 (show (0 : Nat) ≠ 1 by omega) 10, es_8, (itR_at s1 0 5 x y v_ 0 0).2.2.1]), (by rw [es_10, (itR_at s_8 1 6 (-1) (-1) 0 (-1) 0).1]), (by rw [es_10, itR_ne s_8 1 6 (-1) (-1) 0 (-1) 0 (show (0 : Nat) ≠ 1 by omega) 11, es_8, (itR_at s1 0 5 x y v_ 0 0).2.2.2.1]), fun j hj => (by rw [es_10, itR_o s_8 1 6 (-1) (-1) 0 (-1) 0 27 (by decide), es_8, itR_o s1 0 5 x y v_ 0 0 27 (by decide), (hE.1 j (by omega)).2])⟩
                                  · exact absurd c26 (by decide)
                        · exact absurd c21 (by decide)
                      · exact absurd c20 (by decide)
                    · exact absurd c19 (by decide)
            · exact absurd c4 (by decide)
      · exact absurd ((nI_ltI (a := i) (b := 8) (by omega) (by omega)).mp (Int32.not_le.mp c1)) (by omega)
    | succ n ih =>
      intro i s1 hin hi5 hE H locs ls hM hL2 hL7 hL12 hS hl
      refine lv_iload X.x X.b d_Model_expand_29 (lv_at hl 6 rfl) ?_
      refine lv_bipush (v := 8) X.x X.b d_Model_expand_31 (by decide) ?_
      refine lv_icmp_ge (tgt := 58) X.x X.b d_Model_expand_33 (by decide) (fun c28 => ?_) (fun c28 => ?_)
      · exact absurd ((nI_leI (a := 8) (b := i) (by omega) (by omega)).mp c28) (by omega)
      · skip
        have c28q := Int32.not_le.mp c28
        refine lv_aload_n X.x X.b d_Model_expand_36 rfl (lv_at hl 0 rfl) ?_
        refine m_get (v := .ref (mo + 20)) X ok_Model hM.1 25 (by decide) k_Model_68 rfl d_Model_expand_37 ?_
        refine lv_iload X.x X.b d_Model_expand_40 (lv_at hl 6 rfl) ?_
        refine lv_iconst (v := 0) X.x X.b d_Model_expand_42 (by decide) ?_
        refine m_ist X hS (Or.inl ⟨by omega, by omega⟩) hM.a25 i rfl (by omega) (by decide) d_Model_expand_43 (fun H locs hp hcg hS => ?_)
        have hM := hM.s25 hp hcg
        obtain ⟨s_11, es_11⟩ : ∃ z, z = updR s1 25 (upd (s1 25) i 0) := ⟨_, rfl⟩
        rw [← es_11] at hM
        have hL2 := hL2.off hcg (by omega)
        have hL7 := hL7.off hcg (by omega)
        have hL12 := hL12.off hcg (by omega)
        refine lv_aload_n X.x X.b d_Model_expand_44 rfl (lv_at hl 0 rfl) ?_
        refine m_get (v := .ref (mo + 22)) X ok_Model hM.1 27 (by decide) k_Model_74 rfl d_Model_expand_45 ?_
        refine lv_iload X.x X.b d_Model_expand_48 (lv_at hl 6 rfl) ?_
        refine lv_iconst (v := -1) X.x X.b d_Model_expand_50 (by decide) ?_
        refine m_ist X hS (Or.inl ⟨by omega, by omega⟩) hM.a27 i rfl (by omega) (by decide) d_Model_expand_51 (fun H locs hp hcg hS => ?_)
        have hM := hM.s27 hp hcg
        obtain ⟨s_12, es_12⟩ : ∃ z, z = updR s_11 27 (upd (s_11 27) i (-1)) := ⟨_, rfl⟩
        rw [← es_12] at hM
        have hL2 := hL2.off hcg (by omega)
        have hL7 := hL7.off hcg (by omega)
        have hL12 := hL12.off hcg (by omega)
        refine lv_iinc (v := nI (i + 1)) (lv' := [(6, .int (nI (i + 1))), (0, .ref mo), (1, .ref q2), (2, .ref q7), (3, .ref q12), (4, .int 0), (5, .int 0)]) X.x X.b d_Model_expand_52 hl (k := 6) rfl (nI_1 i) (by decide) rfl (fun ls hl => ?_)
        refine lv_goto (tgt := 29) X.x X.b d_Model_expand_55 (by decide) ?_
        exact ih (i + 1) s_12 (by omega) (by omega) (⟨fun j hj => (Nat.lt_or_ge j i).elim (fun z => ⟨by rw [es_12, updR_n2 _ _ _ _ (show j ≠ i by omega), es_11, updR_n2 _ _ _ _ (show j ≠ i by omega)]; exact (hE.1 j z).1, by rw [es_12, updR_n2 _ _ _ _ (show j ≠ i by omega), es_11, updR_n2 _ _ _ _ (show j ≠ i by omega)]; exact (hE.1 j z).2⟩) (fun z => ⟨by rw [show j = i by omega, es_12, updR_mf _ _ _ (show 25 ≠ 27 by decide), es_11, updR_hit], by rw [show j = i by omega, es_12, updR_hit]⟩), by rw [es_12, es_11]; exact (hE.2.up _ _ (by decide)).up _ _ (by decide)⟩) _ _ _ hM hL2 hL7 hL12 hS (lv_sub hl [1, 2, 3, 4, 5, 6, 0] rfl)
  exact lp 8 0 s0 (by omega) (by omega) (⟨fun j hj => absurd hj (Nat.not_lt_zero j), same.rf _ _⟩) _ _ _ hM hL2 hL7 hL12 hS (lv_sub hl [6, 5, 4, 3, 2, 1, 0] rfl)
set_option maxRecDepth 100000 in
set_option maxHeartbeats 4000000 in
theorem M_Model_expand_L6 (l : Launch) (g : GG) {mo tq : Nat} {p0 : Nat → Int32} {s0 : Nat → Nat → Int32} {H0 : Heap} (hM : mAt g mo tq p0 s0 H0) {x y v_ r : Int32} (hL : oneL 6 x y v_ r s0) (hf3 : p0 3 = 0) : MM l y_Model_expand c_Model_expand 13 none 3 3 18 g H0 [.ref mo] (fun q => mo ≤ q ∧ q < mo + 23) (none) (fun H1 => ∃ p s, mAt g mo tq p s H1 ∧ p 0 = p0 0 ∧ s 2 = s0 2 ∧ (p 3 = 0 ∧ p 5 = 2) ∧ s 8 0 = 6 ∧ s 9 0 = x ∧ s 10 0 = y ∧ s 8 1 = 6 ∧ s 11 0 = v_ ∧ ∀ j, j < 8 → s 27 j = -1) := by
  refine MM.of (by decide +kernel) (Nat.le_of_ble_eq_true rfl) ?_
  intro p e s m below meth cd X hH ls hl
  have X : CX g p s m _ meth cd c_Model_expand 13 none R_Model _ := X
  have hl : lv_has ls 13 [(0, .ref mo)] := hl
  have hS : va_S (AA (fun q => mo ≤ q ∧ q < mo + 23) H0) H0 H0 [] := va_S.rf
  have hlt0 := hM.lt
  have htq0 := hM.tq
  refine lv_bipush (v := 6) X.x X.b d_Model_expand_0 (by decide) ?_
  obtain ⟨q2, hq2⟩ := sz_of hS
  have hlt2 := hM.lt
  have hsz2 := hS.1
  refine m_newI X hS hq2 6 (by decide) (by decide) (by decide) (by omega) (by omega) d_Model_expand_2 (fun H hL2 hgr hS hz2 => ?_)
  have hfr := fr.of_grow (A := noA) hgr
  have hM := hM.frame hfr (fun q z => z.elim)
  refine lv_astore_n (lv' := [(1, .ref q2), (0, .ref mo)]) X.x X.b d_Model_expand_4 rfl hl (by decide) rfl (fun ls hl => ?_)
  refine lv_bipush (v := 6) X.x X.b d_Model_expand_5 (by decide) ?_
  obtain ⟨q7, hq7⟩ := sz_of hS
  have hlt7 := hM.lt
  have hsz7 := hS.1
  refine m_newI X hS hq7 6 (by decide) (by decide) (by decide) (by omega) (by omega) d_Model_expand_7 (fun H hL7 hgr hS hz2 => ?_)
  have hfr := fr.of_grow (A := noA) hgr
  have hM := hM.frame hfr (fun q z => z.elim)
  have hL2 := hL2.fr hfr (fun z => z)
  refine lv_astore_n (lv' := [(2, .ref q7), (1, .ref q2), (0, .ref mo)]) X.x X.b d_Model_expand_9 rfl hl (by decide) rfl (fun ls hl => ?_)
  refine lv_bipush (v := 6) X.x X.b d_Model_expand_10 (by decide) ?_
  obtain ⟨q12, hq12⟩ := sz_of hS
  have hlt12 := hM.lt
  have hsz12 := hS.1
  refine m_newI X hS hq12 6 (by decide) (by decide) (by decide) (by omega) (by omega) d_Model_expand_12 (fun H hL12 hgr hS hz2 => ?_)
  have hfr := fr.of_grow (A := noA) hgr
  have hM := hM.frame hfr (fun q z => z.elim)
  have hL2 := hL2.fr hfr (fun z => z)
  have hL7 := hL7.fr hfr (fun z => z)
  refine lv_astore_n (lv' := [(3, .ref q12), (2, .ref q7), (1, .ref q2), (0, .ref mo)]) X.x X.b d_Model_expand_14 rfl hl (by decide) rfl (fun ls hl => ?_)
  refine lv_iconst (v := 0) X.x X.b d_Model_expand_15 (by decide) ?_
  refine lv_istore (lv' := [(4, .int 0), (3, .ref q12), (2, .ref q7), (1, .ref q2), (0, .ref mo)]) X.x X.b d_Model_expand_16 hl (by decide) rfl (fun ls hl => ?_)
  refine lv_iconst (v := 0) X.x X.b d_Model_expand_18 (by decide) ?_
  refine lv_istore (lv' := [(5, .int 0), (4, .int 0), (3, .ref q12), (2, .ref q7), (1, .ref q2), (0, .ref mo)]) X.x X.b d_Model_expand_19 hl (by decide) rfl (fun ls hl => ?_)
  refine lv_aload_n X.x X.b d_Model_expand_21 rfl (lv_at hl 5 rfl) ?_
  refine lv_iconst (v := 0) X.x X.b d_Model_expand_22 (by decide) ?_
  refine m_put X ok_Model hS (Or.inl ⟨by omega, by omega⟩) hM.1 5 (by decide) k_Model_132 rfl (ok_Model.2.2.1 _ (by decide)) rfl rfl (Nat.le_of_ble_eq_true rfl) d_Model_expand_23 (fun H locs hp hcg hS => ?_)
  have hM := hM.f5 hp hcg
  obtain ⟨p_1, ep_1⟩ : ∃ z, z = upd p0 5 0 := ⟨_, rfl⟩
  rw [← ep_1] at hM
  have hL2 := hL2.off hcg (by omega)
  have hL7 := hL7.off hcg (by omega)
  have hL12 := hL12.off hcg (by omega)
  obtain ⟨p1, hp1⟩ : ∃ z, z = p_1 := ⟨_, rfl⟩
  rw [← hp1] at hM
  have hp1 : p1 = upd p0 5 0 := by rw [hp1, ep_1]
  have hp15 : p1 5 = 0 := by rw [hp1]; exact upd_hit _ _ _
  have hp13 : p1 3 = 0 := by rw [hp1]; exact (upd_mi _ _ _ (by decide)).trans hf3
  have hp10 : p1 0 = p0 0 := by rw [hp1]; exact upd_mi _ _ _ (by decide)
  refine lv_iconst (v := 0) X.x X.b d_Model_expand_26 (by decide) ?_
  refine lv_istore (lv' := [(6, .int 0), (5, .int 0), (4, .int 0), (3, .ref q12), (2, .ref q7), (1, .ref q2), (0, .ref mo)]) X.x X.b d_Model_expand_27 hl (by decide) rfl (fun ls hl => ?_)
  have lp : ∀ (n i : Nat) (s1 : Nat → Nat → Int32), n = 8 - i → i < 5000 → ((∀ j, j < i → s1 25 j = 0 ∧ s1 27 j = -1) ∧ same [25, 27] s0 s1) → ∀ (H : Heap) (locs : List Loc) (ls : Array Slot), mAt g mo tq p1 s1 H → pt g q2 (.inl (g.2 0, 6, .inl (fun _ => 0))) H → pt g q7 (.inl (g.2 0, 6, .inl (fun _ => 0))) H → pt g q12 (.inl (g.2 0, 6, .inl (fun _ => 0))) H → va_S (AA (fun q => mo ≤ q ∧ q < mo + 23) H0) H0 H locs → lv_has ls 13 [(0, .ref mo), (1, .ref q2), (2, .ref q7), (3, .ref q12), (4, .int 0), (5, .int 0), (6, .int (nI i))] → W p l e (rmK 3 3 18) s m ([.ref mo] : List Value).toArray below meth cd H locs 3 18 (MQ below (QM (none) (fun H1 => ∃ p s, mAt g mo tq p s H1 ∧ p 0 = p0 0 ∧ s 2 = s0 2 ∧ (p 3 = 0 ∧ p 5 = 2) ∧ s 8 0 = 6 ∧ s 9 0 = x ∧ s 10 0 = y ∧ s 8 1 = 6 ∧ s 11 0 = v_ ∧ ∀ j, j < 8 → s 27 j = -1) (fun q => mo ≤ q ∧ q < mo + 23) H0) ([.ref mo] : List Value).toArray s 3 18 (AA (fun q => mo ≤ q ∧ q < mo + 23) H0)) (F0 m 29 ls []) := by
    intro n
    induction n with
    | zero =>
      intro i s1 hin hi5 hE H locs ls hM hL2 hL7 hL12 hS hl
      refine lv_iload X.x X.b d_Model_expand_29 (lv_at hl 6 rfl) ?_
      refine lv_bipush (v := 8) X.x X.b d_Model_expand_31 (by decide) ?_
      refine lv_icmp_ge (tgt := 58) X.x X.b d_Model_expand_33 (by decide) (fun c1 => ?_) (fun c1 => ?_)
      · skip
        have c1q := Int32.not_lt.mpr c1
        refine lv_iload X.x X.b d_Model_expand_58 (lv_at hl 4 rfl) ?_
        refine lv_if_lt (tgt := 369) X.x X.b d_Model_expand_60 (by decide) (fun c2 => ?_) (fun c2 => ?_)
        · exact absurd c2 (by decide)
        · skip
          have c2q := Int32.not_lt.mp c2
          refine lv_aload_n X.x X.b d_Model_expand_63 rfl (lv_at hl 0 rfl) ?_
          refine m_get (v := .int 0) X ok_Model hM.1 3 (by decide) k_Model_126 (congrArg (fun z => some (Value.int z)) (show p1 3 = 0 from (by rw [hp13]))) d_Model_expand_64 ?_
          refine lv_if_ne (tgt := 369) X.x X.b d_Model_expand_67 (by decide) (fun c3 => ?_) (fun c3 => ?_)
          · exact absurd c3 (by decide)
          · skip
            refine lv_aload_n X.x X.b d_Model_expand_70 rfl (lv_at hl 1 rfl) ?_
            refine lv_iload X.x X.b d_Model_expand_71 (lv_at hl 4 rfl) ?_
            refine m_ild (v := 0) X hL2 0 rfl (by omega) (by decide) (show (fun _ => 0) 0 = 0 from rfl) d_Model_expand_73 ?_
            refine lv_istore (lv' := [(6, .int 0), (0, .ref mo), (1, .ref q2), (2, .ref q7), (3, .ref q12), (4, .int 0), (5, .int 0)]) X.x X.b d_Model_expand_74 hl (by decide) rfl (fun ls hl => ?_)
            refine lv_aload_n X.x X.b d_Model_expand_76 rfl (lv_at hl 3 rfl) ?_
            refine lv_iload X.x X.b d_Model_expand_77 (lv_at hl 5 rfl) ?_
            refine m_ild (v := 0) X hL7 0 rfl (by omega) (by decide) (show (fun _ => 0) 0 = 0 from rfl) d_Model_expand_79 ?_
            refine lv_aload_n X.x X.b d_Model_expand_80 rfl (lv_at hl 1 rfl) ?_
            refine m_get (v := .ref (mo + 2)) X ok_Model hM.1 2 (by decide) k_Model_13 rfl d_Model_expand_81 ?_
            refine lv_iload X.x X.b d_Model_expand_84 (lv_at hl 0 rfl) ?_
            refine m_ild (v := 1) X hM.a2 0 rfl (by omega) (by decide) (show s1 2 0 = 1 from (by rw [hE.2 2 (by decide), hL.1.1])) d_Model_expand_86 ?_
            refine lv_icmp_ne (tgt := 96) X.x X.b d_Model_expand_87 (by decide) (fun c4 => ?_) (fun c4 => ?_)
            · skip
              refine lv_aload_n X.x X.b d_Model_expand_96 rfl (lv_at hl 3 rfl) ?_
              refine lv_iload X.x X.b d_Model_expand_97 (lv_at hl 5 rfl) ?_
              refine lv_dup2_11 X.x X.b d_Model_expand_99 rfl rfl ?_
              refine m_ild (v := 0) X hL7 0 rfl (by omega) (by decide) (show (fun _ => 0) 0 = 0 from rfl) d_Model_expand_100 ?_
              refine lv_dup_x2 X.x X.b d_Model_expand_101 rfl rfl rfl ?_
              refine lv_iconst (v := 1) X.x X.b d_Model_expand_102 (by decide) ?_
              refine lv_iadd X.x X.b d_Model_expand_103 ?_
              rw [show (0 + 1 : Int32) = 1 from by decide]
              refine m_ist X hS (Or.inr (by omega)) hL7 0 rfl (by omega) (by decide) d_Model_expand_104 (fun H locs hp hcg hS => ?_)
              have hL7 := hp
              obtain ⟨r_2, er_2⟩ : ∃ z, z = upd (fun _ => 0) 0 1 := ⟨_, rfl⟩
              rw [← er_2] at hL7
              have hM := hM.frame (fr.of_chg (A := fun q => q = q7) hcg rfl) (fun q z => by have z : q = q7 := z; have := hM.tq; omega)
              have hL2 := hL2.off hcg (by omega)
              have hL12 := hL12.off hcg (by omega)
              refine lv_istore (lv' := [(7, .int 0), (6, .int 0), (0, .ref mo), (1, .ref q2), (2, .ref q7), (3, .ref q12), (4, .int 0), (5, .int 0)]) X.x X.b d_Model_expand_105 hl (by decide) rfl (fun ls hl => ?_)
              refine lv_iload X.x X.b d_Model_expand_107 (lv_at hl 1 rfl) ?_
              refine lv_iload X.x X.b d_Model_expand_109 (lv_at hl 0 rfl) ?_
              refine m_callSP X hS (MP_ans (M_Model_at l g 0 0) (show (((0 : Int32) * 64 + 0) * 5) = 0 from by decide)) s_Model_96 rfl rfl (Nat.le_of_ble_eq_true rfl) hl.1 d_Model_expand_111 (by omega) (by decide) ⟨by omega, by omega⟩ (fun locs hS => ?_)
              refine lv_istore (lv' := [(8, .int 0), (7, .int 0), (6, .int 0), (0, .ref mo), (1, .ref q2), (2, .ref q7), (3, .ref q12), (4, .int 0), (5, .int 0)]) X.x X.b d_Model_expand_114 hl (by decide) rfl (fun ls hl => ?_)
              refine lv_aload_n X.x X.b d_Model_expand_116 rfl (lv_at hl 5 rfl) ?_
              refine lv_iconst (v := 0) X.x X.b d_Model_expand_117 (by decide) ?_
              refine m_ild (v := 1) X hL7 0 rfl (by omega) (by decide) (show r_2 0 = 1 from (by rw [er_2, upd_hit])) d_Model_expand_118 ?_
              refine lv_iconst (v := 1) X.x X.b d_Model_expand_119 (by decide) ?_
              refine lv_isub X.x X.b d_Model_expand_120 ?_
              rw [show (1 - 1 : Int32) = 0 from by decide]
              refine lv_istore (lv' := [(9, .int 0), (8, .int 0), (7, .int 0), (6, .int 0), (0, .ref mo), (1, .ref q2), (2, .ref q7), (3, .ref q12), (4, .int 0), (5, .int 0)]) X.x X.b d_Model_expand_121 hl (by decide) rfl (fun ls hl => ?_)
              refine lv_aload_n X.x X.b d_Model_expand_123 rfl (lv_at hl 4 rfl) ?_
              refine m_get (v := .ref tq) X ok_Model hM.1 1 (by decide) k_Model_9 rfl d_Model_expand_124 ?_
              refine lv_iload X.x X.b d_Model_expand_127 (lv_at hl 1 rfl) ?_
              refine m_ild (v := 6) X hM.a1 0 rfl (by omega) (by decide) (show s1 1 0 = 6 from (by rw [hE.2 1 (by decide), hL.2.1])) d_Model_expand_129 ?_
              refine lv_istore (lv' := [(10, .int 6), (9, .int 0), (8, .int 0), (7, .int 0), (6, .int 0), (0, .ref mo), (1, .ref q2), (2, .ref q7), (3, .ref q12), (4, .int 0), (5, .int 0)]) X.x X.b d_Model_expand_130 hl (by decide) rfl (fun ls hl => ?_)
              refine lv_aload_n X.x X.b d_Model_expand_132 rfl (lv_at hl 5 rfl) ?_
              refine m_get (v := .ref tq) X ok_Model hM.1 1 (by decide) k_Model_9 rfl d_Model_expand_133 ?_
              refine lv_iload X.x X.b d_Model_expand_136 (lv_at hl 2 rfl) ?_
              refine lv_iconst (v := 3) X.x X.b d_Model_expand_138 (by decide) ?_
              refine lv_iadd X.x X.b d_Model_expand_139 ?_
              rw [show (0 + 3 : Int32) = 3 from by decide]
              refine m_ild (v := v_) X hM.a1 3 rfl (by omega) (by decide) (show s1 1 3 = v_ from (by rw [hE.2 1 (by decide), hL.2.2.2.2.1])) d_Model_expand_140 ?_
              refine lv_aload_n X.x X.b d_Model_expand_141 rfl (lv_at hl 5 rfl) ?_
              refine m_get (v := .ref tq) X ok_Model hM.1 1 (by decide) k_Model_9 rfl d_Model_expand_142 ?_
              refine lv_iload X.x X.b d_Model_expand_145 (lv_at hl 2 rfl) ?_
              refine lv_iconst (v := 4) X.x X.b d_Model_expand_147 (by decide) ?_
              refine lv_iadd X.x X.b d_Model_expand_148 ?_
              rw [show (0 + 4 : Int32) = 4 from by decide]
              refine m_ild (v := r) X hM.a1 4 rfl (by omega) (by decide) (show s1 1 4 = r from (by rw [hE.2 1 (by decide), hL.2.2.2.2.2])) d_Model_expand_149 ?_
              refine lv_iconst (v := 1) X.x X.b d_Model_expand_150 (by decide) ?_
              refine lv_icmp_ne (tgt := 161) X.x X.b d_Model_expand_151 (by decide) (fun c5 => ?_) (fun c5 => ?_)
              · skip
                refine lv_iconst (v := 0) X.x X.b d_Model_expand_161 (by decide) ?_
                refine lv_iadd X.x X.b d_Model_expand_162 ?_
                rw [show (v_ + 0 : Int32) = v_ from Int32.add_zero _]
                refine lv_istore (lv' := [(11, .int v_), (10, .int 6), (9, .int 0), (8, .int 0), (7, .int 0), (6, .int 0), (0, .ref mo), (1, .ref q2), (2, .ref q7), (3, .ref q12), (4, .int 0), (5, .int 0)]) X.x X.b d_Model_expand_163 hl (by decide) rfl (fun ls hl => ?_)
                refine lv_iinc (v := 1) (lv' := [(5, .int 1), (11, .int v_), (10, .int 6), (9, .int 0), (8, .int 0), (7, .int 0), (6, .int 0), (0, .ref mo), (1, .ref q2), (2, .ref q7), (3, .ref q12), (4, .int 0)]) X.x X.b d_Model_expand_165 hl (k := 11) rfl (by decide) (by decide) rfl (fun ls hl => ?_)
                refine lv_iload X.x X.b d_Model_expand_168 (lv_at hl 0 rfl) ?_
                refine lv_sipush (v := 400) X.x X.b d_Model_expand_170 (by decide) ?_
                refine lv_icmp_gt (tgt := 193) X.x X.b d_Model_expand_173 (by decide) (fun c6 => ?_) (fun c6 => ?_)
                · exact absurd c6 (by decide)
                · skip
                  have c6q := Int32.not_lt.mp c6
                  refine lv_iload X.x X.b d_Model_expand_176 (lv_at hl 2 rfl) ?_
                  refine m_callSP X hS (MP_ans (M_Model_makes l g 6) (show b2i ((6 : Int32) < 8) = 1 from by decide)) s_Model_138 rfl rfl (Nat.le_of_ble_eq_true rfl) hl.1 d_Model_expand_178 (by omega) (by decide) ⟨by omega, by omega⟩ (fun locs hS => ?_)
                  refine lv_if_eq (tgt := 203) X.x X.b d_Model_expand_181 (by decide) (fun c7 => ?_) (fun c7 => ?_)
                  · exact absurd c7 (by decide)
                  · skip
                    refine lv_aload_n X.x X.b d_Model_expand_184 rfl (lv_at hl 7 rfl) ?_
                    refine m_get (v := .int 0) X ok_Model hM.1 5 (by decide) k_Model_132 (congrArg (fun z => some (Value.int z)) (show p1 5 = 0 from (by rw [hp15]))) d_Model_expand_185 ?_
                    refine lv_bipush (v := 120) X.x X.b d_Model_expand_188 (by decide) ?_
                    refine lv_icmp_ne (tgt := 203) X.x X.b d_Model_expand_190 (by decide) (fun c8 => ?_) (fun c8 => ?_)
                    · skip
                      refine lv_iload X.x X.b d_Model_expand_203 (lv_at hl 2 rfl) ?_
                      refine lv_bipush (v := 10) X.x X.b d_Model_expand_205 (by decide) ?_
                      refine lv_icmp_ne (tgt := 259) X.x X.b d_Model_expand_207 (by decide) (fun c9 => ?_) (fun c9 => ?_)
                      · skip
                        refine lv_iload X.x X.b d_Model_expand_259 (lv_at hl 2 rfl) ?_
                        refine lv_bipush (v := 8) X.x X.b d_Model_expand_261 (by decide) ?_
                        refine lv_icmp_ne (tgt := 329) X.x X.b d_Model_expand_263 (by decide) (fun c10 => ?_) (fun c10 => ?_)
                        · skip
                          refine lv_iload X.x X.b d_Model_expand_329 (lv_at hl 2 rfl) ?_
                          refine lv_bipush (v := 9) X.x X.b d_Model_expand_331 (by decide) ?_
                          refine lv_icmp_eq (tgt := 366) X.x X.b d_Model_expand_333 (by decide) (fun c11 => ?_) (fun c11 => ?_)
                          · exact absurd c11 (by decide)
                          · skip
                            refine lv_aload_n X.x X.b d_Model_expand_336 rfl (lv_at hl 7 rfl) ?_
                            refine lv_iload X.x X.b d_Model_expand_337 (lv_at hl 2 rfl) ?_
                            refine lv_aload_n X.x X.b d_Model_expand_339 rfl (lv_at hl 7 rfl) ?_
                            refine m_get (v := .ref tq) X ok_Model hM.1 1 (by decide) k_Model_9 rfl d_Model_expand_340 ?_
                            refine lv_iload X.x X.b d_Model_expand_343 (lv_at hl 4 rfl) ?_
                            refine lv_iconst (v := 1) X.x X.b d_Model_expand_345 (by decide) ?_
                            refine lv_iadd X.x X.b d_Model_expand_346 ?_
                            rw [show (0 + 1 : Int32) = 1 from by decide]
                            refine m_ild (v := x) X hM.a1 1 rfl (by omega) (by decide) (show s1 1 1 = x from (by rw [hE.2 1 (by decide), hL.2.2.1])) d_Model_expand_347 ?_
                            refine lv_aload_n X.x X.b d_Model_expand_348 rfl (lv_at hl 7 rfl) ?_
                            refine m_get (v := .ref tq) X ok_Model hM.1 1 (by decide) k_Model_9 rfl d_Model_expand_349 ?_
                            refine lv_iload X.x X.b d_Model_expand_352 (lv_at hl 4 rfl) ?_
                            refine lv_iconst (v := 2) X.x X.b d_Model_expand_354 (by decide) ?_
                            refine lv_iadd X.x X.b d_Model_expand_355 ?_
                            rw [show (0 + 2 : Int32) = 2 from by decide]
                            refine m_ild (v := y) X hM.a1 2 rfl (by omega) (by decide) (show s1 1 2 = y from (by rw [hE.2 1 (by decide), hL.2.2.2.1])) d_Model_expand_356 ?_
                            refine lv_iload X.x X.b d_Model_expand_357 (lv_at hl 1 rfl) ?_
                            refine lv_iload X.x X.b d_Model_expand_359 (lv_at hl 3 rfl) ?_
                            refine lv_iload X.x X.b d_Model_expand_361 (lv_at hl 11 rfl) ?_
                            have hR := M_Model_take_o (c := 0) l g hM (show p1 5 = 0 from (by rw [hp15])) (by omega) 6 x y v_ 0 0 (by decide) (by decide)
                            refine m_callM X hS hR v_Model_147 hM.1 rfl rfl rfl (Nat.le_of_ble_eq_true rfl) hl.1 d_Model_expand_363 (by omega) (by decide) ⟨by omega, by omega⟩ (fun q z => by have z : mo ≤ q ∧ q < mo + 23 := z; exact ⟨by omega, by omega⟩) (fun H locs hM hfr hS => ?_)
                            have hL2 := hL2.fr hfr (fun z => by have z : mo ≤ q2 ∧ q2 < mo + 23 := z; omega)
                            have hL7 := hL7.fr hfr (fun z => by have z : mo ≤ q7 ∧ q7 < mo + 23 := z; omega)
                            have hL12 := hL12.fr hfr (fun z => by have z : mo ≤ q12 ∧ q12 < mo + 23 := z; omega)
                            have hM : mAt g mo tq (upd p1 5 1) _ H := hM
                            obtain ⟨p_3, ep_3⟩ : ∃ z, z = upd p1 5 1 := ⟨_, rfl⟩
                            rw [← ep_3] at hM
                            obtain ⟨s_4, es_4⟩ : ∃ z, z = itR s1 0 6 x y v_ 0 0 := ⟨_, rfl⟩
                            rw [← es_4] at hM
                            refine lv_goto (tgt := 58) X.x X.b d_Model_expand_366 (by decide) ?_
                            refine lv_iload X.x X.b d_Model_expand_58 (lv_at hl 11 rfl) ?_
                            refine lv_if_lt (tgt := 369) X.x X.b d_Model_expand_60 (by decide) (fun c12 => ?_) (fun c12 => ?_)
                            · exact absurd c12 c2
                            · skip
                              have c12q := Int32.not_lt.mp c12
                              refine lv_aload_n X.x X.b d_Model_expand_63 rfl (lv_at hl 7 rfl) ?_
                              refine m_get (v := .int 0) X ok_Model hM.1 3 (by decide) k_Model_126 (congrArg (fun z => some (Value.int z)) (show p_3 3 = 0 from (by rw [ep_3, upd_mi _ _ _ (show 3 ≠ 5 by decide), hp13]))) d_Model_expand_64 ?_
                              refine lv_if_ne (tgt := 369) X.x X.b d_Model_expand_67 (by decide) (fun c13 => ?_) (fun c13 => ?_)
                              · exact absurd c3 c13
                              · skip
                                refine lv_aload_n X.x X.b d_Model_expand_70 rfl (lv_at hl 8 rfl) ?_
                                refine lv_iload X.x X.b d_Model_expand_71 (lv_at hl 11 rfl) ?_
                                refine m_ild (v := 0) X hL2 0 rfl (by omega) (by decide) (show (fun _ => 0) 0 = 0 from rfl) d_Model_expand_73 ?_
                                refine lv_istore (lv' := [(6, .int 0), (5, .int 1), (11, .int v_), (10, .int 6), (9, .int 0), (8, .int 0), (7, .int 0), (0, .ref mo), (1, .ref q2), (2, .ref q7), (3, .ref q12), (4, .int 0)]) X.x X.b d_Model_expand_74 hl (by decide) rfl (fun ls hl => ?_)
                                refine lv_aload_n X.x X.b d_Model_expand_76 rfl (lv_at hl 9 rfl) ?_
                                refine lv_iload X.x X.b d_Model_expand_77 (lv_at hl 11 rfl) ?_
                                refine m_ild (v := 1) X hL7 0 rfl (by omega) (by decide) (show r_2 0 = 1 from (by rw [er_2, upd_hit])) d_Model_expand_79 ?_
                                refine lv_aload_n X.x X.b d_Model_expand_80 rfl (lv_at hl 7 rfl) ?_
                                refine m_get (v := .ref (mo + 2)) X ok_Model hM.1 2 (by decide) k_Model_13 rfl d_Model_expand_81 ?_
                                refine lv_iload X.x X.b d_Model_expand_84 (lv_at hl 0 rfl) ?_
                                refine m_ild (v := 1) X hM.a2 0 rfl (by omega) (by decide) (show s_4 2 0 = 1 from (by rw [es_4, itR_o s1 0 6 x y v_ 0 0 2 (by decide), hE.2 2 (by decide), hL.1.1])) d_Model_expand_86 ?_
                                refine lv_icmp_ne (tgt := 96) X.x X.b d_Model_expand_87 (by decide) (fun c14 => ?_) (fun c14 => ?_)
                                · exact absurd c14 (by decide)
                                · skip
                                  refine lv_iinc (v := (-1)) (lv' := [(4, .int (-1)), (6, .int 0), (5, .int 1), (11, .int v_), (10, .int 6), (9, .int 0), (8, .int 0), (7, .int 0), (0, .ref mo), (1, .ref q2), (2, .ref q7), (3, .ref q12)]) X.x X.b d_Model_expand_90 hl (k := 11) rfl (by decide) (by decide) rfl (fun ls hl => ?_)
                                  refine lv_goto (tgt := 58) X.x X.b d_Model_expand_93 (by decide) ?_
                                  refine lv_iload X.x X.b d_Model_expand_58 (lv_at hl 0 rfl) ?_
                                  refine lv_if_lt (tgt := 369) X.x X.b d_Model_expand_60 (by decide) (fun c15 => ?_) (fun c15 => ?_)
                                  · skip
                                    have c15q := Int32.not_le.mpr c15
                                    refine lv_aload_n X.x X.b d_Model_expand_369 rfl (lv_at hl 8 rfl) ?_
                                    refine m_get (v := .int 0) X ok_Model hM.1 3 (by decide) k_Model_126 (congrArg (fun z => some (Value.int z)) (show p_3 3 = 0 from (by rw [ep_3, upd_mi _ _ _ (show 3 ≠ 5 by decide), hp13]))) d_Model_expand_370 ?_
                                    refine lv_if_ne (tgt := 387) X.x X.b d_Model_expand_373 (by decide) (fun c16 => ?_) (fun c16 => ?_)
                                    · exact absurd c13 c16
                                    · skip
                                      refine lv_aload_n X.x X.b d_Model_expand_376 rfl (lv_at hl 8 rfl) ?_
                                      refine lv_bipush (v := 6) X.x X.b d_Model_expand_377 (by decide) ?_
                                      refine lv_iconst (v := -1) X.x X.b d_Model_expand_379 (by decide) ?_
                                      refine lv_iconst (v := -1) X.x X.b d_Model_expand_380 (by decide) ?_
                                      refine lv_iconst (v := 0) X.x X.b d_Model_expand_381 (by decide) ?_
                                      refine lv_iconst (v := -1) X.x X.b d_Model_expand_382 (by decide) ?_
                                      refine lv_iconst (v := 0) X.x X.b d_Model_expand_383 (by decide) ?_
                                      have hR := M_Model_item (c := 1) l g hM (show p_3 5 = 1 from (by rw [ep_3, upd_hit])) (by omega) 6 (-1) (-1) 0 (-1) 0
                                      refine m_callM X hS hR v_Model_151 hM.1 rfl rfl rfl (Nat.le_of_ble_eq_true rfl) hl.1 d_Model_expand_384 (by omega) (by decide) ⟨by omega, by omega⟩ (fun q z => by have z : mo ≤ q ∧ q < mo + 23 := z; exact ⟨by omega, by omega⟩) (fun H locs hM hfr hS => ?_)
                                      have hL2 := hL2.fr hfr (fun z => by have z : mo ≤ q2 ∧ q2 < mo + 23 := z; omega)
                                      have hL7 := hL7.fr hfr (fun z => by have z : mo ≤ q7 ∧ q7 < mo + 23 := z; omega)
                                      have hL12 := hL12.fr hfr (fun z => by have z : mo ≤ q12 ∧ q12 < mo + 23 := z; omega)
                                      have hM : mAt g mo tq (upd p_3 5 2) _ H := hM
                                      obtain ⟨p_5, ep_5⟩ : ∃ z, z = upd p_3 5 2 := ⟨_, rfl⟩
                                      rw [← ep_5] at hM
                                      obtain ⟨s_6, es_6⟩ : ∃ z, z = itR s_4 1 6 (-1) (-1) 0 (-1) 0 := ⟨_, rfl⟩
                                      rw [← es_6] at hM
                                      exact m_vret X hS (by omega) (by omega) d_Model_expand_387 rfl ⟨_, _, hM, (by rw [ep_5, upd_mi _ _ _ (show 0 ≠ 5 by decide), ep_3, upd_mi _ _ _ (show 0 ≠ 5 by decide), hp10]), by rw [es_6, itR_o s_4 1 6 (-1) (-1) 0 (-1) 0 2 (by decide), es_4, itR_o s1 0 6 x y v_ 0 0 2 (by decide), hE.2 2 (by decide)], ⟨(by rw [ep_5, upd_mi _ _ _ (show 3 ≠ 5 by decide), ep_3, upd_mi _ _ _ (show 3 ≠ 5 by decide), hp13]), (by rw [ep_5, upd_hit])⟩, (by rw [es_6, itR_ne s_4 1 6 (-1) (-1) 0 (-1) 0 (show (0 : Nat) ≠ 1 by omega) 8, es_4, (itR_at s1 0 6 x y v_ 0 0).1]), (by rw [es_6, itR_ne s_4 1 6 (-1) (-1) 0 (-1) 0 (show (0 : Nat) ≠ 1 by omega) 9, es_4, (itR_at s1 0 6 x y v_ 0 0).2.1]), (by rw [es_6, itR_ne s_4 1 6 (-1) (-1) 0 (-1) 0 (show (0 : Nat) ≠ 1 by omega) 10, es_4, (itR_at s1 0 6 x y v_ 0 0).2.2.1]), (by rw [es_6, (itR_at s_4 1 6 (-1) (-1) 0 (-1) 0).1]), (by rw [es_6, itR_ne s_4 1 6 (-1) (-1) 0 (-1) 0 (show (0 : Nat) ≠ 1 by omega) 11, es_4, (itR_at s1 0 6 x y v_ 0 0).2.2.2.1]), fun j hj => (by rw [es_6, itR_o s_4 1 6 (-1) (-1) 0 (-1) 0 27 (by decide), es_4, itR_o s1 0 6 x y v_ 0 0 27 (by decide), (hE.1 j (by omega)).2])⟩
                                  · exact absurd c15 (by decide)
                        · exact absurd c10 (by decide)
                      · exact absurd c9 (by decide)
                    · exact absurd c8 (by decide)
              · skip
                refine lv_aload_n X.x X.b d_Model_expand_154 rfl (lv_at hl 8 rfl) ?_
                refine lv_iload X.x X.b d_Model_expand_155 (lv_at hl 9 rfl) ?_
                refine m_ild (v := 0) X hL12 0 rfl (by omega) (by decide) (show (fun _ => 0) 0 = 0 from rfl) d_Model_expand_157 ?_
                refine lv_goto (tgt := 162) X.x X.b d_Model_expand_158 (by decide) ?_
                refine lv_iadd X.x X.b d_Model_expand_162 ?_
                rw [show (v_ + 0 : Int32) = v_ from Int32.add_zero _]
                refine lv_istore (lv' := [(11, .int v_), (10, .int 6), (9, .int 0), (8, .int 0), (7, .int 0), (6, .int 0), (0, .ref mo), (1, .ref q2), (2, .ref q7), (3, .ref q12), (4, .int 0), (5, .int 0)]) X.x X.b d_Model_expand_163 hl (by decide) rfl (fun ls hl => ?_)
                refine lv_iinc (v := 1) (lv' := [(5, .int 1), (11, .int v_), (10, .int 6), (9, .int 0), (8, .int 0), (7, .int 0), (6, .int 0), (0, .ref mo), (1, .ref q2), (2, .ref q7), (3, .ref q12), (4, .int 0)]) X.x X.b d_Model_expand_165 hl (k := 11) rfl (by decide) (by decide) rfl (fun ls hl => ?_)
                refine lv_iload X.x X.b d_Model_expand_168 (lv_at hl 0 rfl) ?_
                refine lv_sipush (v := 400) X.x X.b d_Model_expand_170 (by decide) ?_
                refine lv_icmp_gt (tgt := 193) X.x X.b d_Model_expand_173 (by decide) (fun c17 => ?_) (fun c17 => ?_)
                · exact absurd c17 (by decide)
                · skip
                  have c17q := Int32.not_lt.mp c17
                  refine lv_iload X.x X.b d_Model_expand_176 (lv_at hl 2 rfl) ?_
                  refine m_callSP X hS (MP_ans (M_Model_makes l g 6) (show b2i ((6 : Int32) < 8) = 1 from by decide)) s_Model_138 rfl rfl (Nat.le_of_ble_eq_true rfl) hl.1 d_Model_expand_178 (by omega) (by decide) ⟨by omega, by omega⟩ (fun locs hS => ?_)
                  refine lv_if_eq (tgt := 203) X.x X.b d_Model_expand_181 (by decide) (fun c18 => ?_) (fun c18 => ?_)
                  · exact absurd c18 (by decide)
                  · skip
                    refine lv_aload_n X.x X.b d_Model_expand_184 rfl (lv_at hl 7 rfl) ?_
                    refine m_get (v := .int 0) X ok_Model hM.1 5 (by decide) k_Model_132 (congrArg (fun z => some (Value.int z)) (show p1 5 = 0 from (by rw [hp15]))) d_Model_expand_185 ?_
                    refine lv_bipush (v := 120) X.x X.b d_Model_expand_188 (by decide) ?_
                    refine lv_icmp_ne (tgt := 203) X.x X.b d_Model_expand_190 (by decide) (fun c19 => ?_) (fun c19 => ?_)
                    · skip
                      refine lv_iload X.x X.b d_Model_expand_203 (lv_at hl 2 rfl) ?_
                      refine lv_bipush (v := 10) X.x X.b d_Model_expand_205 (by decide) ?_
                      refine lv_icmp_ne (tgt := 259) X.x X.b d_Model_expand_207 (by decide) (fun c20 => ?_) (fun c20 => ?_)
                      · skip
                        refine lv_iload X.x X.b d_Model_expand_259 (lv_at hl 2 rfl) ?_
                        refine lv_bipush (v := 8) X.x X.b d_Model_expand_261 (by decide) ?_
                        refine lv_icmp_ne (tgt := 329) X.x X.b d_Model_expand_263 (by decide) (fun c21 => ?_) (fun c21 => ?_)
                        · skip
                          refine lv_iload X.x X.b d_Model_expand_329 (lv_at hl 2 rfl) ?_
                          refine lv_bipush (v := 9) X.x X.b d_Model_expand_331 (by decide) ?_
                          refine lv_icmp_eq (tgt := 366) X.x X.b d_Model_expand_333 (by decide) (fun c22 => ?_) (fun c22 => ?_)
                          · exact absurd c22 (by decide)
                          · skip
                            refine lv_aload_n X.x X.b d_Model_expand_336 rfl (lv_at hl 7 rfl) ?_
                            refine lv_iload X.x X.b d_Model_expand_337 (lv_at hl 2 rfl) ?_
                            refine lv_aload_n X.x X.b d_Model_expand_339 rfl (lv_at hl 7 rfl) ?_
                            refine m_get (v := .ref tq) X ok_Model hM.1 1 (by decide) k_Model_9 rfl d_Model_expand_340 ?_
                            refine lv_iload X.x X.b d_Model_expand_343 (lv_at hl 4 rfl) ?_
                            refine lv_iconst (v := 1) X.x X.b d_Model_expand_345 (by decide) ?_
                            refine lv_iadd X.x X.b d_Model_expand_346 ?_
                            rw [show (0 + 1 : Int32) = 1 from by decide]
                            refine m_ild (v := x) X hM.a1 1 rfl (by omega) (by decide) (show s1 1 1 = x from (by rw [hE.2 1 (by decide), hL.2.2.1])) d_Model_expand_347 ?_
                            refine lv_aload_n X.x X.b d_Model_expand_348 rfl (lv_at hl 7 rfl) ?_
                            refine m_get (v := .ref tq) X ok_Model hM.1 1 (by decide) k_Model_9 rfl d_Model_expand_349 ?_
                            refine lv_iload X.x X.b d_Model_expand_352 (lv_at hl 4 rfl) ?_
                            refine lv_iconst (v := 2) X.x X.b d_Model_expand_354 (by decide) ?_
                            refine lv_iadd X.x X.b d_Model_expand_355 ?_
                            rw [show (0 + 2 : Int32) = 2 from by decide]
                            refine m_ild (v := y) X hM.a1 2 rfl (by omega) (by decide) (show s1 1 2 = y from (by rw [hE.2 1 (by decide), hL.2.2.2.1])) d_Model_expand_356 ?_
                            refine lv_iload X.x X.b d_Model_expand_357 (lv_at hl 1 rfl) ?_
                            refine lv_iload X.x X.b d_Model_expand_359 (lv_at hl 3 rfl) ?_
                            refine lv_iload X.x X.b d_Model_expand_361 (lv_at hl 11 rfl) ?_
                            have hR := M_Model_take_o (c := 0) l g hM (show p1 5 = 0 from (by rw [hp15])) (by omega) 6 x y v_ 0 0 (by decide) (by decide)
                            refine m_callM X hS hR v_Model_147 hM.1 rfl rfl rfl (Nat.le_of_ble_eq_true rfl) hl.1 d_Model_expand_363 (by omega) (by decide) ⟨by omega, by omega⟩ (fun q z => by have z : mo ≤ q ∧ q < mo + 23 := z; exact ⟨by omega, by omega⟩) (fun H locs hM hfr hS => ?_)
                            have hL2 := hL2.fr hfr (fun z => by have z : mo ≤ q2 ∧ q2 < mo + 23 := z; omega)
                            have hL7 := hL7.fr hfr (fun z => by have z : mo ≤ q7 ∧ q7 < mo + 23 := z; omega)
                            have hL12 := hL12.fr hfr (fun z => by have z : mo ≤ q12 ∧ q12 < mo + 23 := z; omega)
                            have hM : mAt g mo tq (upd p1 5 1) _ H := hM
                            obtain ⟨p_7, ep_7⟩ : ∃ z, z = upd p1 5 1 := ⟨_, rfl⟩
                            rw [← ep_7] at hM
                            obtain ⟨s_8, es_8⟩ : ∃ z, z = itR s1 0 6 x y v_ 0 0 := ⟨_, rfl⟩
                            rw [← es_8] at hM
                            refine lv_goto (tgt := 58) X.x X.b d_Model_expand_366 (by decide) ?_
                            refine lv_iload X.x X.b d_Model_expand_58 (lv_at hl 11 rfl) ?_
                            refine lv_if_lt (tgt := 369) X.x X.b d_Model_expand_60 (by decide) (fun c23 => ?_) (fun c23 => ?_)
                            · exact absurd c23 c2
                            · skip
                              have c23q := Int32.not_lt.mp c23
                              refine lv_aload_n X.x X.b d_Model_expand_63 rfl (lv_at hl 7 rfl) ?_
                              refine m_get (v := .int 0) X ok_Model hM.1 3 (by decide) k_Model_126 (congrArg (fun z => some (Value.int z)) (show p_7 3 = 0 from (by rw [ep_7, upd_mi _ _ _ (show 3 ≠ 5 by decide), hp13]))) d_Model_expand_64 ?_
                              refine lv_if_ne (tgt := 369) X.x X.b d_Model_expand_67 (by decide) (fun c24 => ?_) (fun c24 => ?_)
                              · exact absurd c3 c24
                              · skip
                                refine lv_aload_n X.x X.b d_Model_expand_70 rfl (lv_at hl 8 rfl) ?_
                                refine lv_iload X.x X.b d_Model_expand_71 (lv_at hl 11 rfl) ?_
                                refine m_ild (v := 0) X hL2 0 rfl (by omega) (by decide) (show (fun _ => 0) 0 = 0 from rfl) d_Model_expand_73 ?_
                                refine lv_istore (lv' := [(6, .int 0), (5, .int 1), (11, .int v_), (10, .int 6), (9, .int 0), (8, .int 0), (7, .int 0), (0, .ref mo), (1, .ref q2), (2, .ref q7), (3, .ref q12), (4, .int 0)]) X.x X.b d_Model_expand_74 hl (by decide) rfl (fun ls hl => ?_)
                                refine lv_aload_n X.x X.b d_Model_expand_76 rfl (lv_at hl 9 rfl) ?_
                                refine lv_iload X.x X.b d_Model_expand_77 (lv_at hl 11 rfl) ?_
                                refine m_ild (v := 1) X hL7 0 rfl (by omega) (by decide) (show r_2 0 = 1 from (by rw [er_2, upd_hit])) d_Model_expand_79 ?_
                                refine lv_aload_n X.x X.b d_Model_expand_80 rfl (lv_at hl 7 rfl) ?_
                                refine m_get (v := .ref (mo + 2)) X ok_Model hM.1 2 (by decide) k_Model_13 rfl d_Model_expand_81 ?_
                                refine lv_iload X.x X.b d_Model_expand_84 (lv_at hl 0 rfl) ?_
                                refine m_ild (v := 1) X hM.a2 0 rfl (by omega) (by decide) (show s_8 2 0 = 1 from (by rw [es_8, itR_o s1 0 6 x y v_ 0 0 2 (by decide), hE.2 2 (by decide), hL.1.1])) d_Model_expand_86 ?_
                                refine lv_icmp_ne (tgt := 96) X.x X.b d_Model_expand_87 (by decide) (fun c25 => ?_) (fun c25 => ?_)
                                · exact absurd c25 (by decide)
                                · skip
                                  refine lv_iinc (v := (-1)) (lv' := [(4, .int (-1)), (6, .int 0), (5, .int 1), (11, .int v_), (10, .int 6), (9, .int 0), (8, .int 0), (7, .int 0), (0, .ref mo), (1, .ref q2), (2, .ref q7), (3, .ref q12)]) X.x X.b d_Model_expand_90 hl (k := 11) rfl (by decide) (by decide) rfl (fun ls hl => ?_)
                                  refine lv_goto (tgt := 58) X.x X.b d_Model_expand_93 (by decide) ?_
                                  refine lv_iload X.x X.b d_Model_expand_58 (lv_at hl 0 rfl) ?_
                                  refine lv_if_lt (tgt := 369) X.x X.b d_Model_expand_60 (by decide) (fun c26 => ?_) (fun c26 => ?_)
                                  · skip
                                    have c26q := Int32.not_le.mpr c26
                                    refine lv_aload_n X.x X.b d_Model_expand_369 rfl (lv_at hl 8 rfl) ?_
                                    refine m_get (v := .int 0) X ok_Model hM.1 3 (by decide) k_Model_126 (congrArg (fun z => some (Value.int z)) (show p_7 3 = 0 from (by rw [ep_7, upd_mi _ _ _ (show 3 ≠ 5 by decide), hp13]))) d_Model_expand_370 ?_
                                    refine lv_if_ne (tgt := 387) X.x X.b d_Model_expand_373 (by decide) (fun c27 => ?_) (fun c27 => ?_)
                                    · exact absurd c24 c27
                                    · skip
                                      refine lv_aload_n X.x X.b d_Model_expand_376 rfl (lv_at hl 8 rfl) ?_
                                      refine lv_bipush (v := 6) X.x X.b d_Model_expand_377 (by decide) ?_
                                      refine lv_iconst (v := -1) X.x X.b d_Model_expand_379 (by decide) ?_
                                      refine lv_iconst (v := -1) X.x X.b d_Model_expand_380 (by decide) ?_
                                      refine lv_iconst (v := 0) X.x X.b d_Model_expand_381 (by decide) ?_
                                      refine lv_iconst (v := -1) X.x X.b d_Model_expand_382 (by decide) ?_
                                      refine lv_iconst (v := 0) X.x X.b d_Model_expand_383 (by decide) ?_
                                      have hR := M_Model_item (c := 1) l g hM (show p_7 5 = 1 from (by rw [ep_7, upd_hit])) (by omega) 6 (-1) (-1) 0 (-1) 0
                                      refine m_callM X hS hR v_Model_151 hM.1 rfl rfl rfl (Nat.le_of_ble_eq_true rfl) hl.1 d_Model_expand_384 (by omega) (by decide) ⟨by omega, by omega⟩ (fun q z => by have z : mo ≤ q ∧ q < mo + 23 := z; exact ⟨by omega, by omega⟩) (fun H locs hM hfr hS => ?_)
                                      have hL2 := hL2.fr hfr (fun z => by have z : mo ≤ q2 ∧ q2 < mo + 23 := z; omega)
                                      have hL7 := hL7.fr hfr (fun z => by have z : mo ≤ q7 ∧ q7 < mo + 23 := z; omega)
                                      have hL12 := hL12.fr hfr (fun z => by have z : mo ≤ q12 ∧ q12 < mo + 23 := z; omega)
                                      have hM : mAt g mo tq (upd p_7 5 2) _ H := hM
                                      obtain ⟨p_9, ep_9⟩ : ∃ z, z = upd p_7 5 2 := ⟨_, rfl⟩
                                      rw [← ep_9] at hM
                                      obtain ⟨s_10, es_10⟩ : ∃ z, z = itR s_8 1 6 (-1) (-1) 0 (-1) 0 := ⟨_, rfl⟩
                                      rw [← es_10] at hM
                                      exact m_vret X hS (by omega) (by omega) d_Model_expand_387 rfl ⟨_, _, hM, (by rw [ep_9, upd_mi _ _ _ (show 0 ≠ 5 by decide), ep_7, upd_mi _ _ _ (show 0 ≠ 5 by decide), hp10]), by rw [es_10, itR_o s_8 1 6 (-1) (-1) 0 (-1) 0 2 (by decide), es_8, itR_o s1 0 6 x y v_ 0 0 2 (by decide), hE.2 2 (by decide)], ⟨(by rw [ep_9, upd_mi _ _ _ (show 3 ≠ 5 by decide), ep_7, upd_mi _ _ _ (show 3 ≠ 5 by decide), hp13]), (by rw [ep_9, upd_hit])⟩, (by rw [es_10, itR_ne s_8 1 6 (-1) (-1) 0 (-1) 0 (show (0 : Nat) ≠ 1 by omega) 8, es_8, (itR_at s1 0 6 x y v_ 0 0).1]), (by rw [es_10, itR_ne s_8 1 6 (-1) (-1) 0 (-1) 0 (show (0 : Nat) ≠ 1 by omega) 9, es_8, (itR_at s1 0 6 x y v_ 0 0).2.1]), (by rw [es_10, itR_ne s_8 1 6 (-1) (-1) 0 (-1) 0 (show (0 : Nat) ≠ 1 by omega) 10, es_8, (itR_at s1 0 6 x y v_ 0 0).2.2.1]), (by rw [es_10, (itR_at s_8 1 6 (-1) (-1) 0 (-1) 0).1]), (by rw [es_10, itR_ne s_8 1 6 (-1) (-1) 0 (-1) 0 (show (0 : Nat) ≠ 1 by omega) 11, es_8, (itR_at s1 0 6 x y v_ 0 0).2.2.2.1]), fun j hj => (by rw [es_10, itR_o s_8 1 6 (-1) (-1) 0 (-1) 0 27 (by decide), es_8, itR_o s1 0 6 x y v_ 0 0 27 (by decide), (hE.1 j (by omega)).2])⟩
                                  · exact absurd c26 (by decide)
                        · exact absurd c21 (by decide)
                      · exact absurd c20 (by decide)
                    · exact absurd c19 (by decide)
            · exact absurd c4 (by decide)
      · exact absurd ((nI_ltI (a := i) (b := 8) (by omega) (by omega)).mp (Int32.not_le.mp c1)) (by omega)
    | succ n ih =>
      intro i s1 hin hi5 hE H locs ls hM hL2 hL7 hL12 hS hl
      refine lv_iload X.x X.b d_Model_expand_29 (lv_at hl 6 rfl) ?_
      refine lv_bipush (v := 8) X.x X.b d_Model_expand_31 (by decide) ?_
      refine lv_icmp_ge (tgt := 58) X.x X.b d_Model_expand_33 (by decide) (fun c28 => ?_) (fun c28 => ?_)
      · exact absurd ((nI_leI (a := 8) (b := i) (by omega) (by omega)).mp c28) (by omega)
      · skip
        have c28q := Int32.not_le.mp c28
        refine lv_aload_n X.x X.b d_Model_expand_36 rfl (lv_at hl 0 rfl) ?_
        refine m_get (v := .ref (mo + 20)) X ok_Model hM.1 25 (by decide) k_Model_68 rfl d_Model_expand_37 ?_
        refine lv_iload X.x X.b d_Model_expand_40 (lv_at hl 6 rfl) ?_
        refine lv_iconst (v := 0) X.x X.b d_Model_expand_42 (by decide) ?_
        refine m_ist X hS (Or.inl ⟨by omega, by omega⟩) hM.a25 i rfl (by omega) (by decide) d_Model_expand_43 (fun H locs hp hcg hS => ?_)
        have hM := hM.s25 hp hcg
        obtain ⟨s_11, es_11⟩ : ∃ z, z = updR s1 25 (upd (s1 25) i 0) := ⟨_, rfl⟩
        rw [← es_11] at hM
        have hL2 := hL2.off hcg (by omega)
        have hL7 := hL7.off hcg (by omega)
        have hL12 := hL12.off hcg (by omega)
        refine lv_aload_n X.x X.b d_Model_expand_44 rfl (lv_at hl 0 rfl) ?_
        refine m_get (v := .ref (mo + 22)) X ok_Model hM.1 27 (by decide) k_Model_74 rfl d_Model_expand_45 ?_
        refine lv_iload X.x X.b d_Model_expand_48 (lv_at hl 6 rfl) ?_
        refine lv_iconst (v := -1) X.x X.b d_Model_expand_50 (by decide) ?_
        refine m_ist X hS (Or.inl ⟨by omega, by omega⟩) hM.a27 i rfl (by omega) (by decide) d_Model_expand_51 (fun H locs hp hcg hS => ?_)
        have hM := hM.s27 hp hcg
        obtain ⟨s_12, es_12⟩ : ∃ z, z = updR s_11 27 (upd (s_11 27) i (-1)) := ⟨_, rfl⟩
        rw [← es_12] at hM
        have hL2 := hL2.off hcg (by omega)
        have hL7 := hL7.off hcg (by omega)
        have hL12 := hL12.off hcg (by omega)
        refine lv_iinc (v := nI (i + 1)) (lv' := [(6, .int (nI (i + 1))), (0, .ref mo), (1, .ref q2), (2, .ref q7), (3, .ref q12), (4, .int 0), (5, .int 0)]) X.x X.b d_Model_expand_52 hl (k := 6) rfl (nI_1 i) (by decide) rfl (fun ls hl => ?_)
        refine lv_goto (tgt := 29) X.x X.b d_Model_expand_55 (by decide) ?_
        exact ih (i + 1) s_12 (by omega) (by omega) (⟨fun j hj => (Nat.lt_or_ge j i).elim (fun z => ⟨by rw [es_12, updR_n2 _ _ _ _ (show j ≠ i by omega), es_11, updR_n2 _ _ _ _ (show j ≠ i by omega)]; exact (hE.1 j z).1, by rw [es_12, updR_n2 _ _ _ _ (show j ≠ i by omega), es_11, updR_n2 _ _ _ _ (show j ≠ i by omega)]; exact (hE.1 j z).2⟩) (fun z => ⟨by rw [show j = i by omega, es_12, updR_mf _ _ _ (show 25 ≠ 27 by decide), es_11, updR_hit], by rw [show j = i by omega, es_12, updR_hit]⟩), by rw [es_12, es_11]; exact (hE.2.up _ _ (by decide)).up _ _ (by decide)⟩) _ _ _ hM hL2 hL7 hL12 hS (lv_sub hl [1, 2, 3, 4, 5, 6, 0] rfl)
  exact lp 8 0 s0 (by omega) (by omega) (⟨fun j hj => absurd hj (Nat.not_lt_zero j), same.rf _ _⟩) _ _ _ hM hL2 hL7 hL12 hS (lv_sub hl [6, 5, 4, 3, 2, 1, 0] rfl)
set_option maxRecDepth 100000 in
set_option maxHeartbeats 4000000 in
theorem M_Model_expand_L7 (l : Launch) (g : GG) {mo tq : Nat} {p0 : Nat → Int32} {s0 : Nat → Nat → Int32} {H0 : Heap} (hM : mAt g mo tq p0 s0 H0) {x y v_ r : Int32} (hL : oneL 7 x y v_ r s0) (hf3 : p0 3 = 0) : MM l y_Model_expand c_Model_expand 13 none 3 3 18 g H0 [.ref mo] (fun q => mo ≤ q ∧ q < mo + 23) (none) (fun H1 => ∃ p s, mAt g mo tq p s H1 ∧ p 0 = p0 0 ∧ s 2 = s0 2 ∧ (p 3 = 0 ∧ p 5 = 2) ∧ s 8 0 = 7 ∧ s 9 0 = x ∧ s 10 0 = y ∧ s 8 1 = 6 ∧ s 11 0 = v_ ∧ ∀ j, j < 8 → s 27 j = -1) := by
  refine MM.of (by decide +kernel) (Nat.le_of_ble_eq_true rfl) ?_
  intro p e s m below meth cd X hH ls hl
  have X : CX g p s m _ meth cd c_Model_expand 13 none R_Model _ := X
  have hl : lv_has ls 13 [(0, .ref mo)] := hl
  have hS : va_S (AA (fun q => mo ≤ q ∧ q < mo + 23) H0) H0 H0 [] := va_S.rf
  have hlt0 := hM.lt
  have htq0 := hM.tq
  refine lv_bipush (v := 6) X.x X.b d_Model_expand_0 (by decide) ?_
  obtain ⟨q2, hq2⟩ := sz_of hS
  have hlt2 := hM.lt
  have hsz2 := hS.1
  refine m_newI X hS hq2 6 (by decide) (by decide) (by decide) (by omega) (by omega) d_Model_expand_2 (fun H hL2 hgr hS hz2 => ?_)
  have hfr := fr.of_grow (A := noA) hgr
  have hM := hM.frame hfr (fun q z => z.elim)
  refine lv_astore_n (lv' := [(1, .ref q2), (0, .ref mo)]) X.x X.b d_Model_expand_4 rfl hl (by decide) rfl (fun ls hl => ?_)
  refine lv_bipush (v := 6) X.x X.b d_Model_expand_5 (by decide) ?_
  obtain ⟨q7, hq7⟩ := sz_of hS
  have hlt7 := hM.lt
  have hsz7 := hS.1
  refine m_newI X hS hq7 6 (by decide) (by decide) (by decide) (by omega) (by omega) d_Model_expand_7 (fun H hL7 hgr hS hz2 => ?_)
  have hfr := fr.of_grow (A := noA) hgr
  have hM := hM.frame hfr (fun q z => z.elim)
  have hL2 := hL2.fr hfr (fun z => z)
  refine lv_astore_n (lv' := [(2, .ref q7), (1, .ref q2), (0, .ref mo)]) X.x X.b d_Model_expand_9 rfl hl (by decide) rfl (fun ls hl => ?_)
  refine lv_bipush (v := 6) X.x X.b d_Model_expand_10 (by decide) ?_
  obtain ⟨q12, hq12⟩ := sz_of hS
  have hlt12 := hM.lt
  have hsz12 := hS.1
  refine m_newI X hS hq12 6 (by decide) (by decide) (by decide) (by omega) (by omega) d_Model_expand_12 (fun H hL12 hgr hS hz2 => ?_)
  have hfr := fr.of_grow (A := noA) hgr
  have hM := hM.frame hfr (fun q z => z.elim)
  have hL2 := hL2.fr hfr (fun z => z)
  have hL7 := hL7.fr hfr (fun z => z)
  refine lv_astore_n (lv' := [(3, .ref q12), (2, .ref q7), (1, .ref q2), (0, .ref mo)]) X.x X.b d_Model_expand_14 rfl hl (by decide) rfl (fun ls hl => ?_)
  refine lv_iconst (v := 0) X.x X.b d_Model_expand_15 (by decide) ?_
  refine lv_istore (lv' := [(4, .int 0), (3, .ref q12), (2, .ref q7), (1, .ref q2), (0, .ref mo)]) X.x X.b d_Model_expand_16 hl (by decide) rfl (fun ls hl => ?_)
  refine lv_iconst (v := 0) X.x X.b d_Model_expand_18 (by decide) ?_
  refine lv_istore (lv' := [(5, .int 0), (4, .int 0), (3, .ref q12), (2, .ref q7), (1, .ref q2), (0, .ref mo)]) X.x X.b d_Model_expand_19 hl (by decide) rfl (fun ls hl => ?_)
  refine lv_aload_n X.x X.b d_Model_expand_21 rfl (lv_at hl 5 rfl) ?_
  refine lv_iconst (v := 0) X.x X.b d_Model_expand_22 (by decide) ?_
  refine m_put X ok_Model hS (Or.inl ⟨by omega, by omega⟩) hM.1 5 (by decide) k_Model_132 rfl (ok_Model.2.2.1 _ (by decide)) rfl rfl (Nat.le_of_ble_eq_true rfl) d_Model_expand_23 (fun H locs hp hcg hS => ?_)
  have hM := hM.f5 hp hcg
  obtain ⟨p_1, ep_1⟩ : ∃ z, z = upd p0 5 0 := ⟨_, rfl⟩
  rw [← ep_1] at hM
  have hL2 := hL2.off hcg (by omega)
  have hL7 := hL7.off hcg (by omega)
  have hL12 := hL12.off hcg (by omega)
  obtain ⟨p1, hp1⟩ : ∃ z, z = p_1 := ⟨_, rfl⟩
  rw [← hp1] at hM
  have hp1 : p1 = upd p0 5 0 := by rw [hp1, ep_1]
  have hp15 : p1 5 = 0 := by rw [hp1]; exact upd_hit _ _ _
  have hp13 : p1 3 = 0 := by rw [hp1]; exact (upd_mi _ _ _ (by decide)).trans hf3
  have hp10 : p1 0 = p0 0 := by rw [hp1]; exact upd_mi _ _ _ (by decide)
  refine lv_iconst (v := 0) X.x X.b d_Model_expand_26 (by decide) ?_
  refine lv_istore (lv' := [(6, .int 0), (5, .int 0), (4, .int 0), (3, .ref q12), (2, .ref q7), (1, .ref q2), (0, .ref mo)]) X.x X.b d_Model_expand_27 hl (by decide) rfl (fun ls hl => ?_)
  have lp : ∀ (n i : Nat) (s1 : Nat → Nat → Int32), n = 8 - i → i < 5000 → ((∀ j, j < i → s1 25 j = 0 ∧ s1 27 j = -1) ∧ same [25, 27] s0 s1) → ∀ (H : Heap) (locs : List Loc) (ls : Array Slot), mAt g mo tq p1 s1 H → pt g q2 (.inl (g.2 0, 6, .inl (fun _ => 0))) H → pt g q7 (.inl (g.2 0, 6, .inl (fun _ => 0))) H → pt g q12 (.inl (g.2 0, 6, .inl (fun _ => 0))) H → va_S (AA (fun q => mo ≤ q ∧ q < mo + 23) H0) H0 H locs → lv_has ls 13 [(0, .ref mo), (1, .ref q2), (2, .ref q7), (3, .ref q12), (4, .int 0), (5, .int 0), (6, .int (nI i))] → W p l e (rmK 3 3 18) s m ([.ref mo] : List Value).toArray below meth cd H locs 3 18 (MQ below (QM (none) (fun H1 => ∃ p s, mAt g mo tq p s H1 ∧ p 0 = p0 0 ∧ s 2 = s0 2 ∧ (p 3 = 0 ∧ p 5 = 2) ∧ s 8 0 = 7 ∧ s 9 0 = x ∧ s 10 0 = y ∧ s 8 1 = 6 ∧ s 11 0 = v_ ∧ ∀ j, j < 8 → s 27 j = -1) (fun q => mo ≤ q ∧ q < mo + 23) H0) ([.ref mo] : List Value).toArray s 3 18 (AA (fun q => mo ≤ q ∧ q < mo + 23) H0)) (F0 m 29 ls []) := by
    intro n
    induction n with
    | zero =>
      intro i s1 hin hi5 hE H locs ls hM hL2 hL7 hL12 hS hl
      refine lv_iload X.x X.b d_Model_expand_29 (lv_at hl 6 rfl) ?_
      refine lv_bipush (v := 8) X.x X.b d_Model_expand_31 (by decide) ?_
      refine lv_icmp_ge (tgt := 58) X.x X.b d_Model_expand_33 (by decide) (fun c1 => ?_) (fun c1 => ?_)
      · skip
        have c1q := Int32.not_lt.mpr c1
        refine lv_iload X.x X.b d_Model_expand_58 (lv_at hl 4 rfl) ?_
        refine lv_if_lt (tgt := 369) X.x X.b d_Model_expand_60 (by decide) (fun c2 => ?_) (fun c2 => ?_)
        · exact absurd c2 (by decide)
        · skip
          have c2q := Int32.not_lt.mp c2
          refine lv_aload_n X.x X.b d_Model_expand_63 rfl (lv_at hl 0 rfl) ?_
          refine m_get (v := .int 0) X ok_Model hM.1 3 (by decide) k_Model_126 (congrArg (fun z => some (Value.int z)) (show p1 3 = 0 from (by rw [hp13]))) d_Model_expand_64 ?_
          refine lv_if_ne (tgt := 369) X.x X.b d_Model_expand_67 (by decide) (fun c3 => ?_) (fun c3 => ?_)
          · exact absurd c3 (by decide)
          · skip
            refine lv_aload_n X.x X.b d_Model_expand_70 rfl (lv_at hl 1 rfl) ?_
            refine lv_iload X.x X.b d_Model_expand_71 (lv_at hl 4 rfl) ?_
            refine m_ild (v := 0) X hL2 0 rfl (by omega) (by decide) (show (fun _ => 0) 0 = 0 from rfl) d_Model_expand_73 ?_
            refine lv_istore (lv' := [(6, .int 0), (0, .ref mo), (1, .ref q2), (2, .ref q7), (3, .ref q12), (4, .int 0), (5, .int 0)]) X.x X.b d_Model_expand_74 hl (by decide) rfl (fun ls hl => ?_)
            refine lv_aload_n X.x X.b d_Model_expand_76 rfl (lv_at hl 3 rfl) ?_
            refine lv_iload X.x X.b d_Model_expand_77 (lv_at hl 5 rfl) ?_
            refine m_ild (v := 0) X hL7 0 rfl (by omega) (by decide) (show (fun _ => 0) 0 = 0 from rfl) d_Model_expand_79 ?_
            refine lv_aload_n X.x X.b d_Model_expand_80 rfl (lv_at hl 1 rfl) ?_
            refine m_get (v := .ref (mo + 2)) X ok_Model hM.1 2 (by decide) k_Model_13 rfl d_Model_expand_81 ?_
            refine lv_iload X.x X.b d_Model_expand_84 (lv_at hl 0 rfl) ?_
            refine m_ild (v := 1) X hM.a2 0 rfl (by omega) (by decide) (show s1 2 0 = 1 from (by rw [hE.2 2 (by decide), hL.1.1])) d_Model_expand_86 ?_
            refine lv_icmp_ne (tgt := 96) X.x X.b d_Model_expand_87 (by decide) (fun c4 => ?_) (fun c4 => ?_)
            · skip
              refine lv_aload_n X.x X.b d_Model_expand_96 rfl (lv_at hl 3 rfl) ?_
              refine lv_iload X.x X.b d_Model_expand_97 (lv_at hl 5 rfl) ?_
              refine lv_dup2_11 X.x X.b d_Model_expand_99 rfl rfl ?_
              refine m_ild (v := 0) X hL7 0 rfl (by omega) (by decide) (show (fun _ => 0) 0 = 0 from rfl) d_Model_expand_100 ?_
              refine lv_dup_x2 X.x X.b d_Model_expand_101 rfl rfl rfl ?_
              refine lv_iconst (v := 1) X.x X.b d_Model_expand_102 (by decide) ?_
              refine lv_iadd X.x X.b d_Model_expand_103 ?_
              rw [show (0 + 1 : Int32) = 1 from by decide]
              refine m_ist X hS (Or.inr (by omega)) hL7 0 rfl (by omega) (by decide) d_Model_expand_104 (fun H locs hp hcg hS => ?_)
              have hL7 := hp
              obtain ⟨r_2, er_2⟩ : ∃ z, z = upd (fun _ => 0) 0 1 := ⟨_, rfl⟩
              rw [← er_2] at hL7
              have hM := hM.frame (fr.of_chg (A := fun q => q = q7) hcg rfl) (fun q z => by have z : q = q7 := z; have := hM.tq; omega)
              have hL2 := hL2.off hcg (by omega)
              have hL12 := hL12.off hcg (by omega)
              refine lv_istore (lv' := [(7, .int 0), (6, .int 0), (0, .ref mo), (1, .ref q2), (2, .ref q7), (3, .ref q12), (4, .int 0), (5, .int 0)]) X.x X.b d_Model_expand_105 hl (by decide) rfl (fun ls hl => ?_)
              refine lv_iload X.x X.b d_Model_expand_107 (lv_at hl 1 rfl) ?_
              refine lv_iload X.x X.b d_Model_expand_109 (lv_at hl 0 rfl) ?_
              refine m_callSP X hS (MP_ans (M_Model_at l g 0 0) (show (((0 : Int32) * 64 + 0) * 5) = 0 from by decide)) s_Model_96 rfl rfl (Nat.le_of_ble_eq_true rfl) hl.1 d_Model_expand_111 (by omega) (by decide) ⟨by omega, by omega⟩ (fun locs hS => ?_)
              refine lv_istore (lv' := [(8, .int 0), (7, .int 0), (6, .int 0), (0, .ref mo), (1, .ref q2), (2, .ref q7), (3, .ref q12), (4, .int 0), (5, .int 0)]) X.x X.b d_Model_expand_114 hl (by decide) rfl (fun ls hl => ?_)
              refine lv_aload_n X.x X.b d_Model_expand_116 rfl (lv_at hl 5 rfl) ?_
              refine lv_iconst (v := 0) X.x X.b d_Model_expand_117 (by decide) ?_
              refine m_ild (v := 1) X hL7 0 rfl (by omega) (by decide) (show r_2 0 = 1 from (by rw [er_2, upd_hit])) d_Model_expand_118 ?_
              refine lv_iconst (v := 1) X.x X.b d_Model_expand_119 (by decide) ?_
              refine lv_isub X.x X.b d_Model_expand_120 ?_
              rw [show (1 - 1 : Int32) = 0 from by decide]
              refine lv_istore (lv' := [(9, .int 0), (8, .int 0), (7, .int 0), (6, .int 0), (0, .ref mo), (1, .ref q2), (2, .ref q7), (3, .ref q12), (4, .int 0), (5, .int 0)]) X.x X.b d_Model_expand_121 hl (by decide) rfl (fun ls hl => ?_)
              refine lv_aload_n X.x X.b d_Model_expand_123 rfl (lv_at hl 4 rfl) ?_
              refine m_get (v := .ref tq) X ok_Model hM.1 1 (by decide) k_Model_9 rfl d_Model_expand_124 ?_
              refine lv_iload X.x X.b d_Model_expand_127 (lv_at hl 1 rfl) ?_
              refine m_ild (v := 7) X hM.a1 0 rfl (by omega) (by decide) (show s1 1 0 = 7 from (by rw [hE.2 1 (by decide), hL.2.1])) d_Model_expand_129 ?_
              refine lv_istore (lv' := [(10, .int 7), (9, .int 0), (8, .int 0), (7, .int 0), (6, .int 0), (0, .ref mo), (1, .ref q2), (2, .ref q7), (3, .ref q12), (4, .int 0), (5, .int 0)]) X.x X.b d_Model_expand_130 hl (by decide) rfl (fun ls hl => ?_)
              refine lv_aload_n X.x X.b d_Model_expand_132 rfl (lv_at hl 5 rfl) ?_
              refine m_get (v := .ref tq) X ok_Model hM.1 1 (by decide) k_Model_9 rfl d_Model_expand_133 ?_
              refine lv_iload X.x X.b d_Model_expand_136 (lv_at hl 2 rfl) ?_
              refine lv_iconst (v := 3) X.x X.b d_Model_expand_138 (by decide) ?_
              refine lv_iadd X.x X.b d_Model_expand_139 ?_
              rw [show (0 + 3 : Int32) = 3 from by decide]
              refine m_ild (v := v_) X hM.a1 3 rfl (by omega) (by decide) (show s1 1 3 = v_ from (by rw [hE.2 1 (by decide), hL.2.2.2.2.1])) d_Model_expand_140 ?_
              refine lv_aload_n X.x X.b d_Model_expand_141 rfl (lv_at hl 5 rfl) ?_
              refine m_get (v := .ref tq) X ok_Model hM.1 1 (by decide) k_Model_9 rfl d_Model_expand_142 ?_
              refine lv_iload X.x X.b d_Model_expand_145 (lv_at hl 2 rfl) ?_
              refine lv_iconst (v := 4) X.x X.b d_Model_expand_147 (by decide) ?_
              refine lv_iadd X.x X.b d_Model_expand_148 ?_
              rw [show (0 + 4 : Int32) = 4 from by decide]
              refine m_ild (v := r) X hM.a1 4 rfl (by omega) (by decide) (show s1 1 4 = r from (by rw [hE.2 1 (by decide), hL.2.2.2.2.2])) d_Model_expand_149 ?_
              refine lv_iconst (v := 1) X.x X.b d_Model_expand_150 (by decide) ?_
              refine lv_icmp_ne (tgt := 161) X.x X.b d_Model_expand_151 (by decide) (fun c5 => ?_) (fun c5 => ?_)
              · skip
                refine lv_iconst (v := 0) X.x X.b d_Model_expand_161 (by decide) ?_
                refine lv_iadd X.x X.b d_Model_expand_162 ?_
                rw [show (v_ + 0 : Int32) = v_ from Int32.add_zero _]
                refine lv_istore (lv' := [(11, .int v_), (10, .int 7), (9, .int 0), (8, .int 0), (7, .int 0), (6, .int 0), (0, .ref mo), (1, .ref q2), (2, .ref q7), (3, .ref q12), (4, .int 0), (5, .int 0)]) X.x X.b d_Model_expand_163 hl (by decide) rfl (fun ls hl => ?_)
                refine lv_iinc (v := 1) (lv' := [(5, .int 1), (11, .int v_), (10, .int 7), (9, .int 0), (8, .int 0), (7, .int 0), (6, .int 0), (0, .ref mo), (1, .ref q2), (2, .ref q7), (3, .ref q12), (4, .int 0)]) X.x X.b d_Model_expand_165 hl (k := 11) rfl (by decide) (by decide) rfl (fun ls hl => ?_)
                refine lv_iload X.x X.b d_Model_expand_168 (lv_at hl 0 rfl) ?_
                refine lv_sipush (v := 400) X.x X.b d_Model_expand_170 (by decide) ?_
                refine lv_icmp_gt (tgt := 193) X.x X.b d_Model_expand_173 (by decide) (fun c6 => ?_) (fun c6 => ?_)
                · exact absurd c6 (by decide)
                · skip
                  have c6q := Int32.not_lt.mp c6
                  refine lv_iload X.x X.b d_Model_expand_176 (lv_at hl 2 rfl) ?_
                  refine m_callSP X hS (MP_ans (M_Model_makes l g 7) (show b2i ((7 : Int32) < 8) = 1 from by decide)) s_Model_138 rfl rfl (Nat.le_of_ble_eq_true rfl) hl.1 d_Model_expand_178 (by omega) (by decide) ⟨by omega, by omega⟩ (fun locs hS => ?_)
                  refine lv_if_eq (tgt := 203) X.x X.b d_Model_expand_181 (by decide) (fun c7 => ?_) (fun c7 => ?_)
                  · exact absurd c7 (by decide)
                  · skip
                    refine lv_aload_n X.x X.b d_Model_expand_184 rfl (lv_at hl 7 rfl) ?_
                    refine m_get (v := .int 0) X ok_Model hM.1 5 (by decide) k_Model_132 (congrArg (fun z => some (Value.int z)) (show p1 5 = 0 from (by rw [hp15]))) d_Model_expand_185 ?_
                    refine lv_bipush (v := 120) X.x X.b d_Model_expand_188 (by decide) ?_
                    refine lv_icmp_ne (tgt := 203) X.x X.b d_Model_expand_190 (by decide) (fun c8 => ?_) (fun c8 => ?_)
                    · skip
                      refine lv_iload X.x X.b d_Model_expand_203 (lv_at hl 2 rfl) ?_
                      refine lv_bipush (v := 10) X.x X.b d_Model_expand_205 (by decide) ?_
                      refine lv_icmp_ne (tgt := 259) X.x X.b d_Model_expand_207 (by decide) (fun c9 => ?_) (fun c9 => ?_)
                      · skip
                        refine lv_iload X.x X.b d_Model_expand_259 (lv_at hl 2 rfl) ?_
                        refine lv_bipush (v := 8) X.x X.b d_Model_expand_261 (by decide) ?_
                        refine lv_icmp_ne (tgt := 329) X.x X.b d_Model_expand_263 (by decide) (fun c10 => ?_) (fun c10 => ?_)
                        · skip
                          refine lv_iload X.x X.b d_Model_expand_329 (lv_at hl 2 rfl) ?_
                          refine lv_bipush (v := 9) X.x X.b d_Model_expand_331 (by decide) ?_
                          refine lv_icmp_eq (tgt := 366) X.x X.b d_Model_expand_333 (by decide) (fun c11 => ?_) (fun c11 => ?_)
                          · exact absurd c11 (by decide)
                          · skip
                            refine lv_aload_n X.x X.b d_Model_expand_336 rfl (lv_at hl 7 rfl) ?_
                            refine lv_iload X.x X.b d_Model_expand_337 (lv_at hl 2 rfl) ?_
                            refine lv_aload_n X.x X.b d_Model_expand_339 rfl (lv_at hl 7 rfl) ?_
                            refine m_get (v := .ref tq) X ok_Model hM.1 1 (by decide) k_Model_9 rfl d_Model_expand_340 ?_
                            refine lv_iload X.x X.b d_Model_expand_343 (lv_at hl 4 rfl) ?_
                            refine lv_iconst (v := 1) X.x X.b d_Model_expand_345 (by decide) ?_
                            refine lv_iadd X.x X.b d_Model_expand_346 ?_
                            rw [show (0 + 1 : Int32) = 1 from by decide]
                            refine m_ild (v := x) X hM.a1 1 rfl (by omega) (by decide) (show s1 1 1 = x from (by rw [hE.2 1 (by decide), hL.2.2.1])) d_Model_expand_347 ?_
                            refine lv_aload_n X.x X.b d_Model_expand_348 rfl (lv_at hl 7 rfl) ?_
                            refine m_get (v := .ref tq) X ok_Model hM.1 1 (by decide) k_Model_9 rfl d_Model_expand_349 ?_
                            refine lv_iload X.x X.b d_Model_expand_352 (lv_at hl 4 rfl) ?_
                            refine lv_iconst (v := 2) X.x X.b d_Model_expand_354 (by decide) ?_
                            refine lv_iadd X.x X.b d_Model_expand_355 ?_
                            rw [show (0 + 2 : Int32) = 2 from by decide]
                            refine m_ild (v := y) X hM.a1 2 rfl (by omega) (by decide) (show s1 1 2 = y from (by rw [hE.2 1 (by decide), hL.2.2.2.1])) d_Model_expand_356 ?_
                            refine lv_iload X.x X.b d_Model_expand_357 (lv_at hl 1 rfl) ?_
                            refine lv_iload X.x X.b d_Model_expand_359 (lv_at hl 3 rfl) ?_
                            refine lv_iload X.x X.b d_Model_expand_361 (lv_at hl 11 rfl) ?_
                            have hR := M_Model_take_o (c := 0) l g hM (show p1 5 = 0 from (by rw [hp15])) (by omega) 7 x y v_ 0 0 (by decide) (by decide)
                            refine m_callM X hS hR v_Model_147 hM.1 rfl rfl rfl (Nat.le_of_ble_eq_true rfl) hl.1 d_Model_expand_363 (by omega) (by decide) ⟨by omega, by omega⟩ (fun q z => by have z : mo ≤ q ∧ q < mo + 23 := z; exact ⟨by omega, by omega⟩) (fun H locs hM hfr hS => ?_)
                            have hL2 := hL2.fr hfr (fun z => by have z : mo ≤ q2 ∧ q2 < mo + 23 := z; omega)
                            have hL7 := hL7.fr hfr (fun z => by have z : mo ≤ q7 ∧ q7 < mo + 23 := z; omega)
                            have hL12 := hL12.fr hfr (fun z => by have z : mo ≤ q12 ∧ q12 < mo + 23 := z; omega)
                            have hM : mAt g mo tq (upd p1 5 1) _ H := hM
                            obtain ⟨p_3, ep_3⟩ : ∃ z, z = upd p1 5 1 := ⟨_, rfl⟩
                            rw [← ep_3] at hM
                            obtain ⟨s_4, es_4⟩ : ∃ z, z = itR s1 0 7 x y v_ 0 0 := ⟨_, rfl⟩
                            rw [← es_4] at hM
                            refine lv_goto (tgt := 58) X.x X.b d_Model_expand_366 (by decide) ?_
                            refine lv_iload X.x X.b d_Model_expand_58 (lv_at hl 11 rfl) ?_
                            refine lv_if_lt (tgt := 369) X.x X.b d_Model_expand_60 (by decide) (fun c12 => ?_) (fun c12 => ?_)
                            · exact absurd c12 c2
                            · skip
                              have c12q := Int32.not_lt.mp c12
                              refine lv_aload_n X.x X.b d_Model_expand_63 rfl (lv_at hl 7 rfl) ?_
                              refine m_get (v := .int 0) X ok_Model hM.1 3 (by decide) k_Model_126 (congrArg (fun z => some (Value.int z)) (show p_3 3 = 0 from (by rw [ep_3, upd_mi _ _ _ (show 3 ≠ 5 by decide), hp13]))) d_Model_expand_64 ?_
                              refine lv_if_ne (tgt := 369) X.x X.b d_Model_expand_67 (by decide) (fun c13 => ?_) (fun c13 => ?_)
                              · exact absurd c3 c13
                              · skip
                                refine lv_aload_n X.x X.b d_Model_expand_70 rfl (lv_at hl 8 rfl) ?_
                                refine lv_iload X.x X.b d_Model_expand_71 (lv_at hl 11 rfl) ?_
                                refine m_ild (v := 0) X hL2 0 rfl (by omega) (by decide) (show (fun _ => 0) 0 = 0 from rfl) d_Model_expand_73 ?_
                                refine lv_istore (lv' := [(6, .int 0), (5, .int 1), (11, .int v_), (10, .int 7), (9, .int 0), (8, .int 0), (7, .int 0), (0, .ref mo), (1, .ref q2), (2, .ref q7), (3, .ref q12), (4, .int 0)]) X.x X.b d_Model_expand_74 hl (by decide) rfl (fun ls hl => ?_)
                                refine lv_aload_n X.x X.b d_Model_expand_76 rfl (lv_at hl 9 rfl) ?_
                                refine lv_iload X.x X.b d_Model_expand_77 (lv_at hl 11 rfl) ?_
                                refine m_ild (v := 1) X hL7 0 rfl (by omega) (by decide) (show r_2 0 = 1 from (by rw [er_2, upd_hit])) d_Model_expand_79 ?_
                                refine lv_aload_n X.x X.b d_Model_expand_80 rfl (lv_at hl 7 rfl) ?_
                                refine m_get (v := .ref (mo + 2)) X ok_Model hM.1 2 (by decide) k_Model_13 rfl d_Model_expand_81 ?_
                                refine lv_iload X.x X.b d_Model_expand_84 (lv_at hl 0 rfl) ?_
                                refine m_ild (v := 1) X hM.a2 0 rfl (by omega) (by decide) (show s_4 2 0 = 1 from (by rw [es_4, itR_o s1 0 7 x y v_ 0 0 2 (by decide), hE.2 2 (by decide), hL.1.1])) d_Model_expand_86 ?_
                                refine lv_icmp_ne (tgt := 96) X.x X.b d_Model_expand_87 (by decide) (fun c14 => ?_) (fun c14 => ?_)
                                · exact absurd c14 (by decide)
                                · skip
                                  refine lv_iinc (v := (-1)) (lv' := [(4, .int (-1)), (6, .int 0), (5, .int 1), (11, .int v_), (10, .int 7), (9, .int 0), (8, .int 0), (7, .int 0), (0, .ref mo), (1, .ref q2), (2, .ref q7), (3, .ref q12)]) X.x X.b d_Model_expand_90 hl (k := 11) rfl (by decide) (by decide) rfl (fun ls hl => ?_)
                                  refine lv_goto (tgt := 58) X.x X.b d_Model_expand_93 (by decide) ?_
                                  refine lv_iload X.x X.b d_Model_expand_58 (lv_at hl 0 rfl) ?_
                                  refine lv_if_lt (tgt := 369) X.x X.b d_Model_expand_60 (by decide) (fun c15 => ?_) (fun c15 => ?_)
                                  · skip
                                    have c15q := Int32.not_le.mpr c15
                                    refine lv_aload_n X.x X.b d_Model_expand_369 rfl (lv_at hl 8 rfl) ?_
                                    refine m_get (v := .int 0) X ok_Model hM.1 3 (by decide) k_Model_126 (congrArg (fun z => some (Value.int z)) (show p_3 3 = 0 from (by rw [ep_3, upd_mi _ _ _ (show 3 ≠ 5 by decide), hp13]))) d_Model_expand_370 ?_
                                    refine lv_if_ne (tgt := 387) X.x X.b d_Model_expand_373 (by decide) (fun c16 => ?_) (fun c16 => ?_)
                                    · exact absurd c13 c16
                                    · skip
                                      refine lv_aload_n X.x X.b d_Model_expand_376 rfl (lv_at hl 8 rfl) ?_
                                      refine lv_bipush (v := 6) X.x X.b d_Model_expand_377 (by decide) ?_
                                      refine lv_iconst (v := -1) X.x X.b d_Model_expand_379 (by decide) ?_
                                      refine lv_iconst (v := -1) X.x X.b d_Model_expand_380 (by decide) ?_
                                      refine lv_iconst (v := 0) X.x X.b d_Model_expand_381 (by decide) ?_
                                      refine lv_iconst (v := -1) X.x X.b d_Model_expand_382 (by decide) ?_
                                      refine lv_iconst (v := 0) X.x X.b d_Model_expand_383 (by decide) ?_
                                      have hR := M_Model_item (c := 1) l g hM (show p_3 5 = 1 from (by rw [ep_3, upd_hit])) (by omega) 6 (-1) (-1) 0 (-1) 0
                                      refine m_callM X hS hR v_Model_151 hM.1 rfl rfl rfl (Nat.le_of_ble_eq_true rfl) hl.1 d_Model_expand_384 (by omega) (by decide) ⟨by omega, by omega⟩ (fun q z => by have z : mo ≤ q ∧ q < mo + 23 := z; exact ⟨by omega, by omega⟩) (fun H locs hM hfr hS => ?_)
                                      have hL2 := hL2.fr hfr (fun z => by have z : mo ≤ q2 ∧ q2 < mo + 23 := z; omega)
                                      have hL7 := hL7.fr hfr (fun z => by have z : mo ≤ q7 ∧ q7 < mo + 23 := z; omega)
                                      have hL12 := hL12.fr hfr (fun z => by have z : mo ≤ q12 ∧ q12 < mo + 23 := z; omega)
                                      have hM : mAt g mo tq (upd p_3 5 2) _ H := hM
                                      obtain ⟨p_5, ep_5⟩ : ∃ z, z = upd p_3 5 2 := ⟨_, rfl⟩
                                      rw [← ep_5] at hM
                                      obtain ⟨s_6, es_6⟩ : ∃ z, z = itR s_4 1 6 (-1) (-1) 0 (-1) 0 := ⟨_, rfl⟩
                                      rw [← es_6] at hM
                                      exact m_vret X hS (by omega) (by omega) d_Model_expand_387 rfl ⟨_, _, hM, (by rw [ep_5, upd_mi _ _ _ (show 0 ≠ 5 by decide), ep_3, upd_mi _ _ _ (show 0 ≠ 5 by decide), hp10]), by rw [es_6, itR_o s_4 1 6 (-1) (-1) 0 (-1) 0 2 (by decide), es_4, itR_o s1 0 7 x y v_ 0 0 2 (by decide), hE.2 2 (by decide)], ⟨(by rw [ep_5, upd_mi _ _ _ (show 3 ≠ 5 by decide), ep_3, upd_mi _ _ _ (show 3 ≠ 5 by decide), hp13]), (by rw [ep_5, upd_hit])⟩, (by rw [es_6, itR_ne s_4 1 6 (-1) (-1) 0 (-1) 0 (show (0 : Nat) ≠ 1 by omega) 8, es_4, (itR_at s1 0 7 x y v_ 0 0).1]), (by rw [es_6, itR_ne s_4 1 6 (-1) (-1) 0 (-1) 0 (show (0 : Nat) ≠ 1 by omega) 9, es_4, (itR_at s1 0 7 x y v_ 0 0).2.1]), (by rw [es_6, itR_ne s_4 1 6 (-1) (-1) 0 (-1) 0 (show (0 : Nat) ≠ 1 by omega) 10, es_4, (itR_at s1 0 7 x y v_ 0 0).2.2.1]), (by rw [es_6, (itR_at s_4 1 6 (-1) (-1) 0 (-1) 0).1]), (by rw [es_6, itR_ne s_4 1 6 (-1) (-1) 0 (-1) 0 (show (0 : Nat) ≠ 1 by omega) 11, es_4, (itR_at s1 0 7 x y v_ 0 0).2.2.2.1]), fun j hj => (by rw [es_6, itR_o s_4 1 6 (-1) (-1) 0 (-1) 0 27 (by decide), es_4, itR_o s1 0 7 x y v_ 0 0 27 (by decide), (hE.1 j (by omega)).2])⟩
                                  · exact absurd c15 (by decide)
                        · exact absurd c10 (by decide)
                      · exact absurd c9 (by decide)
                    · exact absurd c8 (by decide)
              · skip
                refine lv_aload_n X.x X.b d_Model_expand_154 rfl (lv_at hl 8 rfl) ?_
                refine lv_iload X.x X.b d_Model_expand_155 (lv_at hl 9 rfl) ?_
                refine m_ild (v := 0) X hL12 0 rfl (by omega) (by decide) (show (fun _ => 0) 0 = 0 from rfl) d_Model_expand_157 ?_
                refine lv_goto (tgt := 162) X.x X.b d_Model_expand_158 (by decide) ?_
                refine lv_iadd X.x X.b d_Model_expand_162 ?_
                rw [show (v_ + 0 : Int32) = v_ from Int32.add_zero _]
                refine lv_istore (lv' := [(11, .int v_), (10, .int 7), (9, .int 0), (8, .int 0), (7, .int 0), (6, .int 0), (0, .ref mo), (1, .ref q2), (2, .ref q7), (3, .ref q12), (4, .int 0), (5, .int 0)]) X.x X.b d_Model_expand_163 hl (by decide) rfl (fun ls hl => ?_)
                refine lv_iinc (v := 1) (lv' := [(5, .int 1), (11, .int v_), (10, .int 7), (9, .int 0), (8, .int 0), (7, .int 0), (6, .int 0), (0, .ref mo), (1, .ref q2), (2, .ref q7), (3, .ref q12), (4, .int 0)]) X.x X.b d_Model_expand_165 hl (k := 11) rfl (by decide) (by decide) rfl (fun ls hl => ?_)
                refine lv_iload X.x X.b d_Model_expand_168 (lv_at hl 0 rfl) ?_
                refine lv_sipush (v := 400) X.x X.b d_Model_expand_170 (by decide) ?_
                refine lv_icmp_gt (tgt := 193) X.x X.b d_Model_expand_173 (by decide) (fun c17 => ?_) (fun c17 => ?_)
                · exact absurd c17 (by decide)
                · skip
                  have c17q := Int32.not_lt.mp c17
                  refine lv_iload X.x X.b d_Model_expand_176 (lv_at hl 2 rfl) ?_
                  refine m_callSP X hS (MP_ans (M_Model_makes l g 7) (show b2i ((7 : Int32) < 8) = 1 from by decide)) s_Model_138 rfl rfl (Nat.le_of_ble_eq_true rfl) hl.1 d_Model_expand_178 (by omega) (by decide) ⟨by omega, by omega⟩ (fun locs hS => ?_)
                  refine lv_if_eq (tgt := 203) X.x X.b d_Model_expand_181 (by decide) (fun c18 => ?_) (fun c18 => ?_)
                  · exact absurd c18 (by decide)
                  · skip
                    refine lv_aload_n X.x X.b d_Model_expand_184 rfl (lv_at hl 7 rfl) ?_
                    refine m_get (v := .int 0) X ok_Model hM.1 5 (by decide) k_Model_132 (congrArg (fun z => some (Value.int z)) (show p1 5 = 0 from (by rw [hp15]))) d_Model_expand_185 ?_
                    refine lv_bipush (v := 120) X.x X.b d_Model_expand_188 (by decide) ?_
                    refine lv_icmp_ne (tgt := 203) X.x X.b d_Model_expand_190 (by decide) (fun c19 => ?_) (fun c19 => ?_)
                    · skip
                      refine lv_iload X.x X.b d_Model_expand_203 (lv_at hl 2 rfl) ?_
                      refine lv_bipush (v := 10) X.x X.b d_Model_expand_205 (by decide) ?_
                      refine lv_icmp_ne (tgt := 259) X.x X.b d_Model_expand_207 (by decide) (fun c20 => ?_) (fun c20 => ?_)
                      · skip
                        refine lv_iload X.x X.b d_Model_expand_259 (lv_at hl 2 rfl) ?_
                        refine lv_bipush (v := 8) X.x X.b d_Model_expand_261 (by decide) ?_
                        refine lv_icmp_ne (tgt := 329) X.x X.b d_Model_expand_263 (by decide) (fun c21 => ?_) (fun c21 => ?_)
                        · skip
                          refine lv_iload X.x X.b d_Model_expand_329 (lv_at hl 2 rfl) ?_
                          refine lv_bipush (v := 9) X.x X.b d_Model_expand_331 (by decide) ?_
                          refine lv_icmp_eq (tgt := 366) X.x X.b d_Model_expand_333 (by decide) (fun c22 => ?_) (fun c22 => ?_)
                          · exact absurd c22 (by decide)
                          · skip
                            refine lv_aload_n X.x X.b d_Model_expand_336 rfl (lv_at hl 7 rfl) ?_
                            refine lv_iload X.x X.b d_Model_expand_337 (lv_at hl 2 rfl) ?_
                            refine lv_aload_n X.x X.b d_Model_expand_339 rfl (lv_at hl 7 rfl) ?_
                            refine m_get (v := .ref tq) X ok_Model hM.1 1 (by decide) k_Model_9 rfl d_Model_expand_340 ?_
                            refine lv_iload X.x X.b d_Model_expand_343 (lv_at hl 4 rfl) ?_
                            refine lv_iconst (v := 1) X.x X.b d_Model_expand_345 (by decide) ?_
                            refine lv_iadd X.x X.b d_Model_expand_346 ?_
                            rw [show (0 + 1 : Int32) = 1 from by decide]
                            refine m_ild (v := x) X hM.a1 1 rfl (by omega) (by decide) (show s1 1 1 = x from (by rw [hE.2 1 (by decide), hL.2.2.1])) d_Model_expand_347 ?_
                            refine lv_aload_n X.x X.b d_Model_expand_348 rfl (lv_at hl 7 rfl) ?_
                            refine m_get (v := .ref tq) X ok_Model hM.1 1 (by decide) k_Model_9 rfl d_Model_expand_349 ?_
                            refine lv_iload X.x X.b d_Model_expand_352 (lv_at hl 4 rfl) ?_
                            refine lv_iconst (v := 2) X.x X.b d_Model_expand_354 (by decide) ?_
                            refine lv_iadd X.x X.b d_Model_expand_355 ?_
                            rw [show (0 + 2 : Int32) = 2 from by decide]
                            refine m_ild (v := y) X hM.a1 2 rfl (by omega) (by decide) (show s1 1 2 = y from (by rw [hE.2 1 (by decide), hL.2.2.2.1])) d_Model_expand_356 ?_
                            refine lv_iload X.x X.b d_Model_expand_357 (lv_at hl 1 rfl) ?_
                            refine lv_iload X.x X.b d_Model_expand_359 (lv_at hl 3 rfl) ?_
                            refine lv_iload X.x X.b d_Model_expand_361 (lv_at hl 11 rfl) ?_
                            have hR := M_Model_take_o (c := 0) l g hM (show p1 5 = 0 from (by rw [hp15])) (by omega) 7 x y v_ 0 0 (by decide) (by decide)
                            refine m_callM X hS hR v_Model_147 hM.1 rfl rfl rfl (Nat.le_of_ble_eq_true rfl) hl.1 d_Model_expand_363 (by omega) (by decide) ⟨by omega, by omega⟩ (fun q z => by have z : mo ≤ q ∧ q < mo + 23 := z; exact ⟨by omega, by omega⟩) (fun H locs hM hfr hS => ?_)
                            have hL2 := hL2.fr hfr (fun z => by have z : mo ≤ q2 ∧ q2 < mo + 23 := z; omega)
                            have hL7 := hL7.fr hfr (fun z => by have z : mo ≤ q7 ∧ q7 < mo + 23 := z; omega)
                            have hL12 := hL12.fr hfr (fun z => by have z : mo ≤ q12 ∧ q12 < mo + 23 := z; omega)
                            have hM : mAt g mo tq (upd p1 5 1) _ H := hM
                            obtain ⟨p_7, ep_7⟩ : ∃ z, z = upd p1 5 1 := ⟨_, rfl⟩
                            rw [← ep_7] at hM
                            obtain ⟨s_8, es_8⟩ : ∃ z, z = itR s1 0 7 x y v_ 0 0 := ⟨_, rfl⟩
                            rw [← es_8] at hM
                            refine lv_goto (tgt := 58) X.x X.b d_Model_expand_366 (by decide) ?_
                            refine lv_iload X.x X.b d_Model_expand_58 (lv_at hl 11 rfl) ?_
                            refine lv_if_lt (tgt := 369) X.x X.b d_Model_expand_60 (by decide) (fun c23 => ?_) (fun c23 => ?_)
                            · exact absurd c23 c2
                            · skip
                              have c23q := Int32.not_lt.mp c23
                              refine lv_aload_n X.x X.b d_Model_expand_63 rfl (lv_at hl 7 rfl) ?_
                              refine m_get (v := .int 0) X ok_Model hM.1 3 (by decide) k_Model_126 (congrArg (fun z => some (Value.int z)) (show p_7 3 = 0 from (by rw [ep_7, upd_mi _ _ _ (show 3 ≠ 5 by decide), hp13]))) d_Model_expand_64 ?_
                              refine lv_if_ne (tgt := 369) X.x X.b d_Model_expand_67 (by decide) (fun c24 => ?_) (fun c24 => ?_)
                              · exact absurd c3 c24
                              · skip
                                refine lv_aload_n X.x X.b d_Model_expand_70 rfl (lv_at hl 8 rfl) ?_
                                refine lv_iload X.x X.b d_Model_expand_71 (lv_at hl 11 rfl) ?_
                                refine m_ild (v := 0) X hL2 0 rfl (by omega) (by decide) (show (fun _ => 0) 0 = 0 from rfl) d_Model_expand_73 ?_
                                refine lv_istore (lv' := [(6, .int 0), (5, .int 1), (11, .int v_), (10, .int 7), (9, .int 0), (8, .int 0), (7, .int 0), (0, .ref mo), (1, .ref q2), (2, .ref q7), (3, .ref q12), (4, .int 0)]) X.x X.b d_Model_expand_74 hl (by decide) rfl (fun ls hl => ?_)
                                refine lv_aload_n X.x X.b d_Model_expand_76 rfl (lv_at hl 9 rfl) ?_
                                refine lv_iload X.x X.b d_Model_expand_77 (lv_at hl 11 rfl) ?_
                                refine m_ild (v := 1) X hL7 0 rfl (by omega) (by decide) (show r_2 0 = 1 from (by rw [er_2, upd_hit])) d_Model_expand_79 ?_
                                refine lv_aload_n X.x X.b d_Model_expand_80 rfl (lv_at hl 7 rfl) ?_
                                refine m_get (v := .ref (mo + 2)) X ok_Model hM.1 2 (by decide) k_Model_13 rfl d_Model_expand_81 ?_
                                refine lv_iload X.x X.b d_Model_expand_84 (lv_at hl 0 rfl) ?_
                                refine m_ild (v := 1) X hM.a2 0 rfl (by omega) (by decide) (show s_8 2 0 = 1 from (by rw [es_8, itR_o s1 0 7 x y v_ 0 0 2 (by decide), hE.2 2 (by decide), hL.1.1])) d_Model_expand_86 ?_
                                refine lv_icmp_ne (tgt := 96) X.x X.b d_Model_expand_87 (by decide) (fun c25 => ?_) (fun c25 => ?_)
                                · exact absurd c25 (by decide)
                                · skip
                                  refine lv_iinc (v := (-1)) (lv' := [(4, .int (-1)), (6, .int 0), (5, .int 1), (11, .int v_), (10, .int 7), (9, .int 0), (8, .int 0), (7, .int 0), (0, .ref mo), (1, .ref q2), (2, .ref q7), (3, .ref q12)]) X.x X.b d_Model_expand_90 hl (k := 11) rfl (by decide) (by decide) rfl (fun ls hl => ?_)
                                  refine lv_goto (tgt := 58) X.x X.b d_Model_expand_93 (by decide) ?_
                                  refine lv_iload X.x X.b d_Model_expand_58 (lv_at hl 0 rfl) ?_
                                  refine lv_if_lt (tgt := 369) X.x X.b d_Model_expand_60 (by decide) (fun c26 => ?_) (fun c26 => ?_)
                                  · skip
                                    have c26q := Int32.not_le.mpr c26
                                    refine lv_aload_n X.x X.b d_Model_expand_369 rfl (lv_at hl 8 rfl) ?_
                                    refine m_get (v := .int 0) X ok_Model hM.1 3 (by decide) k_Model_126 (congrArg (fun z => some (Value.int z)) (show p_7 3 = 0 from (by rw [ep_7, upd_mi _ _ _ (show 3 ≠ 5 by decide), hp13]))) d_Model_expand_370 ?_
                                    refine lv_if_ne (tgt := 387) X.x X.b d_Model_expand_373 (by decide) (fun c27 => ?_) (fun c27 => ?_)
                                    · exact absurd c24 c27
                                    · skip
                                      refine lv_aload_n X.x X.b d_Model_expand_376 rfl (lv_at hl 8 rfl) ?_
                                      refine lv_bipush (v := 6) X.x X.b d_Model_expand_377 (by decide) ?_
                                      refine lv_iconst (v := -1) X.x X.b d_Model_expand_379 (by decide) ?_
                                      refine lv_iconst (v := -1) X.x X.b d_Model_expand_380 (by decide) ?_
                                      refine lv_iconst (v := 0) X.x X.b d_Model_expand_381 (by decide) ?_
                                      refine lv_iconst (v := -1) X.x X.b d_Model_expand_382 (by decide) ?_
                                      refine lv_iconst (v := 0) X.x X.b d_Model_expand_383 (by decide) ?_
                                      have hR := M_Model_item (c := 1) l g hM (show p_7 5 = 1 from (by rw [ep_7, upd_hit])) (by omega) 6 (-1) (-1) 0 (-1) 0
                                      refine m_callM X hS hR v_Model_151 hM.1 rfl rfl rfl (Nat.le_of_ble_eq_true rfl) hl.1 d_Model_expand_384 (by omega) (by decide) ⟨by omega, by omega⟩ (fun q z => by have z : mo ≤ q ∧ q < mo + 23 := z; exact ⟨by omega, by omega⟩) (fun H locs hM hfr hS => ?_)
                                      have hL2 := hL2.fr hfr (fun z => by have z : mo ≤ q2 ∧ q2 < mo + 23 := z; omega)
                                      have hL7 := hL7.fr hfr (fun z => by have z : mo ≤ q7 ∧ q7 < mo + 23 := z; omega)
                                      have hL12 := hL12.fr hfr (fun z => by have z : mo ≤ q12 ∧ q12 < mo + 23 := z; omega)
                                      have hM : mAt g mo tq (upd p_7 5 2) _ H := hM
                                      obtain ⟨p_9, ep_9⟩ : ∃ z, z = upd p_7 5 2 := ⟨_, rfl⟩
                                      rw [← ep_9] at hM
                                      obtain ⟨s_10, es_10⟩ : ∃ z, z = itR s_8 1 6 (-1) (-1) 0 (-1) 0 := ⟨_, rfl⟩
                                      rw [← es_10] at hM
                                      exact m_vret X hS (by omega) (by omega) d_Model_expand_387 rfl ⟨_, _, hM, (by rw [ep_9, upd_mi _ _ _ (show 0 ≠ 5 by decide), ep_7, upd_mi _ _ _ (show 0 ≠ 5 by decide), hp10]), by rw [es_10, itR_o s_8 1 6 (-1) (-1) 0 (-1) 0 2 (by decide), es_8, itR_o s1 0 7 x y v_ 0 0 2 (by decide), hE.2 2 (by decide)], ⟨(by rw [ep_9, upd_mi _ _ _ (show 3 ≠ 5 by decide), ep_7, upd_mi _ _ _ (show 3 ≠ 5 by decide), hp13]), (by rw [ep_9, upd_hit])⟩, (by rw [es_10, itR_ne s_8 1 6 (-1) (-1) 0 (-1) 0 (show (0 : Nat) ≠ 1 by omega) 8, es_8, (itR_at s1 0 7 x y v_ 0 0).1]), (by rw [es_10, itR_ne s_8 1 6 (-1) (-1) 0 (-1) 0 (show (0 : Nat) ≠ 1 by omega) 9, es_8, (itR_at s1 0 7 x y v_ 0 0).2.1]), (by rw [es_10, itR_ne s_8 1 6 (-1) (-1) 0 (-1) 0 (show (0 : Nat) ≠ 1 by omega) 10, es_8, (itR_at s1 0 7 x y v_ 0 0).2.2.1]), (by rw [es_10, (itR_at s_8 1 6 (-1) (-1) 0 (-1) 0).1]), (by rw [es_10, itR_ne s_8 1 6 (-1) (-1) 0 (-1) 0 (show (0 : Nat) ≠ 1 by omega) 11, es_8, (itR_at s1 0 7 x y v_ 0 0).2.2.2.1]), fun j hj => (by rw [es_10, itR_o s_8 1 6 (-1) (-1) 0 (-1) 0 27 (by decide), es_8, itR_o s1 0 7 x y v_ 0 0 27 (by decide), (hE.1 j (by omega)).2])⟩
                                  · exact absurd c26 (by decide)
                        · exact absurd c21 (by decide)
                      · exact absurd c20 (by decide)
                    · exact absurd c19 (by decide)
            · exact absurd c4 (by decide)
      · exact absurd ((nI_ltI (a := i) (b := 8) (by omega) (by omega)).mp (Int32.not_le.mp c1)) (by omega)
    | succ n ih =>
      intro i s1 hin hi5 hE H locs ls hM hL2 hL7 hL12 hS hl
      refine lv_iload X.x X.b d_Model_expand_29 (lv_at hl 6 rfl) ?_
      refine lv_bipush (v := 8) X.x X.b d_Model_expand_31 (by decide) ?_
      refine lv_icmp_ge (tgt := 58) X.x X.b d_Model_expand_33 (by decide) (fun c28 => ?_) (fun c28 => ?_)
      · exact absurd ((nI_leI (a := 8) (b := i) (by omega) (by omega)).mp c28) (by omega)
      · skip
        have c28q := Int32.not_le.mp c28
        refine lv_aload_n X.x X.b d_Model_expand_36 rfl (lv_at hl 0 rfl) ?_
        refine m_get (v := .ref (mo + 20)) X ok_Model hM.1 25 (by decide) k_Model_68 rfl d_Model_expand_37 ?_
        refine lv_iload X.x X.b d_Model_expand_40 (lv_at hl 6 rfl) ?_
        refine lv_iconst (v := 0) X.x X.b d_Model_expand_42 (by decide) ?_
        refine m_ist X hS (Or.inl ⟨by omega, by omega⟩) hM.a25 i rfl (by omega) (by decide) d_Model_expand_43 (fun H locs hp hcg hS => ?_)
        have hM := hM.s25 hp hcg
        obtain ⟨s_11, es_11⟩ : ∃ z, z = updR s1 25 (upd (s1 25) i 0) := ⟨_, rfl⟩
        rw [← es_11] at hM
        have hL2 := hL2.off hcg (by omega)
        have hL7 := hL7.off hcg (by omega)
        have hL12 := hL12.off hcg (by omega)
        refine lv_aload_n X.x X.b d_Model_expand_44 rfl (lv_at hl 0 rfl) ?_
        refine m_get (v := .ref (mo + 22)) X ok_Model hM.1 27 (by decide) k_Model_74 rfl d_Model_expand_45 ?_
        refine lv_iload X.x X.b d_Model_expand_48 (lv_at hl 6 rfl) ?_
        refine lv_iconst (v := -1) X.x X.b d_Model_expand_50 (by decide) ?_
        refine m_ist X hS (Or.inl ⟨by omega, by omega⟩) hM.a27 i rfl (by omega) (by decide) d_Model_expand_51 (fun H locs hp hcg hS => ?_)
        have hM := hM.s27 hp hcg
        obtain ⟨s_12, es_12⟩ : ∃ z, z = updR s_11 27 (upd (s_11 27) i (-1)) := ⟨_, rfl⟩
        rw [← es_12] at hM
        have hL2 := hL2.off hcg (by omega)
        have hL7 := hL7.off hcg (by omega)
        have hL12 := hL12.off hcg (by omega)
        refine lv_iinc (v := nI (i + 1)) (lv' := [(6, .int (nI (i + 1))), (0, .ref mo), (1, .ref q2), (2, .ref q7), (3, .ref q12), (4, .int 0), (5, .int 0)]) X.x X.b d_Model_expand_52 hl (k := 6) rfl (nI_1 i) (by decide) rfl (fun ls hl => ?_)
        refine lv_goto (tgt := 29) X.x X.b d_Model_expand_55 (by decide) ?_
        exact ih (i + 1) s_12 (by omega) (by omega) (⟨fun j hj => (Nat.lt_or_ge j i).elim (fun z => ⟨by rw [es_12, updR_n2 _ _ _ _ (show j ≠ i by omega), es_11, updR_n2 _ _ _ _ (show j ≠ i by omega)]; exact (hE.1 j z).1, by rw [es_12, updR_n2 _ _ _ _ (show j ≠ i by omega), es_11, updR_n2 _ _ _ _ (show j ≠ i by omega)]; exact (hE.1 j z).2⟩) (fun z => ⟨by rw [show j = i by omega, es_12, updR_mf _ _ _ (show 25 ≠ 27 by decide), es_11, updR_hit], by rw [show j = i by omega, es_12, updR_hit]⟩), by rw [es_12, es_11]; exact (hE.2.up _ _ (by decide)).up _ _ (by decide)⟩) _ _ _ hM hL2 hL7 hL12 hS (lv_sub hl [1, 2, 3, 4, 5, 6, 0] rfl)
  exact lp 8 0 s0 (by omega) (by omega) (⟨fun j hj => absurd hj (Nat.not_lt_zero j), same.rf _ _⟩) _ _ _ hM hL2 hL7 hL12 hS (lv_sub hl [6, 5, 4, 3, 2, 1, 0] rfl)
set_option maxRecDepth 100000 in
set_option maxHeartbeats 4000000 in
theorem M_Model_expand_L9 (l : Launch) (g : GG) {mo tq : Nat} {p0 : Nat → Int32} {s0 : Nat → Nat → Int32} {H0 : Heap} (hM : mAt g mo tq p0 s0 H0) {x y v_ r : Int32} (hL : oneL 9 x y v_ r s0) (hf3 : p0 3 = 0) : MM l y_Model_expand c_Model_expand 13 none 3 3 18 g H0 [.ref mo] (fun q => mo ≤ q ∧ q < mo + 23) (none) (fun H1 => ∃ p s, mAt g mo tq p s H1 ∧ p 0 = p0 0 ∧ s 2 = s0 2 ∧ dxP 0 p s) := by
  refine MM.of (by decide +kernel) (Nat.le_of_ble_eq_true rfl) ?_
  intro p e s m below meth cd X hH ls hl
  have X : CX g p s m _ meth cd c_Model_expand 13 none R_Model _ := X
  have hl : lv_has ls 13 [(0, .ref mo)] := hl
  have hS : va_S (AA (fun q => mo ≤ q ∧ q < mo + 23) H0) H0 H0 [] := va_S.rf
  have hlt0 := hM.lt
  have htq0 := hM.tq
  refine lv_bipush (v := 6) X.x X.b d_Model_expand_0 (by decide) ?_
  obtain ⟨q2, hq2⟩ := sz_of hS
  have hlt2 := hM.lt
  have hsz2 := hS.1
  refine m_newI X hS hq2 6 (by decide) (by decide) (by decide) (by omega) (by omega) d_Model_expand_2 (fun H hL2 hgr hS hz2 => ?_)
  have hfr := fr.of_grow (A := noA) hgr
  have hM := hM.frame hfr (fun q z => z.elim)
  refine lv_astore_n (lv' := [(1, .ref q2), (0, .ref mo)]) X.x X.b d_Model_expand_4 rfl hl (by decide) rfl (fun ls hl => ?_)
  refine lv_bipush (v := 6) X.x X.b d_Model_expand_5 (by decide) ?_
  obtain ⟨q7, hq7⟩ := sz_of hS
  have hlt7 := hM.lt
  have hsz7 := hS.1
  refine m_newI X hS hq7 6 (by decide) (by decide) (by decide) (by omega) (by omega) d_Model_expand_7 (fun H hL7 hgr hS hz2 => ?_)
  have hfr := fr.of_grow (A := noA) hgr
  have hM := hM.frame hfr (fun q z => z.elim)
  have hL2 := hL2.fr hfr (fun z => z)
  refine lv_astore_n (lv' := [(2, .ref q7), (1, .ref q2), (0, .ref mo)]) X.x X.b d_Model_expand_9 rfl hl (by decide) rfl (fun ls hl => ?_)
  refine lv_bipush (v := 6) X.x X.b d_Model_expand_10 (by decide) ?_
  obtain ⟨q12, hq12⟩ := sz_of hS
  have hlt12 := hM.lt
  have hsz12 := hS.1
  refine m_newI X hS hq12 6 (by decide) (by decide) (by decide) (by omega) (by omega) d_Model_expand_12 (fun H hL12 hgr hS hz2 => ?_)
  have hfr := fr.of_grow (A := noA) hgr
  have hM := hM.frame hfr (fun q z => z.elim)
  have hL2 := hL2.fr hfr (fun z => z)
  have hL7 := hL7.fr hfr (fun z => z)
  refine lv_astore_n (lv' := [(3, .ref q12), (2, .ref q7), (1, .ref q2), (0, .ref mo)]) X.x X.b d_Model_expand_14 rfl hl (by decide) rfl (fun ls hl => ?_)
  refine lv_iconst (v := 0) X.x X.b d_Model_expand_15 (by decide) ?_
  refine lv_istore (lv' := [(4, .int 0), (3, .ref q12), (2, .ref q7), (1, .ref q2), (0, .ref mo)]) X.x X.b d_Model_expand_16 hl (by decide) rfl (fun ls hl => ?_)
  refine lv_iconst (v := 0) X.x X.b d_Model_expand_18 (by decide) ?_
  refine lv_istore (lv' := [(5, .int 0), (4, .int 0), (3, .ref q12), (2, .ref q7), (1, .ref q2), (0, .ref mo)]) X.x X.b d_Model_expand_19 hl (by decide) rfl (fun ls hl => ?_)
  refine lv_aload_n X.x X.b d_Model_expand_21 rfl (lv_at hl 5 rfl) ?_
  refine lv_iconst (v := 0) X.x X.b d_Model_expand_22 (by decide) ?_
  refine m_put X ok_Model hS (Or.inl ⟨by omega, by omega⟩) hM.1 5 (by decide) k_Model_132 rfl (ok_Model.2.2.1 _ (by decide)) rfl rfl (Nat.le_of_ble_eq_true rfl) d_Model_expand_23 (fun H locs hp hcg hS => ?_)
  have hM := hM.f5 hp hcg
  obtain ⟨p_1, ep_1⟩ : ∃ z, z = upd p0 5 0 := ⟨_, rfl⟩
  rw [← ep_1] at hM
  have hL2 := hL2.off hcg (by omega)
  have hL7 := hL7.off hcg (by omega)
  have hL12 := hL12.off hcg (by omega)
  obtain ⟨p1, hp1⟩ : ∃ z, z = p_1 := ⟨_, rfl⟩
  rw [← hp1] at hM
  have hp1 : p1 = upd p0 5 0 := by rw [hp1, ep_1]
  have hp15 : p1 5 = 0 := by rw [hp1]; exact upd_hit _ _ _
  have hp13 : p1 3 = 0 := by rw [hp1]; exact (upd_mi _ _ _ (by decide)).trans hf3
  have hp10 : p1 0 = p0 0 := by rw [hp1]; exact upd_mi _ _ _ (by decide)
  refine lv_iconst (v := 0) X.x X.b d_Model_expand_26 (by decide) ?_
  refine lv_istore (lv' := [(6, .int 0), (5, .int 0), (4, .int 0), (3, .ref q12), (2, .ref q7), (1, .ref q2), (0, .ref mo)]) X.x X.b d_Model_expand_27 hl (by decide) rfl (fun ls hl => ?_)
  have lp : ∀ (n i : Nat) (s1 : Nat → Nat → Int32), n = 8 - i → i < 5000 → ((∀ j, j < i → s1 25 j = 0 ∧ s1 27 j = -1) ∧ same [25, 27] s0 s1) → ∀ (H : Heap) (locs : List Loc) (ls : Array Slot), mAt g mo tq p1 s1 H → pt g q2 (.inl (g.2 0, 6, .inl (fun _ => 0))) H → pt g q7 (.inl (g.2 0, 6, .inl (fun _ => 0))) H → pt g q12 (.inl (g.2 0, 6, .inl (fun _ => 0))) H → va_S (AA (fun q => mo ≤ q ∧ q < mo + 23) H0) H0 H locs → lv_has ls 13 [(0, .ref mo), (1, .ref q2), (2, .ref q7), (3, .ref q12), (4, .int 0), (5, .int 0), (6, .int (nI i))] → W p l e (rmK 3 3 18) s m ([.ref mo] : List Value).toArray below meth cd H locs 3 18 (MQ below (QM (none) (fun H1 => ∃ p s, mAt g mo tq p s H1 ∧ p 0 = p0 0 ∧ s 2 = s0 2 ∧ dxP 0 p s) (fun q => mo ≤ q ∧ q < mo + 23) H0) ([.ref mo] : List Value).toArray s 3 18 (AA (fun q => mo ≤ q ∧ q < mo + 23) H0)) (F0 m 29 ls []) := by
    intro n
    induction n with
    | zero =>
      intro i s1 hin hi5 hE H locs ls hM hL2 hL7 hL12 hS hl
      refine lv_iload X.x X.b d_Model_expand_29 (lv_at hl 6 rfl) ?_
      refine lv_bipush (v := 8) X.x X.b d_Model_expand_31 (by decide) ?_
      refine lv_icmp_ge (tgt := 58) X.x X.b d_Model_expand_33 (by decide) (fun c1 => ?_) (fun c1 => ?_)
      · skip
        have c1q := Int32.not_lt.mpr c1
        refine lv_iload X.x X.b d_Model_expand_58 (lv_at hl 4 rfl) ?_
        refine lv_if_lt (tgt := 369) X.x X.b d_Model_expand_60 (by decide) (fun c2 => ?_) (fun c2 => ?_)
        · exact absurd c2 (by decide)
        · skip
          have c2q := Int32.not_lt.mp c2
          refine lv_aload_n X.x X.b d_Model_expand_63 rfl (lv_at hl 0 rfl) ?_
          refine m_get (v := .int 0) X ok_Model hM.1 3 (by decide) k_Model_126 (congrArg (fun z => some (Value.int z)) (show p1 3 = 0 from (by rw [hp13]))) d_Model_expand_64 ?_
          refine lv_if_ne (tgt := 369) X.x X.b d_Model_expand_67 (by decide) (fun c3 => ?_) (fun c3 => ?_)
          · exact absurd c3 (by decide)
          · skip
            refine lv_aload_n X.x X.b d_Model_expand_70 rfl (lv_at hl 1 rfl) ?_
            refine lv_iload X.x X.b d_Model_expand_71 (lv_at hl 4 rfl) ?_
            refine m_ild (v := 0) X hL2 0 rfl (by omega) (by decide) (show (fun _ => 0) 0 = 0 from rfl) d_Model_expand_73 ?_
            refine lv_istore (lv' := [(6, .int 0), (0, .ref mo), (1, .ref q2), (2, .ref q7), (3, .ref q12), (4, .int 0), (5, .int 0)]) X.x X.b d_Model_expand_74 hl (by decide) rfl (fun ls hl => ?_)
            refine lv_aload_n X.x X.b d_Model_expand_76 rfl (lv_at hl 3 rfl) ?_
            refine lv_iload X.x X.b d_Model_expand_77 (lv_at hl 5 rfl) ?_
            refine m_ild (v := 0) X hL7 0 rfl (by omega) (by decide) (show (fun _ => 0) 0 = 0 from rfl) d_Model_expand_79 ?_
            refine lv_aload_n X.x X.b d_Model_expand_80 rfl (lv_at hl 1 rfl) ?_
            refine m_get (v := .ref (mo + 2)) X ok_Model hM.1 2 (by decide) k_Model_13 rfl d_Model_expand_81 ?_
            refine lv_iload X.x X.b d_Model_expand_84 (lv_at hl 0 rfl) ?_
            refine m_ild (v := 1) X hM.a2 0 rfl (by omega) (by decide) (show s1 2 0 = 1 from (by rw [hE.2 2 (by decide), hL.1.1])) d_Model_expand_86 ?_
            refine lv_icmp_ne (tgt := 96) X.x X.b d_Model_expand_87 (by decide) (fun c4 => ?_) (fun c4 => ?_)
            · skip
              refine lv_aload_n X.x X.b d_Model_expand_96 rfl (lv_at hl 3 rfl) ?_
              refine lv_iload X.x X.b d_Model_expand_97 (lv_at hl 5 rfl) ?_
              refine lv_dup2_11 X.x X.b d_Model_expand_99 rfl rfl ?_
              refine m_ild (v := 0) X hL7 0 rfl (by omega) (by decide) (show (fun _ => 0) 0 = 0 from rfl) d_Model_expand_100 ?_
              refine lv_dup_x2 X.x X.b d_Model_expand_101 rfl rfl rfl ?_
              refine lv_iconst (v := 1) X.x X.b d_Model_expand_102 (by decide) ?_
              refine lv_iadd X.x X.b d_Model_expand_103 ?_
              rw [show (0 + 1 : Int32) = 1 from by decide]
              refine m_ist X hS (Or.inr (by omega)) hL7 0 rfl (by omega) (by decide) d_Model_expand_104 (fun H locs hp hcg hS => ?_)
              have hL7 := hp
              obtain ⟨r_2, er_2⟩ : ∃ z, z = upd (fun _ => 0) 0 1 := ⟨_, rfl⟩
              rw [← er_2] at hL7
              have hM := hM.frame (fr.of_chg (A := fun q => q = q7) hcg rfl) (fun q z => by have z : q = q7 := z; have := hM.tq; omega)
              have hL2 := hL2.off hcg (by omega)
              have hL12 := hL12.off hcg (by omega)
              refine lv_istore (lv' := [(7, .int 0), (6, .int 0), (0, .ref mo), (1, .ref q2), (2, .ref q7), (3, .ref q12), (4, .int 0), (5, .int 0)]) X.x X.b d_Model_expand_105 hl (by decide) rfl (fun ls hl => ?_)
              refine lv_iload X.x X.b d_Model_expand_107 (lv_at hl 1 rfl) ?_
              refine lv_iload X.x X.b d_Model_expand_109 (lv_at hl 0 rfl) ?_
              refine m_callSP X hS (MP_ans (M_Model_at l g 0 0) (show (((0 : Int32) * 64 + 0) * 5) = 0 from by decide)) s_Model_96 rfl rfl (Nat.le_of_ble_eq_true rfl) hl.1 d_Model_expand_111 (by omega) (by decide) ⟨by omega, by omega⟩ (fun locs hS => ?_)
              refine lv_istore (lv' := [(8, .int 0), (7, .int 0), (6, .int 0), (0, .ref mo), (1, .ref q2), (2, .ref q7), (3, .ref q12), (4, .int 0), (5, .int 0)]) X.x X.b d_Model_expand_114 hl (by decide) rfl (fun ls hl => ?_)
              refine lv_aload_n X.x X.b d_Model_expand_116 rfl (lv_at hl 5 rfl) ?_
              refine lv_iconst (v := 0) X.x X.b d_Model_expand_117 (by decide) ?_
              refine m_ild (v := 1) X hL7 0 rfl (by omega) (by decide) (show r_2 0 = 1 from (by rw [er_2, upd_hit])) d_Model_expand_118 ?_
              refine lv_iconst (v := 1) X.x X.b d_Model_expand_119 (by decide) ?_
              refine lv_isub X.x X.b d_Model_expand_120 ?_
              rw [show (1 - 1 : Int32) = 0 from by decide]
              refine lv_istore (lv' := [(9, .int 0), (8, .int 0), (7, .int 0), (6, .int 0), (0, .ref mo), (1, .ref q2), (2, .ref q7), (3, .ref q12), (4, .int 0), (5, .int 0)]) X.x X.b d_Model_expand_121 hl (by decide) rfl (fun ls hl => ?_)
              refine lv_aload_n X.x X.b d_Model_expand_123 rfl (lv_at hl 4 rfl) ?_
              refine m_get (v := .ref tq) X ok_Model hM.1 1 (by decide) k_Model_9 rfl d_Model_expand_124 ?_
              refine lv_iload X.x X.b d_Model_expand_127 (lv_at hl 1 rfl) ?_
              refine m_ild (v := 9) X hM.a1 0 rfl (by omega) (by decide) (show s1 1 0 = 9 from (by rw [hE.2 1 (by decide), hL.2.1])) d_Model_expand_129 ?_
              refine lv_istore (lv' := [(10, .int 9), (9, .int 0), (8, .int 0), (7, .int 0), (6, .int 0), (0, .ref mo), (1, .ref q2), (2, .ref q7), (3, .ref q12), (4, .int 0), (5, .int 0)]) X.x X.b d_Model_expand_130 hl (by decide) rfl (fun ls hl => ?_)
              refine lv_aload_n X.x X.b d_Model_expand_132 rfl (lv_at hl 5 rfl) ?_
              refine m_get (v := .ref tq) X ok_Model hM.1 1 (by decide) k_Model_9 rfl d_Model_expand_133 ?_
              refine lv_iload X.x X.b d_Model_expand_136 (lv_at hl 2 rfl) ?_
              refine lv_iconst (v := 3) X.x X.b d_Model_expand_138 (by decide) ?_
              refine lv_iadd X.x X.b d_Model_expand_139 ?_
              rw [show (0 + 3 : Int32) = 3 from by decide]
              refine m_ild (v := v_) X hM.a1 3 rfl (by omega) (by decide) (show s1 1 3 = v_ from (by rw [hE.2 1 (by decide), hL.2.2.2.2.1])) d_Model_expand_140 ?_
              refine lv_aload_n X.x X.b d_Model_expand_141 rfl (lv_at hl 5 rfl) ?_
              refine m_get (v := .ref tq) X ok_Model hM.1 1 (by decide) k_Model_9 rfl d_Model_expand_142 ?_
              refine lv_iload X.x X.b d_Model_expand_145 (lv_at hl 2 rfl) ?_
              refine lv_iconst (v := 4) X.x X.b d_Model_expand_147 (by decide) ?_
              refine lv_iadd X.x X.b d_Model_expand_148 ?_
              rw [show (0 + 4 : Int32) = 4 from by decide]
              refine m_ild (v := r) X hM.a1 4 rfl (by omega) (by decide) (show s1 1 4 = r from (by rw [hE.2 1 (by decide), hL.2.2.2.2.2])) d_Model_expand_149 ?_
              refine lv_iconst (v := 1) X.x X.b d_Model_expand_150 (by decide) ?_
              refine lv_icmp_ne (tgt := 161) X.x X.b d_Model_expand_151 (by decide) (fun c5 => ?_) (fun c5 => ?_)
              · skip
                refine lv_iconst (v := 0) X.x X.b d_Model_expand_161 (by decide) ?_
                refine lv_iadd X.x X.b d_Model_expand_162 ?_
                rw [show (v_ + 0 : Int32) = v_ from Int32.add_zero _]
                refine lv_istore (lv' := [(11, .int v_), (10, .int 9), (9, .int 0), (8, .int 0), (7, .int 0), (6, .int 0), (0, .ref mo), (1, .ref q2), (2, .ref q7), (3, .ref q12), (4, .int 0), (5, .int 0)]) X.x X.b d_Model_expand_163 hl (by decide) rfl (fun ls hl => ?_)
                refine lv_iinc (v := 1) (lv' := [(5, .int 1), (11, .int v_), (10, .int 9), (9, .int 0), (8, .int 0), (7, .int 0), (6, .int 0), (0, .ref mo), (1, .ref q2), (2, .ref q7), (3, .ref q12), (4, .int 0)]) X.x X.b d_Model_expand_165 hl (k := 11) rfl (by decide) (by decide) rfl (fun ls hl => ?_)
                refine lv_iload X.x X.b d_Model_expand_168 (lv_at hl 0 rfl) ?_
                refine lv_sipush (v := 400) X.x X.b d_Model_expand_170 (by decide) ?_
                refine lv_icmp_gt (tgt := 193) X.x X.b d_Model_expand_173 (by decide) (fun c6 => ?_) (fun c6 => ?_)
                · exact absurd c6 (by decide)
                · skip
                  have c6q := Int32.not_lt.mp c6
                  refine lv_iload X.x X.b d_Model_expand_176 (lv_at hl 2 rfl) ?_
                  refine m_callSP X hS (MP_ans (M_Model_makes l g 9) (show b2i ((9 : Int32) < 8) = 0 from by decide)) s_Model_138 rfl rfl (Nat.le_of_ble_eq_true rfl) hl.1 d_Model_expand_178 (by omega) (by decide) ⟨by omega, by omega⟩ (fun locs hS => ?_)
                  refine lv_if_eq (tgt := 203) X.x X.b d_Model_expand_181 (by decide) (fun c7 => ?_) (fun c7 => ?_)
                  · skip
                    refine lv_iload X.x X.b d_Model_expand_203 (lv_at hl 2 rfl) ?_
                    refine lv_bipush (v := 10) X.x X.b d_Model_expand_205 (by decide) ?_
                    refine lv_icmp_ne (tgt := 259) X.x X.b d_Model_expand_207 (by decide) (fun c8 => ?_) (fun c8 => ?_)
                    · skip
                      refine lv_iload X.x X.b d_Model_expand_259 (lv_at hl 2 rfl) ?_
                      refine lv_bipush (v := 8) X.x X.b d_Model_expand_261 (by decide) ?_
                      refine lv_icmp_ne (tgt := 329) X.x X.b d_Model_expand_263 (by decide) (fun c9 => ?_) (fun c9 => ?_)
                      · skip
                        refine lv_iload X.x X.b d_Model_expand_329 (lv_at hl 2 rfl) ?_
                        refine lv_bipush (v := 9) X.x X.b d_Model_expand_331 (by decide) ?_
                        refine lv_icmp_eq (tgt := 366) X.x X.b d_Model_expand_333 (by decide) (fun c10 => ?_) (fun c10 => ?_)
                        · skip
                          refine lv_goto (tgt := 58) X.x X.b d_Model_expand_366 (by decide) ?_
                          refine lv_iload X.x X.b d_Model_expand_58 (lv_at hl 11 rfl) ?_
                          refine lv_if_lt (tgt := 369) X.x X.b d_Model_expand_60 (by decide) (fun c11 => ?_) (fun c11 => ?_)
                          · exact absurd c11 c2
                          · skip
                            have c11q := Int32.not_lt.mp c11
                            refine lv_aload_n X.x X.b d_Model_expand_63 rfl (lv_at hl 7 rfl) ?_
                            refine m_get (v := .int 0) X ok_Model hM.1 3 (by decide) k_Model_126 (congrArg (fun z => some (Value.int z)) (show p1 3 = 0 from (by rw [hp13]))) d_Model_expand_64 ?_
                            refine lv_if_ne (tgt := 369) X.x X.b d_Model_expand_67 (by decide) (fun c12 => ?_) (fun c12 => ?_)
                            · exact absurd c7 c12
                            · skip
                              refine lv_aload_n X.x X.b d_Model_expand_70 rfl (lv_at hl 8 rfl) ?_
                              refine lv_iload X.x X.b d_Model_expand_71 (lv_at hl 11 rfl) ?_
                              refine m_ild (v := 0) X hL2 0 rfl (by omega) (by decide) (show (fun _ => 0) 0 = 0 from rfl) d_Model_expand_73 ?_
                              refine lv_istore (lv' := [(6, .int 0), (5, .int 1), (11, .int v_), (10, .int 9), (9, .int 0), (8, .int 0), (7, .int 0), (0, .ref mo), (1, .ref q2), (2, .ref q7), (3, .ref q12), (4, .int 0)]) X.x X.b d_Model_expand_74 hl (by decide) rfl (fun ls hl => ?_)
                              refine lv_aload_n X.x X.b d_Model_expand_76 rfl (lv_at hl 9 rfl) ?_
                              refine lv_iload X.x X.b d_Model_expand_77 (lv_at hl 11 rfl) ?_
                              refine m_ild (v := 1) X hL7 0 rfl (by omega) (by decide) (show r_2 0 = 1 from (by rw [er_2, upd_hit])) d_Model_expand_79 ?_
                              refine lv_aload_n X.x X.b d_Model_expand_80 rfl (lv_at hl 7 rfl) ?_
                              refine m_get (v := .ref (mo + 2)) X ok_Model hM.1 2 (by decide) k_Model_13 rfl d_Model_expand_81 ?_
                              refine lv_iload X.x X.b d_Model_expand_84 (lv_at hl 0 rfl) ?_
                              refine m_ild (v := 1) X hM.a2 0 rfl (by omega) (by decide) (show s1 2 0 = 1 from (by rw [hE.2 2 (by decide), hL.1.1])) d_Model_expand_86 ?_
                              refine lv_icmp_ne (tgt := 96) X.x X.b d_Model_expand_87 (by decide) (fun c13 => ?_) (fun c13 => ?_)
                              · exact absurd c13 (by decide)
                              · skip
                                refine lv_iinc (v := (-1)) (lv' := [(4, .int (-1)), (6, .int 0), (5, .int 1), (11, .int v_), (10, .int 9), (9, .int 0), (8, .int 0), (7, .int 0), (0, .ref mo), (1, .ref q2), (2, .ref q7), (3, .ref q12)]) X.x X.b d_Model_expand_90 hl (k := 11) rfl (by decide) (by decide) rfl (fun ls hl => ?_)
                                refine lv_goto (tgt := 58) X.x X.b d_Model_expand_93 (by decide) ?_
                                refine lv_iload X.x X.b d_Model_expand_58 (lv_at hl 0 rfl) ?_
                                refine lv_if_lt (tgt := 369) X.x X.b d_Model_expand_60 (by decide) (fun c14 => ?_) (fun c14 => ?_)
                                · skip
                                  have c14q := Int32.not_le.mpr c14
                                  refine lv_aload_n X.x X.b d_Model_expand_369 rfl (lv_at hl 8 rfl) ?_
                                  refine m_get (v := .int 0) X ok_Model hM.1 3 (by decide) k_Model_126 (congrArg (fun z => some (Value.int z)) (show p1 3 = 0 from (by rw [hp13]))) d_Model_expand_370 ?_
                                  refine lv_if_ne (tgt := 387) X.x X.b d_Model_expand_373 (by decide) (fun c15 => ?_) (fun c15 => ?_)
                                  · exact absurd c12 c15
                                  · skip
                                    refine lv_aload_n X.x X.b d_Model_expand_376 rfl (lv_at hl 8 rfl) ?_
                                    refine lv_bipush (v := 6) X.x X.b d_Model_expand_377 (by decide) ?_
                                    refine lv_iconst (v := -1) X.x X.b d_Model_expand_379 (by decide) ?_
                                    refine lv_iconst (v := -1) X.x X.b d_Model_expand_380 (by decide) ?_
                                    refine lv_iconst (v := 0) X.x X.b d_Model_expand_381 (by decide) ?_
                                    refine lv_iconst (v := -1) X.x X.b d_Model_expand_382 (by decide) ?_
                                    refine lv_iconst (v := 0) X.x X.b d_Model_expand_383 (by decide) ?_
                                    have hR := M_Model_item (c := 0) l g hM (show p1 5 = 0 from (by rw [hp15])) (by omega) 6 (-1) (-1) 0 (-1) 0
                                    refine m_callM X hS hR v_Model_151 hM.1 rfl rfl rfl (Nat.le_of_ble_eq_true rfl) hl.1 d_Model_expand_384 (by omega) (by decide) ⟨by omega, by omega⟩ (fun q z => by have z : mo ≤ q ∧ q < mo + 23 := z; exact ⟨by omega, by omega⟩) (fun H locs hM hfr hS => ?_)
                                    have hL2 := hL2.fr hfr (fun z => by have z : mo ≤ q2 ∧ q2 < mo + 23 := z; omega)
                                    have hL7 := hL7.fr hfr (fun z => by have z : mo ≤ q7 ∧ q7 < mo + 23 := z; omega)
                                    have hL12 := hL12.fr hfr (fun z => by have z : mo ≤ q12 ∧ q12 < mo + 23 := z; omega)
                                    have hM : mAt g mo tq (upd p1 5 1) _ H := hM
                                    obtain ⟨p_3, ep_3⟩ : ∃ z, z = upd p1 5 1 := ⟨_, rfl⟩
                                    rw [← ep_3] at hM
                                    obtain ⟨s_4, es_4⟩ : ∃ z, z = itR s1 0 6 (-1) (-1) 0 (-1) 0 := ⟨_, rfl⟩
                                    rw [← es_4] at hM
                                    exact m_vret X hS (by omega) (by omega) d_Model_expand_387 rfl ⟨_, _, hM, (by rw [ep_3, upd_mi _ _ _ (show 0 ≠ 5 by decide), hp10]), by rw [es_4, itR_o s1 0 6 (-1) (-1) 0 (-1) 0 2 (by decide), hE.2 2 (by decide)], ⟨(by rw [ep_3, upd_mi _ _ _ (show 3 ≠ 5 by decide), hp13]), (show p_3 5 = 1 from (by rw [ep_3, upd_hit]))⟩, fun k hk => absurd hk (Nat.not_lt_zero k), (by rw [es_4, (itR_at s1 0 6 (-1) (-1) 0 (-1) 0).1])⟩
                                · exact absurd c14 (by decide)
                        · exact absurd c10 (by decide)
                      · exact absurd c9 (by decide)
                    · exact absurd c8 (by decide)
                  · exact absurd c3 c7
              · skip
                refine lv_aload_n X.x X.b d_Model_expand_154 rfl (lv_at hl 8 rfl) ?_
                refine lv_iload X.x X.b d_Model_expand_155 (lv_at hl 9 rfl) ?_
                refine m_ild (v := 0) X hL12 0 rfl (by omega) (by decide) (show (fun _ => 0) 0 = 0 from rfl) d_Model_expand_157 ?_
                refine lv_goto (tgt := 162) X.x X.b d_Model_expand_158 (by decide) ?_
                refine lv_iadd X.x X.b d_Model_expand_162 ?_
                rw [show (v_ + 0 : Int32) = v_ from Int32.add_zero _]
                refine lv_istore (lv' := [(11, .int v_), (10, .int 9), (9, .int 0), (8, .int 0), (7, .int 0), (6, .int 0), (0, .ref mo), (1, .ref q2), (2, .ref q7), (3, .ref q12), (4, .int 0), (5, .int 0)]) X.x X.b d_Model_expand_163 hl (by decide) rfl (fun ls hl => ?_)
                refine lv_iinc (v := 1) (lv' := [(5, .int 1), (11, .int v_), (10, .int 9), (9, .int 0), (8, .int 0), (7, .int 0), (6, .int 0), (0, .ref mo), (1, .ref q2), (2, .ref q7), (3, .ref q12), (4, .int 0)]) X.x X.b d_Model_expand_165 hl (k := 11) rfl (by decide) (by decide) rfl (fun ls hl => ?_)
                refine lv_iload X.x X.b d_Model_expand_168 (lv_at hl 0 rfl) ?_
                refine lv_sipush (v := 400) X.x X.b d_Model_expand_170 (by decide) ?_
                refine lv_icmp_gt (tgt := 193) X.x X.b d_Model_expand_173 (by decide) (fun c16 => ?_) (fun c16 => ?_)
                · exact absurd c16 (by decide)
                · skip
                  have c16q := Int32.not_lt.mp c16
                  refine lv_iload X.x X.b d_Model_expand_176 (lv_at hl 2 rfl) ?_
                  refine m_callSP X hS (MP_ans (M_Model_makes l g 9) (show b2i ((9 : Int32) < 8) = 0 from by decide)) s_Model_138 rfl rfl (Nat.le_of_ble_eq_true rfl) hl.1 d_Model_expand_178 (by omega) (by decide) ⟨by omega, by omega⟩ (fun locs hS => ?_)
                  refine lv_if_eq (tgt := 203) X.x X.b d_Model_expand_181 (by decide) (fun c17 => ?_) (fun c17 => ?_)
                  · skip
                    refine lv_iload X.x X.b d_Model_expand_203 (lv_at hl 2 rfl) ?_
                    refine lv_bipush (v := 10) X.x X.b d_Model_expand_205 (by decide) ?_
                    refine lv_icmp_ne (tgt := 259) X.x X.b d_Model_expand_207 (by decide) (fun c18 => ?_) (fun c18 => ?_)
                    · skip
                      refine lv_iload X.x X.b d_Model_expand_259 (lv_at hl 2 rfl) ?_
                      refine lv_bipush (v := 8) X.x X.b d_Model_expand_261 (by decide) ?_
                      refine lv_icmp_ne (tgt := 329) X.x X.b d_Model_expand_263 (by decide) (fun c19 => ?_) (fun c19 => ?_)
                      · skip
                        refine lv_iload X.x X.b d_Model_expand_329 (lv_at hl 2 rfl) ?_
                        refine lv_bipush (v := 9) X.x X.b d_Model_expand_331 (by decide) ?_
                        refine lv_icmp_eq (tgt := 366) X.x X.b d_Model_expand_333 (by decide) (fun c20 => ?_) (fun c20 => ?_)
                        · skip
                          refine lv_goto (tgt := 58) X.x X.b d_Model_expand_366 (by decide) ?_
                          refine lv_iload X.x X.b d_Model_expand_58 (lv_at hl 11 rfl) ?_
                          refine lv_if_lt (tgt := 369) X.x X.b d_Model_expand_60 (by decide) (fun c21 => ?_) (fun c21 => ?_)
                          · exact absurd c21 c2
                          · skip
                            have c21q := Int32.not_lt.mp c21
                            refine lv_aload_n X.x X.b d_Model_expand_63 rfl (lv_at hl 7 rfl) ?_
                            refine m_get (v := .int 0) X ok_Model hM.1 3 (by decide) k_Model_126 (congrArg (fun z => some (Value.int z)) (show p1 3 = 0 from (by rw [hp13]))) d_Model_expand_64 ?_
                            refine lv_if_ne (tgt := 369) X.x X.b d_Model_expand_67 (by decide) (fun c22 => ?_) (fun c22 => ?_)
                            · exact absurd c17 c22
                            · skip
                              refine lv_aload_n X.x X.b d_Model_expand_70 rfl (lv_at hl 8 rfl) ?_
                              refine lv_iload X.x X.b d_Model_expand_71 (lv_at hl 11 rfl) ?_
                              refine m_ild (v := 0) X hL2 0 rfl (by omega) (by decide) (show (fun _ => 0) 0 = 0 from rfl) d_Model_expand_73 ?_
                              refine lv_istore (lv' := [(6, .int 0), (5, .int 1), (11, .int v_), (10, .int 9), (9, .int 0), (8, .int 0), (7, .int 0), (0, .ref mo), (1, .ref q2), (2, .ref q7), (3, .ref q12), (4, .int 0)]) X.x X.b d_Model_expand_74 hl (by decide) rfl (fun ls hl => ?_)
                              refine lv_aload_n X.x X.b d_Model_expand_76 rfl (lv_at hl 9 rfl) ?_
                              refine lv_iload X.x X.b d_Model_expand_77 (lv_at hl 11 rfl) ?_
                              refine m_ild (v := 1) X hL7 0 rfl (by omega) (by decide) (show r_2 0 = 1 from (by rw [er_2, upd_hit])) d_Model_expand_79 ?_
                              refine lv_aload_n X.x X.b d_Model_expand_80 rfl (lv_at hl 7 rfl) ?_
                              refine m_get (v := .ref (mo + 2)) X ok_Model hM.1 2 (by decide) k_Model_13 rfl d_Model_expand_81 ?_
                              refine lv_iload X.x X.b d_Model_expand_84 (lv_at hl 0 rfl) ?_
                              refine m_ild (v := 1) X hM.a2 0 rfl (by omega) (by decide) (show s1 2 0 = 1 from (by rw [hE.2 2 (by decide), hL.1.1])) d_Model_expand_86 ?_
                              refine lv_icmp_ne (tgt := 96) X.x X.b d_Model_expand_87 (by decide) (fun c23 => ?_) (fun c23 => ?_)
                              · exact absurd c23 (by decide)
                              · skip
                                refine lv_iinc (v := (-1)) (lv' := [(4, .int (-1)), (6, .int 0), (5, .int 1), (11, .int v_), (10, .int 9), (9, .int 0), (8, .int 0), (7, .int 0), (0, .ref mo), (1, .ref q2), (2, .ref q7), (3, .ref q12)]) X.x X.b d_Model_expand_90 hl (k := 11) rfl (by decide) (by decide) rfl (fun ls hl => ?_)
                                refine lv_goto (tgt := 58) X.x X.b d_Model_expand_93 (by decide) ?_
                                refine lv_iload X.x X.b d_Model_expand_58 (lv_at hl 0 rfl) ?_
                                refine lv_if_lt (tgt := 369) X.x X.b d_Model_expand_60 (by decide) (fun c24 => ?_) (fun c24 => ?_)
                                · skip
                                  have c24q := Int32.not_le.mpr c24
                                  refine lv_aload_n X.x X.b d_Model_expand_369 rfl (lv_at hl 8 rfl) ?_
                                  refine m_get (v := .int 0) X ok_Model hM.1 3 (by decide) k_Model_126 (congrArg (fun z => some (Value.int z)) (show p1 3 = 0 from (by rw [hp13]))) d_Model_expand_370 ?_
                                  refine lv_if_ne (tgt := 387) X.x X.b d_Model_expand_373 (by decide) (fun c25 => ?_) (fun c25 => ?_)
                                  · exact absurd c22 c25
                                  · skip
                                    refine lv_aload_n X.x X.b d_Model_expand_376 rfl (lv_at hl 8 rfl) ?_
                                    refine lv_bipush (v := 6) X.x X.b d_Model_expand_377 (by decide) ?_
                                    refine lv_iconst (v := -1) X.x X.b d_Model_expand_379 (by decide) ?_
                                    refine lv_iconst (v := -1) X.x X.b d_Model_expand_380 (by decide) ?_
                                    refine lv_iconst (v := 0) X.x X.b d_Model_expand_381 (by decide) ?_
                                    refine lv_iconst (v := -1) X.x X.b d_Model_expand_382 (by decide) ?_
                                    refine lv_iconst (v := 0) X.x X.b d_Model_expand_383 (by decide) ?_
                                    have hR := M_Model_item (c := 0) l g hM (show p1 5 = 0 from (by rw [hp15])) (by omega) 6 (-1) (-1) 0 (-1) 0
                                    refine m_callM X hS hR v_Model_151 hM.1 rfl rfl rfl (Nat.le_of_ble_eq_true rfl) hl.1 d_Model_expand_384 (by omega) (by decide) ⟨by omega, by omega⟩ (fun q z => by have z : mo ≤ q ∧ q < mo + 23 := z; exact ⟨by omega, by omega⟩) (fun H locs hM hfr hS => ?_)
                                    have hL2 := hL2.fr hfr (fun z => by have z : mo ≤ q2 ∧ q2 < mo + 23 := z; omega)
                                    have hL7 := hL7.fr hfr (fun z => by have z : mo ≤ q7 ∧ q7 < mo + 23 := z; omega)
                                    have hL12 := hL12.fr hfr (fun z => by have z : mo ≤ q12 ∧ q12 < mo + 23 := z; omega)
                                    have hM : mAt g mo tq (upd p1 5 1) _ H := hM
                                    obtain ⟨p_5, ep_5⟩ : ∃ z, z = upd p1 5 1 := ⟨_, rfl⟩
                                    rw [← ep_5] at hM
                                    obtain ⟨s_6, es_6⟩ : ∃ z, z = itR s1 0 6 (-1) (-1) 0 (-1) 0 := ⟨_, rfl⟩
                                    rw [← es_6] at hM
                                    exact m_vret X hS (by omega) (by omega) d_Model_expand_387 rfl ⟨_, _, hM, (by rw [ep_5, upd_mi _ _ _ (show 0 ≠ 5 by decide), hp10]), by rw [es_6, itR_o s1 0 6 (-1) (-1) 0 (-1) 0 2 (by decide), hE.2 2 (by decide)], ⟨(by rw [ep_5, upd_mi _ _ _ (show 3 ≠ 5 by decide), hp13]), (show p_5 5 = 1 from (by rw [ep_5, upd_hit]))⟩, fun k hk => absurd hk (Nat.not_lt_zero k), (by rw [es_6, (itR_at s1 0 6 (-1) (-1) 0 (-1) 0).1])⟩
                                · exact absurd c24 (by decide)
                        · exact absurd c20 (by decide)
                      · exact absurd c19 (by decide)
                    · exact absurd c18 (by decide)
                  · exact absurd c3 c17
            · exact absurd c4 (by decide)
      · exact absurd ((nI_ltI (a := i) (b := 8) (by omega) (by omega)).mp (Int32.not_le.mp c1)) (by omega)
    | succ n ih =>
      intro i s1 hin hi5 hE H locs ls hM hL2 hL7 hL12 hS hl
      refine lv_iload X.x X.b d_Model_expand_29 (lv_at hl 6 rfl) ?_
      refine lv_bipush (v := 8) X.x X.b d_Model_expand_31 (by decide) ?_
      refine lv_icmp_ge (tgt := 58) X.x X.b d_Model_expand_33 (by decide) (fun c26 => ?_) (fun c26 => ?_)
      · exact absurd ((nI_leI (a := 8) (b := i) (by omega) (by omega)).mp c26) (by omega)
      · skip
        have c26q := Int32.not_le.mp c26
        refine lv_aload_n X.x X.b d_Model_expand_36 rfl (lv_at hl 0 rfl) ?_
        refine m_get (v := .ref (mo + 20)) X ok_Model hM.1 25 (by decide) k_Model_68 rfl d_Model_expand_37 ?_
        refine lv_iload X.x X.b d_Model_expand_40 (lv_at hl 6 rfl) ?_
        refine lv_iconst (v := 0) X.x X.b d_Model_expand_42 (by decide) ?_
        refine m_ist X hS (Or.inl ⟨by omega, by omega⟩) hM.a25 i rfl (by omega) (by decide) d_Model_expand_43 (fun H locs hp hcg hS => ?_)
        have hM := hM.s25 hp hcg
        obtain ⟨s_7, es_7⟩ : ∃ z, z = updR s1 25 (upd (s1 25) i 0) := ⟨_, rfl⟩
        rw [← es_7] at hM
        have hL2 := hL2.off hcg (by omega)
        have hL7 := hL7.off hcg (by omega)
        have hL12 := hL12.off hcg (by omega)
        refine lv_aload_n X.x X.b d_Model_expand_44 rfl (lv_at hl 0 rfl) ?_
        refine m_get (v := .ref (mo + 22)) X ok_Model hM.1 27 (by decide) k_Model_74 rfl d_Model_expand_45 ?_
        refine lv_iload X.x X.b d_Model_expand_48 (lv_at hl 6 rfl) ?_
        refine lv_iconst (v := -1) X.x X.b d_Model_expand_50 (by decide) ?_
        refine m_ist X hS (Or.inl ⟨by omega, by omega⟩) hM.a27 i rfl (by omega) (by decide) d_Model_expand_51 (fun H locs hp hcg hS => ?_)
        have hM := hM.s27 hp hcg
        obtain ⟨s_8, es_8⟩ : ∃ z, z = updR s_7 27 (upd (s_7 27) i (-1)) := ⟨_, rfl⟩
        rw [← es_8] at hM
        have hL2 := hL2.off hcg (by omega)
        have hL7 := hL7.off hcg (by omega)
        have hL12 := hL12.off hcg (by omega)
        refine lv_iinc (v := nI (i + 1)) (lv' := [(6, .int (nI (i + 1))), (0, .ref mo), (1, .ref q2), (2, .ref q7), (3, .ref q12), (4, .int 0), (5, .int 0)]) X.x X.b d_Model_expand_52 hl (k := 6) rfl (nI_1 i) (by decide) rfl (fun ls hl => ?_)
        refine lv_goto (tgt := 29) X.x X.b d_Model_expand_55 (by decide) ?_
        exact ih (i + 1) s_8 (by omega) (by omega) (⟨fun j hj => (Nat.lt_or_ge j i).elim (fun z => ⟨by rw [es_8, updR_n2 _ _ _ _ (show j ≠ i by omega), es_7, updR_n2 _ _ _ _ (show j ≠ i by omega)]; exact (hE.1 j z).1, by rw [es_8, updR_n2 _ _ _ _ (show j ≠ i by omega), es_7, updR_n2 _ _ _ _ (show j ≠ i by omega)]; exact (hE.1 j z).2⟩) (fun z => ⟨by rw [show j = i by omega, es_8, updR_mf _ _ _ (show 25 ≠ 27 by decide), es_7, updR_hit], by rw [show j = i by omega, es_8, updR_hit]⟩), by rw [es_8, es_7]; exact (hE.2.up _ _ (by decide)).up _ _ (by decide)⟩) _ _ _ hM hL2 hL7 hL12 hS (lv_sub hl [1, 2, 3, 4, 5, 6, 0] rfl)
  exact lp 8 0 s0 (by omega) (by omega) (⟨fun j hj => absurd hj (Nat.not_lt_zero j), same.rf _ _⟩) _ _ _ hM hL2 hL7 hL12 hS (lv_sub hl [6, 5, 4, 3, 2, 1, 0] rfl)
set_option maxRecDepth 100000 in
set_option maxHeartbeats 4000000 in
theorem M_Model_expand_L10 (l : Launch) (g : GG) {mo tq : Nat} {p0 : Nat → Int32} {s0 : Nat → Nat → Int32} {H0 : Heap} (hM : mAt g mo tq p0 s0 H0) {y v_ r : Int32} {j : Nat} (hj1 : 1 ≤ j) (hj : j ≤ 4) (hL : oneL 10 (nI j) y v_ r s0) (hf3 : p0 3 = 0) : MM l y_Model_expand c_Model_expand 13 none 3 3 18 g H0 [.ref mo] (fun q => mo ≤ q ∧ q < mo + 23) (none) (fun H1 => ∃ p s, mAt g mo tq p s H1 ∧ p 0 = p0 0 ∧ s 2 = s0 2 ∧ dxP 0 p s) := by
  refine MM.of (by decide +kernel) (Nat.le_of_ble_eq_true rfl) ?_
  intro p e s m below meth cd X hH ls hl
  have X : CX g p s m _ meth cd c_Model_expand 13 none R_Model _ := X
  have hl : lv_has ls 13 [(0, .ref mo)] := hl
  have hS : va_S (AA (fun q => mo ≤ q ∧ q < mo + 23) H0) H0 H0 [] := va_S.rf
  have hlt0 := hM.lt
  have htq0 := hM.tq
  refine lv_bipush (v := 6) X.x X.b d_Model_expand_0 (by decide) ?_
  obtain ⟨q2, hq2⟩ := sz_of hS
  have hlt2 := hM.lt
  have hsz2 := hS.1
  refine m_newI X hS hq2 6 (by decide) (by decide) (by decide) (by omega) (by omega) d_Model_expand_2 (fun H hL2 hgr hS hz2 => ?_)
  have hfr := fr.of_grow (A := noA) hgr
  have hM := hM.frame hfr (fun q z => z.elim)
  refine lv_astore_n (lv' := [(1, .ref q2), (0, .ref mo)]) X.x X.b d_Model_expand_4 rfl hl (by decide) rfl (fun ls hl => ?_)
  refine lv_bipush (v := 6) X.x X.b d_Model_expand_5 (by decide) ?_
  obtain ⟨q7, hq7⟩ := sz_of hS
  have hlt7 := hM.lt
  have hsz7 := hS.1
  refine m_newI X hS hq7 6 (by decide) (by decide) (by decide) (by omega) (by omega) d_Model_expand_7 (fun H hL7 hgr hS hz2 => ?_)
  have hfr := fr.of_grow (A := noA) hgr
  have hM := hM.frame hfr (fun q z => z.elim)
  have hL2 := hL2.fr hfr (fun z => z)
  refine lv_astore_n (lv' := [(2, .ref q7), (1, .ref q2), (0, .ref mo)]) X.x X.b d_Model_expand_9 rfl hl (by decide) rfl (fun ls hl => ?_)
  refine lv_bipush (v := 6) X.x X.b d_Model_expand_10 (by decide) ?_
  obtain ⟨q12, hq12⟩ := sz_of hS
  have hlt12 := hM.lt
  have hsz12 := hS.1
  refine m_newI X hS hq12 6 (by decide) (by decide) (by decide) (by omega) (by omega) d_Model_expand_12 (fun H hL12 hgr hS hz2 => ?_)
  have hfr := fr.of_grow (A := noA) hgr
  have hM := hM.frame hfr (fun q z => z.elim)
  have hL2 := hL2.fr hfr (fun z => z)
  have hL7 := hL7.fr hfr (fun z => z)
  refine lv_astore_n (lv' := [(3, .ref q12), (2, .ref q7), (1, .ref q2), (0, .ref mo)]) X.x X.b d_Model_expand_14 rfl hl (by decide) rfl (fun ls hl => ?_)
  refine lv_iconst (v := 0) X.x X.b d_Model_expand_15 (by decide) ?_
  refine lv_istore (lv' := [(4, .int 0), (3, .ref q12), (2, .ref q7), (1, .ref q2), (0, .ref mo)]) X.x X.b d_Model_expand_16 hl (by decide) rfl (fun ls hl => ?_)
  refine lv_iconst (v := 0) X.x X.b d_Model_expand_18 (by decide) ?_
  refine lv_istore (lv' := [(5, .int 0), (4, .int 0), (3, .ref q12), (2, .ref q7), (1, .ref q2), (0, .ref mo)]) X.x X.b d_Model_expand_19 hl (by decide) rfl (fun ls hl => ?_)
  refine lv_aload_n X.x X.b d_Model_expand_21 rfl (lv_at hl 5 rfl) ?_
  refine lv_iconst (v := 0) X.x X.b d_Model_expand_22 (by decide) ?_
  refine m_put X ok_Model hS (Or.inl ⟨by omega, by omega⟩) hM.1 5 (by decide) k_Model_132 rfl (ok_Model.2.2.1 _ (by decide)) rfl rfl (Nat.le_of_ble_eq_true rfl) d_Model_expand_23 (fun H locs hp hcg hS => ?_)
  have hM := hM.f5 hp hcg
  obtain ⟨p_1, ep_1⟩ : ∃ z, z = upd p0 5 0 := ⟨_, rfl⟩
  rw [← ep_1] at hM
  have hL2 := hL2.off hcg (by omega)
  have hL7 := hL7.off hcg (by omega)
  have hL12 := hL12.off hcg (by omega)
  obtain ⟨p1, hp1⟩ : ∃ z, z = p_1 := ⟨_, rfl⟩
  rw [← hp1] at hM
  have hp1 : p1 = upd p0 5 0 := by rw [hp1, ep_1]
  have hp15 : p1 5 = 0 := by rw [hp1]; exact upd_hit _ _ _
  have hp13 : p1 3 = 0 := by rw [hp1]; exact (upd_mi _ _ _ (by decide)).trans hf3
  have hp10 : p1 0 = p0 0 := by rw [hp1]; exact upd_mi _ _ _ (by decide)
  refine lv_iconst (v := 0) X.x X.b d_Model_expand_26 (by decide) ?_
  refine lv_istore (lv' := [(6, .int 0), (5, .int 0), (4, .int 0), (3, .ref q12), (2, .ref q7), (1, .ref q2), (0, .ref mo)]) X.x X.b d_Model_expand_27 hl (by decide) rfl (fun ls hl => ?_)
  have lp : ∀ (n i : Nat) (s1 : Nat → Nat → Int32), n = 8 - i → i < 5000 → ((∀ j, j < i → s1 25 j = 0 ∧ s1 27 j = -1) ∧ same [25, 27] s0 s1) → ∀ (H : Heap) (locs : List Loc) (ls : Array Slot), mAt g mo tq p1 s1 H → pt g q2 (.inl (g.2 0, 6, .inl (fun _ => 0))) H → pt g q7 (.inl (g.2 0, 6, .inl (fun _ => 0))) H → pt g q12 (.inl (g.2 0, 6, .inl (fun _ => 0))) H → va_S (AA (fun q => mo ≤ q ∧ q < mo + 23) H0) H0 H locs → lv_has ls 13 [(0, .ref mo), (1, .ref q2), (2, .ref q7), (3, .ref q12), (4, .int 0), (5, .int 0), (6, .int (nI i))] → W p l e (rmK 3 3 18) s m ([.ref mo] : List Value).toArray below meth cd H locs 3 18 (MQ below (QM (none) (fun H1 => ∃ p s, mAt g mo tq p s H1 ∧ p 0 = p0 0 ∧ s 2 = s0 2 ∧ dxP 0 p s) (fun q => mo ≤ q ∧ q < mo + 23) H0) ([.ref mo] : List Value).toArray s 3 18 (AA (fun q => mo ≤ q ∧ q < mo + 23) H0)) (F0 m 29 ls []) := by
    intro n
    induction n with
    | zero =>
      intro i s1 hin hi5 hE H locs ls hM hL2 hL7 hL12 hS hl
      refine lv_iload X.x X.b d_Model_expand_29 (lv_at hl 6 rfl) ?_
      refine lv_bipush (v := 8) X.x X.b d_Model_expand_31 (by decide) ?_
      refine lv_icmp_ge (tgt := 58) X.x X.b d_Model_expand_33 (by decide) (fun c1 => ?_) (fun c1 => ?_)
      · skip
        have c1q := Int32.not_lt.mpr c1
        refine lv_iload X.x X.b d_Model_expand_58 (lv_at hl 4 rfl) ?_
        refine lv_if_lt (tgt := 369) X.x X.b d_Model_expand_60 (by decide) (fun c2 => ?_) (fun c2 => ?_)
        · exact absurd c2 (by decide)
        · skip
          have c2q := Int32.not_lt.mp c2
          refine lv_aload_n X.x X.b d_Model_expand_63 rfl (lv_at hl 0 rfl) ?_
          refine m_get (v := .int 0) X ok_Model hM.1 3 (by decide) k_Model_126 (congrArg (fun z => some (Value.int z)) (show p1 3 = 0 from (by rw [hp13]))) d_Model_expand_64 ?_
          refine lv_if_ne (tgt := 369) X.x X.b d_Model_expand_67 (by decide) (fun c3 => ?_) (fun c3 => ?_)
          · exact absurd c3 (by decide)
          · skip
            refine lv_aload_n X.x X.b d_Model_expand_70 rfl (lv_at hl 1 rfl) ?_
            refine lv_iload X.x X.b d_Model_expand_71 (lv_at hl 4 rfl) ?_
            refine m_ild (v := 0) X hL2 0 rfl (by omega) (by decide) (show (fun _ => 0) 0 = 0 from rfl) d_Model_expand_73 ?_
            refine lv_istore (lv' := [(6, .int 0), (0, .ref mo), (1, .ref q2), (2, .ref q7), (3, .ref q12), (4, .int 0), (5, .int 0)]) X.x X.b d_Model_expand_74 hl (by decide) rfl (fun ls hl => ?_)
            refine lv_aload_n X.x X.b d_Model_expand_76 rfl (lv_at hl 3 rfl) ?_
            refine lv_iload X.x X.b d_Model_expand_77 (lv_at hl 5 rfl) ?_
            refine m_ild (v := 0) X hL7 0 rfl (by omega) (by decide) (show (fun _ => 0) 0 = 0 from rfl) d_Model_expand_79 ?_
            refine lv_aload_n X.x X.b d_Model_expand_80 rfl (lv_at hl 1 rfl) ?_
            refine m_get (v := .ref (mo + 2)) X ok_Model hM.1 2 (by decide) k_Model_13 rfl d_Model_expand_81 ?_
            refine lv_iload X.x X.b d_Model_expand_84 (lv_at hl 0 rfl) ?_
            refine m_ild (v := 1) X hM.a2 0 rfl (by omega) (by decide) (show s1 2 0 = 1 from (by rw [hE.2 2 (by decide), hL.1.1])) d_Model_expand_86 ?_
            refine lv_icmp_ne (tgt := 96) X.x X.b d_Model_expand_87 (by decide) (fun c4 => ?_) (fun c4 => ?_)
            · skip
              refine lv_aload_n X.x X.b d_Model_expand_96 rfl (lv_at hl 3 rfl) ?_
              refine lv_iload X.x X.b d_Model_expand_97 (lv_at hl 5 rfl) ?_
              refine lv_dup2_11 X.x X.b d_Model_expand_99 rfl rfl ?_
              refine m_ild (v := 0) X hL7 0 rfl (by omega) (by decide) (show (fun _ => 0) 0 = 0 from rfl) d_Model_expand_100 ?_
              refine lv_dup_x2 X.x X.b d_Model_expand_101 rfl rfl rfl ?_
              refine lv_iconst (v := 1) X.x X.b d_Model_expand_102 (by decide) ?_
              refine lv_iadd X.x X.b d_Model_expand_103 ?_
              rw [show (0 + 1 : Int32) = 1 from by decide]
              refine m_ist X hS (Or.inr (by omega)) hL7 0 rfl (by omega) (by decide) d_Model_expand_104 (fun H locs hp hcg hS => ?_)
              have hL7 := hp
              obtain ⟨r_2, er_2⟩ : ∃ z, z = upd (fun _ => 0) 0 1 := ⟨_, rfl⟩
              rw [← er_2] at hL7
              have hM := hM.frame (fr.of_chg (A := fun q => q = q7) hcg rfl) (fun q z => by have z : q = q7 := z; have := hM.tq; omega)
              have hL2 := hL2.off hcg (by omega)
              have hL12 := hL12.off hcg (by omega)
              refine lv_istore (lv' := [(7, .int 0), (6, .int 0), (0, .ref mo), (1, .ref q2), (2, .ref q7), (3, .ref q12), (4, .int 0), (5, .int 0)]) X.x X.b d_Model_expand_105 hl (by decide) rfl (fun ls hl => ?_)
              refine lv_iload X.x X.b d_Model_expand_107 (lv_at hl 1 rfl) ?_
              refine lv_iload X.x X.b d_Model_expand_109 (lv_at hl 0 rfl) ?_
              refine m_callSP X hS (MP_ans (M_Model_at l g 0 0) (show (((0 : Int32) * 64 + 0) * 5) = 0 from by decide)) s_Model_96 rfl rfl (Nat.le_of_ble_eq_true rfl) hl.1 d_Model_expand_111 (by omega) (by decide) ⟨by omega, by omega⟩ (fun locs hS => ?_)
              refine lv_istore (lv' := [(8, .int 0), (7, .int 0), (6, .int 0), (0, .ref mo), (1, .ref q2), (2, .ref q7), (3, .ref q12), (4, .int 0), (5, .int 0)]) X.x X.b d_Model_expand_114 hl (by decide) rfl (fun ls hl => ?_)
              refine lv_aload_n X.x X.b d_Model_expand_116 rfl (lv_at hl 5 rfl) ?_
              refine lv_iconst (v := 0) X.x X.b d_Model_expand_117 (by decide) ?_
              refine m_ild (v := 1) X hL7 0 rfl (by omega) (by decide) (show r_2 0 = 1 from (by rw [er_2, upd_hit])) d_Model_expand_118 ?_
              refine lv_iconst (v := 1) X.x X.b d_Model_expand_119 (by decide) ?_
              refine lv_isub X.x X.b d_Model_expand_120 ?_
              rw [show (1 - 1 : Int32) = 0 from by decide]
              refine lv_istore (lv' := [(9, .int 0), (8, .int 0), (7, .int 0), (6, .int 0), (0, .ref mo), (1, .ref q2), (2, .ref q7), (3, .ref q12), (4, .int 0), (5, .int 0)]) X.x X.b d_Model_expand_121 hl (by decide) rfl (fun ls hl => ?_)
              refine lv_aload_n X.x X.b d_Model_expand_123 rfl (lv_at hl 4 rfl) ?_
              refine m_get (v := .ref tq) X ok_Model hM.1 1 (by decide) k_Model_9 rfl d_Model_expand_124 ?_
              refine lv_iload X.x X.b d_Model_expand_127 (lv_at hl 1 rfl) ?_
              refine m_ild (v := 10) X hM.a1 0 rfl (by omega) (by decide) (show s1 1 0 = 10 from (by rw [hE.2 1 (by decide), hL.2.1])) d_Model_expand_129 ?_
              refine lv_istore (lv' := [(10, .int 10), (9, .int 0), (8, .int 0), (7, .int 0), (6, .int 0), (0, .ref mo), (1, .ref q2), (2, .ref q7), (3, .ref q12), (4, .int 0), (5, .int 0)]) X.x X.b d_Model_expand_130 hl (by decide) rfl (fun ls hl => ?_)
              refine lv_aload_n X.x X.b d_Model_expand_132 rfl (lv_at hl 5 rfl) ?_
              refine m_get (v := .ref tq) X ok_Model hM.1 1 (by decide) k_Model_9 rfl d_Model_expand_133 ?_
              refine lv_iload X.x X.b d_Model_expand_136 (lv_at hl 2 rfl) ?_
              refine lv_iconst (v := 3) X.x X.b d_Model_expand_138 (by decide) ?_
              refine lv_iadd X.x X.b d_Model_expand_139 ?_
              rw [show (0 + 3 : Int32) = 3 from by decide]
              refine m_ild (v := v_) X hM.a1 3 rfl (by omega) (by decide) (show s1 1 3 = v_ from (by rw [hE.2 1 (by decide), hL.2.2.2.2.1])) d_Model_expand_140 ?_
              refine lv_aload_n X.x X.b d_Model_expand_141 rfl (lv_at hl 5 rfl) ?_
              refine m_get (v := .ref tq) X ok_Model hM.1 1 (by decide) k_Model_9 rfl d_Model_expand_142 ?_
              refine lv_iload X.x X.b d_Model_expand_145 (lv_at hl 2 rfl) ?_
              refine lv_iconst (v := 4) X.x X.b d_Model_expand_147 (by decide) ?_
              refine lv_iadd X.x X.b d_Model_expand_148 ?_
              rw [show (0 + 4 : Int32) = 4 from by decide]
              refine m_ild (v := r) X hM.a1 4 rfl (by omega) (by decide) (show s1 1 4 = r from (by rw [hE.2 1 (by decide), hL.2.2.2.2.2])) d_Model_expand_149 ?_
              refine lv_iconst (v := 1) X.x X.b d_Model_expand_150 (by decide) ?_
              refine lv_icmp_ne (tgt := 161) X.x X.b d_Model_expand_151 (by decide) (fun c5 => ?_) (fun c5 => ?_)
              · skip
                refine lv_iconst (v := 0) X.x X.b d_Model_expand_161 (by decide) ?_
                refine lv_iadd X.x X.b d_Model_expand_162 ?_
                rw [show (v_ + 0 : Int32) = v_ from Int32.add_zero _]
                refine lv_istore (lv' := [(11, .int v_), (10, .int 10), (9, .int 0), (8, .int 0), (7, .int 0), (6, .int 0), (0, .ref mo), (1, .ref q2), (2, .ref q7), (3, .ref q12), (4, .int 0), (5, .int 0)]) X.x X.b d_Model_expand_163 hl (by decide) rfl (fun ls hl => ?_)
                refine lv_iinc (v := 1) (lv' := [(5, .int 1), (11, .int v_), (10, .int 10), (9, .int 0), (8, .int 0), (7, .int 0), (6, .int 0), (0, .ref mo), (1, .ref q2), (2, .ref q7), (3, .ref q12), (4, .int 0)]) X.x X.b d_Model_expand_165 hl (k := 11) rfl (by decide) (by decide) rfl (fun ls hl => ?_)
                refine lv_iload X.x X.b d_Model_expand_168 (lv_at hl 0 rfl) ?_
                refine lv_sipush (v := 400) X.x X.b d_Model_expand_170 (by decide) ?_
                refine lv_icmp_gt (tgt := 193) X.x X.b d_Model_expand_173 (by decide) (fun c6 => ?_) (fun c6 => ?_)
                · exact absurd c6 (by decide)
                · skip
                  have c6q := Int32.not_lt.mp c6
                  refine lv_iload X.x X.b d_Model_expand_176 (lv_at hl 2 rfl) ?_
                  refine m_callSP X hS (MP_ans (M_Model_makes l g 10) (show b2i ((10 : Int32) < 8) = 0 from by decide)) s_Model_138 rfl rfl (Nat.le_of_ble_eq_true rfl) hl.1 d_Model_expand_178 (by omega) (by decide) ⟨by omega, by omega⟩ (fun locs hS => ?_)
                  refine lv_if_eq (tgt := 203) X.x X.b d_Model_expand_181 (by decide) (fun c7 => ?_) (fun c7 => ?_)
                  · skip
                    refine lv_iload X.x X.b d_Model_expand_203 (lv_at hl 2 rfl) ?_
                    refine lv_bipush (v := 10) X.x X.b d_Model_expand_205 (by decide) ?_
                    refine lv_icmp_ne (tgt := 259) X.x X.b d_Model_expand_207 (by decide) (fun c8 => ?_) (fun c8 => ?_)
                    · exact absurd c8 (by decide)
                    · skip
                      refine lv_iload X.x X.b d_Model_expand_210 (lv_at hl 11 rfl) ?_
                      refine lv_iconst (v := 1) X.x X.b d_Model_expand_212 (by decide) ?_
                      refine lv_iadd X.x X.b d_Model_expand_213 ?_
                      rw [show (0 + 1 : Int32) = 1 from by decide]
                      refine lv_bipush (v := 6) X.x X.b d_Model_expand_214 (by decide) ?_
                      refine lv_icmp_ne (tgt := 229) X.x X.b d_Model_expand_216 (by decide) (fun c9 => ?_) (fun c9 => ?_)
                      · skip
                        refine lv_iinc (v := 1) (lv' := [(4, .int 1), (5, .int 1), (11, .int v_), (10, .int 10), (9, .int 0), (8, .int 0), (7, .int 0), (6, .int 0), (0, .ref mo), (1, .ref q2), (2, .ref q7), (3, .ref q12)]) X.x X.b d_Model_expand_229 hl (k := 11) rfl (by decide) (by decide) rfl (fun ls hl => ?_)
                        refine lv_aload_n X.x X.b d_Model_expand_232 rfl (lv_at hl 9 rfl) ?_
                        refine lv_iload X.x X.b d_Model_expand_233 (lv_at hl 0 rfl) ?_
                        refine lv_aload_n X.x X.b d_Model_expand_235 rfl (lv_at hl 8 rfl) ?_
                        refine m_get (v := .ref tq) X ok_Model hM.1 1 (by decide) k_Model_9 rfl d_Model_expand_236 ?_
                        refine lv_iload X.x X.b d_Model_expand_239 (lv_at hl 5 rfl) ?_
                        refine lv_iconst (v := 1) X.x X.b d_Model_expand_241 (by decide) ?_
                        refine lv_iadd X.x X.b d_Model_expand_242 ?_
                        rw [show (0 + 1 : Int32) = 1 from by decide]
                        refine m_ild (v := nI j) X hM.a1 1 rfl (by omega) (by decide) (show s1 1 1 = nI j from (by rw [hE.2 1 (by decide), hL.2.2.1])) d_Model_expand_243 ?_
                        refine m_ist X hS (Or.inr (by omega)) hL2 1 rfl (by omega) (by decide) d_Model_expand_244 (fun H locs hp hcg hS => ?_)
                        have hL2 := hp
                        obtain ⟨r_3, er_3⟩ : ∃ z, z = upd (fun _ => 0) 1 (nI j) := ⟨_, rfl⟩
                        rw [← er_3] at hL2
                        have hM := hM.frame (fr.of_chg (A := fun q => q = q2) hcg rfl) (fun q z => by have z : q = q2 := z; have := hM.tq; omega)
                        have hL7 := hL7.off hcg (by omega)
                        have hL12 := hL12.off hcg (by omega)
                        refine lv_aload_n X.x X.b d_Model_expand_245 rfl (lv_at hl 10 rfl) ?_
                        refine lv_iload X.x X.b d_Model_expand_246 (lv_at hl 0 rfl) ?_
                        refine lv_iconst (v := 0) X.x X.b d_Model_expand_248 (by decide) ?_
                        refine m_ist X hS (Or.inr (by omega)) hL7 1 rfl (by omega) (by decide) d_Model_expand_249 (fun H locs hp hcg hS => ?_)
                        have hL7 := hp
                        obtain ⟨r_4, er_4⟩ : ∃ z, z = upd r_2 1 0 := ⟨_, rfl⟩
                        rw [← er_4] at hL7
                        have hM := hM.frame (fr.of_chg (A := fun q => q = q7) hcg rfl) (fun q z => by have z : q = q7 := z; have := hM.tq; omega)
                        have hL2 := hL2.off hcg (by omega)
                        have hL12 := hL12.off hcg (by omega)
                        refine lv_aload_n X.x X.b d_Model_expand_250 rfl (lv_at hl 11 rfl) ?_
                        refine lv_iload X.x X.b d_Model_expand_251 (lv_at hl 0 rfl) ?_
                        refine lv_iload X.x X.b d_Model_expand_253 (lv_at hl 2 rfl) ?_
                        refine m_ist X hS (Or.inr (by omega)) hL12 1 rfl (by omega) (by decide) d_Model_expand_255 (fun H locs hp hcg hS => ?_)
                        have hL12 := hp
                        obtain ⟨r_5, er_5⟩ : ∃ z, z = upd (fun _ => 0) 1 v_ := ⟨_, rfl⟩
                        rw [← er_5] at hL12
                        have hM := hM.frame (fr.of_chg (A := fun q => q = q12) hcg rfl) (fun q z => by have z : q = q12 := z; have := hM.tq; omega)
                        have hL2 := hL2.off hcg (by omega)
                        have hL7 := hL7.off hcg (by omega)
                        refine lv_goto (tgt := 366) X.x X.b d_Model_expand_256 (by decide) ?_
                        refine lv_goto (tgt := 58) X.x X.b d_Model_expand_366 (by decide) ?_
                        refine lv_iload X.x X.b d_Model_expand_58 (lv_at hl 0 rfl) ?_
                        refine lv_if_lt (tgt := 369) X.x X.b d_Model_expand_60 (by decide) (fun c10 => ?_) (fun c10 => ?_)
                        · exact absurd c10 (by decide)
                        · skip
                          have c10q := Int32.not_lt.mp c10
                          refine lv_aload_n X.x X.b d_Model_expand_63 rfl (lv_at hl 8 rfl) ?_
                          refine m_get (v := .int 0) X ok_Model hM.1 3 (by decide) k_Model_126 (congrArg (fun z => some (Value.int z)) (show p1 3 = 0 from (by rw [hp13]))) d_Model_expand_64 ?_
                          refine lv_if_ne (tgt := 369) X.x X.b d_Model_expand_67 (by decide) (fun c11 => ?_) (fun c11 => ?_)
                          · exact absurd c7 c11
                          · skip
                            refine lv_aload_n X.x X.b d_Model_expand_70 rfl (lv_at hl 9 rfl) ?_
                            refine lv_iload X.x X.b d_Model_expand_71 (lv_at hl 0 rfl) ?_
                            refine m_ild (v := nI j) X hL2 1 rfl (by omega) (by decide) (show r_3 1 = nI j from (by rw [er_3, upd_hit])) d_Model_expand_73 ?_
                            refine lv_istore (lv' := [(6, .int (nI j)), (4, .int 1), (5, .int 1), (11, .int v_), (10, .int 10), (9, .int 0), (8, .int 0), (7, .int 0), (0, .ref mo), (1, .ref q2), (2, .ref q7), (3, .ref q12)]) X.x X.b d_Model_expand_74 hl (by decide) rfl (fun ls hl => ?_)
                            refine lv_aload_n X.x X.b d_Model_expand_76 rfl (lv_at hl 10 rfl) ?_
                            refine lv_iload X.x X.b d_Model_expand_77 (lv_at hl 1 rfl) ?_
                            refine m_ild (v := 0) X hL7 1 rfl (by omega) (by decide) (show r_4 1 = 0 from (by rw [er_4, upd_hit])) d_Model_expand_79 ?_
                            refine lv_aload_n X.x X.b d_Model_expand_80 rfl (lv_at hl 8 rfl) ?_
                            refine m_get (v := .ref (mo + 2)) X ok_Model hM.1 2 (by decide) k_Model_13 rfl d_Model_expand_81 ?_
                            refine lv_iload X.x X.b d_Model_expand_84 (lv_at hl 0 rfl) ?_
                            refine m_ild (v := 0) X hM.a2 j rfl (by omega) (by decide) (show s1 2 j = 0 from (by rw [hE.2 2 (by decide), hL.1.2 j (by omega) (by omega)])) d_Model_expand_86 ?_
                            refine lv_icmp_ne (tgt := 96) X.x X.b d_Model_expand_87 (by decide) (fun c12 => ?_) (fun c12 => ?_)
                            · exact absurd c11 c12
                            · skip
                              refine lv_iinc (v := 0) (lv' := [(4, .int 0), (6, .int (nI j)), (5, .int 1), (11, .int v_), (10, .int 10), (9, .int 0), (8, .int 0), (7, .int 0), (0, .ref mo), (1, .ref q2), (2, .ref q7), (3, .ref q12)]) X.x X.b d_Model_expand_90 hl (k := 1) rfl (by decide) (by decide) rfl (fun ls hl => ?_)
                              refine lv_goto (tgt := 58) X.x X.b d_Model_expand_93 (by decide) ?_
                              refine lv_iload X.x X.b d_Model_expand_58 (lv_at hl 0 rfl) ?_
                              refine lv_if_lt (tgt := 369) X.x X.b d_Model_expand_60 (by decide) (fun c13 => ?_) (fun c13 => ?_)
                              · exact absurd c13 c2
                              · skip
                                have c13q := Int32.not_lt.mp c13
                                refine lv_aload_n X.x X.b d_Model_expand_63 rfl (lv_at hl 8 rfl) ?_
                                refine m_get (v := .int 0) X ok_Model hM.1 3 (by decide) k_Model_126 (congrArg (fun z => some (Value.int z)) (show p1 3 = 0 from (by rw [hp13]))) d_Model_expand_64 ?_
                                refine lv_if_ne (tgt := 369) X.x X.b d_Model_expand_67 (by decide) (fun c14 => ?_) (fun c14 => ?_)
                                · exact absurd c12 c14
                                · skip
                                  refine lv_aload_n X.x X.b d_Model_expand_70 rfl (lv_at hl 9 rfl) ?_
                                  refine lv_iload X.x X.b d_Model_expand_71 (lv_at hl 0 rfl) ?_
                                  refine m_ild (v := 0) X hL2 0 rfl (by omega) (by decide) (show r_3 0 = 0 from (by rw [er_3, upd_mi _ _ _ (show (0 : Nat) ≠ 1 by omega)])) d_Model_expand_73 ?_
                                  refine lv_istore (lv' := [(6, .int 0), (4, .int 0), (5, .int 1), (11, .int v_), (10, .int 10), (9, .int 0), (8, .int 0), (7, .int 0), (0, .ref mo), (1, .ref q2), (2, .ref q7), (3, .ref q12)]) X.x X.b d_Model_expand_74 hl (by decide) rfl (fun ls hl => ?_)
                                  refine lv_aload_n X.x X.b d_Model_expand_76 rfl (lv_at hl 10 rfl) ?_
                                  refine lv_iload X.x X.b d_Model_expand_77 (lv_at hl 1 rfl) ?_
                                  refine m_ild (v := 1) X hL7 0 rfl (by omega) (by decide) (show r_4 0 = 1 from (by rw [er_4, upd_mi _ _ _ (show (0 : Nat) ≠ 1 by omega), er_2, upd_hit])) d_Model_expand_79 ?_
                                  refine lv_aload_n X.x X.b d_Model_expand_80 rfl (lv_at hl 8 rfl) ?_
                                  refine m_get (v := .ref (mo + 2)) X ok_Model hM.1 2 (by decide) k_Model_13 rfl d_Model_expand_81 ?_
                                  refine lv_iload X.x X.b d_Model_expand_84 (lv_at hl 0 rfl) ?_
                                  refine m_ild (v := 1) X hM.a2 0 rfl (by omega) (by decide) (show s1 2 0 = 1 from (by rw [hE.2 2 (by decide), hL.1.1])) d_Model_expand_86 ?_
                                  refine lv_icmp_ne (tgt := 96) X.x X.b d_Model_expand_87 (by decide) (fun c15 => ?_) (fun c15 => ?_)
                                  · exact absurd c15 (by decide)
                                  · skip
                                    refine lv_iinc (v := (-1)) (lv' := [(4, .int (-1)), (6, .int 0), (5, .int 1), (11, .int v_), (10, .int 10), (9, .int 0), (8, .int 0), (7, .int 0), (0, .ref mo), (1, .ref q2), (2, .ref q7), (3, .ref q12)]) X.x X.b d_Model_expand_90 hl (k := 1) rfl (by decide) (by decide) rfl (fun ls hl => ?_)
                                    refine lv_goto (tgt := 58) X.x X.b d_Model_expand_93 (by decide) ?_
                                    refine lv_iload X.x X.b d_Model_expand_58 (lv_at hl 0 rfl) ?_
                                    refine lv_if_lt (tgt := 369) X.x X.b d_Model_expand_60 (by decide) (fun c16 => ?_) (fun c16 => ?_)
                                    · skip
                                      have c16q := Int32.not_le.mpr c16
                                      refine lv_aload_n X.x X.b d_Model_expand_369 rfl (lv_at hl 8 rfl) ?_
                                      refine m_get (v := .int 0) X ok_Model hM.1 3 (by decide) k_Model_126 (congrArg (fun z => some (Value.int z)) (show p1 3 = 0 from (by rw [hp13]))) d_Model_expand_370 ?_
                                      refine lv_if_ne (tgt := 387) X.x X.b d_Model_expand_373 (by decide) (fun c17 => ?_) (fun c17 => ?_)
                                      · exact absurd c14 c17
                                      · skip
                                        refine lv_aload_n X.x X.b d_Model_expand_376 rfl (lv_at hl 8 rfl) ?_
                                        refine lv_bipush (v := 6) X.x X.b d_Model_expand_377 (by decide) ?_
                                        refine lv_iconst (v := -1) X.x X.b d_Model_expand_379 (by decide) ?_
                                        refine lv_iconst (v := -1) X.x X.b d_Model_expand_380 (by decide) ?_
                                        refine lv_iconst (v := 0) X.x X.b d_Model_expand_381 (by decide) ?_
                                        refine lv_iconst (v := -1) X.x X.b d_Model_expand_382 (by decide) ?_
                                        refine lv_iconst (v := 0) X.x X.b d_Model_expand_383 (by decide) ?_
                                        have hR := M_Model_item (c := 0) l g hM (show p1 5 = 0 from (by rw [hp15])) (by omega) 6 (-1) (-1) 0 (-1) 0
                                        refine m_callM X hS hR v_Model_151 hM.1 rfl rfl rfl (Nat.le_of_ble_eq_true rfl) hl.1 d_Model_expand_384 (by omega) (by decide) ⟨by omega, by omega⟩ (fun q z => by have z : mo ≤ q ∧ q < mo + 23 := z; exact ⟨by omega, by omega⟩) (fun H locs hM hfr hS => ?_)
                                        have hL2 := hL2.fr hfr (fun z => by have z : mo ≤ q2 ∧ q2 < mo + 23 := z; omega)
                                        have hL7 := hL7.fr hfr (fun z => by have z : mo ≤ q7 ∧ q7 < mo + 23 := z; omega)
                                        have hL12 := hL12.fr hfr (fun z => by have z : mo ≤ q12 ∧ q12 < mo + 23 := z; omega)
                                        have hM : mAt g mo tq (upd p1 5 1) _ H := hM
                                        obtain ⟨p_6, ep_6⟩ : ∃ z, z = upd p1 5 1 := ⟨_, rfl⟩
                                        rw [← ep_6] at hM
                                        obtain ⟨s_7, es_7⟩ : ∃ z, z = itR s1 0 6 (-1) (-1) 0 (-1) 0 := ⟨_, rfl⟩
                                        rw [← es_7] at hM
                                        exact m_vret X hS (by omega) (by omega) d_Model_expand_387 rfl ⟨_, _, hM, (by rw [ep_6, upd_mi _ _ _ (show 0 ≠ 5 by decide), hp10]), by rw [es_7, itR_o s1 0 6 (-1) (-1) 0 (-1) 0 2 (by decide), hE.2 2 (by decide)], ⟨(by rw [ep_6, upd_mi _ _ _ (show 3 ≠ 5 by decide), hp13]), (show p_6 5 = 1 from (by rw [ep_6, upd_hit]))⟩, fun k hk => absurd hk (Nat.not_lt_zero k), (by rw [es_7, (itR_at s1 0 6 (-1) (-1) 0 (-1) 0).1])⟩
                                    · exact absurd c16 (by decide)
                      · exact absurd c9 (by decide)
                  · exact absurd c3 c7
              · skip
                refine lv_aload_n X.x X.b d_Model_expand_154 rfl (lv_at hl 8 rfl) ?_
                refine lv_iload X.x X.b d_Model_expand_155 (lv_at hl 9 rfl) ?_
                refine m_ild (v := 0) X hL12 0 rfl (by omega) (by decide) (show (fun _ => 0) 0 = 0 from rfl) d_Model_expand_157 ?_
                refine lv_goto (tgt := 162) X.x X.b d_Model_expand_158 (by decide) ?_
                refine lv_iadd X.x X.b d_Model_expand_162 ?_
                rw [show (v_ + 0 : Int32) = v_ from Int32.add_zero _]
                refine lv_istore (lv' := [(11, .int v_), (10, .int 10), (9, .int 0), (8, .int 0), (7, .int 0), (6, .int 0), (0, .ref mo), (1, .ref q2), (2, .ref q7), (3, .ref q12), (4, .int 0), (5, .int 0)]) X.x X.b d_Model_expand_163 hl (by decide) rfl (fun ls hl => ?_)
                refine lv_iinc (v := 1) (lv' := [(5, .int 1), (11, .int v_), (10, .int 10), (9, .int 0), (8, .int 0), (7, .int 0), (6, .int 0), (0, .ref mo), (1, .ref q2), (2, .ref q7), (3, .ref q12), (4, .int 0)]) X.x X.b d_Model_expand_165 hl (k := 11) rfl (by decide) (by decide) rfl (fun ls hl => ?_)
                refine lv_iload X.x X.b d_Model_expand_168 (lv_at hl 0 rfl) ?_
                refine lv_sipush (v := 400) X.x X.b d_Model_expand_170 (by decide) ?_
                refine lv_icmp_gt (tgt := 193) X.x X.b d_Model_expand_173 (by decide) (fun c18 => ?_) (fun c18 => ?_)
                · exact absurd c18 (by decide)
                · skip
                  have c18q := Int32.not_lt.mp c18
                  refine lv_iload X.x X.b d_Model_expand_176 (lv_at hl 2 rfl) ?_
                  refine m_callSP X hS (MP_ans (M_Model_makes l g 10) (show b2i ((10 : Int32) < 8) = 0 from by decide)) s_Model_138 rfl rfl (Nat.le_of_ble_eq_true rfl) hl.1 d_Model_expand_178 (by omega) (by decide) ⟨by omega, by omega⟩ (fun locs hS => ?_)
                  refine lv_if_eq (tgt := 203) X.x X.b d_Model_expand_181 (by decide) (fun c19 => ?_) (fun c19 => ?_)
                  · skip
                    refine lv_iload X.x X.b d_Model_expand_203 (lv_at hl 2 rfl) ?_
                    refine lv_bipush (v := 10) X.x X.b d_Model_expand_205 (by decide) ?_
                    refine lv_icmp_ne (tgt := 259) X.x X.b d_Model_expand_207 (by decide) (fun c20 => ?_) (fun c20 => ?_)
                    · exact absurd c20 (by decide)
                    · skip
                      refine lv_iload X.x X.b d_Model_expand_210 (lv_at hl 11 rfl) ?_
                      refine lv_iconst (v := 1) X.x X.b d_Model_expand_212 (by decide) ?_
                      refine lv_iadd X.x X.b d_Model_expand_213 ?_
                      rw [show (0 + 1 : Int32) = 1 from by decide]
                      refine lv_bipush (v := 6) X.x X.b d_Model_expand_214 (by decide) ?_
                      refine lv_icmp_ne (tgt := 229) X.x X.b d_Model_expand_216 (by decide) (fun c21 => ?_) (fun c21 => ?_)
                      · skip
                        refine lv_iinc (v := 1) (lv' := [(4, .int 1), (5, .int 1), (11, .int v_), (10, .int 10), (9, .int 0), (8, .int 0), (7, .int 0), (6, .int 0), (0, .ref mo), (1, .ref q2), (2, .ref q7), (3, .ref q12)]) X.x X.b d_Model_expand_229 hl (k := 11) rfl (by decide) (by decide) rfl (fun ls hl => ?_)
                        refine lv_aload_n X.x X.b d_Model_expand_232 rfl (lv_at hl 9 rfl) ?_
                        refine lv_iload X.x X.b d_Model_expand_233 (lv_at hl 0 rfl) ?_
                        refine lv_aload_n X.x X.b d_Model_expand_235 rfl (lv_at hl 8 rfl) ?_
                        refine m_get (v := .ref tq) X ok_Model hM.1 1 (by decide) k_Model_9 rfl d_Model_expand_236 ?_
                        refine lv_iload X.x X.b d_Model_expand_239 (lv_at hl 5 rfl) ?_
                        refine lv_iconst (v := 1) X.x X.b d_Model_expand_241 (by decide) ?_
                        refine lv_iadd X.x X.b d_Model_expand_242 ?_
                        rw [show (0 + 1 : Int32) = 1 from by decide]
                        refine m_ild (v := nI j) X hM.a1 1 rfl (by omega) (by decide) (show s1 1 1 = nI j from (by rw [hE.2 1 (by decide), hL.2.2.1])) d_Model_expand_243 ?_
                        refine m_ist X hS (Or.inr (by omega)) hL2 1 rfl (by omega) (by decide) d_Model_expand_244 (fun H locs hp hcg hS => ?_)
                        have hL2 := hp
                        obtain ⟨r_8, er_8⟩ : ∃ z, z = upd (fun _ => 0) 1 (nI j) := ⟨_, rfl⟩
                        rw [← er_8] at hL2
                        have hM := hM.frame (fr.of_chg (A := fun q => q = q2) hcg rfl) (fun q z => by have z : q = q2 := z; have := hM.tq; omega)
                        have hL7 := hL7.off hcg (by omega)
                        have hL12 := hL12.off hcg (by omega)
                        refine lv_aload_n X.x X.b d_Model_expand_245 rfl (lv_at hl 10 rfl) ?_
                        refine lv_iload X.x X.b d_Model_expand_246 (lv_at hl 0 rfl) ?_
                        refine lv_iconst (v := 0) X.x X.b d_Model_expand_248 (by decide) ?_
                        refine m_ist X hS (Or.inr (by omega)) hL7 1 rfl (by omega) (by decide) d_Model_expand_249 (fun H locs hp hcg hS => ?_)
                        have hL7 := hp
                        obtain ⟨r_9, er_9⟩ : ∃ z, z = upd r_2 1 0 := ⟨_, rfl⟩
                        rw [← er_9] at hL7
                        have hM := hM.frame (fr.of_chg (A := fun q => q = q7) hcg rfl) (fun q z => by have z : q = q7 := z; have := hM.tq; omega)
                        have hL2 := hL2.off hcg (by omega)
                        have hL12 := hL12.off hcg (by omega)
                        refine lv_aload_n X.x X.b d_Model_expand_250 rfl (lv_at hl 11 rfl) ?_
                        refine lv_iload X.x X.b d_Model_expand_251 (lv_at hl 0 rfl) ?_
                        refine lv_iload X.x X.b d_Model_expand_253 (lv_at hl 2 rfl) ?_
                        refine m_ist X hS (Or.inr (by omega)) hL12 1 rfl (by omega) (by decide) d_Model_expand_255 (fun H locs hp hcg hS => ?_)
                        have hL12 := hp
                        obtain ⟨r_10, er_10⟩ : ∃ z, z = upd (fun _ => 0) 1 v_ := ⟨_, rfl⟩
                        rw [← er_10] at hL12
                        have hM := hM.frame (fr.of_chg (A := fun q => q = q12) hcg rfl) (fun q z => by have z : q = q12 := z; have := hM.tq; omega)
                        have hL2 := hL2.off hcg (by omega)
                        have hL7 := hL7.off hcg (by omega)
                        refine lv_goto (tgt := 366) X.x X.b d_Model_expand_256 (by decide) ?_
                        refine lv_goto (tgt := 58) X.x X.b d_Model_expand_366 (by decide) ?_
                        refine lv_iload X.x X.b d_Model_expand_58 (lv_at hl 0 rfl) ?_
                        refine lv_if_lt (tgt := 369) X.x X.b d_Model_expand_60 (by decide) (fun c22 => ?_) (fun c22 => ?_)
                        · exact absurd c22 (by decide)
                        · skip
                          have c22q := Int32.not_lt.mp c22
                          refine lv_aload_n X.x X.b d_Model_expand_63 rfl (lv_at hl 8 rfl) ?_
                          refine m_get (v := .int 0) X ok_Model hM.1 3 (by decide) k_Model_126 (congrArg (fun z => some (Value.int z)) (show p1 3 = 0 from (by rw [hp13]))) d_Model_expand_64 ?_
                          refine lv_if_ne (tgt := 369) X.x X.b d_Model_expand_67 (by decide) (fun c23 => ?_) (fun c23 => ?_)
                          · exact absurd c19 c23
                          · skip
                            refine lv_aload_n X.x X.b d_Model_expand_70 rfl (lv_at hl 9 rfl) ?_
                            refine lv_iload X.x X.b d_Model_expand_71 (lv_at hl 0 rfl) ?_
                            refine m_ild (v := nI j) X hL2 1 rfl (by omega) (by decide) (show r_8 1 = nI j from (by rw [er_8, upd_hit])) d_Model_expand_73 ?_
                            refine lv_istore (lv' := [(6, .int (nI j)), (4, .int 1), (5, .int 1), (11, .int v_), (10, .int 10), (9, .int 0), (8, .int 0), (7, .int 0), (0, .ref mo), (1, .ref q2), (2, .ref q7), (3, .ref q12)]) X.x X.b d_Model_expand_74 hl (by decide) rfl (fun ls hl => ?_)
                            refine lv_aload_n X.x X.b d_Model_expand_76 rfl (lv_at hl 10 rfl) ?_
                            refine lv_iload X.x X.b d_Model_expand_77 (lv_at hl 1 rfl) ?_
                            refine m_ild (v := 0) X hL7 1 rfl (by omega) (by decide) (show r_9 1 = 0 from (by rw [er_9, upd_hit])) d_Model_expand_79 ?_
                            refine lv_aload_n X.x X.b d_Model_expand_80 rfl (lv_at hl 8 rfl) ?_
                            refine m_get (v := .ref (mo + 2)) X ok_Model hM.1 2 (by decide) k_Model_13 rfl d_Model_expand_81 ?_
                            refine lv_iload X.x X.b d_Model_expand_84 (lv_at hl 0 rfl) ?_
                            refine m_ild (v := 0) X hM.a2 j rfl (by omega) (by decide) (show s1 2 j = 0 from (by rw [hE.2 2 (by decide), hL.1.2 j (by omega) (by omega)])) d_Model_expand_86 ?_
                            refine lv_icmp_ne (tgt := 96) X.x X.b d_Model_expand_87 (by decide) (fun c24 => ?_) (fun c24 => ?_)
                            · exact absurd c23 c24
                            · skip
                              refine lv_iinc (v := 0) (lv' := [(4, .int 0), (6, .int (nI j)), (5, .int 1), (11, .int v_), (10, .int 10), (9, .int 0), (8, .int 0), (7, .int 0), (0, .ref mo), (1, .ref q2), (2, .ref q7), (3, .ref q12)]) X.x X.b d_Model_expand_90 hl (k := 1) rfl (by decide) (by decide) rfl (fun ls hl => ?_)
                              refine lv_goto (tgt := 58) X.x X.b d_Model_expand_93 (by decide) ?_
                              refine lv_iload X.x X.b d_Model_expand_58 (lv_at hl 0 rfl) ?_
                              refine lv_if_lt (tgt := 369) X.x X.b d_Model_expand_60 (by decide) (fun c25 => ?_) (fun c25 => ?_)
                              · exact absurd c25 c2
                              · skip
                                have c25q := Int32.not_lt.mp c25
                                refine lv_aload_n X.x X.b d_Model_expand_63 rfl (lv_at hl 8 rfl) ?_
                                refine m_get (v := .int 0) X ok_Model hM.1 3 (by decide) k_Model_126 (congrArg (fun z => some (Value.int z)) (show p1 3 = 0 from (by rw [hp13]))) d_Model_expand_64 ?_
                                refine lv_if_ne (tgt := 369) X.x X.b d_Model_expand_67 (by decide) (fun c26 => ?_) (fun c26 => ?_)
                                · exact absurd c24 c26
                                · skip
                                  refine lv_aload_n X.x X.b d_Model_expand_70 rfl (lv_at hl 9 rfl) ?_
                                  refine lv_iload X.x X.b d_Model_expand_71 (lv_at hl 0 rfl) ?_
                                  refine m_ild (v := 0) X hL2 0 rfl (by omega) (by decide) (show r_8 0 = 0 from (by rw [er_8, upd_mi _ _ _ (show (0 : Nat) ≠ 1 by omega)])) d_Model_expand_73 ?_
                                  refine lv_istore (lv' := [(6, .int 0), (4, .int 0), (5, .int 1), (11, .int v_), (10, .int 10), (9, .int 0), (8, .int 0), (7, .int 0), (0, .ref mo), (1, .ref q2), (2, .ref q7), (3, .ref q12)]) X.x X.b d_Model_expand_74 hl (by decide) rfl (fun ls hl => ?_)
                                  refine lv_aload_n X.x X.b d_Model_expand_76 rfl (lv_at hl 10 rfl) ?_
                                  refine lv_iload X.x X.b d_Model_expand_77 (lv_at hl 1 rfl) ?_
                                  refine m_ild (v := 1) X hL7 0 rfl (by omega) (by decide) (show r_9 0 = 1 from (by rw [er_9, upd_mi _ _ _ (show (0 : Nat) ≠ 1 by omega), er_2, upd_hit])) d_Model_expand_79 ?_
                                  refine lv_aload_n X.x X.b d_Model_expand_80 rfl (lv_at hl 8 rfl) ?_
                                  refine m_get (v := .ref (mo + 2)) X ok_Model hM.1 2 (by decide) k_Model_13 rfl d_Model_expand_81 ?_
                                  refine lv_iload X.x X.b d_Model_expand_84 (lv_at hl 0 rfl) ?_
                                  refine m_ild (v := 1) X hM.a2 0 rfl (by omega) (by decide) (show s1 2 0 = 1 from (by rw [hE.2 2 (by decide), hL.1.1])) d_Model_expand_86 ?_
                                  refine lv_icmp_ne (tgt := 96) X.x X.b d_Model_expand_87 (by decide) (fun c27 => ?_) (fun c27 => ?_)
                                  · exact absurd c27 (by decide)
                                  · skip
                                    refine lv_iinc (v := (-1)) (lv' := [(4, .int (-1)), (6, .int 0), (5, .int 1), (11, .int v_), (10, .int 10), (9, .int 0), (8, .int 0), (7, .int 0), (0, .ref mo), (1, .ref q2), (2, .ref q7), (3, .ref q12)]) X.x X.b d_Model_expand_90 hl (k := 1) rfl (by decide) (by decide) rfl (fun ls hl => ?_)
                                    refine lv_goto (tgt := 58) X.x X.b d_Model_expand_93 (by decide) ?_
                                    refine lv_iload X.x X.b d_Model_expand_58 (lv_at hl 0 rfl) ?_
                                    refine lv_if_lt (tgt := 369) X.x X.b d_Model_expand_60 (by decide) (fun c28 => ?_) (fun c28 => ?_)
                                    · skip
                                      have c28q := Int32.not_le.mpr c28
                                      refine lv_aload_n X.x X.b d_Model_expand_369 rfl (lv_at hl 8 rfl) ?_
                                      refine m_get (v := .int 0) X ok_Model hM.1 3 (by decide) k_Model_126 (congrArg (fun z => some (Value.int z)) (show p1 3 = 0 from (by rw [hp13]))) d_Model_expand_370 ?_
                                      refine lv_if_ne (tgt := 387) X.x X.b d_Model_expand_373 (by decide) (fun c29 => ?_) (fun c29 => ?_)
                                      · exact absurd c26 c29
                                      · skip
                                        refine lv_aload_n X.x X.b d_Model_expand_376 rfl (lv_at hl 8 rfl) ?_
                                        refine lv_bipush (v := 6) X.x X.b d_Model_expand_377 (by decide) ?_
                                        refine lv_iconst (v := -1) X.x X.b d_Model_expand_379 (by decide) ?_
                                        refine lv_iconst (v := -1) X.x X.b d_Model_expand_380 (by decide) ?_
                                        refine lv_iconst (v := 0) X.x X.b d_Model_expand_381 (by decide) ?_
                                        refine lv_iconst (v := -1) X.x X.b d_Model_expand_382 (by decide) ?_
                                        refine lv_iconst (v := 0) X.x X.b d_Model_expand_383 (by decide) ?_
                                        have hR := M_Model_item (c := 0) l g hM (show p1 5 = 0 from (by rw [hp15])) (by omega) 6 (-1) (-1) 0 (-1) 0
                                        refine m_callM X hS hR v_Model_151 hM.1 rfl rfl rfl (Nat.le_of_ble_eq_true rfl) hl.1 d_Model_expand_384 (by omega) (by decide) ⟨by omega, by omega⟩ (fun q z => by have z : mo ≤ q ∧ q < mo + 23 := z; exact ⟨by omega, by omega⟩) (fun H locs hM hfr hS => ?_)
                                        have hL2 := hL2.fr hfr (fun z => by have z : mo ≤ q2 ∧ q2 < mo + 23 := z; omega)
                                        have hL7 := hL7.fr hfr (fun z => by have z : mo ≤ q7 ∧ q7 < mo + 23 := z; omega)
                                        have hL12 := hL12.fr hfr (fun z => by have z : mo ≤ q12 ∧ q12 < mo + 23 := z; omega)
                                        have hM : mAt g mo tq (upd p1 5 1) _ H := hM
                                        obtain ⟨p_11, ep_11⟩ : ∃ z, z = upd p1 5 1 := ⟨_, rfl⟩
                                        rw [← ep_11] at hM
                                        obtain ⟨s_12, es_12⟩ : ∃ z, z = itR s1 0 6 (-1) (-1) 0 (-1) 0 := ⟨_, rfl⟩
                                        rw [← es_12] at hM
                                        exact m_vret X hS (by omega) (by omega) d_Model_expand_387 rfl ⟨_, _, hM, (by rw [ep_11, upd_mi _ _ _ (show 0 ≠ 5 by decide), hp10]), by rw [es_12, itR_o s1 0 6 (-1) (-1) 0 (-1) 0 2 (by decide), hE.2 2 (by decide)], ⟨(by rw [ep_11, upd_mi _ _ _ (show 3 ≠ 5 by decide), hp13]), (show p_11 5 = 1 from (by rw [ep_11, upd_hit]))⟩, fun k hk => absurd hk (Nat.not_lt_zero k), (by rw [es_12, (itR_at s1 0 6 (-1) (-1) 0 (-1) 0).1])⟩
                                    · exact absurd c28 (by decide)
                      · exact absurd c21 (by decide)
                  · exact absurd c3 c19
            · exact absurd c4 (by decide)
      · exact absurd ((nI_ltI (a := i) (b := 8) (by omega) (by omega)).mp (Int32.not_le.mp c1)) (by omega)
    | succ n ih =>
      intro i s1 hin hi5 hE H locs ls hM hL2 hL7 hL12 hS hl
      refine lv_iload X.x X.b d_Model_expand_29 (lv_at hl 6 rfl) ?_
      refine lv_bipush (v := 8) X.x X.b d_Model_expand_31 (by decide) ?_
      refine lv_icmp_ge (tgt := 58) X.x X.b d_Model_expand_33 (by decide) (fun c30 => ?_) (fun c30 => ?_)
      · exact absurd ((nI_leI (a := 8) (b := i) (by omega) (by omega)).mp c30) (by omega)
      · skip
        have c30q := Int32.not_le.mp c30
        refine lv_aload_n X.x X.b d_Model_expand_36 rfl (lv_at hl 0 rfl) ?_
        refine m_get (v := .ref (mo + 20)) X ok_Model hM.1 25 (by decide) k_Model_68 rfl d_Model_expand_37 ?_
        refine lv_iload X.x X.b d_Model_expand_40 (lv_at hl 6 rfl) ?_
        refine lv_iconst (v := 0) X.x X.b d_Model_expand_42 (by decide) ?_
        refine m_ist X hS (Or.inl ⟨by omega, by omega⟩) hM.a25 i rfl (by omega) (by decide) d_Model_expand_43 (fun H locs hp hcg hS => ?_)
        have hM := hM.s25 hp hcg
        obtain ⟨s_13, es_13⟩ : ∃ z, z = updR s1 25 (upd (s1 25) i 0) := ⟨_, rfl⟩
        rw [← es_13] at hM
        have hL2 := hL2.off hcg (by omega)
        have hL7 := hL7.off hcg (by omega)
        have hL12 := hL12.off hcg (by omega)
        refine lv_aload_n X.x X.b d_Model_expand_44 rfl (lv_at hl 0 rfl) ?_
        refine m_get (v := .ref (mo + 22)) X ok_Model hM.1 27 (by decide) k_Model_74 rfl d_Model_expand_45 ?_
        refine lv_iload X.x X.b d_Model_expand_48 (lv_at hl 6 rfl) ?_
        refine lv_iconst (v := -1) X.x X.b d_Model_expand_50 (by decide) ?_
        refine m_ist X hS (Or.inl ⟨by omega, by omega⟩) hM.a27 i rfl (by omega) (by decide) d_Model_expand_51 (fun H locs hp hcg hS => ?_)
        have hM := hM.s27 hp hcg
        obtain ⟨s_14, es_14⟩ : ∃ z, z = updR s_13 27 (upd (s_13 27) i (-1)) := ⟨_, rfl⟩
        rw [← es_14] at hM
        have hL2 := hL2.off hcg (by omega)
        have hL7 := hL7.off hcg (by omega)
        have hL12 := hL12.off hcg (by omega)
        refine lv_iinc (v := nI (i + 1)) (lv' := [(6, .int (nI (i + 1))), (0, .ref mo), (1, .ref q2), (2, .ref q7), (3, .ref q12), (4, .int 0), (5, .int 0)]) X.x X.b d_Model_expand_52 hl (k := 6) rfl (nI_1 i) (by decide) rfl (fun ls hl => ?_)
        refine lv_goto (tgt := 29) X.x X.b d_Model_expand_55 (by decide) ?_
        exact ih (i + 1) s_14 (by omega) (by omega) (⟨fun j hj => (Nat.lt_or_ge j i).elim (fun z => ⟨by rw [es_14, updR_n2 _ _ _ _ (show j ≠ i by omega), es_13, updR_n2 _ _ _ _ (show j ≠ i by omega)]; exact (hE.1 j z).1, by rw [es_14, updR_n2 _ _ _ _ (show j ≠ i by omega), es_13, updR_n2 _ _ _ _ (show j ≠ i by omega)]; exact (hE.1 j z).2⟩) (fun z => ⟨by rw [show j = i by omega, es_14, updR_mf _ _ _ (show 25 ≠ 27 by decide), es_13, updR_hit], by rw [show j = i by omega, es_14, updR_hit]⟩), by rw [es_14, es_13]; exact (hE.2.up _ _ (by decide)).up _ _ (by decide)⟩) _ _ _ hM hL2 hL7 hL12 hS (lv_sub hl [1, 2, 3, 4, 5, 6, 0] rfl)
  exact lp 8 0 s0 (by omega) (by omega) (⟨fun j hj => absurd hj (Nat.not_lt_zero j), same.rf _ _⟩) _ _ _ hM hL2 hL7 hL12 hS (lv_sub hl [6, 5, 4, 3, 2, 1, 0] rfl)
set_option maxRecDepth 100000 in
set_option maxHeartbeats 4000000 in
theorem M_Model_expand_L8nn (l : Launch) (g : GG) {mo tq : Nat} {p0 : Nat → Int32} {s0 : Nat → Nat → Int32} {H0 : Heap} (hM : mAt g mo tq p0 s0 H0) {v_ r : Int32} (hL : oneL 8 (-1) (-1) v_ r s0) (hf3 : p0 3 = 0) : MM l y_Model_expand c_Model_expand 13 none 3 3 18 g H0 [.ref mo] (fun q => mo ≤ q ∧ q < mo + 23) (none) (fun H1 => ∃ p s, mAt g mo tq p s H1 ∧ p 0 = p0 0 ∧ s 2 = s0 2 ∧ dxP 0 p s) := by
  refine MM.of (by decide +kernel) (Nat.le_of_ble_eq_true rfl) ?_
  intro p e s m below meth cd X hH ls hl
  have X : CX g p s m _ meth cd c_Model_expand 13 none R_Model _ := X
  have hl : lv_has ls 13 [(0, .ref mo)] := hl
  have hS : va_S (AA (fun q => mo ≤ q ∧ q < mo + 23) H0) H0 H0 [] := va_S.rf
  have hlt0 := hM.lt
  have htq0 := hM.tq
  refine lv_bipush (v := 6) X.x X.b d_Model_expand_0 (by decide) ?_
  obtain ⟨q2, hq2⟩ := sz_of hS
  have hlt2 := hM.lt
  have hsz2 := hS.1
  refine m_newI X hS hq2 6 (by decide) (by decide) (by decide) (by omega) (by omega) d_Model_expand_2 (fun H hL2 hgr hS hz2 => ?_)
  have hfr := fr.of_grow (A := noA) hgr
  have hM := hM.frame hfr (fun q z => z.elim)
  refine lv_astore_n (lv' := [(1, .ref q2), (0, .ref mo)]) X.x X.b d_Model_expand_4 rfl hl (by decide) rfl (fun ls hl => ?_)
  refine lv_bipush (v := 6) X.x X.b d_Model_expand_5 (by decide) ?_
  obtain ⟨q7, hq7⟩ := sz_of hS
  have hlt7 := hM.lt
  have hsz7 := hS.1
  refine m_newI X hS hq7 6 (by decide) (by decide) (by decide) (by omega) (by omega) d_Model_expand_7 (fun H hL7 hgr hS hz2 => ?_)
  have hfr := fr.of_grow (A := noA) hgr
  have hM := hM.frame hfr (fun q z => z.elim)
  have hL2 := hL2.fr hfr (fun z => z)
  refine lv_astore_n (lv' := [(2, .ref q7), (1, .ref q2), (0, .ref mo)]) X.x X.b d_Model_expand_9 rfl hl (by decide) rfl (fun ls hl => ?_)
  refine lv_bipush (v := 6) X.x X.b d_Model_expand_10 (by decide) ?_
  obtain ⟨q12, hq12⟩ := sz_of hS
  have hlt12 := hM.lt
  have hsz12 := hS.1
  refine m_newI X hS hq12 6 (by decide) (by decide) (by decide) (by omega) (by omega) d_Model_expand_12 (fun H hL12 hgr hS hz2 => ?_)
  have hfr := fr.of_grow (A := noA) hgr
  have hM := hM.frame hfr (fun q z => z.elim)
  have hL2 := hL2.fr hfr (fun z => z)
  have hL7 := hL7.fr hfr (fun z => z)
  refine lv_astore_n (lv' := [(3, .ref q12), (2, .ref q7), (1, .ref q2), (0, .ref mo)]) X.x X.b d_Model_expand_14 rfl hl (by decide) rfl (fun ls hl => ?_)
  refine lv_iconst (v := 0) X.x X.b d_Model_expand_15 (by decide) ?_
  refine lv_istore (lv' := [(4, .int 0), (3, .ref q12), (2, .ref q7), (1, .ref q2), (0, .ref mo)]) X.x X.b d_Model_expand_16 hl (by decide) rfl (fun ls hl => ?_)
  refine lv_iconst (v := 0) X.x X.b d_Model_expand_18 (by decide) ?_
  refine lv_istore (lv' := [(5, .int 0), (4, .int 0), (3, .ref q12), (2, .ref q7), (1, .ref q2), (0, .ref mo)]) X.x X.b d_Model_expand_19 hl (by decide) rfl (fun ls hl => ?_)
  refine lv_aload_n X.x X.b d_Model_expand_21 rfl (lv_at hl 5 rfl) ?_
  refine lv_iconst (v := 0) X.x X.b d_Model_expand_22 (by decide) ?_
  refine m_put X ok_Model hS (Or.inl ⟨by omega, by omega⟩) hM.1 5 (by decide) k_Model_132 rfl (ok_Model.2.2.1 _ (by decide)) rfl rfl (Nat.le_of_ble_eq_true rfl) d_Model_expand_23 (fun H locs hp hcg hS => ?_)
  have hM := hM.f5 hp hcg
  obtain ⟨p_1, ep_1⟩ : ∃ z, z = upd p0 5 0 := ⟨_, rfl⟩
  rw [← ep_1] at hM
  have hL2 := hL2.off hcg (by omega)
  have hL7 := hL7.off hcg (by omega)
  have hL12 := hL12.off hcg (by omega)
  obtain ⟨p1, hp1⟩ : ∃ z, z = p_1 := ⟨_, rfl⟩
  rw [← hp1] at hM
  have hp1 : p1 = upd p0 5 0 := by rw [hp1, ep_1]
  have hp15 : p1 5 = 0 := by rw [hp1]; exact upd_hit _ _ _
  have hp13 : p1 3 = 0 := by rw [hp1]; exact (upd_mi _ _ _ (by decide)).trans hf3
  have hp10 : p1 0 = p0 0 := by rw [hp1]; exact upd_mi _ _ _ (by decide)
  refine lv_iconst (v := 0) X.x X.b d_Model_expand_26 (by decide) ?_
  refine lv_istore (lv' := [(6, .int 0), (5, .int 0), (4, .int 0), (3, .ref q12), (2, .ref q7), (1, .ref q2), (0, .ref mo)]) X.x X.b d_Model_expand_27 hl (by decide) rfl (fun ls hl => ?_)
  have lp : ∀ (n i : Nat) (s1 : Nat → Nat → Int32), n = 8 - i → i < 5000 → ((∀ j, j < i → s1 25 j = 0 ∧ s1 27 j = -1) ∧ same [25, 27] s0 s1) → ∀ (H : Heap) (locs : List Loc) (ls : Array Slot), mAt g mo tq p1 s1 H → pt g q2 (.inl (g.2 0, 6, .inl (fun _ => 0))) H → pt g q7 (.inl (g.2 0, 6, .inl (fun _ => 0))) H → pt g q12 (.inl (g.2 0, 6, .inl (fun _ => 0))) H → va_S (AA (fun q => mo ≤ q ∧ q < mo + 23) H0) H0 H locs → lv_has ls 13 [(0, .ref mo), (1, .ref q2), (2, .ref q7), (3, .ref q12), (4, .int 0), (5, .int 0), (6, .int (nI i))] → W p l e (rmK 3 3 18) s m ([.ref mo] : List Value).toArray below meth cd H locs 3 18 (MQ below (QM (none) (fun H1 => ∃ p s, mAt g mo tq p s H1 ∧ p 0 = p0 0 ∧ s 2 = s0 2 ∧ dxP 0 p s) (fun q => mo ≤ q ∧ q < mo + 23) H0) ([.ref mo] : List Value).toArray s 3 18 (AA (fun q => mo ≤ q ∧ q < mo + 23) H0)) (F0 m 29 ls []) := by
    intro n
    induction n with
    | zero =>
      intro i s1 hin hi5 hE H locs ls hM hL2 hL7 hL12 hS hl
      refine lv_iload X.x X.b d_Model_expand_29 (lv_at hl 6 rfl) ?_
      refine lv_bipush (v := 8) X.x X.b d_Model_expand_31 (by decide) ?_
      refine lv_icmp_ge (tgt := 58) X.x X.b d_Model_expand_33 (by decide) (fun c1 => ?_) (fun c1 => ?_)
      · skip
        have c1q := Int32.not_lt.mpr c1
        refine lv_iload X.x X.b d_Model_expand_58 (lv_at hl 4 rfl) ?_
        refine lv_if_lt (tgt := 369) X.x X.b d_Model_expand_60 (by decide) (fun c2 => ?_) (fun c2 => ?_)
        · exact absurd c2 (by decide)
        · skip
          have c2q := Int32.not_lt.mp c2
          refine lv_aload_n X.x X.b d_Model_expand_63 rfl (lv_at hl 0 rfl) ?_
          refine m_get (v := .int 0) X ok_Model hM.1 3 (by decide) k_Model_126 (congrArg (fun z => some (Value.int z)) (show p1 3 = 0 from (by rw [hp13]))) d_Model_expand_64 ?_
          refine lv_if_ne (tgt := 369) X.x X.b d_Model_expand_67 (by decide) (fun c3 => ?_) (fun c3 => ?_)
          · exact absurd c3 (by decide)
          · skip
            refine lv_aload_n X.x X.b d_Model_expand_70 rfl (lv_at hl 1 rfl) ?_
            refine lv_iload X.x X.b d_Model_expand_71 (lv_at hl 4 rfl) ?_
            refine m_ild (v := 0) X hL2 0 rfl (by omega) (by decide) (show (fun _ => 0) 0 = 0 from rfl) d_Model_expand_73 ?_
            refine lv_istore (lv' := [(6, .int 0), (0, .ref mo), (1, .ref q2), (2, .ref q7), (3, .ref q12), (4, .int 0), (5, .int 0)]) X.x X.b d_Model_expand_74 hl (by decide) rfl (fun ls hl => ?_)
            refine lv_aload_n X.x X.b d_Model_expand_76 rfl (lv_at hl 3 rfl) ?_
            refine lv_iload X.x X.b d_Model_expand_77 (lv_at hl 5 rfl) ?_
            refine m_ild (v := 0) X hL7 0 rfl (by omega) (by decide) (show (fun _ => 0) 0 = 0 from rfl) d_Model_expand_79 ?_
            refine lv_aload_n X.x X.b d_Model_expand_80 rfl (lv_at hl 1 rfl) ?_
            refine m_get (v := .ref (mo + 2)) X ok_Model hM.1 2 (by decide) k_Model_13 rfl d_Model_expand_81 ?_
            refine lv_iload X.x X.b d_Model_expand_84 (lv_at hl 0 rfl) ?_
            refine m_ild (v := 1) X hM.a2 0 rfl (by omega) (by decide) (show s1 2 0 = 1 from (by rw [hE.2 2 (by decide), hL.1.1])) d_Model_expand_86 ?_
            refine lv_icmp_ne (tgt := 96) X.x X.b d_Model_expand_87 (by decide) (fun c4 => ?_) (fun c4 => ?_)
            · skip
              refine lv_aload_n X.x X.b d_Model_expand_96 rfl (lv_at hl 3 rfl) ?_
              refine lv_iload X.x X.b d_Model_expand_97 (lv_at hl 5 rfl) ?_
              refine lv_dup2_11 X.x X.b d_Model_expand_99 rfl rfl ?_
              refine m_ild (v := 0) X hL7 0 rfl (by omega) (by decide) (show (fun _ => 0) 0 = 0 from rfl) d_Model_expand_100 ?_
              refine lv_dup_x2 X.x X.b d_Model_expand_101 rfl rfl rfl ?_
              refine lv_iconst (v := 1) X.x X.b d_Model_expand_102 (by decide) ?_
              refine lv_iadd X.x X.b d_Model_expand_103 ?_
              rw [show (0 + 1 : Int32) = 1 from by decide]
              refine m_ist X hS (Or.inr (by omega)) hL7 0 rfl (by omega) (by decide) d_Model_expand_104 (fun H locs hp hcg hS => ?_)
              have hL7 := hp
              obtain ⟨r_2, er_2⟩ : ∃ z, z = upd (fun _ => 0) 0 1 := ⟨_, rfl⟩
              rw [← er_2] at hL7
              have hM := hM.frame (fr.of_chg (A := fun q => q = q7) hcg rfl) (fun q z => by have z : q = q7 := z; have := hM.tq; omega)
              have hL2 := hL2.off hcg (by omega)
              have hL12 := hL12.off hcg (by omega)
              refine lv_istore (lv' := [(7, .int 0), (6, .int 0), (0, .ref mo), (1, .ref q2), (2, .ref q7), (3, .ref q12), (4, .int 0), (5, .int 0)]) X.x X.b d_Model_expand_105 hl (by decide) rfl (fun ls hl => ?_)
              refine lv_iload X.x X.b d_Model_expand_107 (lv_at hl 1 rfl) ?_
              refine lv_iload X.x X.b d_Model_expand_109 (lv_at hl 0 rfl) ?_
              refine m_callSP X hS (MP_ans (M_Model_at l g 0 0) (show (((0 : Int32) * 64 + 0) * 5) = 0 from by decide)) s_Model_96 rfl rfl (Nat.le_of_ble_eq_true rfl) hl.1 d_Model_expand_111 (by omega) (by decide) ⟨by omega, by omega⟩ (fun locs hS => ?_)
              refine lv_istore (lv' := [(8, .int 0), (7, .int 0), (6, .int 0), (0, .ref mo), (1, .ref q2), (2, .ref q7), (3, .ref q12), (4, .int 0), (5, .int 0)]) X.x X.b d_Model_expand_114 hl (by decide) rfl (fun ls hl => ?_)
              refine lv_aload_n X.x X.b d_Model_expand_116 rfl (lv_at hl 5 rfl) ?_
              refine lv_iconst (v := 0) X.x X.b d_Model_expand_117 (by decide) ?_
              refine m_ild (v := 1) X hL7 0 rfl (by omega) (by decide) (show r_2 0 = 1 from (by rw [er_2, upd_hit])) d_Model_expand_118 ?_
              refine lv_iconst (v := 1) X.x X.b d_Model_expand_119 (by decide) ?_
              refine lv_isub X.x X.b d_Model_expand_120 ?_
              rw [show (1 - 1 : Int32) = 0 from by decide]
              refine lv_istore (lv' := [(9, .int 0), (8, .int 0), (7, .int 0), (6, .int 0), (0, .ref mo), (1, .ref q2), (2, .ref q7), (3, .ref q12), (4, .int 0), (5, .int 0)]) X.x X.b d_Model_expand_121 hl (by decide) rfl (fun ls hl => ?_)
              refine lv_aload_n X.x X.b d_Model_expand_123 rfl (lv_at hl 4 rfl) ?_
              refine m_get (v := .ref tq) X ok_Model hM.1 1 (by decide) k_Model_9 rfl d_Model_expand_124 ?_
              refine lv_iload X.x X.b d_Model_expand_127 (lv_at hl 1 rfl) ?_
              refine m_ild (v := 8) X hM.a1 0 rfl (by omega) (by decide) (show s1 1 0 = 8 from (by rw [hE.2 1 (by decide), hL.2.1])) d_Model_expand_129 ?_
              refine lv_istore (lv' := [(10, .int 8), (9, .int 0), (8, .int 0), (7, .int 0), (6, .int 0), (0, .ref mo), (1, .ref q2), (2, .ref q7), (3, .ref q12), (4, .int 0), (5, .int 0)]) X.x X.b d_Model_expand_130 hl (by decide) rfl (fun ls hl => ?_)
              refine lv_aload_n X.x X.b d_Model_expand_132 rfl (lv_at hl 5 rfl) ?_
              refine m_get (v := .ref tq) X ok_Model hM.1 1 (by decide) k_Model_9 rfl d_Model_expand_133 ?_
              refine lv_iload X.x X.b d_Model_expand_136 (lv_at hl 2 rfl) ?_
              refine lv_iconst (v := 3) X.x X.b d_Model_expand_138 (by decide) ?_
              refine lv_iadd X.x X.b d_Model_expand_139 ?_
              rw [show (0 + 3 : Int32) = 3 from by decide]
              refine m_ild (v := v_) X hM.a1 3 rfl (by omega) (by decide) (show s1 1 3 = v_ from (by rw [hE.2 1 (by decide), hL.2.2.2.2.1])) d_Model_expand_140 ?_
              refine lv_aload_n X.x X.b d_Model_expand_141 rfl (lv_at hl 5 rfl) ?_
              refine m_get (v := .ref tq) X ok_Model hM.1 1 (by decide) k_Model_9 rfl d_Model_expand_142 ?_
              refine lv_iload X.x X.b d_Model_expand_145 (lv_at hl 2 rfl) ?_
              refine lv_iconst (v := 4) X.x X.b d_Model_expand_147 (by decide) ?_
              refine lv_iadd X.x X.b d_Model_expand_148 ?_
              rw [show (0 + 4 : Int32) = 4 from by decide]
              refine m_ild (v := r) X hM.a1 4 rfl (by omega) (by decide) (show s1 1 4 = r from (by rw [hE.2 1 (by decide), hL.2.2.2.2.2])) d_Model_expand_149 ?_
              refine lv_iconst (v := 1) X.x X.b d_Model_expand_150 (by decide) ?_
              refine lv_icmp_ne (tgt := 161) X.x X.b d_Model_expand_151 (by decide) (fun c5 => ?_) (fun c5 => ?_)
              · skip
                refine lv_iconst (v := 0) X.x X.b d_Model_expand_161 (by decide) ?_
                refine lv_iadd X.x X.b d_Model_expand_162 ?_
                rw [show (v_ + 0 : Int32) = v_ from Int32.add_zero _]
                refine lv_istore (lv' := [(11, .int v_), (10, .int 8), (9, .int 0), (8, .int 0), (7, .int 0), (6, .int 0), (0, .ref mo), (1, .ref q2), (2, .ref q7), (3, .ref q12), (4, .int 0), (5, .int 0)]) X.x X.b d_Model_expand_163 hl (by decide) rfl (fun ls hl => ?_)
                refine lv_iinc (v := 1) (lv' := [(5, .int 1), (11, .int v_), (10, .int 8), (9, .int 0), (8, .int 0), (7, .int 0), (6, .int 0), (0, .ref mo), (1, .ref q2), (2, .ref q7), (3, .ref q12), (4, .int 0)]) X.x X.b d_Model_expand_165 hl (k := 11) rfl (by decide) (by decide) rfl (fun ls hl => ?_)
                refine lv_iload X.x X.b d_Model_expand_168 (lv_at hl 0 rfl) ?_
                refine lv_sipush (v := 400) X.x X.b d_Model_expand_170 (by decide) ?_
                refine lv_icmp_gt (tgt := 193) X.x X.b d_Model_expand_173 (by decide) (fun c6 => ?_) (fun c6 => ?_)
                · exact absurd c6 (by decide)
                · skip
                  have c6q := Int32.not_lt.mp c6
                  refine lv_iload X.x X.b d_Model_expand_176 (lv_at hl 2 rfl) ?_
                  refine m_callSP X hS (MP_ans (M_Model_makes l g 8) (show b2i ((8 : Int32) < 8) = 0 from by decide)) s_Model_138 rfl rfl (Nat.le_of_ble_eq_true rfl) hl.1 d_Model_expand_178 (by omega) (by decide) ⟨by omega, by omega⟩ (fun locs hS => ?_)
                  refine lv_if_eq (tgt := 203) X.x X.b d_Model_expand_181 (by decide) (fun c7 => ?_) (fun c7 => ?_)
                  · skip
                    refine lv_iload X.x X.b d_Model_expand_203 (lv_at hl 2 rfl) ?_
                    refine lv_bipush (v := 10) X.x X.b d_Model_expand_205 (by decide) ?_
                    refine lv_icmp_ne (tgt := 259) X.x X.b d_Model_expand_207 (by decide) (fun c8 => ?_) (fun c8 => ?_)
                    · skip
                      refine lv_iload X.x X.b d_Model_expand_259 (lv_at hl 2 rfl) ?_
                      refine lv_bipush (v := 8) X.x X.b d_Model_expand_261 (by decide) ?_
                      refine lv_icmp_ne (tgt := 329) X.x X.b d_Model_expand_263 (by decide) (fun c9 => ?_) (fun c9 => ?_)
                      · exact absurd c9 (by decide)
                      · skip
                        refine lv_iload X.x X.b d_Model_expand_266 (lv_at hl 1 rfl) ?_
                        refine lv_aload_n X.x X.b d_Model_expand_268 rfl (lv_at hl 7 rfl) ?_
                        refine lv_aload_n X.x X.b d_Model_expand_269 rfl (lv_at hl 7 rfl) ?_
                        refine m_get (v := .ref tq) X ok_Model hM.1 1 (by decide) k_Model_9 rfl d_Model_expand_270 ?_
                        refine lv_iload X.x X.b d_Model_expand_273 (lv_at hl 4 rfl) ?_
                        refine lv_iconst (v := 1) X.x X.b d_Model_expand_275 (by decide) ?_
                        refine lv_iadd X.x X.b d_Model_expand_276 ?_
                        rw [show (0 + 1 : Int32) = 1 from by decide]
                        refine m_ild (v := (-1)) X hM.a1 1 rfl (by omega) (by decide) (show s1 1 1 = (-1) from (by rw [hE.2 1 (by decide), hL.2.2.1])) d_Model_expand_277 ?_
                        refine lv_iload X.x X.b d_Model_expand_278 (lv_at hl 3 rfl) ?_
                        refine m_callP X hS (M_Model_setNow_n l g hM 0) v_Model_141 hM.1 rfl rfl rfl (Nat.le_of_ble_eq_true rfl) hl.1 d_Model_expand_280 (by omega) (by decide) ⟨by omega, by omega⟩ (fun locs hS => ?_)
                        refine lv_iadd X.x X.b d_Model_expand_283 ?_
                        rw [show (v_ + 0 : Int32) = v_ from Int32.add_zero _]
                        refine lv_aload_n X.x X.b d_Model_expand_284 rfl (lv_at hl 7 rfl) ?_
                        refine lv_aload_n X.x X.b d_Model_expand_285 rfl (lv_at hl 7 rfl) ?_
                        refine m_get (v := .ref tq) X ok_Model hM.1 1 (by decide) k_Model_9 rfl d_Model_expand_286 ?_
                        refine lv_iload X.x X.b d_Model_expand_289 (lv_at hl 4 rfl) ?_
                        refine lv_iconst (v := 2) X.x X.b d_Model_expand_291 (by decide) ?_
                        refine lv_iadd X.x X.b d_Model_expand_292 ?_
                        rw [show (0 + 2 : Int32) = 2 from by decide]
                        refine m_ild (v := (-1)) X hM.a1 2 rfl (by omega) (by decide) (show s1 1 2 = (-1) from (by rw [hE.2 1 (by decide), hL.2.2.2.1])) d_Model_expand_293 ?_
                        refine lv_iload X.x X.b d_Model_expand_294 (lv_at hl 3 rfl) ?_
                        refine m_callP X hS (M_Model_setNow_n l g hM 0) v_Model_141 hM.1 rfl rfl rfl (Nat.le_of_ble_eq_true rfl) hl.1 d_Model_expand_296 (by omega) (by decide) ⟨by omega, by omega⟩ (fun locs hS => ?_)
                        refine lv_isub X.x X.b d_Model_expand_299 ?_
                        refine lv_istore (lv' := [(12, .int (v_ - 0)), (5, .int 1), (11, .int v_), (10, .int 8), (9, .int 0), (8, .int 0), (7, .int 0), (6, .int 0), (0, .ref mo), (1, .ref q2), (2, .ref q7), (3, .ref q12), (4, .int 0)]) X.x X.b d_Model_expand_300 hl (by decide) rfl (fun ls hl => ?_)
                        refine lv_aload_n X.x X.b d_Model_expand_302 rfl (lv_at hl 8 rfl) ?_
                        refine m_get (v := .int 0) X ok_Model hM.1 3 (by decide) k_Model_126 (congrArg (fun z => some (Value.int z)) (show p1 3 = 0 from (by rw [hp13]))) d_Model_expand_303 ?_
                        refine lv_if_ne (tgt := 326) X.x X.b d_Model_expand_306 (by decide) (fun c10 => ?_) (fun c10 => ?_)
                        · exact absurd c7 c10
                        · skip
                          refine lv_iload X.x X.b d_Model_expand_309 (lv_at hl 0 rfl) ?_
                          refine lv_if_gt (tgt := 326) X.x X.b d_Model_expand_311 (by decide) (fun c11 => ?_) (fun c11 => ?_)
                          · skip
                            have c11q := Int32.not_le.mpr c11
                            refine lv_goto (tgt := 366) X.x X.b d_Model_expand_326 (by decide) ?_
                            refine lv_goto (tgt := 58) X.x X.b d_Model_expand_366 (by decide) ?_
                            refine lv_iload X.x X.b d_Model_expand_58 (lv_at hl 12 rfl) ?_
                            refine lv_if_lt (tgt := 369) X.x X.b d_Model_expand_60 (by decide) (fun c12 => ?_) (fun c12 => ?_)
                            · exact absurd c12 c2
                            · skip
                              have c12q := Int32.not_lt.mp c12
                              refine lv_aload_n X.x X.b d_Model_expand_63 rfl (lv_at hl 8 rfl) ?_
                              refine m_get (v := .int 0) X ok_Model hM.1 3 (by decide) k_Model_126 (congrArg (fun z => some (Value.int z)) (show p1 3 = 0 from (by rw [hp13]))) d_Model_expand_64 ?_
                              refine lv_if_ne (tgt := 369) X.x X.b d_Model_expand_67 (by decide) (fun c13 => ?_) (fun c13 => ?_)
                              · exact absurd c10 c13
                              · skip
                                refine lv_aload_n X.x X.b d_Model_expand_70 rfl (lv_at hl 9 rfl) ?_
                                refine lv_iload X.x X.b d_Model_expand_71 (lv_at hl 12 rfl) ?_
                                refine m_ild (v := 0) X hL2 0 rfl (by omega) (by decide) (show (fun _ => 0) 0 = 0 from rfl) d_Model_expand_73 ?_
                                refine lv_istore (lv' := [(6, .int 0), (12, .int (v_ - 0)), (5, .int 1), (11, .int v_), (10, .int 8), (9, .int 0), (8, .int 0), (7, .int 0), (0, .ref mo), (1, .ref q2), (2, .ref q7), (3, .ref q12), (4, .int 0)]) X.x X.b d_Model_expand_74 hl (by decide) rfl (fun ls hl => ?_)
                                refine lv_aload_n X.x X.b d_Model_expand_76 rfl (lv_at hl 10 rfl) ?_
                                refine lv_iload X.x X.b d_Model_expand_77 (lv_at hl 12 rfl) ?_
                                refine m_ild (v := 1) X hL7 0 rfl (by omega) (by decide) (show r_2 0 = 1 from (by rw [er_2, upd_hit])) d_Model_expand_79 ?_
                                refine lv_aload_n X.x X.b d_Model_expand_80 rfl (lv_at hl 8 rfl) ?_
                                refine m_get (v := .ref (mo + 2)) X ok_Model hM.1 2 (by decide) k_Model_13 rfl d_Model_expand_81 ?_
                                refine lv_iload X.x X.b d_Model_expand_84 (lv_at hl 0 rfl) ?_
                                refine m_ild (v := 1) X hM.a2 0 rfl (by omega) (by decide) (show s1 2 0 = 1 from (by rw [hE.2 2 (by decide), hL.1.1])) d_Model_expand_86 ?_
                                refine lv_icmp_ne (tgt := 96) X.x X.b d_Model_expand_87 (by decide) (fun c14 => ?_) (fun c14 => ?_)
                                · exact absurd c14 (by decide)
                                · skip
                                  refine lv_iinc (v := (-1)) (lv' := [(4, .int (-1)), (6, .int 0), (12, .int (v_ - 0)), (5, .int 1), (11, .int v_), (10, .int 8), (9, .int 0), (8, .int 0), (7, .int 0), (0, .ref mo), (1, .ref q2), (2, .ref q7), (3, .ref q12)]) X.x X.b d_Model_expand_90 hl (k := 12) rfl (by decide) (by decide) rfl (fun ls hl => ?_)
                                  refine lv_goto (tgt := 58) X.x X.b d_Model_expand_93 (by decide) ?_
                                  refine lv_iload X.x X.b d_Model_expand_58 (lv_at hl 0 rfl) ?_
                                  refine lv_if_lt (tgt := 369) X.x X.b d_Model_expand_60 (by decide) (fun c15 => ?_) (fun c15 => ?_)
                                  · skip
                                    have c15q := Int32.not_le.mpr c15
                                    refine lv_aload_n X.x X.b d_Model_expand_369 rfl (lv_at hl 9 rfl) ?_
                                    refine m_get (v := .int 0) X ok_Model hM.1 3 (by decide) k_Model_126 (congrArg (fun z => some (Value.int z)) (show p1 3 = 0 from (by rw [hp13]))) d_Model_expand_370 ?_
                                    refine lv_if_ne (tgt := 387) X.x X.b d_Model_expand_373 (by decide) (fun c16 => ?_) (fun c16 => ?_)
                                    · exact absurd c13 c16
                                    · skip
                                      refine lv_aload_n X.x X.b d_Model_expand_376 rfl (lv_at hl 9 rfl) ?_
                                      refine lv_bipush (v := 6) X.x X.b d_Model_expand_377 (by decide) ?_
                                      refine lv_iconst (v := -1) X.x X.b d_Model_expand_379 (by decide) ?_
                                      refine lv_iconst (v := -1) X.x X.b d_Model_expand_380 (by decide) ?_
                                      refine lv_iconst (v := 0) X.x X.b d_Model_expand_381 (by decide) ?_
                                      refine lv_iconst (v := -1) X.x X.b d_Model_expand_382 (by decide) ?_
                                      refine lv_iconst (v := 0) X.x X.b d_Model_expand_383 (by decide) ?_
                                      have hR := M_Model_item (c := 0) l g hM (show p1 5 = 0 from (by rw [hp15])) (by omega) 6 (-1) (-1) 0 (-1) 0
                                      refine m_callM X hS hR v_Model_151 hM.1 rfl rfl rfl (Nat.le_of_ble_eq_true rfl) hl.1 d_Model_expand_384 (by omega) (by decide) ⟨by omega, by omega⟩ (fun q z => by have z : mo ≤ q ∧ q < mo + 23 := z; exact ⟨by omega, by omega⟩) (fun H locs hM hfr hS => ?_)
                                      have hL2 := hL2.fr hfr (fun z => by have z : mo ≤ q2 ∧ q2 < mo + 23 := z; omega)
                                      have hL7 := hL7.fr hfr (fun z => by have z : mo ≤ q7 ∧ q7 < mo + 23 := z; omega)
                                      have hL12 := hL12.fr hfr (fun z => by have z : mo ≤ q12 ∧ q12 < mo + 23 := z; omega)
                                      have hM : mAt g mo tq (upd p1 5 1) _ H := hM
                                      obtain ⟨p_3, ep_3⟩ : ∃ z, z = upd p1 5 1 := ⟨_, rfl⟩
                                      rw [← ep_3] at hM
                                      obtain ⟨s_4, es_4⟩ : ∃ z, z = itR s1 0 6 (-1) (-1) 0 (-1) 0 := ⟨_, rfl⟩
                                      rw [← es_4] at hM
                                      exact m_vret X hS (by omega) (by omega) d_Model_expand_387 rfl ⟨_, _, hM, (by rw [ep_3, upd_mi _ _ _ (show 0 ≠ 5 by decide), hp10]), by rw [es_4, itR_o s1 0 6 (-1) (-1) 0 (-1) 0 2 (by decide), hE.2 2 (by decide)], ⟨(by rw [ep_3, upd_mi _ _ _ (show 3 ≠ 5 by decide), hp13]), (show p_3 5 = 1 from (by rw [ep_3, upd_hit]))⟩, fun k hk => absurd hk (Nat.not_lt_zero k), (by rw [es_4, (itR_at s1 0 6 (-1) (-1) 0 (-1) 0).1])⟩
                                  · exact absurd c15 (by decide)
                          · skip
                            have c11q := Int32.not_lt.mp c11
                            refine lv_aload_n X.x X.b d_Model_expand_314 rfl (lv_at hl 10 rfl) ?_
                            refine lv_iload X.x X.b d_Model_expand_315 (lv_at hl 12 rfl) ?_
                            refine lv_aload_n X.x X.b d_Model_expand_317 rfl (lv_at hl 8 rfl) ?_
                            refine lv_iload X.x X.b d_Model_expand_318 (lv_at hl 7 rfl) ?_
                            refine lv_iload X.x X.b d_Model_expand_320 (lv_at hl 6 rfl) ?_
                            refine m_callP X hS (M_Model_endOf_1 l g hM (show s1 2 0 = 1 from (by rw [hE.2 2 (by decide), hL.1.1]))) v_Model_144 hM.1 rfl rfl rfl (Nat.le_of_ble_eq_true rfl) hl.1 d_Model_expand_322 (by omega) (by decide) ⟨by omega, by omega⟩ (fun locs hS => ?_)
                            refine m_ist X hS (Or.inr (by omega)) hL7 0 rfl (by omega) (by decide) d_Model_expand_325 (fun H locs hp hcg hS => ?_)
                            have hL7 := hp
                            obtain ⟨r_5, er_5⟩ : ∃ z, z = upd r_2 0 1 := ⟨_, rfl⟩
                            rw [← er_5] at hL7
                            have hM := hM.frame (fr.of_chg (A := fun q => q = q7) hcg rfl) (fun q z => by have z : q = q7 := z; have := hM.tq; omega)
                            have hL2 := hL2.off hcg (by omega)
                            have hL12 := hL12.off hcg (by omega)
                            refine lv_goto (tgt := 366) X.x X.b d_Model_expand_326 (by decide) ?_
                            refine lv_goto (tgt := 58) X.x X.b d_Model_expand_366 (by decide) ?_
                            refine lv_iload X.x X.b d_Model_expand_58 (lv_at hl 12 rfl) ?_
                            refine lv_if_lt (tgt := 369) X.x X.b d_Model_expand_60 (by decide) (fun c17 => ?_) (fun c17 => ?_)
                            · exact absurd c17 c2
                            · skip
                              have c17q := Int32.not_lt.mp c17
                              refine lv_aload_n X.x X.b d_Model_expand_63 rfl (lv_at hl 8 rfl) ?_
                              refine m_get (v := .int 0) X ok_Model hM.1 3 (by decide) k_Model_126 (congrArg (fun z => some (Value.int z)) (show p1 3 = 0 from (by rw [hp13]))) d_Model_expand_64 ?_
                              refine lv_if_ne (tgt := 369) X.x X.b d_Model_expand_67 (by decide) (fun c18 => ?_) (fun c18 => ?_)
                              · exact absurd c10 c18
                              · skip
                                refine lv_aload_n X.x X.b d_Model_expand_70 rfl (lv_at hl 9 rfl) ?_
                                refine lv_iload X.x X.b d_Model_expand_71 (lv_at hl 12 rfl) ?_
                                refine m_ild (v := 0) X hL2 0 rfl (by omega) (by decide) (show (fun _ => 0) 0 = 0 from rfl) d_Model_expand_73 ?_
                                refine lv_istore (lv' := [(6, .int 0), (12, .int (v_ - 0)), (5, .int 1), (11, .int v_), (10, .int 8), (9, .int 0), (8, .int 0), (7, .int 0), (0, .ref mo), (1, .ref q2), (2, .ref q7), (3, .ref q12), (4, .int 0)]) X.x X.b d_Model_expand_74 hl (by decide) rfl (fun ls hl => ?_)
                                refine lv_aload_n X.x X.b d_Model_expand_76 rfl (lv_at hl 10 rfl) ?_
                                refine lv_iload X.x X.b d_Model_expand_77 (lv_at hl 12 rfl) ?_
                                refine m_ild (v := 1) X hL7 0 rfl (by omega) (by decide) (show r_5 0 = 1 from (by rw [er_5, upd_hit])) d_Model_expand_79 ?_
                                refine lv_aload_n X.x X.b d_Model_expand_80 rfl (lv_at hl 8 rfl) ?_
                                refine m_get (v := .ref (mo + 2)) X ok_Model hM.1 2 (by decide) k_Model_13 rfl d_Model_expand_81 ?_
                                refine lv_iload X.x X.b d_Model_expand_84 (lv_at hl 0 rfl) ?_
                                refine m_ild (v := 1) X hM.a2 0 rfl (by omega) (by decide) (show s1 2 0 = 1 from (by rw [hE.2 2 (by decide), hL.1.1])) d_Model_expand_86 ?_
                                refine lv_icmp_ne (tgt := 96) X.x X.b d_Model_expand_87 (by decide) (fun c19 => ?_) (fun c19 => ?_)
                                · exact absurd c19 (by decide)
                                · skip
                                  refine lv_iinc (v := (-1)) (lv' := [(4, .int (-1)), (6, .int 0), (12, .int (v_ - 0)), (5, .int 1), (11, .int v_), (10, .int 8), (9, .int 0), (8, .int 0), (7, .int 0), (0, .ref mo), (1, .ref q2), (2, .ref q7), (3, .ref q12)]) X.x X.b d_Model_expand_90 hl (k := 12) rfl (by decide) (by decide) rfl (fun ls hl => ?_)
                                  refine lv_goto (tgt := 58) X.x X.b d_Model_expand_93 (by decide) ?_
                                  refine lv_iload X.x X.b d_Model_expand_58 (lv_at hl 0 rfl) ?_
                                  refine lv_if_lt (tgt := 369) X.x X.b d_Model_expand_60 (by decide) (fun c20 => ?_) (fun c20 => ?_)
                                  · skip
                                    have c20q := Int32.not_le.mpr c20
                                    refine lv_aload_n X.x X.b d_Model_expand_369 rfl (lv_at hl 9 rfl) ?_
                                    refine m_get (v := .int 0) X ok_Model hM.1 3 (by decide) k_Model_126 (congrArg (fun z => some (Value.int z)) (show p1 3 = 0 from (by rw [hp13]))) d_Model_expand_370 ?_
                                    refine lv_if_ne (tgt := 387) X.x X.b d_Model_expand_373 (by decide) (fun c21 => ?_) (fun c21 => ?_)
                                    · exact absurd c18 c21
                                    · skip
                                      refine lv_aload_n X.x X.b d_Model_expand_376 rfl (lv_at hl 9 rfl) ?_
                                      refine lv_bipush (v := 6) X.x X.b d_Model_expand_377 (by decide) ?_
                                      refine lv_iconst (v := -1) X.x X.b d_Model_expand_379 (by decide) ?_
                                      refine lv_iconst (v := -1) X.x X.b d_Model_expand_380 (by decide) ?_
                                      refine lv_iconst (v := 0) X.x X.b d_Model_expand_381 (by decide) ?_
                                      refine lv_iconst (v := -1) X.x X.b d_Model_expand_382 (by decide) ?_
                                      refine lv_iconst (v := 0) X.x X.b d_Model_expand_383 (by decide) ?_
                                      have hR := M_Model_item (c := 0) l g hM (show p1 5 = 0 from (by rw [hp15])) (by omega) 6 (-1) (-1) 0 (-1) 0
                                      refine m_callM X hS hR v_Model_151 hM.1 rfl rfl rfl (Nat.le_of_ble_eq_true rfl) hl.1 d_Model_expand_384 (by omega) (by decide) ⟨by omega, by omega⟩ (fun q z => by have z : mo ≤ q ∧ q < mo + 23 := z; exact ⟨by omega, by omega⟩) (fun H locs hM hfr hS => ?_)
                                      have hL2 := hL2.fr hfr (fun z => by have z : mo ≤ q2 ∧ q2 < mo + 23 := z; omega)
                                      have hL7 := hL7.fr hfr (fun z => by have z : mo ≤ q7 ∧ q7 < mo + 23 := z; omega)
                                      have hL12 := hL12.fr hfr (fun z => by have z : mo ≤ q12 ∧ q12 < mo + 23 := z; omega)
                                      have hM : mAt g mo tq (upd p1 5 1) _ H := hM
                                      obtain ⟨p_6, ep_6⟩ : ∃ z, z = upd p1 5 1 := ⟨_, rfl⟩
                                      rw [← ep_6] at hM
                                      obtain ⟨s_7, es_7⟩ : ∃ z, z = itR s1 0 6 (-1) (-1) 0 (-1) 0 := ⟨_, rfl⟩
                                      rw [← es_7] at hM
                                      exact m_vret X hS (by omega) (by omega) d_Model_expand_387 rfl ⟨_, _, hM, (by rw [ep_6, upd_mi _ _ _ (show 0 ≠ 5 by decide), hp10]), by rw [es_7, itR_o s1 0 6 (-1) (-1) 0 (-1) 0 2 (by decide), hE.2 2 (by decide)], ⟨(by rw [ep_6, upd_mi _ _ _ (show 3 ≠ 5 by decide), hp13]), (show p_6 5 = 1 from (by rw [ep_6, upd_hit]))⟩, fun k hk => absurd hk (Nat.not_lt_zero k), (by rw [es_7, (itR_at s1 0 6 (-1) (-1) 0 (-1) 0).1])⟩
                                  · exact absurd c20 (by decide)
                    · exact absurd c8 (by decide)
                  · exact absurd c3 c7
              · skip
                refine lv_aload_n X.x X.b d_Model_expand_154 rfl (lv_at hl 8 rfl) ?_
                refine lv_iload X.x X.b d_Model_expand_155 (lv_at hl 9 rfl) ?_
                refine m_ild (v := 0) X hL12 0 rfl (by omega) (by decide) (show (fun _ => 0) 0 = 0 from rfl) d_Model_expand_157 ?_
                refine lv_goto (tgt := 162) X.x X.b d_Model_expand_158 (by decide) ?_
                refine lv_iadd X.x X.b d_Model_expand_162 ?_
                rw [show (v_ + 0 : Int32) = v_ from Int32.add_zero _]
                refine lv_istore (lv' := [(11, .int v_), (10, .int 8), (9, .int 0), (8, .int 0), (7, .int 0), (6, .int 0), (0, .ref mo), (1, .ref q2), (2, .ref q7), (3, .ref q12), (4, .int 0), (5, .int 0)]) X.x X.b d_Model_expand_163 hl (by decide) rfl (fun ls hl => ?_)
                refine lv_iinc (v := 1) (lv' := [(5, .int 1), (11, .int v_), (10, .int 8), (9, .int 0), (8, .int 0), (7, .int 0), (6, .int 0), (0, .ref mo), (1, .ref q2), (2, .ref q7), (3, .ref q12), (4, .int 0)]) X.x X.b d_Model_expand_165 hl (k := 11) rfl (by decide) (by decide) rfl (fun ls hl => ?_)
                refine lv_iload X.x X.b d_Model_expand_168 (lv_at hl 0 rfl) ?_
                refine lv_sipush (v := 400) X.x X.b d_Model_expand_170 (by decide) ?_
                refine lv_icmp_gt (tgt := 193) X.x X.b d_Model_expand_173 (by decide) (fun c22 => ?_) (fun c22 => ?_)
                · exact absurd c22 (by decide)
                · skip
                  have c22q := Int32.not_lt.mp c22
                  refine lv_iload X.x X.b d_Model_expand_176 (lv_at hl 2 rfl) ?_
                  refine m_callSP X hS (MP_ans (M_Model_makes l g 8) (show b2i ((8 : Int32) < 8) = 0 from by decide)) s_Model_138 rfl rfl (Nat.le_of_ble_eq_true rfl) hl.1 d_Model_expand_178 (by omega) (by decide) ⟨by omega, by omega⟩ (fun locs hS => ?_)
                  refine lv_if_eq (tgt := 203) X.x X.b d_Model_expand_181 (by decide) (fun c23 => ?_) (fun c23 => ?_)
                  · skip
                    refine lv_iload X.x X.b d_Model_expand_203 (lv_at hl 2 rfl) ?_
                    refine lv_bipush (v := 10) X.x X.b d_Model_expand_205 (by decide) ?_
                    refine lv_icmp_ne (tgt := 259) X.x X.b d_Model_expand_207 (by decide) (fun c24 => ?_) (fun c24 => ?_)
                    · skip
                      refine lv_iload X.x X.b d_Model_expand_259 (lv_at hl 2 rfl) ?_
                      refine lv_bipush (v := 8) X.x X.b d_Model_expand_261 (by decide) ?_
                      refine lv_icmp_ne (tgt := 329) X.x X.b d_Model_expand_263 (by decide) (fun c25 => ?_) (fun c25 => ?_)
                      · exact absurd c25 (by decide)
                      · skip
                        refine lv_iload X.x X.b d_Model_expand_266 (lv_at hl 1 rfl) ?_
                        refine lv_aload_n X.x X.b d_Model_expand_268 rfl (lv_at hl 7 rfl) ?_
                        refine lv_aload_n X.x X.b d_Model_expand_269 rfl (lv_at hl 7 rfl) ?_
                        refine m_get (v := .ref tq) X ok_Model hM.1 1 (by decide) k_Model_9 rfl d_Model_expand_270 ?_
                        refine lv_iload X.x X.b d_Model_expand_273 (lv_at hl 4 rfl) ?_
                        refine lv_iconst (v := 1) X.x X.b d_Model_expand_275 (by decide) ?_
                        refine lv_iadd X.x X.b d_Model_expand_276 ?_
                        rw [show (0 + 1 : Int32) = 1 from by decide]
                        refine m_ild (v := (-1)) X hM.a1 1 rfl (by omega) (by decide) (show s1 1 1 = (-1) from (by rw [hE.2 1 (by decide), hL.2.2.1])) d_Model_expand_277 ?_
                        refine lv_iload X.x X.b d_Model_expand_278 (lv_at hl 3 rfl) ?_
                        refine m_callP X hS (M_Model_setNow_n l g hM 0) v_Model_141 hM.1 rfl rfl rfl (Nat.le_of_ble_eq_true rfl) hl.1 d_Model_expand_280 (by omega) (by decide) ⟨by omega, by omega⟩ (fun locs hS => ?_)
                        refine lv_iadd X.x X.b d_Model_expand_283 ?_
                        rw [show (v_ + 0 : Int32) = v_ from Int32.add_zero _]
                        refine lv_aload_n X.x X.b d_Model_expand_284 rfl (lv_at hl 7 rfl) ?_
                        refine lv_aload_n X.x X.b d_Model_expand_285 rfl (lv_at hl 7 rfl) ?_
                        refine m_get (v := .ref tq) X ok_Model hM.1 1 (by decide) k_Model_9 rfl d_Model_expand_286 ?_
                        refine lv_iload X.x X.b d_Model_expand_289 (lv_at hl 4 rfl) ?_
                        refine lv_iconst (v := 2) X.x X.b d_Model_expand_291 (by decide) ?_
                        refine lv_iadd X.x X.b d_Model_expand_292 ?_
                        rw [show (0 + 2 : Int32) = 2 from by decide]
                        refine m_ild (v := (-1)) X hM.a1 2 rfl (by omega) (by decide) (show s1 1 2 = (-1) from (by rw [hE.2 1 (by decide), hL.2.2.2.1])) d_Model_expand_293 ?_
                        refine lv_iload X.x X.b d_Model_expand_294 (lv_at hl 3 rfl) ?_
                        refine m_callP X hS (M_Model_setNow_n l g hM 0) v_Model_141 hM.1 rfl rfl rfl (Nat.le_of_ble_eq_true rfl) hl.1 d_Model_expand_296 (by omega) (by decide) ⟨by omega, by omega⟩ (fun locs hS => ?_)
                        refine lv_isub X.x X.b d_Model_expand_299 ?_
                        refine lv_istore (lv' := [(12, .int (v_ - 0)), (5, .int 1), (11, .int v_), (10, .int 8), (9, .int 0), (8, .int 0), (7, .int 0), (6, .int 0), (0, .ref mo), (1, .ref q2), (2, .ref q7), (3, .ref q12), (4, .int 0)]) X.x X.b d_Model_expand_300 hl (by decide) rfl (fun ls hl => ?_)
                        refine lv_aload_n X.x X.b d_Model_expand_302 rfl (lv_at hl 8 rfl) ?_
                        refine m_get (v := .int 0) X ok_Model hM.1 3 (by decide) k_Model_126 (congrArg (fun z => some (Value.int z)) (show p1 3 = 0 from (by rw [hp13]))) d_Model_expand_303 ?_
                        refine lv_if_ne (tgt := 326) X.x X.b d_Model_expand_306 (by decide) (fun c26 => ?_) (fun c26 => ?_)
                        · exact absurd c23 c26
                        · skip
                          refine lv_iload X.x X.b d_Model_expand_309 (lv_at hl 0 rfl) ?_
                          refine lv_if_gt (tgt := 326) X.x X.b d_Model_expand_311 (by decide) (fun c27 => ?_) (fun c27 => ?_)
                          · skip
                            have c27q := Int32.not_le.mpr c27
                            refine lv_goto (tgt := 366) X.x X.b d_Model_expand_326 (by decide) ?_
                            refine lv_goto (tgt := 58) X.x X.b d_Model_expand_366 (by decide) ?_
                            refine lv_iload X.x X.b d_Model_expand_58 (lv_at hl 12 rfl) ?_
                            refine lv_if_lt (tgt := 369) X.x X.b d_Model_expand_60 (by decide) (fun c28 => ?_) (fun c28 => ?_)
                            · exact absurd c28 c2
                            · skip
                              have c28q := Int32.not_lt.mp c28
                              refine lv_aload_n X.x X.b d_Model_expand_63 rfl (lv_at hl 8 rfl) ?_
                              refine m_get (v := .int 0) X ok_Model hM.1 3 (by decide) k_Model_126 (congrArg (fun z => some (Value.int z)) (show p1 3 = 0 from (by rw [hp13]))) d_Model_expand_64 ?_
                              refine lv_if_ne (tgt := 369) X.x X.b d_Model_expand_67 (by decide) (fun c29 => ?_) (fun c29 => ?_)
                              · exact absurd c26 c29
                              · skip
                                refine lv_aload_n X.x X.b d_Model_expand_70 rfl (lv_at hl 9 rfl) ?_
                                refine lv_iload X.x X.b d_Model_expand_71 (lv_at hl 12 rfl) ?_
                                refine m_ild (v := 0) X hL2 0 rfl (by omega) (by decide) (show (fun _ => 0) 0 = 0 from rfl) d_Model_expand_73 ?_
                                refine lv_istore (lv' := [(6, .int 0), (12, .int (v_ - 0)), (5, .int 1), (11, .int v_), (10, .int 8), (9, .int 0), (8, .int 0), (7, .int 0), (0, .ref mo), (1, .ref q2), (2, .ref q7), (3, .ref q12), (4, .int 0)]) X.x X.b d_Model_expand_74 hl (by decide) rfl (fun ls hl => ?_)
                                refine lv_aload_n X.x X.b d_Model_expand_76 rfl (lv_at hl 10 rfl) ?_
                                refine lv_iload X.x X.b d_Model_expand_77 (lv_at hl 12 rfl) ?_
                                refine m_ild (v := 1) X hL7 0 rfl (by omega) (by decide) (show r_2 0 = 1 from (by rw [er_2, upd_hit])) d_Model_expand_79 ?_
                                refine lv_aload_n X.x X.b d_Model_expand_80 rfl (lv_at hl 8 rfl) ?_
                                refine m_get (v := .ref (mo + 2)) X ok_Model hM.1 2 (by decide) k_Model_13 rfl d_Model_expand_81 ?_
                                refine lv_iload X.x X.b d_Model_expand_84 (lv_at hl 0 rfl) ?_
                                refine m_ild (v := 1) X hM.a2 0 rfl (by omega) (by decide) (show s1 2 0 = 1 from (by rw [hE.2 2 (by decide), hL.1.1])) d_Model_expand_86 ?_
                                refine lv_icmp_ne (tgt := 96) X.x X.b d_Model_expand_87 (by decide) (fun c30 => ?_) (fun c30 => ?_)
                                · exact absurd c30 (by decide)
                                · skip
                                  refine lv_iinc (v := (-1)) (lv' := [(4, .int (-1)), (6, .int 0), (12, .int (v_ - 0)), (5, .int 1), (11, .int v_), (10, .int 8), (9, .int 0), (8, .int 0), (7, .int 0), (0, .ref mo), (1, .ref q2), (2, .ref q7), (3, .ref q12)]) X.x X.b d_Model_expand_90 hl (k := 12) rfl (by decide) (by decide) rfl (fun ls hl => ?_)
                                  refine lv_goto (tgt := 58) X.x X.b d_Model_expand_93 (by decide) ?_
                                  refine lv_iload X.x X.b d_Model_expand_58 (lv_at hl 0 rfl) ?_
                                  refine lv_if_lt (tgt := 369) X.x X.b d_Model_expand_60 (by decide) (fun c31 => ?_) (fun c31 => ?_)
                                  · skip
                                    have c31q := Int32.not_le.mpr c31
                                    refine lv_aload_n X.x X.b d_Model_expand_369 rfl (lv_at hl 9 rfl) ?_
                                    refine m_get (v := .int 0) X ok_Model hM.1 3 (by decide) k_Model_126 (congrArg (fun z => some (Value.int z)) (show p1 3 = 0 from (by rw [hp13]))) d_Model_expand_370 ?_
                                    refine lv_if_ne (tgt := 387) X.x X.b d_Model_expand_373 (by decide) (fun c32 => ?_) (fun c32 => ?_)
                                    · exact absurd c29 c32
                                    · skip
                                      refine lv_aload_n X.x X.b d_Model_expand_376 rfl (lv_at hl 9 rfl) ?_
                                      refine lv_bipush (v := 6) X.x X.b d_Model_expand_377 (by decide) ?_
                                      refine lv_iconst (v := -1) X.x X.b d_Model_expand_379 (by decide) ?_
                                      refine lv_iconst (v := -1) X.x X.b d_Model_expand_380 (by decide) ?_
                                      refine lv_iconst (v := 0) X.x X.b d_Model_expand_381 (by decide) ?_
                                      refine lv_iconst (v := -1) X.x X.b d_Model_expand_382 (by decide) ?_
                                      refine lv_iconst (v := 0) X.x X.b d_Model_expand_383 (by decide) ?_
                                      have hR := M_Model_item (c := 0) l g hM (show p1 5 = 0 from (by rw [hp15])) (by omega) 6 (-1) (-1) 0 (-1) 0
                                      refine m_callM X hS hR v_Model_151 hM.1 rfl rfl rfl (Nat.le_of_ble_eq_true rfl) hl.1 d_Model_expand_384 (by omega) (by decide) ⟨by omega, by omega⟩ (fun q z => by have z : mo ≤ q ∧ q < mo + 23 := z; exact ⟨by omega, by omega⟩) (fun H locs hM hfr hS => ?_)
                                      have hL2 := hL2.fr hfr (fun z => by have z : mo ≤ q2 ∧ q2 < mo + 23 := z; omega)
                                      have hL7 := hL7.fr hfr (fun z => by have z : mo ≤ q7 ∧ q7 < mo + 23 := z; omega)
                                      have hL12 := hL12.fr hfr (fun z => by have z : mo ≤ q12 ∧ q12 < mo + 23 := z; omega)
                                      have hM : mAt g mo tq (upd p1 5 1) _ H := hM
                                      obtain ⟨p_8, ep_8⟩ : ∃ z, z = upd p1 5 1 := ⟨_, rfl⟩
                                      rw [← ep_8] at hM
                                      obtain ⟨s_9, es_9⟩ : ∃ z, z = itR s1 0 6 (-1) (-1) 0 (-1) 0 := ⟨_, rfl⟩
                                      rw [← es_9] at hM
                                      exact m_vret X hS (by omega) (by omega) d_Model_expand_387 rfl ⟨_, _, hM, (by rw [ep_8, upd_mi _ _ _ (show 0 ≠ 5 by decide), hp10]), by rw [es_9, itR_o s1 0 6 (-1) (-1) 0 (-1) 0 2 (by decide), hE.2 2 (by decide)], ⟨(by rw [ep_8, upd_mi _ _ _ (show 3 ≠ 5 by decide), hp13]), (show p_8 5 = 1 from (by rw [ep_8, upd_hit]))⟩, fun k hk => absurd hk (Nat.not_lt_zero k), (by rw [es_9, (itR_at s1 0 6 (-1) (-1) 0 (-1) 0).1])⟩
                                  · exact absurd c31 (by decide)
                          · skip
                            have c27q := Int32.not_lt.mp c27
                            refine lv_aload_n X.x X.b d_Model_expand_314 rfl (lv_at hl 10 rfl) ?_
                            refine lv_iload X.x X.b d_Model_expand_315 (lv_at hl 12 rfl) ?_
                            refine lv_aload_n X.x X.b d_Model_expand_317 rfl (lv_at hl 8 rfl) ?_
                            refine lv_iload X.x X.b d_Model_expand_318 (lv_at hl 7 rfl) ?_
                            refine lv_iload X.x X.b d_Model_expand_320 (lv_at hl 6 rfl) ?_
                            refine m_callP X hS (M_Model_endOf_1 l g hM (show s1 2 0 = 1 from (by rw [hE.2 2 (by decide), hL.1.1]))) v_Model_144 hM.1 rfl rfl rfl (Nat.le_of_ble_eq_true rfl) hl.1 d_Model_expand_322 (by omega) (by decide) ⟨by omega, by omega⟩ (fun locs hS => ?_)
                            refine m_ist X hS (Or.inr (by omega)) hL7 0 rfl (by omega) (by decide) d_Model_expand_325 (fun H locs hp hcg hS => ?_)
                            have hL7 := hp
                            obtain ⟨r_10, er_10⟩ : ∃ z, z = upd r_2 0 1 := ⟨_, rfl⟩
                            rw [← er_10] at hL7
                            have hM := hM.frame (fr.of_chg (A := fun q => q = q7) hcg rfl) (fun q z => by have z : q = q7 := z; have := hM.tq; omega)
                            have hL2 := hL2.off hcg (by omega)
                            have hL12 := hL12.off hcg (by omega)
                            refine lv_goto (tgt := 366) X.x X.b d_Model_expand_326 (by decide) ?_
                            refine lv_goto (tgt := 58) X.x X.b d_Model_expand_366 (by decide) ?_
                            refine lv_iload X.x X.b d_Model_expand_58 (lv_at hl 12 rfl) ?_
                            refine lv_if_lt (tgt := 369) X.x X.b d_Model_expand_60 (by decide) (fun c33 => ?_) (fun c33 => ?_)
                            · exact absurd c33 c2
                            · skip
                              have c33q := Int32.not_lt.mp c33
                              refine lv_aload_n X.x X.b d_Model_expand_63 rfl (lv_at hl 8 rfl) ?_
                              refine m_get (v := .int 0) X ok_Model hM.1 3 (by decide) k_Model_126 (congrArg (fun z => some (Value.int z)) (show p1 3 = 0 from (by rw [hp13]))) d_Model_expand_64 ?_
                              refine lv_if_ne (tgt := 369) X.x X.b d_Model_expand_67 (by decide) (fun c34 => ?_) (fun c34 => ?_)
                              · exact absurd c26 c34
                              · skip
                                refine lv_aload_n X.x X.b d_Model_expand_70 rfl (lv_at hl 9 rfl) ?_
                                refine lv_iload X.x X.b d_Model_expand_71 (lv_at hl 12 rfl) ?_
                                refine m_ild (v := 0) X hL2 0 rfl (by omega) (by decide) (show (fun _ => 0) 0 = 0 from rfl) d_Model_expand_73 ?_
                                refine lv_istore (lv' := [(6, .int 0), (12, .int (v_ - 0)), (5, .int 1), (11, .int v_), (10, .int 8), (9, .int 0), (8, .int 0), (7, .int 0), (0, .ref mo), (1, .ref q2), (2, .ref q7), (3, .ref q12), (4, .int 0)]) X.x X.b d_Model_expand_74 hl (by decide) rfl (fun ls hl => ?_)
                                refine lv_aload_n X.x X.b d_Model_expand_76 rfl (lv_at hl 10 rfl) ?_
                                refine lv_iload X.x X.b d_Model_expand_77 (lv_at hl 12 rfl) ?_
                                refine m_ild (v := 1) X hL7 0 rfl (by omega) (by decide) (show r_10 0 = 1 from (by rw [er_10, upd_hit])) d_Model_expand_79 ?_
                                refine lv_aload_n X.x X.b d_Model_expand_80 rfl (lv_at hl 8 rfl) ?_
                                refine m_get (v := .ref (mo + 2)) X ok_Model hM.1 2 (by decide) k_Model_13 rfl d_Model_expand_81 ?_
                                refine lv_iload X.x X.b d_Model_expand_84 (lv_at hl 0 rfl) ?_
                                refine m_ild (v := 1) X hM.a2 0 rfl (by omega) (by decide) (show s1 2 0 = 1 from (by rw [hE.2 2 (by decide), hL.1.1])) d_Model_expand_86 ?_
                                refine lv_icmp_ne (tgt := 96) X.x X.b d_Model_expand_87 (by decide) (fun c35 => ?_) (fun c35 => ?_)
                                · exact absurd c35 (by decide)
                                · skip
                                  refine lv_iinc (v := (-1)) (lv' := [(4, .int (-1)), (6, .int 0), (12, .int (v_ - 0)), (5, .int 1), (11, .int v_), (10, .int 8), (9, .int 0), (8, .int 0), (7, .int 0), (0, .ref mo), (1, .ref q2), (2, .ref q7), (3, .ref q12)]) X.x X.b d_Model_expand_90 hl (k := 12) rfl (by decide) (by decide) rfl (fun ls hl => ?_)
                                  refine lv_goto (tgt := 58) X.x X.b d_Model_expand_93 (by decide) ?_
                                  refine lv_iload X.x X.b d_Model_expand_58 (lv_at hl 0 rfl) ?_
                                  refine lv_if_lt (tgt := 369) X.x X.b d_Model_expand_60 (by decide) (fun c36 => ?_) (fun c36 => ?_)
                                  · skip
                                    have c36q := Int32.not_le.mpr c36
                                    refine lv_aload_n X.x X.b d_Model_expand_369 rfl (lv_at hl 9 rfl) ?_
                                    refine m_get (v := .int 0) X ok_Model hM.1 3 (by decide) k_Model_126 (congrArg (fun z => some (Value.int z)) (show p1 3 = 0 from (by rw [hp13]))) d_Model_expand_370 ?_
                                    refine lv_if_ne (tgt := 387) X.x X.b d_Model_expand_373 (by decide) (fun c37 => ?_) (fun c37 => ?_)
                                    · exact absurd c34 c37
                                    · skip
                                      refine lv_aload_n X.x X.b d_Model_expand_376 rfl (lv_at hl 9 rfl) ?_
                                      refine lv_bipush (v := 6) X.x X.b d_Model_expand_377 (by decide) ?_
                                      refine lv_iconst (v := -1) X.x X.b d_Model_expand_379 (by decide) ?_
                                      refine lv_iconst (v := -1) X.x X.b d_Model_expand_380 (by decide) ?_
                                      refine lv_iconst (v := 0) X.x X.b d_Model_expand_381 (by decide) ?_
                                      refine lv_iconst (v := -1) X.x X.b d_Model_expand_382 (by decide) ?_
                                      refine lv_iconst (v := 0) X.x X.b d_Model_expand_383 (by decide) ?_
                                      have hR := M_Model_item (c := 0) l g hM (show p1 5 = 0 from (by rw [hp15])) (by omega) 6 (-1) (-1) 0 (-1) 0
                                      refine m_callM X hS hR v_Model_151 hM.1 rfl rfl rfl (Nat.le_of_ble_eq_true rfl) hl.1 d_Model_expand_384 (by omega) (by decide) ⟨by omega, by omega⟩ (fun q z => by have z : mo ≤ q ∧ q < mo + 23 := z; exact ⟨by omega, by omega⟩) (fun H locs hM hfr hS => ?_)
                                      have hL2 := hL2.fr hfr (fun z => by have z : mo ≤ q2 ∧ q2 < mo + 23 := z; omega)
                                      have hL7 := hL7.fr hfr (fun z => by have z : mo ≤ q7 ∧ q7 < mo + 23 := z; omega)
                                      have hL12 := hL12.fr hfr (fun z => by have z : mo ≤ q12 ∧ q12 < mo + 23 := z; omega)
                                      have hM : mAt g mo tq (upd p1 5 1) _ H := hM
                                      obtain ⟨p_11, ep_11⟩ : ∃ z, z = upd p1 5 1 := ⟨_, rfl⟩
                                      rw [← ep_11] at hM
                                      obtain ⟨s_12, es_12⟩ : ∃ z, z = itR s1 0 6 (-1) (-1) 0 (-1) 0 := ⟨_, rfl⟩
                                      rw [← es_12] at hM
                                      exact m_vret X hS (by omega) (by omega) d_Model_expand_387 rfl ⟨_, _, hM, (by rw [ep_11, upd_mi _ _ _ (show 0 ≠ 5 by decide), hp10]), by rw [es_12, itR_o s1 0 6 (-1) (-1) 0 (-1) 0 2 (by decide), hE.2 2 (by decide)], ⟨(by rw [ep_11, upd_mi _ _ _ (show 3 ≠ 5 by decide), hp13]), (show p_11 5 = 1 from (by rw [ep_11, upd_hit]))⟩, fun k hk => absurd hk (Nat.not_lt_zero k), (by rw [es_12, (itR_at s1 0 6 (-1) (-1) 0 (-1) 0).1])⟩
                                  · exact absurd c36 (by decide)
                    · exact absurd c24 (by decide)
                  · exact absurd c3 c23
            · exact absurd c4 (by decide)
      · exact absurd ((nI_ltI (a := i) (b := 8) (by omega) (by omega)).mp (Int32.not_le.mp c1)) (by omega)
    | succ n ih =>
      intro i s1 hin hi5 hE H locs ls hM hL2 hL7 hL12 hS hl
      refine lv_iload X.x X.b d_Model_expand_29 (lv_at hl 6 rfl) ?_
      refine lv_bipush (v := 8) X.x X.b d_Model_expand_31 (by decide) ?_
      refine lv_icmp_ge (tgt := 58) X.x X.b d_Model_expand_33 (by decide) (fun c38 => ?_) (fun c38 => ?_)
      · exact absurd ((nI_leI (a := 8) (b := i) (by omega) (by omega)).mp c38) (by omega)
      · skip
        have c38q := Int32.not_le.mp c38
        refine lv_aload_n X.x X.b d_Model_expand_36 rfl (lv_at hl 0 rfl) ?_
        refine m_get (v := .ref (mo + 20)) X ok_Model hM.1 25 (by decide) k_Model_68 rfl d_Model_expand_37 ?_
        refine lv_iload X.x X.b d_Model_expand_40 (lv_at hl 6 rfl) ?_
        refine lv_iconst (v := 0) X.x X.b d_Model_expand_42 (by decide) ?_
        refine m_ist X hS (Or.inl ⟨by omega, by omega⟩) hM.a25 i rfl (by omega) (by decide) d_Model_expand_43 (fun H locs hp hcg hS => ?_)
        have hM := hM.s25 hp hcg
        obtain ⟨s_13, es_13⟩ : ∃ z, z = updR s1 25 (upd (s1 25) i 0) := ⟨_, rfl⟩
        rw [← es_13] at hM
        have hL2 := hL2.off hcg (by omega)
        have hL7 := hL7.off hcg (by omega)
        have hL12 := hL12.off hcg (by omega)
        refine lv_aload_n X.x X.b d_Model_expand_44 rfl (lv_at hl 0 rfl) ?_
        refine m_get (v := .ref (mo + 22)) X ok_Model hM.1 27 (by decide) k_Model_74 rfl d_Model_expand_45 ?_
        refine lv_iload X.x X.b d_Model_expand_48 (lv_at hl 6 rfl) ?_
        refine lv_iconst (v := -1) X.x X.b d_Model_expand_50 (by decide) ?_
        refine m_ist X hS (Or.inl ⟨by omega, by omega⟩) hM.a27 i rfl (by omega) (by decide) d_Model_expand_51 (fun H locs hp hcg hS => ?_)
        have hM := hM.s27 hp hcg
        obtain ⟨s_14, es_14⟩ : ∃ z, z = updR s_13 27 (upd (s_13 27) i (-1)) := ⟨_, rfl⟩
        rw [← es_14] at hM
        have hL2 := hL2.off hcg (by omega)
        have hL7 := hL7.off hcg (by omega)
        have hL12 := hL12.off hcg (by omega)
        refine lv_iinc (v := nI (i + 1)) (lv' := [(6, .int (nI (i + 1))), (0, .ref mo), (1, .ref q2), (2, .ref q7), (3, .ref q12), (4, .int 0), (5, .int 0)]) X.x X.b d_Model_expand_52 hl (k := 6) rfl (nI_1 i) (by decide) rfl (fun ls hl => ?_)
        refine lv_goto (tgt := 29) X.x X.b d_Model_expand_55 (by decide) ?_
        exact ih (i + 1) s_14 (by omega) (by omega) (⟨fun j hj => (Nat.lt_or_ge j i).elim (fun z => ⟨by rw [es_14, updR_n2 _ _ _ _ (show j ≠ i by omega), es_13, updR_n2 _ _ _ _ (show j ≠ i by omega)]; exact (hE.1 j z).1, by rw [es_14, updR_n2 _ _ _ _ (show j ≠ i by omega), es_13, updR_n2 _ _ _ _ (show j ≠ i by omega)]; exact (hE.1 j z).2⟩) (fun z => ⟨by rw [show j = i by omega, es_14, updR_mf _ _ _ (show 25 ≠ 27 by decide), es_13, updR_hit], by rw [show j = i by omega, es_14, updR_hit]⟩), by rw [es_14, es_13]; exact (hE.2.up _ _ (by decide)).up _ _ (by decide)⟩) _ _ _ hM hL2 hL7 hL12 hS (lv_sub hl [1, 2, 3, 4, 5, 6, 0] rfl)
  exact lp 8 0 s0 (by omega) (by omega) (⟨fun j hj => absurd hj (Nat.not_lt_zero j), same.rf _ _⟩) _ _ _ hM hL2 hL7 hL12 hS (lv_sub hl [6, 5, 4, 3, 2, 1, 0] rfl)
set_option maxRecDepth 100000 in
set_option maxHeartbeats 4000000 in
theorem M_Model_expand_L8xn (l : Launch) (g : GG) {mo tq : Nat} {p0 : Nat → Int32} {s0 : Nat → Nat → Int32} {H0 : Heap} (hM : mAt g mo tq p0 s0 H0) {v_ r : Int32} {j : Nat} (hj : j < 8) (hL : oneL 8 (nI j) (-1) v_ r s0) (hf3 : p0 3 = 0) : MM l y_Model_expand c_Model_expand 13 none 3 3 18 g H0 [.ref mo] (fun q => mo ≤ q ∧ q < mo + 23) (none) (fun H1 => ∃ p s, mAt g mo tq p s H1 ∧ p 0 = p0 0 ∧ s 2 = s0 2 ∧ p 3 = 3) := by
  refine MM.of (by decide +kernel) (Nat.le_of_ble_eq_true rfl) ?_
  intro p e s m below meth cd X hH ls hl
  have X : CX g p s m _ meth cd c_Model_expand 13 none R_Model _ := X
  have hl : lv_has ls 13 [(0, .ref mo)] := hl
  have hS : va_S (AA (fun q => mo ≤ q ∧ q < mo + 23) H0) H0 H0 [] := va_S.rf
  have hlt0 := hM.lt
  have htq0 := hM.tq
  refine lv_bipush (v := 6) X.x X.b d_Model_expand_0 (by decide) ?_
  obtain ⟨q2, hq2⟩ := sz_of hS
  have hlt2 := hM.lt
  have hsz2 := hS.1
  refine m_newI X hS hq2 6 (by decide) (by decide) (by decide) (by omega) (by omega) d_Model_expand_2 (fun H hL2 hgr hS hz2 => ?_)
  have hfr := fr.of_grow (A := noA) hgr
  have hM := hM.frame hfr (fun q z => z.elim)
  refine lv_astore_n (lv' := [(1, .ref q2), (0, .ref mo)]) X.x X.b d_Model_expand_4 rfl hl (by decide) rfl (fun ls hl => ?_)
  refine lv_bipush (v := 6) X.x X.b d_Model_expand_5 (by decide) ?_
  obtain ⟨q7, hq7⟩ := sz_of hS
  have hlt7 := hM.lt
  have hsz7 := hS.1
  refine m_newI X hS hq7 6 (by decide) (by decide) (by decide) (by omega) (by omega) d_Model_expand_7 (fun H hL7 hgr hS hz2 => ?_)
  have hfr := fr.of_grow (A := noA) hgr
  have hM := hM.frame hfr (fun q z => z.elim)
  have hL2 := hL2.fr hfr (fun z => z)
  refine lv_astore_n (lv' := [(2, .ref q7), (1, .ref q2), (0, .ref mo)]) X.x X.b d_Model_expand_9 rfl hl (by decide) rfl (fun ls hl => ?_)
  refine lv_bipush (v := 6) X.x X.b d_Model_expand_10 (by decide) ?_
  obtain ⟨q12, hq12⟩ := sz_of hS
  have hlt12 := hM.lt
  have hsz12 := hS.1
  refine m_newI X hS hq12 6 (by decide) (by decide) (by decide) (by omega) (by omega) d_Model_expand_12 (fun H hL12 hgr hS hz2 => ?_)
  have hfr := fr.of_grow (A := noA) hgr
  have hM := hM.frame hfr (fun q z => z.elim)
  have hL2 := hL2.fr hfr (fun z => z)
  have hL7 := hL7.fr hfr (fun z => z)
  refine lv_astore_n (lv' := [(3, .ref q12), (2, .ref q7), (1, .ref q2), (0, .ref mo)]) X.x X.b d_Model_expand_14 rfl hl (by decide) rfl (fun ls hl => ?_)
  refine lv_iconst (v := 0) X.x X.b d_Model_expand_15 (by decide) ?_
  refine lv_istore (lv' := [(4, .int 0), (3, .ref q12), (2, .ref q7), (1, .ref q2), (0, .ref mo)]) X.x X.b d_Model_expand_16 hl (by decide) rfl (fun ls hl => ?_)
  refine lv_iconst (v := 0) X.x X.b d_Model_expand_18 (by decide) ?_
  refine lv_istore (lv' := [(5, .int 0), (4, .int 0), (3, .ref q12), (2, .ref q7), (1, .ref q2), (0, .ref mo)]) X.x X.b d_Model_expand_19 hl (by decide) rfl (fun ls hl => ?_)
  refine lv_aload_n X.x X.b d_Model_expand_21 rfl (lv_at hl 5 rfl) ?_
  refine lv_iconst (v := 0) X.x X.b d_Model_expand_22 (by decide) ?_
  refine m_put X ok_Model hS (Or.inl ⟨by omega, by omega⟩) hM.1 5 (by decide) k_Model_132 rfl (ok_Model.2.2.1 _ (by decide)) rfl rfl (Nat.le_of_ble_eq_true rfl) d_Model_expand_23 (fun H locs hp hcg hS => ?_)
  have hM := hM.f5 hp hcg
  obtain ⟨p_1, ep_1⟩ : ∃ z, z = upd p0 5 0 := ⟨_, rfl⟩
  rw [← ep_1] at hM
  have hL2 := hL2.off hcg (by omega)
  have hL7 := hL7.off hcg (by omega)
  have hL12 := hL12.off hcg (by omega)
  obtain ⟨p1, hp1⟩ : ∃ z, z = p_1 := ⟨_, rfl⟩
  rw [← hp1] at hM
  have hp1 : p1 = upd p0 5 0 := by rw [hp1, ep_1]
  have hp15 : p1 5 = 0 := by rw [hp1]; exact upd_hit _ _ _
  have hp13 : p1 3 = 0 := by rw [hp1]; exact (upd_mi _ _ _ (by decide)).trans hf3
  have hp10 : p1 0 = p0 0 := by rw [hp1]; exact upd_mi _ _ _ (by decide)
  refine lv_iconst (v := 0) X.x X.b d_Model_expand_26 (by decide) ?_
  refine lv_istore (lv' := [(6, .int 0), (5, .int 0), (4, .int 0), (3, .ref q12), (2, .ref q7), (1, .ref q2), (0, .ref mo)]) X.x X.b d_Model_expand_27 hl (by decide) rfl (fun ls hl => ?_)
  have lp : ∀ (n i : Nat) (s1 : Nat → Nat → Int32), n = 8 - i → i < 5000 → ((∀ j, j < i → s1 25 j = 0 ∧ s1 27 j = -1) ∧ same [25, 27] s0 s1) → ∀ (H : Heap) (locs : List Loc) (ls : Array Slot), mAt g mo tq p1 s1 H → pt g q2 (.inl (g.2 0, 6, .inl (fun _ => 0))) H → pt g q7 (.inl (g.2 0, 6, .inl (fun _ => 0))) H → pt g q12 (.inl (g.2 0, 6, .inl (fun _ => 0))) H → va_S (AA (fun q => mo ≤ q ∧ q < mo + 23) H0) H0 H locs → lv_has ls 13 [(0, .ref mo), (1, .ref q2), (2, .ref q7), (3, .ref q12), (4, .int 0), (5, .int 0), (6, .int (nI i))] → W p l e (rmK 3 3 18) s m ([.ref mo] : List Value).toArray below meth cd H locs 3 18 (MQ below (QM (none) (fun H1 => ∃ p s, mAt g mo tq p s H1 ∧ p 0 = p0 0 ∧ s 2 = s0 2 ∧ p 3 = 3) (fun q => mo ≤ q ∧ q < mo + 23) H0) ([.ref mo] : List Value).toArray s 3 18 (AA (fun q => mo ≤ q ∧ q < mo + 23) H0)) (F0 m 29 ls []) := by
    intro n
    induction n with
    | zero =>
      intro i s1 hin hi5 hE H locs ls hM hL2 hL7 hL12 hS hl
      refine lv_iload X.x X.b d_Model_expand_29 (lv_at hl 6 rfl) ?_
      refine lv_bipush (v := 8) X.x X.b d_Model_expand_31 (by decide) ?_
      refine lv_icmp_ge (tgt := 58) X.x X.b d_Model_expand_33 (by decide) (fun c1 => ?_) (fun c1 => ?_)
      · skip
        have c1q := Int32.not_lt.mpr c1
        refine lv_iload X.x X.b d_Model_expand_58 (lv_at hl 4 rfl) ?_
        refine lv_if_lt (tgt := 369) X.x X.b d_Model_expand_60 (by decide) (fun c2 => ?_) (fun c2 => ?_)
        · exact absurd c2 (by decide)
        · skip
          have c2q := Int32.not_lt.mp c2
          refine lv_aload_n X.x X.b d_Model_expand_63 rfl (lv_at hl 0 rfl) ?_
          refine m_get (v := .int 0) X ok_Model hM.1 3 (by decide) k_Model_126 (congrArg (fun z => some (Value.int z)) (show p1 3 = 0 from (by rw [hp13]))) d_Model_expand_64 ?_
          refine lv_if_ne (tgt := 369) X.x X.b d_Model_expand_67 (by decide) (fun c3 => ?_) (fun c3 => ?_)
          · exact absurd c3 (by decide)
          · skip
            refine lv_aload_n X.x X.b d_Model_expand_70 rfl (lv_at hl 1 rfl) ?_
            refine lv_iload X.x X.b d_Model_expand_71 (lv_at hl 4 rfl) ?_
            refine m_ild (v := 0) X hL2 0 rfl (by omega) (by decide) (show (fun _ => 0) 0 = 0 from rfl) d_Model_expand_73 ?_
            refine lv_istore (lv' := [(6, .int 0), (0, .ref mo), (1, .ref q2), (2, .ref q7), (3, .ref q12), (4, .int 0), (5, .int 0)]) X.x X.b d_Model_expand_74 hl (by decide) rfl (fun ls hl => ?_)
            refine lv_aload_n X.x X.b d_Model_expand_76 rfl (lv_at hl 3 rfl) ?_
            refine lv_iload X.x X.b d_Model_expand_77 (lv_at hl 5 rfl) ?_
            refine m_ild (v := 0) X hL7 0 rfl (by omega) (by decide) (show (fun _ => 0) 0 = 0 from rfl) d_Model_expand_79 ?_
            refine lv_aload_n X.x X.b d_Model_expand_80 rfl (lv_at hl 1 rfl) ?_
            refine m_get (v := .ref (mo + 2)) X ok_Model hM.1 2 (by decide) k_Model_13 rfl d_Model_expand_81 ?_
            refine lv_iload X.x X.b d_Model_expand_84 (lv_at hl 0 rfl) ?_
            refine m_ild (v := 1) X hM.a2 0 rfl (by omega) (by decide) (show s1 2 0 = 1 from (by rw [hE.2 2 (by decide), hL.1.1])) d_Model_expand_86 ?_
            refine lv_icmp_ne (tgt := 96) X.x X.b d_Model_expand_87 (by decide) (fun c4 => ?_) (fun c4 => ?_)
            · skip
              refine lv_aload_n X.x X.b d_Model_expand_96 rfl (lv_at hl 3 rfl) ?_
              refine lv_iload X.x X.b d_Model_expand_97 (lv_at hl 5 rfl) ?_
              refine lv_dup2_11 X.x X.b d_Model_expand_99 rfl rfl ?_
              refine m_ild (v := 0) X hL7 0 rfl (by omega) (by decide) (show (fun _ => 0) 0 = 0 from rfl) d_Model_expand_100 ?_
              refine lv_dup_x2 X.x X.b d_Model_expand_101 rfl rfl rfl ?_
              refine lv_iconst (v := 1) X.x X.b d_Model_expand_102 (by decide) ?_
              refine lv_iadd X.x X.b d_Model_expand_103 ?_
              rw [show (0 + 1 : Int32) = 1 from by decide]
              refine m_ist X hS (Or.inr (by omega)) hL7 0 rfl (by omega) (by decide) d_Model_expand_104 (fun H locs hp hcg hS => ?_)
              have hL7 := hp
              obtain ⟨r_2, er_2⟩ : ∃ z, z = upd (fun _ => 0) 0 1 := ⟨_, rfl⟩
              rw [← er_2] at hL7
              have hM := hM.frame (fr.of_chg (A := fun q => q = q7) hcg rfl) (fun q z => by have z : q = q7 := z; have := hM.tq; omega)
              have hL2 := hL2.off hcg (by omega)
              have hL12 := hL12.off hcg (by omega)
              refine lv_istore (lv' := [(7, .int 0), (6, .int 0), (0, .ref mo), (1, .ref q2), (2, .ref q7), (3, .ref q12), (4, .int 0), (5, .int 0)]) X.x X.b d_Model_expand_105 hl (by decide) rfl (fun ls hl => ?_)
              refine lv_iload X.x X.b d_Model_expand_107 (lv_at hl 1 rfl) ?_
              refine lv_iload X.x X.b d_Model_expand_109 (lv_at hl 0 rfl) ?_
              refine m_callSP X hS (MP_ans (M_Model_at l g 0 0) (show (((0 : Int32) * 64 + 0) * 5) = 0 from by decide)) s_Model_96 rfl rfl (Nat.le_of_ble_eq_true rfl) hl.1 d_Model_expand_111 (by omega) (by decide) ⟨by omega, by omega⟩ (fun locs hS => ?_)
              refine lv_istore (lv' := [(8, .int 0), (7, .int 0), (6, .int 0), (0, .ref mo), (1, .ref q2), (2, .ref q7), (3, .ref q12), (4, .int 0), (5, .int 0)]) X.x X.b d_Model_expand_114 hl (by decide) rfl (fun ls hl => ?_)
              refine lv_aload_n X.x X.b d_Model_expand_116 rfl (lv_at hl 5 rfl) ?_
              refine lv_iconst (v := 0) X.x X.b d_Model_expand_117 (by decide) ?_
              refine m_ild (v := 1) X hL7 0 rfl (by omega) (by decide) (show r_2 0 = 1 from (by rw [er_2, upd_hit])) d_Model_expand_118 ?_
              refine lv_iconst (v := 1) X.x X.b d_Model_expand_119 (by decide) ?_
              refine lv_isub X.x X.b d_Model_expand_120 ?_
              rw [show (1 - 1 : Int32) = 0 from by decide]
              refine lv_istore (lv' := [(9, .int 0), (8, .int 0), (7, .int 0), (6, .int 0), (0, .ref mo), (1, .ref q2), (2, .ref q7), (3, .ref q12), (4, .int 0), (5, .int 0)]) X.x X.b d_Model_expand_121 hl (by decide) rfl (fun ls hl => ?_)
              refine lv_aload_n X.x X.b d_Model_expand_123 rfl (lv_at hl 4 rfl) ?_
              refine m_get (v := .ref tq) X ok_Model hM.1 1 (by decide) k_Model_9 rfl d_Model_expand_124 ?_
              refine lv_iload X.x X.b d_Model_expand_127 (lv_at hl 1 rfl) ?_
              refine m_ild (v := 8) X hM.a1 0 rfl (by omega) (by decide) (show s1 1 0 = 8 from (by rw [hE.2 1 (by decide), hL.2.1])) d_Model_expand_129 ?_
              refine lv_istore (lv' := [(10, .int 8), (9, .int 0), (8, .int 0), (7, .int 0), (6, .int 0), (0, .ref mo), (1, .ref q2), (2, .ref q7), (3, .ref q12), (4, .int 0), (5, .int 0)]) X.x X.b d_Model_expand_130 hl (by decide) rfl (fun ls hl => ?_)
              refine lv_aload_n X.x X.b d_Model_expand_132 rfl (lv_at hl 5 rfl) ?_
              refine m_get (v := .ref tq) X ok_Model hM.1 1 (by decide) k_Model_9 rfl d_Model_expand_133 ?_
              refine lv_iload X.x X.b d_Model_expand_136 (lv_at hl 2 rfl) ?_
              refine lv_iconst (v := 3) X.x X.b d_Model_expand_138 (by decide) ?_
              refine lv_iadd X.x X.b d_Model_expand_139 ?_
              rw [show (0 + 3 : Int32) = 3 from by decide]
              refine m_ild (v := v_) X hM.a1 3 rfl (by omega) (by decide) (show s1 1 3 = v_ from (by rw [hE.2 1 (by decide), hL.2.2.2.2.1])) d_Model_expand_140 ?_
              refine lv_aload_n X.x X.b d_Model_expand_141 rfl (lv_at hl 5 rfl) ?_
              refine m_get (v := .ref tq) X ok_Model hM.1 1 (by decide) k_Model_9 rfl d_Model_expand_142 ?_
              refine lv_iload X.x X.b d_Model_expand_145 (lv_at hl 2 rfl) ?_
              refine lv_iconst (v := 4) X.x X.b d_Model_expand_147 (by decide) ?_
              refine lv_iadd X.x X.b d_Model_expand_148 ?_
              rw [show (0 + 4 : Int32) = 4 from by decide]
              refine m_ild (v := r) X hM.a1 4 rfl (by omega) (by decide) (show s1 1 4 = r from (by rw [hE.2 1 (by decide), hL.2.2.2.2.2])) d_Model_expand_149 ?_
              refine lv_iconst (v := 1) X.x X.b d_Model_expand_150 (by decide) ?_
              refine lv_icmp_ne (tgt := 161) X.x X.b d_Model_expand_151 (by decide) (fun c5 => ?_) (fun c5 => ?_)
              · skip
                refine lv_iconst (v := 0) X.x X.b d_Model_expand_161 (by decide) ?_
                refine lv_iadd X.x X.b d_Model_expand_162 ?_
                rw [show (v_ + 0 : Int32) = v_ from Int32.add_zero _]
                refine lv_istore (lv' := [(11, .int v_), (10, .int 8), (9, .int 0), (8, .int 0), (7, .int 0), (6, .int 0), (0, .ref mo), (1, .ref q2), (2, .ref q7), (3, .ref q12), (4, .int 0), (5, .int 0)]) X.x X.b d_Model_expand_163 hl (by decide) rfl (fun ls hl => ?_)
                refine lv_iinc (v := 1) (lv' := [(5, .int 1), (11, .int v_), (10, .int 8), (9, .int 0), (8, .int 0), (7, .int 0), (6, .int 0), (0, .ref mo), (1, .ref q2), (2, .ref q7), (3, .ref q12), (4, .int 0)]) X.x X.b d_Model_expand_165 hl (k := 11) rfl (by decide) (by decide) rfl (fun ls hl => ?_)
                refine lv_iload X.x X.b d_Model_expand_168 (lv_at hl 0 rfl) ?_
                refine lv_sipush (v := 400) X.x X.b d_Model_expand_170 (by decide) ?_
                refine lv_icmp_gt (tgt := 193) X.x X.b d_Model_expand_173 (by decide) (fun c6 => ?_) (fun c6 => ?_)
                · exact absurd c6 (by decide)
                · skip
                  have c6q := Int32.not_lt.mp c6
                  refine lv_iload X.x X.b d_Model_expand_176 (lv_at hl 2 rfl) ?_
                  refine m_callSP X hS (MP_ans (M_Model_makes l g 8) (show b2i ((8 : Int32) < 8) = 0 from by decide)) s_Model_138 rfl rfl (Nat.le_of_ble_eq_true rfl) hl.1 d_Model_expand_178 (by omega) (by decide) ⟨by omega, by omega⟩ (fun locs hS => ?_)
                  refine lv_if_eq (tgt := 203) X.x X.b d_Model_expand_181 (by decide) (fun c7 => ?_) (fun c7 => ?_)
                  · skip
                    refine lv_iload X.x X.b d_Model_expand_203 (lv_at hl 2 rfl) ?_
                    refine lv_bipush (v := 10) X.x X.b d_Model_expand_205 (by decide) ?_
                    refine lv_icmp_ne (tgt := 259) X.x X.b d_Model_expand_207 (by decide) (fun c8 => ?_) (fun c8 => ?_)
                    · skip
                      refine lv_iload X.x X.b d_Model_expand_259 (lv_at hl 2 rfl) ?_
                      refine lv_bipush (v := 8) X.x X.b d_Model_expand_261 (by decide) ?_
                      refine lv_icmp_ne (tgt := 329) X.x X.b d_Model_expand_263 (by decide) (fun c9 => ?_) (fun c9 => ?_)
                      · exact absurd c9 (by decide)
                      · skip
                        refine lv_iload X.x X.b d_Model_expand_266 (lv_at hl 1 rfl) ?_
                        refine lv_aload_n X.x X.b d_Model_expand_268 rfl (lv_at hl 7 rfl) ?_
                        refine lv_aload_n X.x X.b d_Model_expand_269 rfl (lv_at hl 7 rfl) ?_
                        refine m_get (v := .ref tq) X ok_Model hM.1 1 (by decide) k_Model_9 rfl d_Model_expand_270 ?_
                        refine lv_iload X.x X.b d_Model_expand_273 (lv_at hl 4 rfl) ?_
                        refine lv_iconst (v := 1) X.x X.b d_Model_expand_275 (by decide) ?_
                        refine lv_iadd X.x X.b d_Model_expand_276 ?_
                        rw [show (0 + 1 : Int32) = 1 from by decide]
                        refine m_ild (v := nI j) X hM.a1 1 rfl (by omega) (by decide) (show s1 1 1 = nI j from (by rw [hE.2 1 (by decide), hL.2.2.1])) d_Model_expand_277 ?_
                        refine lv_iload X.x X.b d_Model_expand_278 (lv_at hl 3 rfl) ?_
                        have hR := M_Model_setNow_0 (j := j) l g hM (by omega) (show s1 25 j = 0 from (by rw [(hE.1 j (by omega)).1])) 0
                        refine m_callM X hS hR v_Model_141 hM.1 rfl rfl rfl (Nat.le_of_ble_eq_true rfl) hl.1 d_Model_expand_280 (by omega) (by decide) ⟨by omega, by omega⟩ (fun q z => by have z : mo ≤ q ∧ q < mo + 23 := z; exact ⟨by omega, by omega⟩) (fun H locs hM hfr hS => ?_)
                        have hL2 := hL2.fr hfr (fun z => by have z : mo ≤ q2 ∧ q2 < mo + 23 := z; omega)
                        have hL7 := hL7.fr hfr (fun z => by have z : mo ≤ q7 ∧ q7 < mo + 23 := z; omega)
                        have hL12 := hL12.fr hfr (fun z => by have z : mo ≤ q12 ∧ q12 < mo + 23 := z; omega)
                        obtain ⟨p_3, ep_3⟩ : ∃ z, z = upd p1 3 3 := ⟨_, rfl⟩
                        rw [← ep_3] at hM
                        obtain ⟨p_4, ep_4⟩ : ∃ z, z = upd p_3 4 0 := ⟨_, rfl⟩
                        rw [← ep_4] at hM
                        refine lv_iadd X.x X.b d_Model_expand_283 ?_
                        rw [show (v_ + 0 : Int32) = v_ from Int32.add_zero _]
                        refine lv_aload_n X.x X.b d_Model_expand_284 rfl (lv_at hl 7 rfl) ?_
                        refine lv_aload_n X.x X.b d_Model_expand_285 rfl (lv_at hl 7 rfl) ?_
                        refine m_get (v := .ref tq) X ok_Model hM.1 1 (by decide) k_Model_9 rfl d_Model_expand_286 ?_
                        refine lv_iload X.x X.b d_Model_expand_289 (lv_at hl 4 rfl) ?_
                        refine lv_iconst (v := 2) X.x X.b d_Model_expand_291 (by decide) ?_
                        refine lv_iadd X.x X.b d_Model_expand_292 ?_
                        rw [show (0 + 2 : Int32) = 2 from by decide]
                        refine m_ild (v := (-1)) X hM.a1 2 rfl (by omega) (by decide) (show s1 1 2 = (-1) from (by rw [hE.2 1 (by decide), hL.2.2.2.1])) d_Model_expand_293 ?_
                        refine lv_iload X.x X.b d_Model_expand_294 (lv_at hl 3 rfl) ?_
                        refine m_callP X hS (M_Model_setNow_n l g hM 0) v_Model_141 hM.1 rfl rfl rfl (Nat.le_of_ble_eq_true rfl) hl.1 d_Model_expand_296 (by omega) (by decide) ⟨by omega, by omega⟩ (fun locs hS => ?_)
                        refine lv_isub X.x X.b d_Model_expand_299 ?_
                        refine lv_istore (lv' := [(12, .int (v_ - 0)), (5, .int 1), (11, .int v_), (10, .int 8), (9, .int 0), (8, .int 0), (7, .int 0), (6, .int 0), (0, .ref mo), (1, .ref q2), (2, .ref q7), (3, .ref q12), (4, .int 0)]) X.x X.b d_Model_expand_300 hl (by decide) rfl (fun ls hl => ?_)
                        refine lv_aload_n X.x X.b d_Model_expand_302 rfl (lv_at hl 8 rfl) ?_
                        refine m_get (v := .int 3) X ok_Model hM.1 3 (by decide) k_Model_126 (congrArg (fun z => some (Value.int z)) (show p_4 3 = 3 from (by rw [ep_4, upd_mi _ _ _ (show 3 ≠ 4 by decide), ep_3, upd_hit]))) d_Model_expand_303 ?_
                        refine lv_if_ne (tgt := 326) X.x X.b d_Model_expand_306 (by decide) (fun c10 => ?_) (fun c10 => ?_)
                        · skip
                          refine lv_goto (tgt := 366) X.x X.b d_Model_expand_326 (by decide) ?_
                          refine lv_goto (tgt := 58) X.x X.b d_Model_expand_366 (by decide) ?_
                          refine lv_iload X.x X.b d_Model_expand_58 (lv_at hl 12 rfl) ?_
                          refine lv_if_lt (tgt := 369) X.x X.b d_Model_expand_60 (by decide) (fun c11 => ?_) (fun c11 => ?_)
                          · exact absurd c11 c2
                          · skip
                            have c11q := Int32.not_lt.mp c11
                            refine lv_aload_n X.x X.b d_Model_expand_63 rfl (lv_at hl 8 rfl) ?_
                            refine m_get (v := .int 3) X ok_Model hM.1 3 (by decide) k_Model_126 (congrArg (fun z => some (Value.int z)) (show p_4 3 = 3 from (by rw [ep_4, upd_mi _ _ _ (show 3 ≠ 4 by decide), ep_3, upd_hit]))) d_Model_expand_64 ?_
                            refine lv_if_ne (tgt := 369) X.x X.b d_Model_expand_67 (by decide) (fun c12 => ?_) (fun c12 => ?_)
                            · skip
                              refine lv_aload_n X.x X.b d_Model_expand_369 rfl (lv_at hl 8 rfl) ?_
                              refine m_get (v := .int 3) X ok_Model hM.1 3 (by decide) k_Model_126 (congrArg (fun z => some (Value.int z)) (show p_4 3 = 3 from (by rw [ep_4, upd_mi _ _ _ (show 3 ≠ 4 by decide), ep_3, upd_hit]))) d_Model_expand_370 ?_
                              refine lv_if_ne (tgt := 387) X.x X.b d_Model_expand_373 (by decide) (fun c13 => ?_) (fun c13 => ?_)
                              · skip
                                exact m_vret X hS (by omega) (by omega) d_Model_expand_387 rfl ⟨_, _, hM, (by rw [ep_4, upd_mi _ _ _ (show 0 ≠ 4 by decide), ep_3, upd_mi _ _ _ (show 0 ≠ 3 by decide), hp10]), by rw [hE.2 2 (by decide)], (by rw [ep_4, upd_mi _ _ _ (show 3 ≠ 4 by decide), ep_3, upd_hit])⟩
                              · exact absurd c13 c12
                            · exact absurd c12 c10
                        · exact absurd c10 (by decide)
                    · exact absurd c8 (by decide)
                  · exact absurd c3 c7
              · skip
                refine lv_aload_n X.x X.b d_Model_expand_154 rfl (lv_at hl 8 rfl) ?_
                refine lv_iload X.x X.b d_Model_expand_155 (lv_at hl 9 rfl) ?_
                refine m_ild (v := 0) X hL12 0 rfl (by omega) (by decide) (show (fun _ => 0) 0 = 0 from rfl) d_Model_expand_157 ?_
                refine lv_goto (tgt := 162) X.x X.b d_Model_expand_158 (by decide) ?_
                refine lv_iadd X.x X.b d_Model_expand_162 ?_
                rw [show (v_ + 0 : Int32) = v_ from Int32.add_zero _]
                refine lv_istore (lv' := [(11, .int v_), (10, .int 8), (9, .int 0), (8, .int 0), (7, .int 0), (6, .int 0), (0, .ref mo), (1, .ref q2), (2, .ref q7), (3, .ref q12), (4, .int 0), (5, .int 0)]) X.x X.b d_Model_expand_163 hl (by decide) rfl (fun ls hl => ?_)
                refine lv_iinc (v := 1) (lv' := [(5, .int 1), (11, .int v_), (10, .int 8), (9, .int 0), (8, .int 0), (7, .int 0), (6, .int 0), (0, .ref mo), (1, .ref q2), (2, .ref q7), (3, .ref q12), (4, .int 0)]) X.x X.b d_Model_expand_165 hl (k := 11) rfl (by decide) (by decide) rfl (fun ls hl => ?_)
                refine lv_iload X.x X.b d_Model_expand_168 (lv_at hl 0 rfl) ?_
                refine lv_sipush (v := 400) X.x X.b d_Model_expand_170 (by decide) ?_
                refine lv_icmp_gt (tgt := 193) X.x X.b d_Model_expand_173 (by decide) (fun c14 => ?_) (fun c14 => ?_)
                · exact absurd c14 (by decide)
                · skip
                  have c14q := Int32.not_lt.mp c14
                  refine lv_iload X.x X.b d_Model_expand_176 (lv_at hl 2 rfl) ?_
                  refine m_callSP X hS (MP_ans (M_Model_makes l g 8) (show b2i ((8 : Int32) < 8) = 0 from by decide)) s_Model_138 rfl rfl (Nat.le_of_ble_eq_true rfl) hl.1 d_Model_expand_178 (by omega) (by decide) ⟨by omega, by omega⟩ (fun locs hS => ?_)
                  refine lv_if_eq (tgt := 203) X.x X.b d_Model_expand_181 (by decide) (fun c15 => ?_) (fun c15 => ?_)
                  · skip
                    refine lv_iload X.x X.b d_Model_expand_203 (lv_at hl 2 rfl) ?_
                    refine lv_bipush (v := 10) X.x X.b d_Model_expand_205 (by decide) ?_
                    refine lv_icmp_ne (tgt := 259) X.x X.b d_Model_expand_207 (by decide) (fun c16 => ?_) (fun c16 => ?_)
                    · skip
                      refine lv_iload X.x X.b d_Model_expand_259 (lv_at hl 2 rfl) ?_
                      refine lv_bipush (v := 8) X.x X.b d_Model_expand_261 (by decide) ?_
                      refine lv_icmp_ne (tgt := 329) X.x X.b d_Model_expand_263 (by decide) (fun c17 => ?_) (fun c17 => ?_)
                      · exact absurd c17 (by decide)
                      · skip
                        refine lv_iload X.x X.b d_Model_expand_266 (lv_at hl 1 rfl) ?_
                        refine lv_aload_n X.x X.b d_Model_expand_268 rfl (lv_at hl 7 rfl) ?_
                        refine lv_aload_n X.x X.b d_Model_expand_269 rfl (lv_at hl 7 rfl) ?_
                        refine m_get (v := .ref tq) X ok_Model hM.1 1 (by decide) k_Model_9 rfl d_Model_expand_270 ?_
                        refine lv_iload X.x X.b d_Model_expand_273 (lv_at hl 4 rfl) ?_
                        refine lv_iconst (v := 1) X.x X.b d_Model_expand_275 (by decide) ?_
                        refine lv_iadd X.x X.b d_Model_expand_276 ?_
                        rw [show (0 + 1 : Int32) = 1 from by decide]
                        refine m_ild (v := nI j) X hM.a1 1 rfl (by omega) (by decide) (show s1 1 1 = nI j from (by rw [hE.2 1 (by decide), hL.2.2.1])) d_Model_expand_277 ?_
                        refine lv_iload X.x X.b d_Model_expand_278 (lv_at hl 3 rfl) ?_
                        have hR := M_Model_setNow_0 (j := j) l g hM (by omega) (show s1 25 j = 0 from (by rw [(hE.1 j (by omega)).1])) 0
                        refine m_callM X hS hR v_Model_141 hM.1 rfl rfl rfl (Nat.le_of_ble_eq_true rfl) hl.1 d_Model_expand_280 (by omega) (by decide) ⟨by omega, by omega⟩ (fun q z => by have z : mo ≤ q ∧ q < mo + 23 := z; exact ⟨by omega, by omega⟩) (fun H locs hM hfr hS => ?_)
                        have hL2 := hL2.fr hfr (fun z => by have z : mo ≤ q2 ∧ q2 < mo + 23 := z; omega)
                        have hL7 := hL7.fr hfr (fun z => by have z : mo ≤ q7 ∧ q7 < mo + 23 := z; omega)
                        have hL12 := hL12.fr hfr (fun z => by have z : mo ≤ q12 ∧ q12 < mo + 23 := z; omega)
                        obtain ⟨p_5, ep_5⟩ : ∃ z, z = upd p1 3 3 := ⟨_, rfl⟩
                        rw [← ep_5] at hM
                        obtain ⟨p_6, ep_6⟩ : ∃ z, z = upd p_5 4 0 := ⟨_, rfl⟩
                        rw [← ep_6] at hM
                        refine lv_iadd X.x X.b d_Model_expand_283 ?_
                        rw [show (v_ + 0 : Int32) = v_ from Int32.add_zero _]
                        refine lv_aload_n X.x X.b d_Model_expand_284 rfl (lv_at hl 7 rfl) ?_
                        refine lv_aload_n X.x X.b d_Model_expand_285 rfl (lv_at hl 7 rfl) ?_
                        refine m_get (v := .ref tq) X ok_Model hM.1 1 (by decide) k_Model_9 rfl d_Model_expand_286 ?_
                        refine lv_iload X.x X.b d_Model_expand_289 (lv_at hl 4 rfl) ?_
                        refine lv_iconst (v := 2) X.x X.b d_Model_expand_291 (by decide) ?_
                        refine lv_iadd X.x X.b d_Model_expand_292 ?_
                        rw [show (0 + 2 : Int32) = 2 from by decide]
                        refine m_ild (v := (-1)) X hM.a1 2 rfl (by omega) (by decide) (show s1 1 2 = (-1) from (by rw [hE.2 1 (by decide), hL.2.2.2.1])) d_Model_expand_293 ?_
                        refine lv_iload X.x X.b d_Model_expand_294 (lv_at hl 3 rfl) ?_
                        refine m_callP X hS (M_Model_setNow_n l g hM 0) v_Model_141 hM.1 rfl rfl rfl (Nat.le_of_ble_eq_true rfl) hl.1 d_Model_expand_296 (by omega) (by decide) ⟨by omega, by omega⟩ (fun locs hS => ?_)
                        refine lv_isub X.x X.b d_Model_expand_299 ?_
                        refine lv_istore (lv' := [(12, .int (v_ - 0)), (5, .int 1), (11, .int v_), (10, .int 8), (9, .int 0), (8, .int 0), (7, .int 0), (6, .int 0), (0, .ref mo), (1, .ref q2), (2, .ref q7), (3, .ref q12), (4, .int 0)]) X.x X.b d_Model_expand_300 hl (by decide) rfl (fun ls hl => ?_)
                        refine lv_aload_n X.x X.b d_Model_expand_302 rfl (lv_at hl 8 rfl) ?_
                        refine m_get (v := .int 3) X ok_Model hM.1 3 (by decide) k_Model_126 (congrArg (fun z => some (Value.int z)) (show p_6 3 = 3 from (by rw [ep_6, upd_mi _ _ _ (show 3 ≠ 4 by decide), ep_5, upd_hit]))) d_Model_expand_303 ?_
                        refine lv_if_ne (tgt := 326) X.x X.b d_Model_expand_306 (by decide) (fun c18 => ?_) (fun c18 => ?_)
                        · skip
                          refine lv_goto (tgt := 366) X.x X.b d_Model_expand_326 (by decide) ?_
                          refine lv_goto (tgt := 58) X.x X.b d_Model_expand_366 (by decide) ?_
                          refine lv_iload X.x X.b d_Model_expand_58 (lv_at hl 12 rfl) ?_
                          refine lv_if_lt (tgt := 369) X.x X.b d_Model_expand_60 (by decide) (fun c19 => ?_) (fun c19 => ?_)
                          · exact absurd c19 c2
                          · skip
                            have c19q := Int32.not_lt.mp c19
                            refine lv_aload_n X.x X.b d_Model_expand_63 rfl (lv_at hl 8 rfl) ?_
                            refine m_get (v := .int 3) X ok_Model hM.1 3 (by decide) k_Model_126 (congrArg (fun z => some (Value.int z)) (show p_6 3 = 3 from (by rw [ep_6, upd_mi _ _ _ (show 3 ≠ 4 by decide), ep_5, upd_hit]))) d_Model_expand_64 ?_
                            refine lv_if_ne (tgt := 369) X.x X.b d_Model_expand_67 (by decide) (fun c20 => ?_) (fun c20 => ?_)
                            · skip
                              refine lv_aload_n X.x X.b d_Model_expand_369 rfl (lv_at hl 8 rfl) ?_
                              refine m_get (v := .int 3) X ok_Model hM.1 3 (by decide) k_Model_126 (congrArg (fun z => some (Value.int z)) (show p_6 3 = 3 from (by rw [ep_6, upd_mi _ _ _ (show 3 ≠ 4 by decide), ep_5, upd_hit]))) d_Model_expand_370 ?_
                              refine lv_if_ne (tgt := 387) X.x X.b d_Model_expand_373 (by decide) (fun c21 => ?_) (fun c21 => ?_)
                              · skip
                                exact m_vret X hS (by omega) (by omega) d_Model_expand_387 rfl ⟨_, _, hM, (by rw [ep_6, upd_mi _ _ _ (show 0 ≠ 4 by decide), ep_5, upd_mi _ _ _ (show 0 ≠ 3 by decide), hp10]), by rw [hE.2 2 (by decide)], (by rw [ep_6, upd_mi _ _ _ (show 3 ≠ 4 by decide), ep_5, upd_hit])⟩
                              · exact absurd c21 c20
                            · exact absurd c20 c18
                        · exact absurd c18 (by decide)
                    · exact absurd c16 (by decide)
                  · exact absurd c3 c15
            · exact absurd c4 (by decide)
      · exact absurd ((nI_ltI (a := i) (b := 8) (by omega) (by omega)).mp (Int32.not_le.mp c1)) (by omega)
    | succ n ih =>
      intro i s1 hin hi5 hE H locs ls hM hL2 hL7 hL12 hS hl
      refine lv_iload X.x X.b d_Model_expand_29 (lv_at hl 6 rfl) ?_
      refine lv_bipush (v := 8) X.x X.b d_Model_expand_31 (by decide) ?_
      refine lv_icmp_ge (tgt := 58) X.x X.b d_Model_expand_33 (by decide) (fun c22 => ?_) (fun c22 => ?_)
      · exact absurd ((nI_leI (a := 8) (b := i) (by omega) (by omega)).mp c22) (by omega)
      · skip
        have c22q := Int32.not_le.mp c22
        refine lv_aload_n X.x X.b d_Model_expand_36 rfl (lv_at hl 0 rfl) ?_
        refine m_get (v := .ref (mo + 20)) X ok_Model hM.1 25 (by decide) k_Model_68 rfl d_Model_expand_37 ?_
        refine lv_iload X.x X.b d_Model_expand_40 (lv_at hl 6 rfl) ?_
        refine lv_iconst (v := 0) X.x X.b d_Model_expand_42 (by decide) ?_
        refine m_ist X hS (Or.inl ⟨by omega, by omega⟩) hM.a25 i rfl (by omega) (by decide) d_Model_expand_43 (fun H locs hp hcg hS => ?_)
        have hM := hM.s25 hp hcg
        obtain ⟨s_7, es_7⟩ : ∃ z, z = updR s1 25 (upd (s1 25) i 0) := ⟨_, rfl⟩
        rw [← es_7] at hM
        have hL2 := hL2.off hcg (by omega)
        have hL7 := hL7.off hcg (by omega)
        have hL12 := hL12.off hcg (by omega)
        refine lv_aload_n X.x X.b d_Model_expand_44 rfl (lv_at hl 0 rfl) ?_
        refine m_get (v := .ref (mo + 22)) X ok_Model hM.1 27 (by decide) k_Model_74 rfl d_Model_expand_45 ?_
        refine lv_iload X.x X.b d_Model_expand_48 (lv_at hl 6 rfl) ?_
        refine lv_iconst (v := -1) X.x X.b d_Model_expand_50 (by decide) ?_
        refine m_ist X hS (Or.inl ⟨by omega, by omega⟩) hM.a27 i rfl (by omega) (by decide) d_Model_expand_51 (fun H locs hp hcg hS => ?_)
        have hM := hM.s27 hp hcg
        obtain ⟨s_8, es_8⟩ : ∃ z, z = updR s_7 27 (upd (s_7 27) i (-1)) := ⟨_, rfl⟩
        rw [← es_8] at hM
        have hL2 := hL2.off hcg (by omega)
        have hL7 := hL7.off hcg (by omega)
        have hL12 := hL12.off hcg (by omega)
        refine lv_iinc (v := nI (i + 1)) (lv' := [(6, .int (nI (i + 1))), (0, .ref mo), (1, .ref q2), (2, .ref q7), (3, .ref q12), (4, .int 0), (5, .int 0)]) X.x X.b d_Model_expand_52 hl (k := 6) rfl (nI_1 i) (by decide) rfl (fun ls hl => ?_)
        refine lv_goto (tgt := 29) X.x X.b d_Model_expand_55 (by decide) ?_
        exact ih (i + 1) s_8 (by omega) (by omega) (⟨fun j hj => (Nat.lt_or_ge j i).elim (fun z => ⟨by rw [es_8, updR_n2 _ _ _ _ (show j ≠ i by omega), es_7, updR_n2 _ _ _ _ (show j ≠ i by omega)]; exact (hE.1 j z).1, by rw [es_8, updR_n2 _ _ _ _ (show j ≠ i by omega), es_7, updR_n2 _ _ _ _ (show j ≠ i by omega)]; exact (hE.1 j z).2⟩) (fun z => ⟨by rw [show j = i by omega, es_8, updR_mf _ _ _ (show 25 ≠ 27 by decide), es_7, updR_hit], by rw [show j = i by omega, es_8, updR_hit]⟩), by rw [es_8, es_7]; exact (hE.2.up _ _ (by decide)).up _ _ (by decide)⟩) _ _ _ hM hL2 hL7 hL12 hS (lv_sub hl [1, 2, 3, 4, 5, 6, 0] rfl)
  exact lp 8 0 s0 (by omega) (by omega) (⟨fun j hj => absurd hj (Nat.not_lt_zero j), same.rf _ _⟩) _ _ _ hM hL2 hL7 hL12 hS (lv_sub hl [6, 5, 4, 3, 2, 1, 0] rfl)
set_option maxRecDepth 100000 in
set_option maxHeartbeats 4000000 in
theorem M_Model_expand_L8ny (l : Launch) (g : GG) {mo tq : Nat} {p0 : Nat → Int32} {s0 : Nat → Nat → Int32} {H0 : Heap} (hM : mAt g mo tq p0 s0 H0) {v_ r : Int32} {j : Nat} (hj : j < 8) (hL : oneL 8 (-1) (nI j) v_ r s0) (hf3 : p0 3 = 0) : MM l y_Model_expand c_Model_expand 13 none 3 3 18 g H0 [.ref mo] (fun q => mo ≤ q ∧ q < mo + 23) (none) (fun H1 => ∃ p s, mAt g mo tq p s H1 ∧ p 0 = p0 0 ∧ s 2 = s0 2 ∧ p 3 = 3) := by
  refine MM.of (by decide +kernel) (Nat.le_of_ble_eq_true rfl) ?_
  intro p e s m below meth cd X hH ls hl
  have X : CX g p s m _ meth cd c_Model_expand 13 none R_Model _ := X
  have hl : lv_has ls 13 [(0, .ref mo)] := hl
  have hS : va_S (AA (fun q => mo ≤ q ∧ q < mo + 23) H0) H0 H0 [] := va_S.rf
  have hlt0 := hM.lt
  have htq0 := hM.tq
  refine lv_bipush (v := 6) X.x X.b d_Model_expand_0 (by decide) ?_
  obtain ⟨q2, hq2⟩ := sz_of hS
  have hlt2 := hM.lt
  have hsz2 := hS.1
  refine m_newI X hS hq2 6 (by decide) (by decide) (by decide) (by omega) (by omega) d_Model_expand_2 (fun H hL2 hgr hS hz2 => ?_)
  have hfr := fr.of_grow (A := noA) hgr
  have hM := hM.frame hfr (fun q z => z.elim)
  refine lv_astore_n (lv' := [(1, .ref q2), (0, .ref mo)]) X.x X.b d_Model_expand_4 rfl hl (by decide) rfl (fun ls hl => ?_)
  refine lv_bipush (v := 6) X.x X.b d_Model_expand_5 (by decide) ?_
  obtain ⟨q7, hq7⟩ := sz_of hS
  have hlt7 := hM.lt
  have hsz7 := hS.1
  refine m_newI X hS hq7 6 (by decide) (by decide) (by decide) (by omega) (by omega) d_Model_expand_7 (fun H hL7 hgr hS hz2 => ?_)
  have hfr := fr.of_grow (A := noA) hgr
  have hM := hM.frame hfr (fun q z => z.elim)
  have hL2 := hL2.fr hfr (fun z => z)
  refine lv_astore_n (lv' := [(2, .ref q7), (1, .ref q2), (0, .ref mo)]) X.x X.b d_Model_expand_9 rfl hl (by decide) rfl (fun ls hl => ?_)
  refine lv_bipush (v := 6) X.x X.b d_Model_expand_10 (by decide) ?_
  obtain ⟨q12, hq12⟩ := sz_of hS
  have hlt12 := hM.lt
  have hsz12 := hS.1
  refine m_newI X hS hq12 6 (by decide) (by decide) (by decide) (by omega) (by omega) d_Model_expand_12 (fun H hL12 hgr hS hz2 => ?_)
  have hfr := fr.of_grow (A := noA) hgr
  have hM := hM.frame hfr (fun q z => z.elim)
  have hL2 := hL2.fr hfr (fun z => z)
  have hL7 := hL7.fr hfr (fun z => z)
  refine lv_astore_n (lv' := [(3, .ref q12), (2, .ref q7), (1, .ref q2), (0, .ref mo)]) X.x X.b d_Model_expand_14 rfl hl (by decide) rfl (fun ls hl => ?_)
  refine lv_iconst (v := 0) X.x X.b d_Model_expand_15 (by decide) ?_
  refine lv_istore (lv' := [(4, .int 0), (3, .ref q12), (2, .ref q7), (1, .ref q2), (0, .ref mo)]) X.x X.b d_Model_expand_16 hl (by decide) rfl (fun ls hl => ?_)
  refine lv_iconst (v := 0) X.x X.b d_Model_expand_18 (by decide) ?_
  refine lv_istore (lv' := [(5, .int 0), (4, .int 0), (3, .ref q12), (2, .ref q7), (1, .ref q2), (0, .ref mo)]) X.x X.b d_Model_expand_19 hl (by decide) rfl (fun ls hl => ?_)
  refine lv_aload_n X.x X.b d_Model_expand_21 rfl (lv_at hl 5 rfl) ?_
  refine lv_iconst (v := 0) X.x X.b d_Model_expand_22 (by decide) ?_
  refine m_put X ok_Model hS (Or.inl ⟨by omega, by omega⟩) hM.1 5 (by decide) k_Model_132 rfl (ok_Model.2.2.1 _ (by decide)) rfl rfl (Nat.le_of_ble_eq_true rfl) d_Model_expand_23 (fun H locs hp hcg hS => ?_)
  have hM := hM.f5 hp hcg
  obtain ⟨p_1, ep_1⟩ : ∃ z, z = upd p0 5 0 := ⟨_, rfl⟩
  rw [← ep_1] at hM
  have hL2 := hL2.off hcg (by omega)
  have hL7 := hL7.off hcg (by omega)
  have hL12 := hL12.off hcg (by omega)
  obtain ⟨p1, hp1⟩ : ∃ z, z = p_1 := ⟨_, rfl⟩
  rw [← hp1] at hM
  have hp1 : p1 = upd p0 5 0 := by rw [hp1, ep_1]
  have hp15 : p1 5 = 0 := by rw [hp1]; exact upd_hit _ _ _
  have hp13 : p1 3 = 0 := by rw [hp1]; exact (upd_mi _ _ _ (by decide)).trans hf3
  have hp10 : p1 0 = p0 0 := by rw [hp1]; exact upd_mi _ _ _ (by decide)
  refine lv_iconst (v := 0) X.x X.b d_Model_expand_26 (by decide) ?_
  refine lv_istore (lv' := [(6, .int 0), (5, .int 0), (4, .int 0), (3, .ref q12), (2, .ref q7), (1, .ref q2), (0, .ref mo)]) X.x X.b d_Model_expand_27 hl (by decide) rfl (fun ls hl => ?_)
  have lp : ∀ (n i : Nat) (s1 : Nat → Nat → Int32), n = 8 - i → i < 5000 → ((∀ j, j < i → s1 25 j = 0 ∧ s1 27 j = -1) ∧ same [25, 27] s0 s1) → ∀ (H : Heap) (locs : List Loc) (ls : Array Slot), mAt g mo tq p1 s1 H → pt g q2 (.inl (g.2 0, 6, .inl (fun _ => 0))) H → pt g q7 (.inl (g.2 0, 6, .inl (fun _ => 0))) H → pt g q12 (.inl (g.2 0, 6, .inl (fun _ => 0))) H → va_S (AA (fun q => mo ≤ q ∧ q < mo + 23) H0) H0 H locs → lv_has ls 13 [(0, .ref mo), (1, .ref q2), (2, .ref q7), (3, .ref q12), (4, .int 0), (5, .int 0), (6, .int (nI i))] → W p l e (rmK 3 3 18) s m ([.ref mo] : List Value).toArray below meth cd H locs 3 18 (MQ below (QM (none) (fun H1 => ∃ p s, mAt g mo tq p s H1 ∧ p 0 = p0 0 ∧ s 2 = s0 2 ∧ p 3 = 3) (fun q => mo ≤ q ∧ q < mo + 23) H0) ([.ref mo] : List Value).toArray s 3 18 (AA (fun q => mo ≤ q ∧ q < mo + 23) H0)) (F0 m 29 ls []) := by
    intro n
    induction n with
    | zero =>
      intro i s1 hin hi5 hE H locs ls hM hL2 hL7 hL12 hS hl
      refine lv_iload X.x X.b d_Model_expand_29 (lv_at hl 6 rfl) ?_
      refine lv_bipush (v := 8) X.x X.b d_Model_expand_31 (by decide) ?_
      refine lv_icmp_ge (tgt := 58) X.x X.b d_Model_expand_33 (by decide) (fun c1 => ?_) (fun c1 => ?_)
      · skip
        have c1q := Int32.not_lt.mpr c1
        refine lv_iload X.x X.b d_Model_expand_58 (lv_at hl 4 rfl) ?_
        refine lv_if_lt (tgt := 369) X.x X.b d_Model_expand_60 (by decide) (fun c2 => ?_) (fun c2 => ?_)
        · exact absurd c2 (by decide)
        · skip
          have c2q := Int32.not_lt.mp c2
          refine lv_aload_n X.x X.b d_Model_expand_63 rfl (lv_at hl 0 rfl) ?_
          refine m_get (v := .int 0) X ok_Model hM.1 3 (by decide) k_Model_126 (congrArg (fun z => some (Value.int z)) (show p1 3 = 0 from (by rw [hp13]))) d_Model_expand_64 ?_
          refine lv_if_ne (tgt := 369) X.x X.b d_Model_expand_67 (by decide) (fun c3 => ?_) (fun c3 => ?_)
          · exact absurd c3 (by decide)
          · skip
            refine lv_aload_n X.x X.b d_Model_expand_70 rfl (lv_at hl 1 rfl) ?_
            refine lv_iload X.x X.b d_Model_expand_71 (lv_at hl 4 rfl) ?_
            refine m_ild (v := 0) X hL2 0 rfl (by omega) (by decide) (show (fun _ => 0) 0 = 0 from rfl) d_Model_expand_73 ?_
            refine lv_istore (lv' := [(6, .int 0), (0, .ref mo), (1, .ref q2), (2, .ref q7), (3, .ref q12), (4, .int 0), (5, .int 0)]) X.x X.b d_Model_expand_74 hl (by decide) rfl (fun ls hl => ?_)
            refine lv_aload_n X.x X.b d_Model_expand_76 rfl (lv_at hl 3 rfl) ?_
            refine lv_iload X.x X.b d_Model_expand_77 (lv_at hl 5 rfl) ?_
            refine m_ild (v := 0) X hL7 0 rfl (by omega) (by decide) (show (fun _ => 0) 0 = 0 from rfl) d_Model_expand_79 ?_
            refine lv_aload_n X.x X.b d_Model_expand_80 rfl (lv_at hl 1 rfl) ?_
            refine m_get (v := .ref (mo + 2)) X ok_Model hM.1 2 (by decide) k_Model_13 rfl d_Model_expand_81 ?_
            refine lv_iload X.x X.b d_Model_expand_84 (lv_at hl 0 rfl) ?_
            refine m_ild (v := 1) X hM.a2 0 rfl (by omega) (by decide) (show s1 2 0 = 1 from (by rw [hE.2 2 (by decide), hL.1.1])) d_Model_expand_86 ?_
            refine lv_icmp_ne (tgt := 96) X.x X.b d_Model_expand_87 (by decide) (fun c4 => ?_) (fun c4 => ?_)
            · skip
              refine lv_aload_n X.x X.b d_Model_expand_96 rfl (lv_at hl 3 rfl) ?_
              refine lv_iload X.x X.b d_Model_expand_97 (lv_at hl 5 rfl) ?_
              refine lv_dup2_11 X.x X.b d_Model_expand_99 rfl rfl ?_
              refine m_ild (v := 0) X hL7 0 rfl (by omega) (by decide) (show (fun _ => 0) 0 = 0 from rfl) d_Model_expand_100 ?_
              refine lv_dup_x2 X.x X.b d_Model_expand_101 rfl rfl rfl ?_
              refine lv_iconst (v := 1) X.x X.b d_Model_expand_102 (by decide) ?_
              refine lv_iadd X.x X.b d_Model_expand_103 ?_
              rw [show (0 + 1 : Int32) = 1 from by decide]
              refine m_ist X hS (Or.inr (by omega)) hL7 0 rfl (by omega) (by decide) d_Model_expand_104 (fun H locs hp hcg hS => ?_)
              have hL7 := hp
              obtain ⟨r_2, er_2⟩ : ∃ z, z = upd (fun _ => 0) 0 1 := ⟨_, rfl⟩
              rw [← er_2] at hL7
              have hM := hM.frame (fr.of_chg (A := fun q => q = q7) hcg rfl) (fun q z => by have z : q = q7 := z; have := hM.tq; omega)
              have hL2 := hL2.off hcg (by omega)
              have hL12 := hL12.off hcg (by omega)
              refine lv_istore (lv' := [(7, .int 0), (6, .int 0), (0, .ref mo), (1, .ref q2), (2, .ref q7), (3, .ref q12), (4, .int 0), (5, .int 0)]) X.x X.b d_Model_expand_105 hl (by decide) rfl (fun ls hl => ?_)
              refine lv_iload X.x X.b d_Model_expand_107 (lv_at hl 1 rfl) ?_
              refine lv_iload X.x X.b d_Model_expand_109 (lv_at hl 0 rfl) ?_
              refine m_callSP X hS (MP_ans (M_Model_at l g 0 0) (show (((0 : Int32) * 64 + 0) * 5) = 0 from by decide)) s_Model_96 rfl rfl (Nat.le_of_ble_eq_true rfl) hl.1 d_Model_expand_111 (by omega) (by decide) ⟨by omega, by omega⟩ (fun locs hS => ?_)
              refine lv_istore (lv' := [(8, .int 0), (7, .int 0), (6, .int 0), (0, .ref mo), (1, .ref q2), (2, .ref q7), (3, .ref q12), (4, .int 0), (5, .int 0)]) X.x X.b d_Model_expand_114 hl (by decide) rfl (fun ls hl => ?_)
              refine lv_aload_n X.x X.b d_Model_expand_116 rfl (lv_at hl 5 rfl) ?_
              refine lv_iconst (v := 0) X.x X.b d_Model_expand_117 (by decide) ?_
              refine m_ild (v := 1) X hL7 0 rfl (by omega) (by decide) (show r_2 0 = 1 from (by rw [er_2, upd_hit])) d_Model_expand_118 ?_
              refine lv_iconst (v := 1) X.x X.b d_Model_expand_119 (by decide) ?_
              refine lv_isub X.x X.b d_Model_expand_120 ?_
              rw [show (1 - 1 : Int32) = 0 from by decide]
              refine lv_istore (lv' := [(9, .int 0), (8, .int 0), (7, .int 0), (6, .int 0), (0, .ref mo), (1, .ref q2), (2, .ref q7), (3, .ref q12), (4, .int 0), (5, .int 0)]) X.x X.b d_Model_expand_121 hl (by decide) rfl (fun ls hl => ?_)
              refine lv_aload_n X.x X.b d_Model_expand_123 rfl (lv_at hl 4 rfl) ?_
              refine m_get (v := .ref tq) X ok_Model hM.1 1 (by decide) k_Model_9 rfl d_Model_expand_124 ?_
              refine lv_iload X.x X.b d_Model_expand_127 (lv_at hl 1 rfl) ?_
              refine m_ild (v := 8) X hM.a1 0 rfl (by omega) (by decide) (show s1 1 0 = 8 from (by rw [hE.2 1 (by decide), hL.2.1])) d_Model_expand_129 ?_
              refine lv_istore (lv' := [(10, .int 8), (9, .int 0), (8, .int 0), (7, .int 0), (6, .int 0), (0, .ref mo), (1, .ref q2), (2, .ref q7), (3, .ref q12), (4, .int 0), (5, .int 0)]) X.x X.b d_Model_expand_130 hl (by decide) rfl (fun ls hl => ?_)
              refine lv_aload_n X.x X.b d_Model_expand_132 rfl (lv_at hl 5 rfl) ?_
              refine m_get (v := .ref tq) X ok_Model hM.1 1 (by decide) k_Model_9 rfl d_Model_expand_133 ?_
              refine lv_iload X.x X.b d_Model_expand_136 (lv_at hl 2 rfl) ?_
              refine lv_iconst (v := 3) X.x X.b d_Model_expand_138 (by decide) ?_
              refine lv_iadd X.x X.b d_Model_expand_139 ?_
              rw [show (0 + 3 : Int32) = 3 from by decide]
              refine m_ild (v := v_) X hM.a1 3 rfl (by omega) (by decide) (show s1 1 3 = v_ from (by rw [hE.2 1 (by decide), hL.2.2.2.2.1])) d_Model_expand_140 ?_
              refine lv_aload_n X.x X.b d_Model_expand_141 rfl (lv_at hl 5 rfl) ?_
              refine m_get (v := .ref tq) X ok_Model hM.1 1 (by decide) k_Model_9 rfl d_Model_expand_142 ?_
              refine lv_iload X.x X.b d_Model_expand_145 (lv_at hl 2 rfl) ?_
              refine lv_iconst (v := 4) X.x X.b d_Model_expand_147 (by decide) ?_
              refine lv_iadd X.x X.b d_Model_expand_148 ?_
              rw [show (0 + 4 : Int32) = 4 from by decide]
              refine m_ild (v := r) X hM.a1 4 rfl (by omega) (by decide) (show s1 1 4 = r from (by rw [hE.2 1 (by decide), hL.2.2.2.2.2])) d_Model_expand_149 ?_
              refine lv_iconst (v := 1) X.x X.b d_Model_expand_150 (by decide) ?_
              refine lv_icmp_ne (tgt := 161) X.x X.b d_Model_expand_151 (by decide) (fun c5 => ?_) (fun c5 => ?_)
              · skip
                refine lv_iconst (v := 0) X.x X.b d_Model_expand_161 (by decide) ?_
                refine lv_iadd X.x X.b d_Model_expand_162 ?_
                rw [show (v_ + 0 : Int32) = v_ from Int32.add_zero _]
                refine lv_istore (lv' := [(11, .int v_), (10, .int 8), (9, .int 0), (8, .int 0), (7, .int 0), (6, .int 0), (0, .ref mo), (1, .ref q2), (2, .ref q7), (3, .ref q12), (4, .int 0), (5, .int 0)]) X.x X.b d_Model_expand_163 hl (by decide) rfl (fun ls hl => ?_)
                refine lv_iinc (v := 1) (lv' := [(5, .int 1), (11, .int v_), (10, .int 8), (9, .int 0), (8, .int 0), (7, .int 0), (6, .int 0), (0, .ref mo), (1, .ref q2), (2, .ref q7), (3, .ref q12), (4, .int 0)]) X.x X.b d_Model_expand_165 hl (k := 11) rfl (by decide) (by decide) rfl (fun ls hl => ?_)
                refine lv_iload X.x X.b d_Model_expand_168 (lv_at hl 0 rfl) ?_
                refine lv_sipush (v := 400) X.x X.b d_Model_expand_170 (by decide) ?_
                refine lv_icmp_gt (tgt := 193) X.x X.b d_Model_expand_173 (by decide) (fun c6 => ?_) (fun c6 => ?_)
                · exact absurd c6 (by decide)
                · skip
                  have c6q := Int32.not_lt.mp c6
                  refine lv_iload X.x X.b d_Model_expand_176 (lv_at hl 2 rfl) ?_
                  refine m_callSP X hS (MP_ans (M_Model_makes l g 8) (show b2i ((8 : Int32) < 8) = 0 from by decide)) s_Model_138 rfl rfl (Nat.le_of_ble_eq_true rfl) hl.1 d_Model_expand_178 (by omega) (by decide) ⟨by omega, by omega⟩ (fun locs hS => ?_)
                  refine lv_if_eq (tgt := 203) X.x X.b d_Model_expand_181 (by decide) (fun c7 => ?_) (fun c7 => ?_)
                  · skip
                    refine lv_iload X.x X.b d_Model_expand_203 (lv_at hl 2 rfl) ?_
                    refine lv_bipush (v := 10) X.x X.b d_Model_expand_205 (by decide) ?_
                    refine lv_icmp_ne (tgt := 259) X.x X.b d_Model_expand_207 (by decide) (fun c8 => ?_) (fun c8 => ?_)
                    · skip
                      refine lv_iload X.x X.b d_Model_expand_259 (lv_at hl 2 rfl) ?_
                      refine lv_bipush (v := 8) X.x X.b d_Model_expand_261 (by decide) ?_
                      refine lv_icmp_ne (tgt := 329) X.x X.b d_Model_expand_263 (by decide) (fun c9 => ?_) (fun c9 => ?_)
                      · exact absurd c9 (by decide)
                      · skip
                        refine lv_iload X.x X.b d_Model_expand_266 (lv_at hl 1 rfl) ?_
                        refine lv_aload_n X.x X.b d_Model_expand_268 rfl (lv_at hl 7 rfl) ?_
                        refine lv_aload_n X.x X.b d_Model_expand_269 rfl (lv_at hl 7 rfl) ?_
                        refine m_get (v := .ref tq) X ok_Model hM.1 1 (by decide) k_Model_9 rfl d_Model_expand_270 ?_
                        refine lv_iload X.x X.b d_Model_expand_273 (lv_at hl 4 rfl) ?_
                        refine lv_iconst (v := 1) X.x X.b d_Model_expand_275 (by decide) ?_
                        refine lv_iadd X.x X.b d_Model_expand_276 ?_
                        rw [show (0 + 1 : Int32) = 1 from by decide]
                        refine m_ild (v := (-1)) X hM.a1 1 rfl (by omega) (by decide) (show s1 1 1 = (-1) from (by rw [hE.2 1 (by decide), hL.2.2.1])) d_Model_expand_277 ?_
                        refine lv_iload X.x X.b d_Model_expand_278 (lv_at hl 3 rfl) ?_
                        refine m_callP X hS (M_Model_setNow_n l g hM 0) v_Model_141 hM.1 rfl rfl rfl (Nat.le_of_ble_eq_true rfl) hl.1 d_Model_expand_280 (by omega) (by decide) ⟨by omega, by omega⟩ (fun locs hS => ?_)
                        refine lv_iadd X.x X.b d_Model_expand_283 ?_
                        rw [show (v_ + 0 : Int32) = v_ from Int32.add_zero _]
                        refine lv_aload_n X.x X.b d_Model_expand_284 rfl (lv_at hl 7 rfl) ?_
                        refine lv_aload_n X.x X.b d_Model_expand_285 rfl (lv_at hl 7 rfl) ?_
                        refine m_get (v := .ref tq) X ok_Model hM.1 1 (by decide) k_Model_9 rfl d_Model_expand_286 ?_
                        refine lv_iload X.x X.b d_Model_expand_289 (lv_at hl 4 rfl) ?_
                        refine lv_iconst (v := 2) X.x X.b d_Model_expand_291 (by decide) ?_
                        refine lv_iadd X.x X.b d_Model_expand_292 ?_
                        rw [show (0 + 2 : Int32) = 2 from by decide]
                        refine m_ild (v := nI j) X hM.a1 2 rfl (by omega) (by decide) (show s1 1 2 = nI j from (by rw [hE.2 1 (by decide), hL.2.2.2.1])) d_Model_expand_293 ?_
                        refine lv_iload X.x X.b d_Model_expand_294 (lv_at hl 3 rfl) ?_
                        have hR := M_Model_setNow_0 (j := j) l g hM (by omega) (show s1 25 j = 0 from (by rw [(hE.1 j (by omega)).1])) 0
                        refine m_callM X hS hR v_Model_141 hM.1 rfl rfl rfl (Nat.le_of_ble_eq_true rfl) hl.1 d_Model_expand_296 (by omega) (by decide) ⟨by omega, by omega⟩ (fun q z => by have z : mo ≤ q ∧ q < mo + 23 := z; exact ⟨by omega, by omega⟩) (fun H locs hM hfr hS => ?_)
                        have hL2 := hL2.fr hfr (fun z => by have z : mo ≤ q2 ∧ q2 < mo + 23 := z; omega)
                        have hL7 := hL7.fr hfr (fun z => by have z : mo ≤ q7 ∧ q7 < mo + 23 := z; omega)
                        have hL12 := hL12.fr hfr (fun z => by have z : mo ≤ q12 ∧ q12 < mo + 23 := z; omega)
                        obtain ⟨p_3, ep_3⟩ : ∃ z, z = upd p1 3 3 := ⟨_, rfl⟩
                        rw [← ep_3] at hM
                        obtain ⟨p_4, ep_4⟩ : ∃ z, z = upd p_3 4 0 := ⟨_, rfl⟩
                        rw [← ep_4] at hM
                        refine lv_isub X.x X.b d_Model_expand_299 ?_
                        refine lv_istore (lv' := [(12, .int (v_ - 0)), (5, .int 1), (11, .int v_), (10, .int 8), (9, .int 0), (8, .int 0), (7, .int 0), (6, .int 0), (0, .ref mo), (1, .ref q2), (2, .ref q7), (3, .ref q12), (4, .int 0)]) X.x X.b d_Model_expand_300 hl (by decide) rfl (fun ls hl => ?_)
                        refine lv_aload_n X.x X.b d_Model_expand_302 rfl (lv_at hl 8 rfl) ?_
                        refine m_get (v := .int 3) X ok_Model hM.1 3 (by decide) k_Model_126 (congrArg (fun z => some (Value.int z)) (show p_4 3 = 3 from (by rw [ep_4, upd_mi _ _ _ (show 3 ≠ 4 by decide), ep_3, upd_hit]))) d_Model_expand_303 ?_
                        refine lv_if_ne (tgt := 326) X.x X.b d_Model_expand_306 (by decide) (fun c10 => ?_) (fun c10 => ?_)
                        · skip
                          refine lv_goto (tgt := 366) X.x X.b d_Model_expand_326 (by decide) ?_
                          refine lv_goto (tgt := 58) X.x X.b d_Model_expand_366 (by decide) ?_
                          refine lv_iload X.x X.b d_Model_expand_58 (lv_at hl 12 rfl) ?_
                          refine lv_if_lt (tgt := 369) X.x X.b d_Model_expand_60 (by decide) (fun c11 => ?_) (fun c11 => ?_)
                          · exact absurd c11 c2
                          · skip
                            have c11q := Int32.not_lt.mp c11
                            refine lv_aload_n X.x X.b d_Model_expand_63 rfl (lv_at hl 8 rfl) ?_
                            refine m_get (v := .int 3) X ok_Model hM.1 3 (by decide) k_Model_126 (congrArg (fun z => some (Value.int z)) (show p_4 3 = 3 from (by rw [ep_4, upd_mi _ _ _ (show 3 ≠ 4 by decide), ep_3, upd_hit]))) d_Model_expand_64 ?_
                            refine lv_if_ne (tgt := 369) X.x X.b d_Model_expand_67 (by decide) (fun c12 => ?_) (fun c12 => ?_)
                            · skip
                              refine lv_aload_n X.x X.b d_Model_expand_369 rfl (lv_at hl 8 rfl) ?_
                              refine m_get (v := .int 3) X ok_Model hM.1 3 (by decide) k_Model_126 (congrArg (fun z => some (Value.int z)) (show p_4 3 = 3 from (by rw [ep_4, upd_mi _ _ _ (show 3 ≠ 4 by decide), ep_3, upd_hit]))) d_Model_expand_370 ?_
                              refine lv_if_ne (tgt := 387) X.x X.b d_Model_expand_373 (by decide) (fun c13 => ?_) (fun c13 => ?_)
                              · skip
                                exact m_vret X hS (by omega) (by omega) d_Model_expand_387 rfl ⟨_, _, hM, (by rw [ep_4, upd_mi _ _ _ (show 0 ≠ 4 by decide), ep_3, upd_mi _ _ _ (show 0 ≠ 3 by decide), hp10]), by rw [hE.2 2 (by decide)], (by rw [ep_4, upd_mi _ _ _ (show 3 ≠ 4 by decide), ep_3, upd_hit])⟩
                              · exact absurd c13 c12
                            · exact absurd c12 c10
                        · exact absurd c10 (by decide)
                    · exact absurd c8 (by decide)
                  · exact absurd c3 c7
              · skip
                refine lv_aload_n X.x X.b d_Model_expand_154 rfl (lv_at hl 8 rfl) ?_
                refine lv_iload X.x X.b d_Model_expand_155 (lv_at hl 9 rfl) ?_
                refine m_ild (v := 0) X hL12 0 rfl (by omega) (by decide) (show (fun _ => 0) 0 = 0 from rfl) d_Model_expand_157 ?_
                refine lv_goto (tgt := 162) X.x X.b d_Model_expand_158 (by decide) ?_
                refine lv_iadd X.x X.b d_Model_expand_162 ?_
                rw [show (v_ + 0 : Int32) = v_ from Int32.add_zero _]
                refine lv_istore (lv' := [(11, .int v_), (10, .int 8), (9, .int 0), (8, .int 0), (7, .int 0), (6, .int 0), (0, .ref mo), (1, .ref q2), (2, .ref q7), (3, .ref q12), (4, .int 0), (5, .int 0)]) X.x X.b d_Model_expand_163 hl (by decide) rfl (fun ls hl => ?_)
                refine lv_iinc (v := 1) (lv' := [(5, .int 1), (11, .int v_), (10, .int 8), (9, .int 0), (8, .int 0), (7, .int 0), (6, .int 0), (0, .ref mo), (1, .ref q2), (2, .ref q7), (3, .ref q12), (4, .int 0)]) X.x X.b d_Model_expand_165 hl (k := 11) rfl (by decide) (by decide) rfl (fun ls hl => ?_)
                refine lv_iload X.x X.b d_Model_expand_168 (lv_at hl 0 rfl) ?_
                refine lv_sipush (v := 400) X.x X.b d_Model_expand_170 (by decide) ?_
                refine lv_icmp_gt (tgt := 193) X.x X.b d_Model_expand_173 (by decide) (fun c14 => ?_) (fun c14 => ?_)
                · exact absurd c14 (by decide)
                · skip
                  have c14q := Int32.not_lt.mp c14
                  refine lv_iload X.x X.b d_Model_expand_176 (lv_at hl 2 rfl) ?_
                  refine m_callSP X hS (MP_ans (M_Model_makes l g 8) (show b2i ((8 : Int32) < 8) = 0 from by decide)) s_Model_138 rfl rfl (Nat.le_of_ble_eq_true rfl) hl.1 d_Model_expand_178 (by omega) (by decide) ⟨by omega, by omega⟩ (fun locs hS => ?_)
                  refine lv_if_eq (tgt := 203) X.x X.b d_Model_expand_181 (by decide) (fun c15 => ?_) (fun c15 => ?_)
                  · skip
                    refine lv_iload X.x X.b d_Model_expand_203 (lv_at hl 2 rfl) ?_
                    refine lv_bipush (v := 10) X.x X.b d_Model_expand_205 (by decide) ?_
                    refine lv_icmp_ne (tgt := 259) X.x X.b d_Model_expand_207 (by decide) (fun c16 => ?_) (fun c16 => ?_)
                    · skip
                      refine lv_iload X.x X.b d_Model_expand_259 (lv_at hl 2 rfl) ?_
                      refine lv_bipush (v := 8) X.x X.b d_Model_expand_261 (by decide) ?_
                      refine lv_icmp_ne (tgt := 329) X.x X.b d_Model_expand_263 (by decide) (fun c17 => ?_) (fun c17 => ?_)
                      · exact absurd c17 (by decide)
                      · skip
                        refine lv_iload X.x X.b d_Model_expand_266 (lv_at hl 1 rfl) ?_
                        refine lv_aload_n X.x X.b d_Model_expand_268 rfl (lv_at hl 7 rfl) ?_
                        refine lv_aload_n X.x X.b d_Model_expand_269 rfl (lv_at hl 7 rfl) ?_
                        refine m_get (v := .ref tq) X ok_Model hM.1 1 (by decide) k_Model_9 rfl d_Model_expand_270 ?_
                        refine lv_iload X.x X.b d_Model_expand_273 (lv_at hl 4 rfl) ?_
                        refine lv_iconst (v := 1) X.x X.b d_Model_expand_275 (by decide) ?_
                        refine lv_iadd X.x X.b d_Model_expand_276 ?_
                        rw [show (0 + 1 : Int32) = 1 from by decide]
                        refine m_ild (v := (-1)) X hM.a1 1 rfl (by omega) (by decide) (show s1 1 1 = (-1) from (by rw [hE.2 1 (by decide), hL.2.2.1])) d_Model_expand_277 ?_
                        refine lv_iload X.x X.b d_Model_expand_278 (lv_at hl 3 rfl) ?_
                        refine m_callP X hS (M_Model_setNow_n l g hM 0) v_Model_141 hM.1 rfl rfl rfl (Nat.le_of_ble_eq_true rfl) hl.1 d_Model_expand_280 (by omega) (by decide) ⟨by omega, by omega⟩ (fun locs hS => ?_)
                        refine lv_iadd X.x X.b d_Model_expand_283 ?_
                        rw [show (v_ + 0 : Int32) = v_ from Int32.add_zero _]
                        refine lv_aload_n X.x X.b d_Model_expand_284 rfl (lv_at hl 7 rfl) ?_
                        refine lv_aload_n X.x X.b d_Model_expand_285 rfl (lv_at hl 7 rfl) ?_
                        refine m_get (v := .ref tq) X ok_Model hM.1 1 (by decide) k_Model_9 rfl d_Model_expand_286 ?_
                        refine lv_iload X.x X.b d_Model_expand_289 (lv_at hl 4 rfl) ?_
                        refine lv_iconst (v := 2) X.x X.b d_Model_expand_291 (by decide) ?_
                        refine lv_iadd X.x X.b d_Model_expand_292 ?_
                        rw [show (0 + 2 : Int32) = 2 from by decide]
                        refine m_ild (v := nI j) X hM.a1 2 rfl (by omega) (by decide) (show s1 1 2 = nI j from (by rw [hE.2 1 (by decide), hL.2.2.2.1])) d_Model_expand_293 ?_
                        refine lv_iload X.x X.b d_Model_expand_294 (lv_at hl 3 rfl) ?_
                        have hR := M_Model_setNow_0 (j := j) l g hM (by omega) (show s1 25 j = 0 from (by rw [(hE.1 j (by omega)).1])) 0
                        refine m_callM X hS hR v_Model_141 hM.1 rfl rfl rfl (Nat.le_of_ble_eq_true rfl) hl.1 d_Model_expand_296 (by omega) (by decide) ⟨by omega, by omega⟩ (fun q z => by have z : mo ≤ q ∧ q < mo + 23 := z; exact ⟨by omega, by omega⟩) (fun H locs hM hfr hS => ?_)
                        have hL2 := hL2.fr hfr (fun z => by have z : mo ≤ q2 ∧ q2 < mo + 23 := z; omega)
                        have hL7 := hL7.fr hfr (fun z => by have z : mo ≤ q7 ∧ q7 < mo + 23 := z; omega)
                        have hL12 := hL12.fr hfr (fun z => by have z : mo ≤ q12 ∧ q12 < mo + 23 := z; omega)
                        obtain ⟨p_5, ep_5⟩ : ∃ z, z = upd p1 3 3 := ⟨_, rfl⟩
                        rw [← ep_5] at hM
                        obtain ⟨p_6, ep_6⟩ : ∃ z, z = upd p_5 4 0 := ⟨_, rfl⟩
                        rw [← ep_6] at hM
                        refine lv_isub X.x X.b d_Model_expand_299 ?_
                        refine lv_istore (lv' := [(12, .int (v_ - 0)), (5, .int 1), (11, .int v_), (10, .int 8), (9, .int 0), (8, .int 0), (7, .int 0), (6, .int 0), (0, .ref mo), (1, .ref q2), (2, .ref q7), (3, .ref q12), (4, .int 0)]) X.x X.b d_Model_expand_300 hl (by decide) rfl (fun ls hl => ?_)
                        refine lv_aload_n X.x X.b d_Model_expand_302 rfl (lv_at hl 8 rfl) ?_
                        refine m_get (v := .int 3) X ok_Model hM.1 3 (by decide) k_Model_126 (congrArg (fun z => some (Value.int z)) (show p_6 3 = 3 from (by rw [ep_6, upd_mi _ _ _ (show 3 ≠ 4 by decide), ep_5, upd_hit]))) d_Model_expand_303 ?_
                        refine lv_if_ne (tgt := 326) X.x X.b d_Model_expand_306 (by decide) (fun c18 => ?_) (fun c18 => ?_)
                        · skip
                          refine lv_goto (tgt := 366) X.x X.b d_Model_expand_326 (by decide) ?_
                          refine lv_goto (tgt := 58) X.x X.b d_Model_expand_366 (by decide) ?_
                          refine lv_iload X.x X.b d_Model_expand_58 (lv_at hl 12 rfl) ?_
                          refine lv_if_lt (tgt := 369) X.x X.b d_Model_expand_60 (by decide) (fun c19 => ?_) (fun c19 => ?_)
                          · exact absurd c19 c2
                          · skip
                            have c19q := Int32.not_lt.mp c19
                            refine lv_aload_n X.x X.b d_Model_expand_63 rfl (lv_at hl 8 rfl) ?_
                            refine m_get (v := .int 3) X ok_Model hM.1 3 (by decide) k_Model_126 (congrArg (fun z => some (Value.int z)) (show p_6 3 = 3 from (by rw [ep_6, upd_mi _ _ _ (show 3 ≠ 4 by decide), ep_5, upd_hit]))) d_Model_expand_64 ?_
                            refine lv_if_ne (tgt := 369) X.x X.b d_Model_expand_67 (by decide) (fun c20 => ?_) (fun c20 => ?_)
                            · skip
                              refine lv_aload_n X.x X.b d_Model_expand_369 rfl (lv_at hl 8 rfl) ?_
                              refine m_get (v := .int 3) X ok_Model hM.1 3 (by decide) k_Model_126 (congrArg (fun z => some (Value.int z)) (show p_6 3 = 3 from (by rw [ep_6, upd_mi _ _ _ (show 3 ≠ 4 by decide), ep_5, upd_hit]))) d_Model_expand_370 ?_
                              refine lv_if_ne (tgt := 387) X.x X.b d_Model_expand_373 (by decide) (fun c21 => ?_) (fun c21 => ?_)
                              · skip
                                exact m_vret X hS (by omega) (by omega) d_Model_expand_387 rfl ⟨_, _, hM, (by rw [ep_6, upd_mi _ _ _ (show 0 ≠ 4 by decide), ep_5, upd_mi _ _ _ (show 0 ≠ 3 by decide), hp10]), by rw [hE.2 2 (by decide)], (by rw [ep_6, upd_mi _ _ _ (show 3 ≠ 4 by decide), ep_5, upd_hit])⟩
                              · exact absurd c21 c20
                            · exact absurd c20 c18
                        · exact absurd c18 (by decide)
                    · exact absurd c16 (by decide)
                  · exact absurd c3 c15
            · exact absurd c4 (by decide)
      · exact absurd ((nI_ltI (a := i) (b := 8) (by omega) (by omega)).mp (Int32.not_le.mp c1)) (by omega)
    | succ n ih =>
      intro i s1 hin hi5 hE H locs ls hM hL2 hL7 hL12 hS hl
      refine lv_iload X.x X.b d_Model_expand_29 (lv_at hl 6 rfl) ?_
      refine lv_bipush (v := 8) X.x X.b d_Model_expand_31 (by decide) ?_
      refine lv_icmp_ge (tgt := 58) X.x X.b d_Model_expand_33 (by decide) (fun c22 => ?_) (fun c22 => ?_)
      · exact absurd ((nI_leI (a := 8) (b := i) (by omega) (by omega)).mp c22) (by omega)
      · skip
        have c22q := Int32.not_le.mp c22
        refine lv_aload_n X.x X.b d_Model_expand_36 rfl (lv_at hl 0 rfl) ?_
        refine m_get (v := .ref (mo + 20)) X ok_Model hM.1 25 (by decide) k_Model_68 rfl d_Model_expand_37 ?_
        refine lv_iload X.x X.b d_Model_expand_40 (lv_at hl 6 rfl) ?_
        refine lv_iconst (v := 0) X.x X.b d_Model_expand_42 (by decide) ?_
        refine m_ist X hS (Or.inl ⟨by omega, by omega⟩) hM.a25 i rfl (by omega) (by decide) d_Model_expand_43 (fun H locs hp hcg hS => ?_)
        have hM := hM.s25 hp hcg
        obtain ⟨s_7, es_7⟩ : ∃ z, z = updR s1 25 (upd (s1 25) i 0) := ⟨_, rfl⟩
        rw [← es_7] at hM
        have hL2 := hL2.off hcg (by omega)
        have hL7 := hL7.off hcg (by omega)
        have hL12 := hL12.off hcg (by omega)
        refine lv_aload_n X.x X.b d_Model_expand_44 rfl (lv_at hl 0 rfl) ?_
        refine m_get (v := .ref (mo + 22)) X ok_Model hM.1 27 (by decide) k_Model_74 rfl d_Model_expand_45 ?_
        refine lv_iload X.x X.b d_Model_expand_48 (lv_at hl 6 rfl) ?_
        refine lv_iconst (v := -1) X.x X.b d_Model_expand_50 (by decide) ?_
        refine m_ist X hS (Or.inl ⟨by omega, by omega⟩) hM.a27 i rfl (by omega) (by decide) d_Model_expand_51 (fun H locs hp hcg hS => ?_)
        have hM := hM.s27 hp hcg
        obtain ⟨s_8, es_8⟩ : ∃ z, z = updR s_7 27 (upd (s_7 27) i (-1)) := ⟨_, rfl⟩
        rw [← es_8] at hM
        have hL2 := hL2.off hcg (by omega)
        have hL7 := hL7.off hcg (by omega)
        have hL12 := hL12.off hcg (by omega)
        refine lv_iinc (v := nI (i + 1)) (lv' := [(6, .int (nI (i + 1))), (0, .ref mo), (1, .ref q2), (2, .ref q7), (3, .ref q12), (4, .int 0), (5, .int 0)]) X.x X.b d_Model_expand_52 hl (k := 6) rfl (nI_1 i) (by decide) rfl (fun ls hl => ?_)
        refine lv_goto (tgt := 29) X.x X.b d_Model_expand_55 (by decide) ?_
        exact ih (i + 1) s_8 (by omega) (by omega) (⟨fun j hj => (Nat.lt_or_ge j i).elim (fun z => ⟨by rw [es_8, updR_n2 _ _ _ _ (show j ≠ i by omega), es_7, updR_n2 _ _ _ _ (show j ≠ i by omega)]; exact (hE.1 j z).1, by rw [es_8, updR_n2 _ _ _ _ (show j ≠ i by omega), es_7, updR_n2 _ _ _ _ (show j ≠ i by omega)]; exact (hE.1 j z).2⟩) (fun z => ⟨by rw [show j = i by omega, es_8, updR_mf _ _ _ (show 25 ≠ 27 by decide), es_7, updR_hit], by rw [show j = i by omega, es_8, updR_hit]⟩), by rw [es_8, es_7]; exact (hE.2.up _ _ (by decide)).up _ _ (by decide)⟩) _ _ _ hM hL2 hL7 hL12 hS (lv_sub hl [1, 2, 3, 4, 5, 6, 0] rfl)
  exact lp 8 0 s0 (by omega) (by omega) (⟨fun j hj => absurd hj (Nat.not_lt_zero j), same.rf _ _⟩) _ _ _ hM hL2 hL7 hL12 hS (lv_sub hl [6, 5, 4, 3, 2, 1, 0] rfl)
set_option maxRecDepth 100000 in
set_option maxHeartbeats 4000000 in
theorem M_Model_expand_L8xy (l : Launch) (g : GG) {mo tq : Nat} {p0 : Nat → Int32} {s0 : Nat → Nat → Int32} {H0 : Heap} (hM : mAt g mo tq p0 s0 H0) {v_ r : Int32} {j i2 : Nat} (hj : j < 8) (hi2 : i2 < 8) (hL : oneL 8 (nI j) (nI i2) v_ r s0) (hf3 : p0 3 = 0) : MM l y_Model_expand c_Model_expand 13 none 3 3 18 g H0 [.ref mo] (fun q => mo ≤ q ∧ q < mo + 23) (none) (fun H1 => ∃ p s, mAt g mo tq p s H1 ∧ p 0 = p0 0 ∧ s 2 = s0 2 ∧ p 3 = 3) := by
  refine MM.of (by decide +kernel) (Nat.le_of_ble_eq_true rfl) ?_
  intro p e s m below meth cd X hH ls hl
  have X : CX g p s m _ meth cd c_Model_expand 13 none R_Model _ := X
  have hl : lv_has ls 13 [(0, .ref mo)] := hl
  have hS : va_S (AA (fun q => mo ≤ q ∧ q < mo + 23) H0) H0 H0 [] := va_S.rf
  have hlt0 := hM.lt
  have htq0 := hM.tq
  refine lv_bipush (v := 6) X.x X.b d_Model_expand_0 (by decide) ?_
  obtain ⟨q2, hq2⟩ := sz_of hS
  have hlt2 := hM.lt
  have hsz2 := hS.1
  refine m_newI X hS hq2 6 (by decide) (by decide) (by decide) (by omega) (by omega) d_Model_expand_2 (fun H hL2 hgr hS hz2 => ?_)
  have hfr := fr.of_grow (A := noA) hgr
  have hM := hM.frame hfr (fun q z => z.elim)
  refine lv_astore_n (lv' := [(1, .ref q2), (0, .ref mo)]) X.x X.b d_Model_expand_4 rfl hl (by decide) rfl (fun ls hl => ?_)
  refine lv_bipush (v := 6) X.x X.b d_Model_expand_5 (by decide) ?_
  obtain ⟨q7, hq7⟩ := sz_of hS
  have hlt7 := hM.lt
  have hsz7 := hS.1
  refine m_newI X hS hq7 6 (by decide) (by decide) (by decide) (by omega) (by omega) d_Model_expand_7 (fun H hL7 hgr hS hz2 => ?_)
  have hfr := fr.of_grow (A := noA) hgr
  have hM := hM.frame hfr (fun q z => z.elim)
  have hL2 := hL2.fr hfr (fun z => z)
  refine lv_astore_n (lv' := [(2, .ref q7), (1, .ref q2), (0, .ref mo)]) X.x X.b d_Model_expand_9 rfl hl (by decide) rfl (fun ls hl => ?_)
  refine lv_bipush (v := 6) X.x X.b d_Model_expand_10 (by decide) ?_
  obtain ⟨q12, hq12⟩ := sz_of hS
  have hlt12 := hM.lt
  have hsz12 := hS.1
  refine m_newI X hS hq12 6 (by decide) (by decide) (by decide) (by omega) (by omega) d_Model_expand_12 (fun H hL12 hgr hS hz2 => ?_)
  have hfr := fr.of_grow (A := noA) hgr
  have hM := hM.frame hfr (fun q z => z.elim)
  have hL2 := hL2.fr hfr (fun z => z)
  have hL7 := hL7.fr hfr (fun z => z)
  refine lv_astore_n (lv' := [(3, .ref q12), (2, .ref q7), (1, .ref q2), (0, .ref mo)]) X.x X.b d_Model_expand_14 rfl hl (by decide) rfl (fun ls hl => ?_)
  refine lv_iconst (v := 0) X.x X.b d_Model_expand_15 (by decide) ?_
  refine lv_istore (lv' := [(4, .int 0), (3, .ref q12), (2, .ref q7), (1, .ref q2), (0, .ref mo)]) X.x X.b d_Model_expand_16 hl (by decide) rfl (fun ls hl => ?_)
  refine lv_iconst (v := 0) X.x X.b d_Model_expand_18 (by decide) ?_
  refine lv_istore (lv' := [(5, .int 0), (4, .int 0), (3, .ref q12), (2, .ref q7), (1, .ref q2), (0, .ref mo)]) X.x X.b d_Model_expand_19 hl (by decide) rfl (fun ls hl => ?_)
  refine lv_aload_n X.x X.b d_Model_expand_21 rfl (lv_at hl 5 rfl) ?_
  refine lv_iconst (v := 0) X.x X.b d_Model_expand_22 (by decide) ?_
  refine m_put X ok_Model hS (Or.inl ⟨by omega, by omega⟩) hM.1 5 (by decide) k_Model_132 rfl (ok_Model.2.2.1 _ (by decide)) rfl rfl (Nat.le_of_ble_eq_true rfl) d_Model_expand_23 (fun H locs hp hcg hS => ?_)
  have hM := hM.f5 hp hcg
  obtain ⟨p_1, ep_1⟩ : ∃ z, z = upd p0 5 0 := ⟨_, rfl⟩
  rw [← ep_1] at hM
  have hL2 := hL2.off hcg (by omega)
  have hL7 := hL7.off hcg (by omega)
  have hL12 := hL12.off hcg (by omega)
  obtain ⟨p1, hp1⟩ : ∃ z, z = p_1 := ⟨_, rfl⟩
  rw [← hp1] at hM
  have hp1 : p1 = upd p0 5 0 := by rw [hp1, ep_1]
  have hp15 : p1 5 = 0 := by rw [hp1]; exact upd_hit _ _ _
  have hp13 : p1 3 = 0 := by rw [hp1]; exact (upd_mi _ _ _ (by decide)).trans hf3
  have hp10 : p1 0 = p0 0 := by rw [hp1]; exact upd_mi _ _ _ (by decide)
  refine lv_iconst (v := 0) X.x X.b d_Model_expand_26 (by decide) ?_
  refine lv_istore (lv' := [(6, .int 0), (5, .int 0), (4, .int 0), (3, .ref q12), (2, .ref q7), (1, .ref q2), (0, .ref mo)]) X.x X.b d_Model_expand_27 hl (by decide) rfl (fun ls hl => ?_)
  have lp : ∀ (n i : Nat) (s1 : Nat → Nat → Int32), n = 8 - i → i < 5000 → ((∀ j, j < i → s1 25 j = 0 ∧ s1 27 j = -1) ∧ same [25, 27] s0 s1) → ∀ (H : Heap) (locs : List Loc) (ls : Array Slot), mAt g mo tq p1 s1 H → pt g q2 (.inl (g.2 0, 6, .inl (fun _ => 0))) H → pt g q7 (.inl (g.2 0, 6, .inl (fun _ => 0))) H → pt g q12 (.inl (g.2 0, 6, .inl (fun _ => 0))) H → va_S (AA (fun q => mo ≤ q ∧ q < mo + 23) H0) H0 H locs → lv_has ls 13 [(0, .ref mo), (1, .ref q2), (2, .ref q7), (3, .ref q12), (4, .int 0), (5, .int 0), (6, .int (nI i))] → W p l e (rmK 3 3 18) s m ([.ref mo] : List Value).toArray below meth cd H locs 3 18 (MQ below (QM (none) (fun H1 => ∃ p s, mAt g mo tq p s H1 ∧ p 0 = p0 0 ∧ s 2 = s0 2 ∧ p 3 = 3) (fun q => mo ≤ q ∧ q < mo + 23) H0) ([.ref mo] : List Value).toArray s 3 18 (AA (fun q => mo ≤ q ∧ q < mo + 23) H0)) (F0 m 29 ls []) := by
    intro n
    induction n with
    | zero =>
      intro i s1 hin hi5 hE H locs ls hM hL2 hL7 hL12 hS hl
      refine lv_iload X.x X.b d_Model_expand_29 (lv_at hl 6 rfl) ?_
      refine lv_bipush (v := 8) X.x X.b d_Model_expand_31 (by decide) ?_
      refine lv_icmp_ge (tgt := 58) X.x X.b d_Model_expand_33 (by decide) (fun c1 => ?_) (fun c1 => ?_)
      · skip
        have c1q := Int32.not_lt.mpr c1
        refine lv_iload X.x X.b d_Model_expand_58 (lv_at hl 4 rfl) ?_
        refine lv_if_lt (tgt := 369) X.x X.b d_Model_expand_60 (by decide) (fun c2 => ?_) (fun c2 => ?_)
        · exact absurd c2 (by decide)
        · skip
          have c2q := Int32.not_lt.mp c2
          refine lv_aload_n X.x X.b d_Model_expand_63 rfl (lv_at hl 0 rfl) ?_
          refine m_get (v := .int 0) X ok_Model hM.1 3 (by decide) k_Model_126 (congrArg (fun z => some (Value.int z)) (show p1 3 = 0 from (by rw [hp13]))) d_Model_expand_64 ?_
          refine lv_if_ne (tgt := 369) X.x X.b d_Model_expand_67 (by decide) (fun c3 => ?_) (fun c3 => ?_)
          · exact absurd c3 (by decide)
          · skip
            refine lv_aload_n X.x X.b d_Model_expand_70 rfl (lv_at hl 1 rfl) ?_
            refine lv_iload X.x X.b d_Model_expand_71 (lv_at hl 4 rfl) ?_
            refine m_ild (v := 0) X hL2 0 rfl (by omega) (by decide) (show (fun _ => 0) 0 = 0 from rfl) d_Model_expand_73 ?_
            refine lv_istore (lv' := [(6, .int 0), (0, .ref mo), (1, .ref q2), (2, .ref q7), (3, .ref q12), (4, .int 0), (5, .int 0)]) X.x X.b d_Model_expand_74 hl (by decide) rfl (fun ls hl => ?_)
            refine lv_aload_n X.x X.b d_Model_expand_76 rfl (lv_at hl 3 rfl) ?_
            refine lv_iload X.x X.b d_Model_expand_77 (lv_at hl 5 rfl) ?_
            refine m_ild (v := 0) X hL7 0 rfl (by omega) (by decide) (show (fun _ => 0) 0 = 0 from rfl) d_Model_expand_79 ?_
            refine lv_aload_n X.x X.b d_Model_expand_80 rfl (lv_at hl 1 rfl) ?_
            refine m_get (v := .ref (mo + 2)) X ok_Model hM.1 2 (by decide) k_Model_13 rfl d_Model_expand_81 ?_
            refine lv_iload X.x X.b d_Model_expand_84 (lv_at hl 0 rfl) ?_
            refine m_ild (v := 1) X hM.a2 0 rfl (by omega) (by decide) (show s1 2 0 = 1 from (by rw [hE.2 2 (by decide), hL.1.1])) d_Model_expand_86 ?_
            refine lv_icmp_ne (tgt := 96) X.x X.b d_Model_expand_87 (by decide) (fun c4 => ?_) (fun c4 => ?_)
            · skip
              refine lv_aload_n X.x X.b d_Model_expand_96 rfl (lv_at hl 3 rfl) ?_
              refine lv_iload X.x X.b d_Model_expand_97 (lv_at hl 5 rfl) ?_
              refine lv_dup2_11 X.x X.b d_Model_expand_99 rfl rfl ?_
              refine m_ild (v := 0) X hL7 0 rfl (by omega) (by decide) (show (fun _ => 0) 0 = 0 from rfl) d_Model_expand_100 ?_
              refine lv_dup_x2 X.x X.b d_Model_expand_101 rfl rfl rfl ?_
              refine lv_iconst (v := 1) X.x X.b d_Model_expand_102 (by decide) ?_
              refine lv_iadd X.x X.b d_Model_expand_103 ?_
              rw [show (0 + 1 : Int32) = 1 from by decide]
              refine m_ist X hS (Or.inr (by omega)) hL7 0 rfl (by omega) (by decide) d_Model_expand_104 (fun H locs hp hcg hS => ?_)
              have hL7 := hp
              obtain ⟨r_2, er_2⟩ : ∃ z, z = upd (fun _ => 0) 0 1 := ⟨_, rfl⟩
              rw [← er_2] at hL7
              have hM := hM.frame (fr.of_chg (A := fun q => q = q7) hcg rfl) (fun q z => by have z : q = q7 := z; have := hM.tq; omega)
              have hL2 := hL2.off hcg (by omega)
              have hL12 := hL12.off hcg (by omega)
              refine lv_istore (lv' := [(7, .int 0), (6, .int 0), (0, .ref mo), (1, .ref q2), (2, .ref q7), (3, .ref q12), (4, .int 0), (5, .int 0)]) X.x X.b d_Model_expand_105 hl (by decide) rfl (fun ls hl => ?_)
              refine lv_iload X.x X.b d_Model_expand_107 (lv_at hl 1 rfl) ?_
              refine lv_iload X.x X.b d_Model_expand_109 (lv_at hl 0 rfl) ?_
              refine m_callSP X hS (MP_ans (M_Model_at l g 0 0) (show (((0 : Int32) * 64 + 0) * 5) = 0 from by decide)) s_Model_96 rfl rfl (Nat.le_of_ble_eq_true rfl) hl.1 d_Model_expand_111 (by omega) (by decide) ⟨by omega, by omega⟩ (fun locs hS => ?_)
              refine lv_istore (lv' := [(8, .int 0), (7, .int 0), (6, .int 0), (0, .ref mo), (1, .ref q2), (2, .ref q7), (3, .ref q12), (4, .int 0), (5, .int 0)]) X.x X.b d_Model_expand_114 hl (by decide) rfl (fun ls hl => ?_)
              refine lv_aload_n X.x X.b d_Model_expand_116 rfl (lv_at hl 5 rfl) ?_
              refine lv_iconst (v := 0) X.x X.b d_Model_expand_117 (by decide) ?_
              refine m_ild (v := 1) X hL7 0 rfl (by omega) (by decide) (show r_2 0 = 1 from (by rw [er_2, upd_hit])) d_Model_expand_118 ?_
              refine lv_iconst (v := 1) X.x X.b d_Model_expand_119 (by decide) ?_
              refine lv_isub X.x X.b d_Model_expand_120 ?_
              rw [show (1 - 1 : Int32) = 0 from by decide]
              refine lv_istore (lv' := [(9, .int 0), (8, .int 0), (7, .int 0), (6, .int 0), (0, .ref mo), (1, .ref q2), (2, .ref q7), (3, .ref q12), (4, .int 0), (5, .int 0)]) X.x X.b d_Model_expand_121 hl (by decide) rfl (fun ls hl => ?_)
              refine lv_aload_n X.x X.b d_Model_expand_123 rfl (lv_at hl 4 rfl) ?_
              refine m_get (v := .ref tq) X ok_Model hM.1 1 (by decide) k_Model_9 rfl d_Model_expand_124 ?_
              refine lv_iload X.x X.b d_Model_expand_127 (lv_at hl 1 rfl) ?_
              refine m_ild (v := 8) X hM.a1 0 rfl (by omega) (by decide) (show s1 1 0 = 8 from (by rw [hE.2 1 (by decide), hL.2.1])) d_Model_expand_129 ?_
              refine lv_istore (lv' := [(10, .int 8), (9, .int 0), (8, .int 0), (7, .int 0), (6, .int 0), (0, .ref mo), (1, .ref q2), (2, .ref q7), (3, .ref q12), (4, .int 0), (5, .int 0)]) X.x X.b d_Model_expand_130 hl (by decide) rfl (fun ls hl => ?_)
              refine lv_aload_n X.x X.b d_Model_expand_132 rfl (lv_at hl 5 rfl) ?_
              refine m_get (v := .ref tq) X ok_Model hM.1 1 (by decide) k_Model_9 rfl d_Model_expand_133 ?_
              refine lv_iload X.x X.b d_Model_expand_136 (lv_at hl 2 rfl) ?_
              refine lv_iconst (v := 3) X.x X.b d_Model_expand_138 (by decide) ?_
              refine lv_iadd X.x X.b d_Model_expand_139 ?_
              rw [show (0 + 3 : Int32) = 3 from by decide]
              refine m_ild (v := v_) X hM.a1 3 rfl (by omega) (by decide) (show s1 1 3 = v_ from (by rw [hE.2 1 (by decide), hL.2.2.2.2.1])) d_Model_expand_140 ?_
              refine lv_aload_n X.x X.b d_Model_expand_141 rfl (lv_at hl 5 rfl) ?_
              refine m_get (v := .ref tq) X ok_Model hM.1 1 (by decide) k_Model_9 rfl d_Model_expand_142 ?_
              refine lv_iload X.x X.b d_Model_expand_145 (lv_at hl 2 rfl) ?_
              refine lv_iconst (v := 4) X.x X.b d_Model_expand_147 (by decide) ?_
              refine lv_iadd X.x X.b d_Model_expand_148 ?_
              rw [show (0 + 4 : Int32) = 4 from by decide]
              refine m_ild (v := r) X hM.a1 4 rfl (by omega) (by decide) (show s1 1 4 = r from (by rw [hE.2 1 (by decide), hL.2.2.2.2.2])) d_Model_expand_149 ?_
              refine lv_iconst (v := 1) X.x X.b d_Model_expand_150 (by decide) ?_
              refine lv_icmp_ne (tgt := 161) X.x X.b d_Model_expand_151 (by decide) (fun c5 => ?_) (fun c5 => ?_)
              · skip
                refine lv_iconst (v := 0) X.x X.b d_Model_expand_161 (by decide) ?_
                refine lv_iadd X.x X.b d_Model_expand_162 ?_
                rw [show (v_ + 0 : Int32) = v_ from Int32.add_zero _]
                refine lv_istore (lv' := [(11, .int v_), (10, .int 8), (9, .int 0), (8, .int 0), (7, .int 0), (6, .int 0), (0, .ref mo), (1, .ref q2), (2, .ref q7), (3, .ref q12), (4, .int 0), (5, .int 0)]) X.x X.b d_Model_expand_163 hl (by decide) rfl (fun ls hl => ?_)
                refine lv_iinc (v := 1) (lv' := [(5, .int 1), (11, .int v_), (10, .int 8), (9, .int 0), (8, .int 0), (7, .int 0), (6, .int 0), (0, .ref mo), (1, .ref q2), (2, .ref q7), (3, .ref q12), (4, .int 0)]) X.x X.b d_Model_expand_165 hl (k := 11) rfl (by decide) (by decide) rfl (fun ls hl => ?_)
                refine lv_iload X.x X.b d_Model_expand_168 (lv_at hl 0 rfl) ?_
                refine lv_sipush (v := 400) X.x X.b d_Model_expand_170 (by decide) ?_
                refine lv_icmp_gt (tgt := 193) X.x X.b d_Model_expand_173 (by decide) (fun c6 => ?_) (fun c6 => ?_)
                · exact absurd c6 (by decide)
                · skip
                  have c6q := Int32.not_lt.mp c6
                  refine lv_iload X.x X.b d_Model_expand_176 (lv_at hl 2 rfl) ?_
                  refine m_callSP X hS (MP_ans (M_Model_makes l g 8) (show b2i ((8 : Int32) < 8) = 0 from by decide)) s_Model_138 rfl rfl (Nat.le_of_ble_eq_true rfl) hl.1 d_Model_expand_178 (by omega) (by decide) ⟨by omega, by omega⟩ (fun locs hS => ?_)
                  refine lv_if_eq (tgt := 203) X.x X.b d_Model_expand_181 (by decide) (fun c7 => ?_) (fun c7 => ?_)
                  · skip
                    refine lv_iload X.x X.b d_Model_expand_203 (lv_at hl 2 rfl) ?_
                    refine lv_bipush (v := 10) X.x X.b d_Model_expand_205 (by decide) ?_
                    refine lv_icmp_ne (tgt := 259) X.x X.b d_Model_expand_207 (by decide) (fun c8 => ?_) (fun c8 => ?_)
                    · skip
                      refine lv_iload X.x X.b d_Model_expand_259 (lv_at hl 2 rfl) ?_
                      refine lv_bipush (v := 8) X.x X.b d_Model_expand_261 (by decide) ?_
                      refine lv_icmp_ne (tgt := 329) X.x X.b d_Model_expand_263 (by decide) (fun c9 => ?_) (fun c9 => ?_)
                      · exact absurd c9 (by decide)
                      · skip
                        refine lv_iload X.x X.b d_Model_expand_266 (lv_at hl 1 rfl) ?_
                        refine lv_aload_n X.x X.b d_Model_expand_268 rfl (lv_at hl 7 rfl) ?_
                        refine lv_aload_n X.x X.b d_Model_expand_269 rfl (lv_at hl 7 rfl) ?_
                        refine m_get (v := .ref tq) X ok_Model hM.1 1 (by decide) k_Model_9 rfl d_Model_expand_270 ?_
                        refine lv_iload X.x X.b d_Model_expand_273 (lv_at hl 4 rfl) ?_
                        refine lv_iconst (v := 1) X.x X.b d_Model_expand_275 (by decide) ?_
                        refine lv_iadd X.x X.b d_Model_expand_276 ?_
                        rw [show (0 + 1 : Int32) = 1 from by decide]
                        refine m_ild (v := nI j) X hM.a1 1 rfl (by omega) (by decide) (show s1 1 1 = nI j from (by rw [hE.2 1 (by decide), hL.2.2.1])) d_Model_expand_277 ?_
                        refine lv_iload X.x X.b d_Model_expand_278 (lv_at hl 3 rfl) ?_
                        have hR := M_Model_setNow_0 (j := j) l g hM (by omega) (show s1 25 j = 0 from (by rw [(hE.1 j (by omega)).1])) 0
                        refine m_callM X hS hR v_Model_141 hM.1 rfl rfl rfl (Nat.le_of_ble_eq_true rfl) hl.1 d_Model_expand_280 (by omega) (by decide) ⟨by omega, by omega⟩ (fun q z => by have z : mo ≤ q ∧ q < mo + 23 := z; exact ⟨by omega, by omega⟩) (fun H locs hM hfr hS => ?_)
                        have hL2 := hL2.fr hfr (fun z => by have z : mo ≤ q2 ∧ q2 < mo + 23 := z; omega)
                        have hL7 := hL7.fr hfr (fun z => by have z : mo ≤ q7 ∧ q7 < mo + 23 := z; omega)
                        have hL12 := hL12.fr hfr (fun z => by have z : mo ≤ q12 ∧ q12 < mo + 23 := z; omega)
                        obtain ⟨p_3, ep_3⟩ : ∃ z, z = upd p1 3 3 := ⟨_, rfl⟩
                        rw [← ep_3] at hM
                        obtain ⟨p_4, ep_4⟩ : ∃ z, z = upd p_3 4 0 := ⟨_, rfl⟩
                        rw [← ep_4] at hM
                        refine lv_iadd X.x X.b d_Model_expand_283 ?_
                        rw [show (v_ + 0 : Int32) = v_ from Int32.add_zero _]
                        refine lv_aload_n X.x X.b d_Model_expand_284 rfl (lv_at hl 7 rfl) ?_
                        refine lv_aload_n X.x X.b d_Model_expand_285 rfl (lv_at hl 7 rfl) ?_
                        refine m_get (v := .ref tq) X ok_Model hM.1 1 (by decide) k_Model_9 rfl d_Model_expand_286 ?_
                        refine lv_iload X.x X.b d_Model_expand_289 (lv_at hl 4 rfl) ?_
                        refine lv_iconst (v := 2) X.x X.b d_Model_expand_291 (by decide) ?_
                        refine lv_iadd X.x X.b d_Model_expand_292 ?_
                        rw [show (0 + 2 : Int32) = 2 from by decide]
                        refine m_ild (v := nI i2) X hM.a1 2 rfl (by omega) (by decide) (show s1 1 2 = nI i2 from (by rw [hE.2 1 (by decide), hL.2.2.2.1])) d_Model_expand_293 ?_
                        refine lv_iload X.x X.b d_Model_expand_294 (lv_at hl 3 rfl) ?_
                        have hR := M_Model_setNow_0 (j := i2) l g hM (by omega) (show s1 25 i2 = 0 from (by rw [(hE.1 i2 (by omega)).1])) 0
                        refine m_callM X hS hR v_Model_141 hM.1 rfl rfl rfl (Nat.le_of_ble_eq_true rfl) hl.1 d_Model_expand_296 (by omega) (by decide) ⟨by omega, by omega⟩ (fun q z => by have z : mo ≤ q ∧ q < mo + 23 := z; exact ⟨by omega, by omega⟩) (fun H locs hM hfr hS => ?_)
                        have hL2 := hL2.fr hfr (fun z => by have z : mo ≤ q2 ∧ q2 < mo + 23 := z; omega)
                        have hL7 := hL7.fr hfr (fun z => by have z : mo ≤ q7 ∧ q7 < mo + 23 := z; omega)
                        have hL12 := hL12.fr hfr (fun z => by have z : mo ≤ q12 ∧ q12 < mo + 23 := z; omega)
                        obtain ⟨p_5, ep_5⟩ : ∃ z, z = upd p_4 3 3 := ⟨_, rfl⟩
                        rw [← ep_5] at hM
                        obtain ⟨p_6, ep_6⟩ : ∃ z, z = upd p_5 4 0 := ⟨_, rfl⟩
                        rw [← ep_6] at hM
                        refine lv_isub X.x X.b d_Model_expand_299 ?_
                        refine lv_istore (lv' := [(12, .int (v_ - 0)), (5, .int 1), (11, .int v_), (10, .int 8), (9, .int 0), (8, .int 0), (7, .int 0), (6, .int 0), (0, .ref mo), (1, .ref q2), (2, .ref q7), (3, .ref q12), (4, .int 0)]) X.x X.b d_Model_expand_300 hl (by decide) rfl (fun ls hl => ?_)
                        refine lv_aload_n X.x X.b d_Model_expand_302 rfl (lv_at hl 8 rfl) ?_
                        refine m_get (v := .int 3) X ok_Model hM.1 3 (by decide) k_Model_126 (congrArg (fun z => some (Value.int z)) (show p_6 3 = 3 from (by rw [ep_6, upd_mi _ _ _ (show 3 ≠ 4 by decide), ep_5, upd_hit]))) d_Model_expand_303 ?_
                        refine lv_if_ne (tgt := 326) X.x X.b d_Model_expand_306 (by decide) (fun c10 => ?_) (fun c10 => ?_)
                        · skip
                          refine lv_goto (tgt := 366) X.x X.b d_Model_expand_326 (by decide) ?_
                          refine lv_goto (tgt := 58) X.x X.b d_Model_expand_366 (by decide) ?_
                          refine lv_iload X.x X.b d_Model_expand_58 (lv_at hl 12 rfl) ?_
                          refine lv_if_lt (tgt := 369) X.x X.b d_Model_expand_60 (by decide) (fun c11 => ?_) (fun c11 => ?_)
                          · exact absurd c11 c2
                          · skip
                            have c11q := Int32.not_lt.mp c11
                            refine lv_aload_n X.x X.b d_Model_expand_63 rfl (lv_at hl 8 rfl) ?_
                            refine m_get (v := .int 3) X ok_Model hM.1 3 (by decide) k_Model_126 (congrArg (fun z => some (Value.int z)) (show p_6 3 = 3 from (by rw [ep_6, upd_mi _ _ _ (show 3 ≠ 4 by decide), ep_5, upd_hit]))) d_Model_expand_64 ?_
                            refine lv_if_ne (tgt := 369) X.x X.b d_Model_expand_67 (by decide) (fun c12 => ?_) (fun c12 => ?_)
                            · skip
                              refine lv_aload_n X.x X.b d_Model_expand_369 rfl (lv_at hl 8 rfl) ?_
                              refine m_get (v := .int 3) X ok_Model hM.1 3 (by decide) k_Model_126 (congrArg (fun z => some (Value.int z)) (show p_6 3 = 3 from (by rw [ep_6, upd_mi _ _ _ (show 3 ≠ 4 by decide), ep_5, upd_hit]))) d_Model_expand_370 ?_
                              refine lv_if_ne (tgt := 387) X.x X.b d_Model_expand_373 (by decide) (fun c13 => ?_) (fun c13 => ?_)
                              · skip
                                exact m_vret X hS (by omega) (by omega) d_Model_expand_387 rfl ⟨_, _, hM, (by rw [ep_6, upd_mi _ _ _ (show 0 ≠ 4 by decide), ep_5, upd_mi _ _ _ (show 0 ≠ 3 by decide), ep_4, upd_mi _ _ _ (show 0 ≠ 4 by decide), ep_3, upd_mi _ _ _ (show 0 ≠ 3 by decide), hp10]), by rw [hE.2 2 (by decide)], (by rw [ep_6, upd_mi _ _ _ (show 3 ≠ 4 by decide), ep_5, upd_hit])⟩
                              · exact absurd c13 c12
                            · exact absurd c12 c10
                        · exact absurd c10 (by decide)
                    · exact absurd c8 (by decide)
                  · exact absurd c3 c7
              · skip
                refine lv_aload_n X.x X.b d_Model_expand_154 rfl (lv_at hl 8 rfl) ?_
                refine lv_iload X.x X.b d_Model_expand_155 (lv_at hl 9 rfl) ?_
                refine m_ild (v := 0) X hL12 0 rfl (by omega) (by decide) (show (fun _ => 0) 0 = 0 from rfl) d_Model_expand_157 ?_
                refine lv_goto (tgt := 162) X.x X.b d_Model_expand_158 (by decide) ?_
                refine lv_iadd X.x X.b d_Model_expand_162 ?_
                rw [show (v_ + 0 : Int32) = v_ from Int32.add_zero _]
                refine lv_istore (lv' := [(11, .int v_), (10, .int 8), (9, .int 0), (8, .int 0), (7, .int 0), (6, .int 0), (0, .ref mo), (1, .ref q2), (2, .ref q7), (3, .ref q12), (4, .int 0), (5, .int 0)]) X.x X.b d_Model_expand_163 hl (by decide) rfl (fun ls hl => ?_)
                refine lv_iinc (v := 1) (lv' := [(5, .int 1), (11, .int v_), (10, .int 8), (9, .int 0), (8, .int 0), (7, .int 0), (6, .int 0), (0, .ref mo), (1, .ref q2), (2, .ref q7), (3, .ref q12), (4, .int 0)]) X.x X.b d_Model_expand_165 hl (k := 11) rfl (by decide) (by decide) rfl (fun ls hl => ?_)
                refine lv_iload X.x X.b d_Model_expand_168 (lv_at hl 0 rfl) ?_
                refine lv_sipush (v := 400) X.x X.b d_Model_expand_170 (by decide) ?_
                refine lv_icmp_gt (tgt := 193) X.x X.b d_Model_expand_173 (by decide) (fun c14 => ?_) (fun c14 => ?_)
                · exact absurd c14 (by decide)
                · skip
                  have c14q := Int32.not_lt.mp c14
                  refine lv_iload X.x X.b d_Model_expand_176 (lv_at hl 2 rfl) ?_
                  refine m_callSP X hS (MP_ans (M_Model_makes l g 8) (show b2i ((8 : Int32) < 8) = 0 from by decide)) s_Model_138 rfl rfl (Nat.le_of_ble_eq_true rfl) hl.1 d_Model_expand_178 (by omega) (by decide) ⟨by omega, by omega⟩ (fun locs hS => ?_)
                  refine lv_if_eq (tgt := 203) X.x X.b d_Model_expand_181 (by decide) (fun c15 => ?_) (fun c15 => ?_)
                  · skip
                    refine lv_iload X.x X.b d_Model_expand_203 (lv_at hl 2 rfl) ?_
                    refine lv_bipush (v := 10) X.x X.b d_Model_expand_205 (by decide) ?_
                    refine lv_icmp_ne (tgt := 259) X.x X.b d_Model_expand_207 (by decide) (fun c16 => ?_) (fun c16 => ?_)
                    · skip
                      refine lv_iload X.x X.b d_Model_expand_259 (lv_at hl 2 rfl) ?_
                      refine lv_bipush (v := 8) X.x X.b d_Model_expand_261 (by decide) ?_
                      refine lv_icmp_ne (tgt := 329) X.x X.b d_Model_expand_263 (by decide) (fun c17 => ?_) (fun c17 => ?_)
                      · exact absurd c17 (by decide)
                      · skip
                        refine lv_iload X.x X.b d_Model_expand_266 (lv_at hl 1 rfl) ?_
                        refine lv_aload_n X.x X.b d_Model_expand_268 rfl (lv_at hl 7 rfl) ?_
                        refine lv_aload_n X.x X.b d_Model_expand_269 rfl (lv_at hl 7 rfl) ?_
                        refine m_get (v := .ref tq) X ok_Model hM.1 1 (by decide) k_Model_9 rfl d_Model_expand_270 ?_
                        refine lv_iload X.x X.b d_Model_expand_273 (lv_at hl 4 rfl) ?_
                        refine lv_iconst (v := 1) X.x X.b d_Model_expand_275 (by decide) ?_
                        refine lv_iadd X.x X.b d_Model_expand_276 ?_
                        rw [show (0 + 1 : Int32) = 1 from by decide]
                        refine m_ild (v := nI j) X hM.a1 1 rfl (by omega) (by decide) (show s1 1 1 = nI j from (by rw [hE.2 1 (by decide), hL.2.2.1])) d_Model_expand_277 ?_
                        refine lv_iload X.x X.b d_Model_expand_278 (lv_at hl 3 rfl) ?_
                        have hR := M_Model_setNow_0 (j := j) l g hM (by omega) (show s1 25 j = 0 from (by rw [(hE.1 j (by omega)).1])) 0
                        refine m_callM X hS hR v_Model_141 hM.1 rfl rfl rfl (Nat.le_of_ble_eq_true rfl) hl.1 d_Model_expand_280 (by omega) (by decide) ⟨by omega, by omega⟩ (fun q z => by have z : mo ≤ q ∧ q < mo + 23 := z; exact ⟨by omega, by omega⟩) (fun H locs hM hfr hS => ?_)
                        have hL2 := hL2.fr hfr (fun z => by have z : mo ≤ q2 ∧ q2 < mo + 23 := z; omega)
                        have hL7 := hL7.fr hfr (fun z => by have z : mo ≤ q7 ∧ q7 < mo + 23 := z; omega)
                        have hL12 := hL12.fr hfr (fun z => by have z : mo ≤ q12 ∧ q12 < mo + 23 := z; omega)
                        obtain ⟨p_7, ep_7⟩ : ∃ z, z = upd p1 3 3 := ⟨_, rfl⟩
                        rw [← ep_7] at hM
                        obtain ⟨p_8, ep_8⟩ : ∃ z, z = upd p_7 4 0 := ⟨_, rfl⟩
                        rw [← ep_8] at hM
                        refine lv_iadd X.x X.b d_Model_expand_283 ?_
                        rw [show (v_ + 0 : Int32) = v_ from Int32.add_zero _]
                        refine lv_aload_n X.x X.b d_Model_expand_284 rfl (lv_at hl 7 rfl) ?_
                        refine lv_aload_n X.x X.b d_Model_expand_285 rfl (lv_at hl 7 rfl) ?_
                        refine m_get (v := .ref tq) X ok_Model hM.1 1 (by decide) k_Model_9 rfl d_Model_expand_286 ?_
                        refine lv_iload X.x X.b d_Model_expand_289 (lv_at hl 4 rfl) ?_
                        refine lv_iconst (v := 2) X.x X.b d_Model_expand_291 (by decide) ?_
                        refine lv_iadd X.x X.b d_Model_expand_292 ?_
                        rw [show (0 + 2 : Int32) = 2 from by decide]
                        refine m_ild (v := nI i2) X hM.a1 2 rfl (by omega) (by decide) (show s1 1 2 = nI i2 from (by rw [hE.2 1 (by decide), hL.2.2.2.1])) d_Model_expand_293 ?_
                        refine lv_iload X.x X.b d_Model_expand_294 (lv_at hl 3 rfl) ?_
                        have hR := M_Model_setNow_0 (j := i2) l g hM (by omega) (show s1 25 i2 = 0 from (by rw [(hE.1 i2 (by omega)).1])) 0
                        refine m_callM X hS hR v_Model_141 hM.1 rfl rfl rfl (Nat.le_of_ble_eq_true rfl) hl.1 d_Model_expand_296 (by omega) (by decide) ⟨by omega, by omega⟩ (fun q z => by have z : mo ≤ q ∧ q < mo + 23 := z; exact ⟨by omega, by omega⟩) (fun H locs hM hfr hS => ?_)
                        have hL2 := hL2.fr hfr (fun z => by have z : mo ≤ q2 ∧ q2 < mo + 23 := z; omega)
                        have hL7 := hL7.fr hfr (fun z => by have z : mo ≤ q7 ∧ q7 < mo + 23 := z; omega)
                        have hL12 := hL12.fr hfr (fun z => by have z : mo ≤ q12 ∧ q12 < mo + 23 := z; omega)
                        obtain ⟨p_9, ep_9⟩ : ∃ z, z = upd p_8 3 3 := ⟨_, rfl⟩
                        rw [← ep_9] at hM
                        obtain ⟨p_10, ep_10⟩ : ∃ z, z = upd p_9 4 0 := ⟨_, rfl⟩
                        rw [← ep_10] at hM
                        refine lv_isub X.x X.b d_Model_expand_299 ?_
                        refine lv_istore (lv' := [(12, .int (v_ - 0)), (5, .int 1), (11, .int v_), (10, .int 8), (9, .int 0), (8, .int 0), (7, .int 0), (6, .int 0), (0, .ref mo), (1, .ref q2), (2, .ref q7), (3, .ref q12), (4, .int 0)]) X.x X.b d_Model_expand_300 hl (by decide) rfl (fun ls hl => ?_)
                        refine lv_aload_n X.x X.b d_Model_expand_302 rfl (lv_at hl 8 rfl) ?_
                        refine m_get (v := .int 3) X ok_Model hM.1 3 (by decide) k_Model_126 (congrArg (fun z => some (Value.int z)) (show p_10 3 = 3 from (by rw [ep_10, upd_mi _ _ _ (show 3 ≠ 4 by decide), ep_9, upd_hit]))) d_Model_expand_303 ?_
                        refine lv_if_ne (tgt := 326) X.x X.b d_Model_expand_306 (by decide) (fun c18 => ?_) (fun c18 => ?_)
                        · skip
                          refine lv_goto (tgt := 366) X.x X.b d_Model_expand_326 (by decide) ?_
                          refine lv_goto (tgt := 58) X.x X.b d_Model_expand_366 (by decide) ?_
                          refine lv_iload X.x X.b d_Model_expand_58 (lv_at hl 12 rfl) ?_
                          refine lv_if_lt (tgt := 369) X.x X.b d_Model_expand_60 (by decide) (fun c19 => ?_) (fun c19 => ?_)
                          · exact absurd c19 c2
                          · skip
                            have c19q := Int32.not_lt.mp c19
                            refine lv_aload_n X.x X.b d_Model_expand_63 rfl (lv_at hl 8 rfl) ?_
                            refine m_get (v := .int 3) X ok_Model hM.1 3 (by decide) k_Model_126 (congrArg (fun z => some (Value.int z)) (show p_10 3 = 3 from (by rw [ep_10, upd_mi _ _ _ (show 3 ≠ 4 by decide), ep_9, upd_hit]))) d_Model_expand_64 ?_
                            refine lv_if_ne (tgt := 369) X.x X.b d_Model_expand_67 (by decide) (fun c20 => ?_) (fun c20 => ?_)
                            · skip
                              refine lv_aload_n X.x X.b d_Model_expand_369 rfl (lv_at hl 8 rfl) ?_
                              refine m_get (v := .int 3) X ok_Model hM.1 3 (by decide) k_Model_126 (congrArg (fun z => some (Value.int z)) (show p_10 3 = 3 from (by rw [ep_10, upd_mi _ _ _ (show 3 ≠ 4 by decide), ep_9, upd_hit]))) d_Model_expand_370 ?_
                              refine lv_if_ne (tgt := 387) X.x X.b d_Model_expand_373 (by decide) (fun c21 => ?_) (fun c21 => ?_)
                              · skip
                                exact m_vret X hS (by omega) (by omega) d_Model_expand_387 rfl ⟨_, _, hM, (by rw [ep_10, upd_mi _ _ _ (show 0 ≠ 4 by decide), ep_9, upd_mi _ _ _ (show 0 ≠ 3 by decide), ep_8, upd_mi _ _ _ (show 0 ≠ 4 by decide), ep_7, upd_mi _ _ _ (show 0 ≠ 3 by decide), hp10]), by rw [hE.2 2 (by decide)], (by rw [ep_10, upd_mi _ _ _ (show 3 ≠ 4 by decide), ep_9, upd_hit])⟩
                              · exact absurd c21 c20
                            · exact absurd c20 c18
                        · exact absurd c18 (by decide)
                    · exact absurd c16 (by decide)
                  · exact absurd c3 c15
            · exact absurd c4 (by decide)
      · exact absurd ((nI_ltI (a := i) (b := 8) (by omega) (by omega)).mp (Int32.not_le.mp c1)) (by omega)
    | succ n ih =>
      intro i s1 hin hi5 hE H locs ls hM hL2 hL7 hL12 hS hl
      refine lv_iload X.x X.b d_Model_expand_29 (lv_at hl 6 rfl) ?_
      refine lv_bipush (v := 8) X.x X.b d_Model_expand_31 (by decide) ?_
      refine lv_icmp_ge (tgt := 58) X.x X.b d_Model_expand_33 (by decide) (fun c22 => ?_) (fun c22 => ?_)
      · exact absurd ((nI_leI (a := 8) (b := i) (by omega) (by omega)).mp c22) (by omega)
      · skip
        have c22q := Int32.not_le.mp c22
        refine lv_aload_n X.x X.b d_Model_expand_36 rfl (lv_at hl 0 rfl) ?_
        refine m_get (v := .ref (mo + 20)) X ok_Model hM.1 25 (by decide) k_Model_68 rfl d_Model_expand_37 ?_
        refine lv_iload X.x X.b d_Model_expand_40 (lv_at hl 6 rfl) ?_
        refine lv_iconst (v := 0) X.x X.b d_Model_expand_42 (by decide) ?_
        refine m_ist X hS (Or.inl ⟨by omega, by omega⟩) hM.a25 i rfl (by omega) (by decide) d_Model_expand_43 (fun H locs hp hcg hS => ?_)
        have hM := hM.s25 hp hcg
        obtain ⟨s_11, es_11⟩ : ∃ z, z = updR s1 25 (upd (s1 25) i 0) := ⟨_, rfl⟩
        rw [← es_11] at hM
        have hL2 := hL2.off hcg (by omega)
        have hL7 := hL7.off hcg (by omega)
        have hL12 := hL12.off hcg (by omega)
        refine lv_aload_n X.x X.b d_Model_expand_44 rfl (lv_at hl 0 rfl) ?_
        refine m_get (v := .ref (mo + 22)) X ok_Model hM.1 27 (by decide) k_Model_74 rfl d_Model_expand_45 ?_
        refine lv_iload X.x X.b d_Model_expand_48 (lv_at hl 6 rfl) ?_
        refine lv_iconst (v := -1) X.x X.b d_Model_expand_50 (by decide) ?_
        refine m_ist X hS (Or.inl ⟨by omega, by omega⟩) hM.a27 i rfl (by omega) (by decide) d_Model_expand_51 (fun H locs hp hcg hS => ?_)
        have hM := hM.s27 hp hcg
        obtain ⟨s_12, es_12⟩ : ∃ z, z = updR s_11 27 (upd (s_11 27) i (-1)) := ⟨_, rfl⟩
        rw [← es_12] at hM
        have hL2 := hL2.off hcg (by omega)
        have hL7 := hL7.off hcg (by omega)
        have hL12 := hL12.off hcg (by omega)
        refine lv_iinc (v := nI (i + 1)) (lv' := [(6, .int (nI (i + 1))), (0, .ref mo), (1, .ref q2), (2, .ref q7), (3, .ref q12), (4, .int 0), (5, .int 0)]) X.x X.b d_Model_expand_52 hl (k := 6) rfl (nI_1 i) (by decide) rfl (fun ls hl => ?_)
        refine lv_goto (tgt := 29) X.x X.b d_Model_expand_55 (by decide) ?_
        exact ih (i + 1) s_12 (by omega) (by omega) (⟨fun j hj => (Nat.lt_or_ge j i).elim (fun z => ⟨by rw [es_12, updR_n2 _ _ _ _ (show j ≠ i by omega), es_11, updR_n2 _ _ _ _ (show j ≠ i by omega)]; exact (hE.1 j z).1, by rw [es_12, updR_n2 _ _ _ _ (show j ≠ i by omega), es_11, updR_n2 _ _ _ _ (show j ≠ i by omega)]; exact (hE.1 j z).2⟩) (fun z => ⟨by rw [show j = i by omega, es_12, updR_mf _ _ _ (show 25 ≠ 27 by decide), es_11, updR_hit], by rw [show j = i by omega, es_12, updR_hit]⟩), by rw [es_12, es_11]; exact (hE.2.up _ _ (by decide)).up _ _ (by decide)⟩) _ _ _ hM hL2 hL7 hL12 hS (lv_sub hl [1, 2, 3, 4, 5, 6, 0] rfl)
  exact lp 8 0 s0 (by omega) (by omega) (⟨fun j hj => absurd hj (Nat.not_lt_zero j), same.rf _ _⟩) _ _ _ hM hL2 hL7 hL12 hS (lv_sub hl [6, 5, 4, 3, 2, 1, 0] rfl)
