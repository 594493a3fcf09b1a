set_option maxRecDepth 100000 in
set_option maxHeartbeats 4000000 in
theorem M_Item_isBranch (l : Launch) (g : GG) {a c : Nat} {S : IS} {H0 : Heap} (hI : iAt g a c S H0) {i : Nat} (hi : i < 121) : MP l y_Item_isBranch c_Item_isBranch 1 (some .boolean) 0 g H0 [.ref (a + 2 + i)] (some (.int (b2i (brF S i)))) := by
  refine MM.of (by decide +kernel) (Nat.le_of_ble_eq_true rfl) ?_
  intro p e s m below meth cd X hH ls hl
  have X : CX g p s m _ meth cd c_Item_isBranch 1 (some .boolean) R_Item _ := X
  have hl : lv_has ls 1 [(0, .ref (a + 2 + i))] := hl
  have hS : va_S (AA (noA) H0) H0 H0 [] := va_S.rf
  refine lv_aload_n X.x X.b d_Item_isBranch_0 rfl (lv_at hl 0 rfl) ?_
  refine m_get (v := .int (S.1 0 i)) X ok_Item (hI.2.2.1 i hi) 0 (by decide) k_Item_15 rfl d_Item_isBranch_1 ?_
  refine lv_iconst (v := 3) X.x X.b d_Item_isBranch_4 (by decide) ?_
  refine lv_icmp_eq (tgt := 16) X.x X.b d_Item_isBranch_5 (by decide) (fun c1 => ?_) (fun c1 => ?_)
  · skip
    refine lv_iconst (v := 1) X.x X.b d_Item_isBranch_16 (by decide) ?_
    refine lv_goto (tgt := 21) X.x X.b d_Item_isBranch_17 (by decide) ?_
    exact m_zret X hS (Nat.zero_le _) (Nat.zero_le _) d_Item_isBranch_21 rfl (congrArg (fun z => some (Value.int z)) (by simp [b2i, brF, c1])) rfl
  · skip
    refine lv_aload_n X.x X.b d_Item_isBranch_8 rfl (lv_at hl 0 rfl) ?_
    refine m_get (v := .int (S.1 0 i)) X ok_Item (hI.2.2.1 i hi) 0 (by decide) k_Item_15 rfl d_Item_isBranch_9 ?_
    refine lv_iconst (v := 4) X.x X.b d_Item_isBranch_12 (by decide) ?_
    refine lv_icmp_ne (tgt := 20) X.x X.b d_Item_isBranch_13 (by decide) (fun c2 => ?_) (fun c2 => ?_)
    · skip
      refine lv_iconst (v := 0) X.x X.b d_Item_isBranch_20 (by decide) ?_
      exact m_zret X hS (Nat.zero_le _) (Nat.zero_le _) d_Item_isBranch_21 rfl (congrArg (fun z => some (Value.int z)) (by simp [b2i, brF, c1, c2])) rfl
    · skip
      refine lv_iconst (v := 1) X.x X.b d_Item_isBranch_16 (by decide) ?_
      refine lv_goto (tgt := 21) X.x X.b d_Item_isBranch_17 (by decide) ?_
      exact m_zret X hS (Nat.zero_le _) (Nat.zero_le _) d_Item_isBranch_21 rfl (congrArg (fun z => some (Value.int z)) (by simp [b2i, brF, c1, c2])) rfl
set_option maxRecDepth 100000 in
set_option maxHeartbeats 4000000 in
theorem M_Item_hasValue (l : Launch) (g : GG) {a c : Nat} {S : IS} {H0 : Heap} (hI : iAt g a c S H0) {i : Nat} (hi : i < 121) : MP l y_Item_hasValue c_Item_hasValue 1 (some .boolean) 1 g H0 [.ref (a + 2 + i)] (some (.int (b2i (S.1 0 i = 2 ∨ brF S i)))) := by
  refine MM.of (by decide +kernel) (Nat.le_of_ble_eq_true rfl) ?_
  intro p e s m below meth cd X hH ls hl
  have X : CX g p s m _ meth cd c_Item_hasValue 1 (some .boolean) R_Item _ := X
  have hl : lv_has ls 1 [(0, .ref (a + 2 + i))] := hl
  have hS : va_S (AA (noA) H0) H0 H0 [] := va_S.rf
  refine lv_aload_n X.x X.b d_Item_hasValue_0 rfl (lv_at hl 0 rfl) ?_
  refine m_get (v := .int (S.1 0 i)) X ok_Item (hI.2.2.1 i hi) 0 (by decide) k_Item_15 rfl d_Item_hasValue_1 ?_
  refine lv_iconst (v := 2) X.x X.b d_Item_hasValue_4 (by decide) ?_
  refine lv_icmp_eq (tgt := 15) X.x X.b d_Item_hasValue_5 (by decide) (fun c1 => ?_) (fun c1 => ?_)
  · skip
    refine lv_iconst (v := 1) X.x X.b d_Item_hasValue_15 (by decide) ?_
    refine lv_goto (tgt := 20) X.x X.b d_Item_hasValue_16 (by decide) ?_
    exact m_zret X hS (Nat.zero_le _) (Nat.zero_le _) d_Item_hasValue_20 rfl (congrArg (fun z => some (Value.int z)) (by simp [b2i, brF, b2i_0, c1])) rfl
  · skip
    refine lv_aload_n X.x X.b d_Item_hasValue_8 rfl (lv_at hl 0 rfl) ?_
    refine m_callP X hS (M_Item_isBranch l g hI hi) v_Item_67 (hI.2.2.1 i hi) rfl rfl rfl (Nat.le_of_ble_eq_true rfl) hl.1 d_Item_hasValue_9 (by omega) (by decide) ⟨Nat.zero_le _, Nat.zero_le _⟩ (fun locs hS => ?_)
    refine lv_if_eq (tgt := 19) X.x X.b d_Item_hasValue_12 (by decide) (fun c2 => ?_) (fun c2 => ?_)
    · skip
      have c2 := b2i_0.mp c2
      refine lv_iconst (v := 0) X.x X.b d_Item_hasValue_19 (by decide) ?_
      exact m_zret X hS (Nat.zero_le _) (Nat.zero_le _) d_Item_hasValue_20 rfl (congrArg (fun z => some (Value.int z)) (by simp [b2i, brF, b2i_0, c1, c2])) rfl
    · skip
      have c2 := b2i_n0 c2
      refine lv_iconst (v := 1) X.x X.b d_Item_hasValue_15 (by decide) ?_
      refine lv_goto (tgt := 20) X.x X.b d_Item_hasValue_16 (by decide) ?_
      exact m_zret X hS (Nat.zero_le _) (Nat.zero_le _) d_Item_hasValue_20 rfl (congrArg (fun z => some (Value.int z)) (by simp [b2i, brF, b2i_0, c1, c2])) rfl
set_option maxRecDepth 100000 in
set_option maxHeartbeats 4000000 in
theorem M_Item_valueHere (l : Launch) (g : GG) {a c : Nat} {S : IS} {H0 : Heap} (hI : iAt g a c S H0) {i : Nat} (hi : i < 121) : MP l y_Item_valueHere c_Item_valueHere 3 (some .int) 0 g H0 [.ref (a + 2 + i)] (some (.int (valF S i))) := by
  refine MM.of (by decide +kernel) (Nat.le_of_ble_eq_true rfl) ?_
  intro p e s m below meth cd X hH ls hl
  have X : CX g p s m _ meth cd c_Item_valueHere 3 (some .int) R_Item _ := X
  have hl : lv_has ls 3 [(0, .ref (a + 2 + i))] := hl
  have hS : va_S (AA (noA) H0) H0 H0 [] := va_S.rf
  refine lv_aload_n X.x X.b d_Item_valueHere_0 rfl (lv_at hl 0 rfl) ?_
  rcases o1 : S.2 7 i with _ | j2
  · skip
    refine m_get (v := .null) X ok_Item (hI.2.2.1 i hi) 7 (by decide) k_Item_38 (by simp [iv, ir_n, ir_s, o1]) d_Item_valueHere_1 ?_
    refine lv_ifnonnullN X.x X.b d_Item_valueHere_4 ?_
    refine lv_iconst (v := 0) X.x X.b d_Item_valueHere_7 (by decide) ?_
    refine lv_goto (tgt := 18) X.x X.b d_Item_valueHere_8 (by decide) ?_
    refine lv_istore_n (lv' := [(1, .int 0), (0, .ref (a + 2 + i))]) X.x X.b d_Item_valueHere_18 rfl hl (by decide) rfl (fun ls hl => ?_)
    refine lv_aload_n X.x X.b d_Item_valueHere_19 rfl (lv_at hl 1 rfl) ?_
    rcases o3 : S.2 8 i with _ | j4
    · skip
      refine m_get (v := .null) X ok_Item (hI.2.2.1 i hi) 8 (by decide) k_Item_42 (by simp [iv, ir_n, ir_s, o3]) d_Item_valueHere_20 ?_
      refine lv_ifnonnullN X.x X.b d_Item_valueHere_23 ?_
      refine lv_iconst (v := 0) X.x X.b d_Item_valueHere_26 (by decide) ?_
      refine lv_goto (tgt := 37) X.x X.b d_Item_valueHere_27 (by decide) ?_
      refine lv_istore_n (lv' := [(2, .int 0), (1, .int 0), (0, .ref (a + 2 + i))]) X.x X.b d_Item_valueHere_37 rfl hl (by decide) rfl (fun ls hl => ?_)
      refine lv_aload_n X.x X.b d_Item_valueHere_38 rfl (lv_at hl 2 rfl) ?_
      refine m_get (v := .int (S.1 3 i)) X ok_Item (hI.2.2.1 i hi) 3 (by decide) k_Item_26 rfl d_Item_valueHere_39 ?_
      refine lv_iload_n X.x X.b d_Item_valueHere_42 rfl (lv_at hl 1 rfl) ?_
      refine lv_iadd X.x X.b d_Item_valueHere_43 ?_
      refine lv_iload_n X.x X.b d_Item_valueHere_44 rfl (lv_at hl 0 rfl) ?_
      refine lv_isub X.x X.b d_Item_valueHere_45 ?_
      exact m_iret X hS (Nat.zero_le _) (Nat.zero_le _) d_Item_valueHere_46 (congrArg (fun z => some (Value.int z)) (by simp [valF, gvF, o1, o3])) rfl
    · skip
      refine m_get (v := .ref (a + 2 + j4)) X ok_Item (hI.2.2.1 i hi) 8 (by decide) k_Item_42 (by simp [iv, ir_n, ir_s, o3]) d_Item_valueHere_20 ?_
      refine lv_ifnonnull (tgt := 30) X.x X.b d_Item_valueHere_23 (by decide) ?_
      refine lv_aload_n X.x X.b d_Item_valueHere_30 rfl (lv_at hl 1 rfl) ?_
      refine m_get (v := .ref (a + 2 + j4)) X ok_Item (hI.2.2.1 i hi) 8 (by decide) k_Item_42 (by simp [iv, ir_n, ir_s, o3]) d_Item_valueHere_31 ?_
      refine m_get (v := .int (S.1 4 j4)) X ok_Item (hI.2.2.1 j4 (hI.2.2.2 _ _ _ hi o3)) 4 (by decide) k_Item_29 rfl d_Item_valueHere_34 ?_
      refine lv_istore_n (lv' := [(2, .int (S.1 4 j4)), (1, .int 0), (0, .ref (a + 2 + i))]) X.x X.b d_Item_valueHere_37 rfl hl (by decide) rfl (fun ls hl => ?_)
      refine lv_aload_n X.x X.b d_Item_valueHere_38 rfl (lv_at hl 2 rfl) ?_
      refine m_get (v := .int (S.1 3 i)) X ok_Item (hI.2.2.1 i hi) 3 (by decide) k_Item_26 rfl d_Item_valueHere_39 ?_
      refine lv_iload_n X.x X.b d_Item_valueHere_42 rfl (lv_at hl 1 rfl) ?_
      refine lv_iadd X.x X.b d_Item_valueHere_43 ?_
      refine lv_iload_n X.x X.b d_Item_valueHere_44 rfl (lv_at hl 0 rfl) ?_
      refine lv_isub X.x X.b d_Item_valueHere_45 ?_
      exact m_iret X hS (Nat.zero_le _) (Nat.zero_le _) d_Item_valueHere_46 (congrArg (fun z => some (Value.int z)) (by simp [valF, gvF, o1, o3])) rfl
  · skip
    refine m_get (v := .ref (a + 2 + j2)) X ok_Item (hI.2.2.1 i hi) 7 (by decide) k_Item_38 (by simp [iv, ir_n, ir_s, o1]) d_Item_valueHere_1 ?_
    refine lv_ifnonnull (tgt := 11) X.x X.b d_Item_valueHere_4 (by decide) ?_
    refine lv_aload_n X.x X.b d_Item_valueHere_11 rfl (lv_at hl 0 rfl) ?_
    refine m_get (v := .ref (a + 2 + j2)) X ok_Item (hI.2.2.1 i hi) 7 (by decide) k_Item_38 (by simp [iv, ir_n, ir_s, o1]) d_Item_valueHere_12 ?_
    refine m_get (v := .int (S.1 4 j2)) X ok_Item (hI.2.2.1 j2 (hI.2.2.2 _ _ _ hi o1)) 4 (by decide) k_Item_29 rfl d_Item_valueHere_15 ?_
    refine lv_istore_n (lv' := [(1, .int (S.1 4 j2)), (0, .ref (a + 2 + i))]) X.x X.b d_Item_valueHere_18 rfl hl (by decide) rfl (fun ls hl => ?_)
    refine lv_aload_n X.x X.b d_Item_valueHere_19 rfl (lv_at hl 1 rfl) ?_
    rcases o5 : S.2 8 i with _ | j6
    · skip
      refine m_get (v := .null) X ok_Item (hI.2.2.1 i hi) 8 (by decide) k_Item_42 (by simp [iv, ir_n, ir_s, o5]) d_Item_valueHere_20 ?_
      refine lv_ifnonnullN X.x X.b d_Item_valueHere_23 ?_
      refine lv_iconst (v := 0) X.x X.b d_Item_valueHere_26 (by decide) ?_
      refine lv_goto (tgt := 37) X.x X.b d_Item_valueHere_27 (by decide) ?_
      refine lv_istore_n (lv' := [(2, .int 0), (1, .int (S.1 4 j2)), (0, .ref (a + 2 + i))]) X.x X.b d_Item_valueHere_37 rfl hl (by decide) rfl (fun ls hl => ?_)
      refine lv_aload_n X.x X.b d_Item_valueHere_38 rfl (lv_at hl 2 rfl) ?_
      refine m_get (v := .int (S.1 3 i)) X ok_Item (hI.2.2.1 i hi) 3 (by decide) k_Item_26 rfl d_Item_valueHere_39 ?_
      refine lv_iload_n X.x X.b d_Item_valueHere_42 rfl (lv_at hl 1 rfl) ?_
      refine lv_iadd X.x X.b d_Item_valueHere_43 ?_
      refine lv_iload_n X.x X.b d_Item_valueHere_44 rfl (lv_at hl 0 rfl) ?_
      refine lv_isub X.x X.b d_Item_valueHere_45 ?_
      exact m_iret X hS (Nat.zero_le _) (Nat.zero_le _) d_Item_valueHere_46 (congrArg (fun z => some (Value.int z)) (by simp [valF, gvF, o1, o5])) rfl
    · skip
      refine m_get (v := .ref (a + 2 + j6)) X ok_Item (hI.2.2.1 i hi) 8 (by decide) k_Item_42 (by simp [iv, ir_n, ir_s, o5]) d_Item_valueHere_20 ?_
      refine lv_ifnonnull (tgt := 30) X.x X.b d_Item_valueHere_23 (by decide) ?_
      refine lv_aload_n X.x X.b d_Item_valueHere_30 rfl (lv_at hl 1 rfl) ?_
      refine m_get (v := .ref (a + 2 + j6)) X ok_Item (hI.2.2.1 i hi) 8 (by decide) k_Item_42 (by simp [iv, ir_n, ir_s, o5]) d_Item_valueHere_31 ?_
      refine m_get (v := .int (S.1 4 j6)) X ok_Item (hI.2.2.1 j6 (hI.2.2.2 _ _ _ hi o5)) 4 (by decide) k_Item_29 rfl d_Item_valueHere_34 ?_
      refine lv_istore_n (lv' := [(2, .int (S.1 4 j6)), (1, .int (S.1 4 j2)), (0, .ref (a + 2 + i))]) X.x X.b d_Item_valueHere_37 rfl hl (by decide) rfl (fun ls hl => ?_)
      refine lv_aload_n X.x X.b d_Item_valueHere_38 rfl (lv_at hl 2 rfl) ?_
      refine m_get (v := .int (S.1 3 i)) X ok_Item (hI.2.2.1 i hi) 3 (by decide) k_Item_26 rfl d_Item_valueHere_39 ?_
      refine lv_iload_n X.x X.b d_Item_valueHere_42 rfl (lv_at hl 1 rfl) ?_
      refine lv_iadd X.x X.b d_Item_valueHere_43 ?_
      refine lv_iload_n X.x X.b d_Item_valueHere_44 rfl (lv_at hl 0 rfl) ?_
      refine lv_isub X.x X.b d_Item_valueHere_45 ?_
      exact m_iret X hS (Nat.zero_le _) (Nat.zero_le _) d_Item_valueHere_46 (congrArg (fun z => some (Value.int z)) (by simp [valF, gvF, o1, o5])) rfl
set_option maxRecDepth 100000 in
set_option maxHeartbeats 4000000 in
theorem M_Item_distanceHere (l : Launch) (g : GG) {a c : Nat} {S : IS} {H0 : Heap} (hI : iAt g a c S H0) {i : Nat} (hi : i < 121) : MP l y_Item_distanceHere c_Item_distanceHere 1 (some .int) 1 g H0 [.ref (a + 2 + i)] (some (.int (dstF S i))) := by
  refine MM.of (by decide +kernel) (Nat.le_of_ble_eq_true rfl) ?_
  intro p e s m below meth cd X hH ls hl
  have X : CX g p s m _ meth cd c_Item_distanceHere 1 (some .int) R_Item _ := X
  have hl : lv_has ls 1 [(0, .ref (a + 2 + i))] := hl
  have hS : va_S (AA (noA) H0) H0 H0 [] := va_S.rf
  refine lv_aload_n X.x X.b d_Item_distanceHere_0 rfl (lv_at hl 0 rfl) ?_
  refine m_callP X hS (M_Item_valueHere l g hI hi) v_Item_71 (hI.2.2.1 i hi) rfl rfl rfl (Nat.le_of_ble_eq_true rfl) hl.1 d_Item_distanceHere_1 (by omega) (by decide) ⟨Nat.zero_le _, Nat.zero_le _⟩ (fun locs hS => ?_)
  refine lv_aload_n X.x X.b d_Item_distanceHere_4 rfl (lv_at hl 0 rfl) ?_
  refine m_get (v := .int (S.1 12 i)) X ok_Item (hI.2.2.1 i hi) 12 (by decide) k_Item_54 rfl d_Item_distanceHere_5 ?_
  refine lv_iconst (v := 1) X.x X.b d_Item_distanceHere_8 (by decide) ?_
  refine lv_iadd X.x X.b d_Item_distanceHere_9 ?_
  refine lv_isub X.x X.b d_Item_distanceHere_10 ?_
  exact m_iret X hS (Nat.zero_le _) (Nat.zero_le _) d_Item_distanceHere_11 (congrArg (fun z => some (Value.int z)) (by simp [dstF])) rfl
set_option maxRecDepth 100000 in
set_option maxHeartbeats 4000000 in
theorem M_Item_isNear (l : Launch) (g : GG) {a c : Nat} {S : IS} {H0 : Heap} (hI : iAt g a c S H0) {i : Nat} (hi : i < 121) : MP l y_Item_isNear c_Item_isNear 2 (some .boolean) 2 g H0 [.ref (a + 2 + i)] (some (.int (b2i (nearF S i)))) := by
  refine MM.of (by decide +kernel) (Nat.le_of_ble_eq_true rfl) ?_
  intro p e s m below meth cd X hH ls hl
  have X : CX g p s m _ meth cd c_Item_isNear 2 (some .boolean) R_Item _ := X
  have hl : lv_has ls 2 [(0, .ref (a + 2 + i))] := hl
  have hS : va_S (AA (noA) H0) H0 H0 [] := va_S.rf
  refine lv_aload_n X.x X.b d_Item_isNear_0 rfl (lv_at hl 0 rfl) ?_
  refine m_callP X hS (M_Item_distanceHere l g hI hi) v_Item_75 (hI.2.2.1 i hi) rfl rfl rfl (Nat.le_of_ble_eq_true rfl) hl.1 d_Item_isNear_1 (by omega) (by decide) ⟨Nat.zero_le _, Nat.zero_le _⟩ (fun locs hS => ?_)
  refine lv_istore_n (lv' := [(1, .int (dstF S i)), (0, .ref (a + 2 + i))]) X.x X.b d_Item_isNear_4 rfl hl (by decide) rfl (fun ls hl => ?_)
  refine lv_iload_n X.x X.b d_Item_isNear_5 rfl (lv_at hl 0 rfl) ?_
  refine lv_bipush (v := -8) X.x X.b d_Item_isNear_6 (by decide) ?_
  refine lv_icmp_lt (tgt := 21) X.x X.b d_Item_isNear_8 (by decide) (fun c1 => ?_) (fun c1 => ?_)
  · skip
    have c1q := Int32.not_le.mpr c1
    refine lv_iconst (v := 0) X.x X.b d_Item_isNear_21 (by decide) ?_
    exact m_zret X hS (Nat.zero_le _) (Nat.zero_le _) d_Item_isNear_22 rfl (congrArg (fun z => some (Value.int z)) (by simp [b2i, nearF, c1, c1q])) rfl
  · skip
    have c1q := Int32.not_lt.mp c1
    refine lv_iload_n X.x X.b d_Item_isNear_11 rfl (lv_at hl 0 rfl) ?_
    refine lv_bipush (v := 7) X.x X.b d_Item_isNear_12 (by decide) ?_
    refine lv_icmp_gt (tgt := 21) X.x X.b d_Item_isNear_14 (by decide) (fun c2 => ?_) (fun c2 => ?_)
    · skip
      have c2q := Int32.not_le.mpr c2
      refine lv_iconst (v := 0) X.x X.b d_Item_isNear_21 (by decide) ?_
      exact m_zret X hS (Nat.zero_le _) (Nat.zero_le _) d_Item_isNear_22 rfl (congrArg (fun z => some (Value.int z)) (by simp [b2i, nearF, c1, c1q, c2, c2q])) rfl
    · skip
      have c2q := Int32.not_lt.mp c2
      refine lv_iconst (v := 1) X.x X.b d_Item_isNear_17 (by decide) ?_
      refine lv_goto (tgt := 22) X.x X.b d_Item_isNear_18 (by decide) ?_
      exact m_zret X hS (Nat.zero_le _) (Nat.zero_le _) d_Item_isNear_22 rfl (congrArg (fun z => some (Value.int z)) (by simp [b2i, nearF, c1, c1q, c2, c2q])) rfl
set_option maxRecDepth 100000 in
set_option maxHeartbeats 4000000 in
theorem M_Item_aboveLoad (l : Launch) (g : GG) {a c : Nat} {S : IS} {H0 : Heap} (hI : iAt g a c S H0) {i : Nat} (hi : i < 121) : MP l y_Item_aboveLoad c_Item_aboveLoad 1 (some .int) 0 g H0 [.ref (a + 2 + i)] (some (.int (abvF S i))) := by
  refine MM.of (by decide +kernel) (Nat.le_of_ble_eq_true rfl) ?_
  intro p e s m below meth cd X hH ls hl
  have X : CX g p s m _ meth cd c_Item_aboveLoad 1 (some .int) R_Item _ := X
  have hl : lv_has ls 1 [(0, .ref (a + 2 + i))] := hl
  have hS : va_S (AA (noA) H0) H0 H0 [] := va_S.rf
  refine lv_aload_n X.x X.b d_Item_aboveLoad_0 rfl (lv_at hl 0 rfl) ?_
  rcases o1 : S.2 9 i with _ | j2
  · skip
    refine m_get (v := .null) X ok_Item (hI.2.2.1 i hi) 9 (by decide) k_Item_45 (by simp [iv, ir_n, ir_s, o1]) d_Item_aboveLoad_1 ?_
    refine lv_ifnonnullN X.x X.b d_Item_aboveLoad_4 ?_
    refine lv_iconst (v := 0) X.x X.b d_Item_aboveLoad_7 (by decide) ?_
    refine lv_goto (tgt := 28) X.x X.b d_Item_aboveLoad_8 (by decide) ?_
    exact m_iret X hS (Nat.zero_le _) (Nat.zero_le _) d_Item_aboveLoad_28 (congrArg (fun z => some (Value.int z)) (by simp [abvF, o1])) rfl
  · skip
    refine m_get (v := .ref (a + 2 + j2)) X ok_Item (hI.2.2.1 i hi) 9 (by decide) k_Item_45 (by simp [iv, ir_n, ir_s, o1]) d_Item_aboveLoad_1 ?_
    refine lv_ifnonnull (tgt := 11) X.x X.b d_Item_aboveLoad_4 (by decide) ?_
    refine lv_aload_n X.x X.b d_Item_aboveLoad_11 rfl (lv_at hl 0 rfl) ?_
    refine m_get (v := .ref (a + 2 + j2)) X ok_Item (hI.2.2.1 i hi) 9 (by decide) k_Item_45 (by simp [iv, ir_n, ir_s, o1]) d_Item_aboveLoad_12 ?_
    refine m_get (v := .int (S.1 12 j2)) X ok_Item (hI.2.2.1 j2 (hI.2.2.2 _ _ _ hi o1)) 12 (by decide) k_Item_54 rfl d_Item_aboveLoad_15 ?_
    refine lv_aload_n X.x X.b d_Item_aboveLoad_18 rfl (lv_at hl 0 rfl) ?_
    refine m_get (v := .int (S.1 10 i)) X ok_Item (hI.2.2.1 i hi) 10 (by decide) k_Item_48 rfl d_Item_aboveLoad_19 ?_
    refine lv_iadd X.x X.b d_Item_aboveLoad_22 ?_
    refine lv_aload_n X.x X.b d_Item_aboveLoad_23 rfl (lv_at hl 0 rfl) ?_
    refine m_get (v := .int (S.1 12 i)) X ok_Item (hI.2.2.1 i hi) 12 (by decide) k_Item_54 rfl d_Item_aboveLoad_24 ?_
    refine lv_isub X.x X.b d_Item_aboveLoad_27 ?_
    exact m_iret X hS (Nat.zero_le _) (Nat.zero_le _) d_Item_aboveLoad_28 (congrArg (fun z => some (Value.int z)) (by simp [abvF, o1])) rfl
set_option maxRecDepth 100000 in
set_option maxHeartbeats 4000000 in
theorem M_Item_canBeFollowed (l : Launch) (g : GG) {a c : Nat} {S : IS} {H0 : Heap} (hI : iAt g a c S H0) {i : Nat} (hi : i < 121) : MP l y_Item_canBeFollowed c_Item_canBeFollowed 1 (some .boolean) 0 g H0 [.ref (a + 2 + i)] (some (.int (b2i (folF S i)))) := by
  refine MM.of (by decide +kernel) (Nat.le_of_ble_eq_true rfl) ?_
  intro p e s m below meth cd X hH ls hl
  have X : CX g p s m _ meth cd c_Item_canBeFollowed 1 (some .boolean) R_Item _ := X
  have hl : lv_has ls 1 [(0, .ref (a + 2 + i))] := hl
  have hS : va_S (AA (noA) H0) H0 H0 [] := va_S.rf
  refine lv_aload_n X.x X.b d_Item_canBeFollowed_0 rfl (lv_at hl 0 rfl) ?_
  refine m_get (v := .int (S.1 0 i)) X ok_Item (hI.2.2.1 i hi) 0 (by decide) k_Item_15 rfl d_Item_canBeFollowed_1 ?_
  refine lv_bipush (v := 6) X.x X.b d_Item_canBeFollowed_4 (by decide) ?_
  refine lv_icmp_eq (tgt := 18) X.x X.b d_Item_canBeFollowed_6 (by decide) (fun c1 => ?_) (fun c1 => ?_)
  · skip
    refine lv_aload_n X.x X.b d_Item_canBeFollowed_18 rfl (lv_at hl 0 rfl) ?_
    refine m_get (v := .int (S.1 13 i)) X ok_Item (hI.2.2.1 i hi) 13 (by decide) k_Item_57 rfl d_Item_canBeFollowed_19 ?_
    refine lv_if_ne (tgt := 29) X.x X.b d_Item_canBeFollowed_22 (by decide) (fun c2 => ?_) (fun c2 => ?_)
    · skip
      refine lv_iconst (v := 0) X.x X.b d_Item_canBeFollowed_29 (by decide) ?_
      exact m_zret X hS (Nat.zero_le _) (Nat.zero_le _) d_Item_canBeFollowed_30 rfl (congrArg (fun z => some (Value.int z)) (by simp [b2i, folF, c1, c2])) rfl
    · skip
      refine lv_iconst (v := 1) X.x X.b d_Item_canBeFollowed_25 (by decide) ?_
      refine lv_goto (tgt := 30) X.x X.b d_Item_canBeFollowed_26 (by decide) ?_
      exact m_zret X hS (Nat.zero_le _) (Nat.zero_le _) d_Item_canBeFollowed_30 rfl (congrArg (fun z => some (Value.int z)) (by simp [b2i, folF, c1, c2])) rfl
  · skip
    refine lv_aload_n X.x X.b d_Item_canBeFollowed_9 rfl (lv_at hl 0 rfl) ?_
    refine m_get (v := .int (S.1 0 i)) X ok_Item (hI.2.2.1 i hi) 0 (by decide) k_Item_15 rfl d_Item_canBeFollowed_10 ?_
    refine lv_bipush (v := 7) X.x X.b d_Item_canBeFollowed_13 (by decide) ?_
    refine lv_icmp_ne (tgt := 31) X.x X.b d_Item_canBeFollowed_15 (by decide) (fun c3 => ?_) (fun c3 => ?_)
    · skip
      refine lv_aload_n X.x X.b d_Item_canBeFollowed_31 rfl (lv_at hl 0 rfl) ?_
      refine m_get (v := .int (S.1 0 i)) X ok_Item (hI.2.2.1 i hi) 0 (by decide) k_Item_15 rfl d_Item_canBeFollowed_32 ?_
      refine lv_iconst (v := 2) X.x X.b d_Item_canBeFollowed_35 (by decide) ?_
      refine lv_icmp_eq (tgt := 43) X.x X.b d_Item_canBeFollowed_36 (by decide) (fun c4 => ?_) (fun c4 => ?_)
      · skip
        refine lv_iconst (v := 0) X.x X.b d_Item_canBeFollowed_43 (by decide) ?_
        exact m_zret X hS (Nat.zero_le _) (Nat.zero_le _) d_Item_canBeFollowed_44 rfl (congrArg (fun z => some (Value.int z)) (by simp [b2i, folF, c1, c3, c4])) rfl
      · skip
        refine lv_iconst (v := 1) X.x X.b d_Item_canBeFollowed_39 (by decide) ?_
        refine lv_goto (tgt := 44) X.x X.b d_Item_canBeFollowed_40 (by decide) ?_
        exact m_zret X hS (Nat.zero_le _) (Nat.zero_le _) d_Item_canBeFollowed_44 rfl (congrArg (fun z => some (Value.int z)) (by simp [b2i, folF, c1, c3, c4])) rfl
    · skip
      refine lv_aload_n X.x X.b d_Item_canBeFollowed_18 rfl (lv_at hl 0 rfl) ?_
      refine m_get (v := .int (S.1 13 i)) X ok_Item (hI.2.2.1 i hi) 13 (by decide) k_Item_57 rfl d_Item_canBeFollowed_19 ?_
      refine lv_if_ne (tgt := 29) X.x X.b d_Item_canBeFollowed_22 (by decide) (fun c5 => ?_) (fun c5 => ?_)
      · skip
        refine lv_iconst (v := 0) X.x X.b d_Item_canBeFollowed_29 (by decide) ?_
        exact m_zret X hS (Nat.zero_le _) (Nat.zero_le _) d_Item_canBeFollowed_30 rfl (congrArg (fun z => some (Value.int z)) (by simp [b2i, folF, c1, c3, c5])) rfl
      · skip
        refine lv_iconst (v := 1) X.x X.b d_Item_canBeFollowed_25 (by decide) ?_
        refine lv_goto (tgt := 30) X.x X.b d_Item_canBeFollowed_26 (by decide) ?_
        exact m_zret X hS (Nat.zero_le _) (Nat.zero_le _) d_Item_canBeFollowed_30 rfl (congrArg (fun z => some (Value.int z)) (by simp [b2i, folF, c1, c3, c5])) rfl
set_option maxRecDepth 100000 in
set_option maxHeartbeats 4000000 in
theorem M_Item_sizeAt (l : Launch) (g : GG) {a c : Nat} {S : IS} {H0 : Heap} (hI : iAt g a c S H0) {i : Nat} (hi : i < 121) (st : Int32) : MP l y_Item_sizeAt c_Item_sizeAt 2 (some .int) 0 g H0 [.ref (a + 2 + i), .int st] (some (.int (szF S i st))) := by
  refine MM.of (by decide +kernel) (Nat.le_of_ble_eq_true rfl) ?_
  intro p e s m below meth cd X hH ls hl
  have X : CX g p s m _ meth cd c_Item_sizeAt 2 (some .int) R_Item _ := X
  have hl : lv_has ls 2 [(0, .ref (a + 2 + i)), (1, .int st)] := hl
  have hS : va_S (AA (noA) H0) H0 H0 [] := va_S.rf
  refine lv_aload_n X.x X.b d_Item_sizeAt_0 rfl (lv_at hl 0 rfl) ?_
  refine m_get (v := .int (S.1 0 i)) X ok_Item (hI.2.2.1 i hi) 0 (by decide) k_Item_15 rfl d_Item_sizeAt_1 ?_
  by_cases k1 : S.1 0 i = 2
  · skip
    refine lv_tableIn (off := 40) (tgt := 44) X.x X.b d_Item_sizeAt_4 (by rw [k1]; decide) (by rw [k1]; decide) (by rw [k1]; decide) (by decide) ?_
    refine lv_iconst (v := 1) X.x X.b d_Item_sizeAt_44 (by decide) ?_
    exact m_iret X hS (Nat.zero_le _) (Nat.zero_le _) d_Item_sizeAt_45 (congrArg (fun z => some (Value.int z)) (by simp [szF, k1])) rfl
  by_cases k2 : S.1 0 i = 3
  · skip
    refine lv_tableIn (off := 42) (tgt := 46) X.x X.b d_Item_sizeAt_4 (by rw [k2]; decide) (by rw [k2]; decide) (by rw [k2]; decide) (by decide) ?_
    refine lv_aload_n X.x X.b d_Item_sizeAt_46 rfl (lv_at hl 0 rfl) ?_
    refine m_get (v := .int (S.1 14 i)) X ok_Item (hI.2.2.1 i hi) 14 (by decide) k_Item_60 rfl d_Item_sizeAt_47 ?_
    refine lv_if_eq (tgt := 57) X.x X.b d_Item_sizeAt_50 (by decide) (fun c3 => ?_) (fun c3 => ?_)
    · skip
      refine lv_iconst (v := 1) X.x X.b d_Item_sizeAt_57 (by decide) ?_
      exact m_iret X hS (Nat.zero_le _) (Nat.zero_le _) d_Item_sizeAt_58 (congrArg (fun z => some (Value.int z)) (by simp [szF, k2, c3])) rfl
    · skip
      refine lv_iconst (v := 2) X.x X.b d_Item_sizeAt_53 (by decide) ?_
      refine lv_goto (tgt := 58) X.x X.b d_Item_sizeAt_54 (by decide) ?_
      exact m_iret X hS (Nat.zero_le _) (Nat.zero_le _) d_Item_sizeAt_58 (congrArg (fun z => some (Value.int z)) (by simp [szF, k2, c3])) rfl
  by_cases k4 : S.1 0 i = 4
  · skip
    refine lv_tableIn (off := 55) (tgt := 59) X.x X.b d_Item_sizeAt_4 (by rw [k4]; decide) (by rw [k4]; decide) (by rw [k4]; decide) (by decide) ?_
    refine lv_aload_n X.x X.b d_Item_sizeAt_59 rfl (lv_at hl 0 rfl) ?_
    refine m_get (v := .int (S.1 14 i)) X ok_Item (hI.2.2.1 i hi) 14 (by decide) k_Item_60 rfl d_Item_sizeAt_60 ?_
    refine lv_if_eq (tgt := 70) X.x X.b d_Item_sizeAt_63 (by decide) (fun c5 => ?_) (fun c5 => ?_)
    · skip
      refine lv_iconst (v := 1) X.x X.b d_Item_sizeAt_70 (by decide) ?_
      exact m_iret X hS (Nat.zero_le _) (Nat.zero_le _) d_Item_sizeAt_71 (congrArg (fun z => some (Value.int z)) (by simp [szF, k4, c5])) rfl
    · skip
      refine lv_iconst (v := 3) X.x X.b d_Item_sizeAt_66 (by decide) ?_
      refine lv_goto (tgt := 71) X.x X.b d_Item_sizeAt_67 (by decide) ?_
      exact m_iret X hS (Nat.zero_le _) (Nat.zero_le _) d_Item_sizeAt_71 (congrArg (fun z => some (Value.int z)) (by simp [szF, k4, c5])) rfl
  by_cases k6 : S.1 0 i = 5
  · skip
    refine lv_tableIn (off := 40) (tgt := 44) X.x X.b d_Item_sizeAt_4 (by rw [k6]; decide) (by rw [k6]; decide) (by rw [k6]; decide) (by decide) ?_
    refine lv_iconst (v := 1) X.x X.b d_Item_sizeAt_44 (by decide) ?_
    exact m_iret X hS (Nat.zero_le _) (Nat.zero_le _) d_Item_sizeAt_45 (congrArg (fun z => some (Value.int z)) (by simp [szF, k6])) rfl
  by_cases k7 : S.1 0 i = 6
  · skip
    refine lv_tableIn (off := 68) (tgt := 72) X.x X.b d_Item_sizeAt_4 (by rw [k7]; decide) (by rw [k7]; decide) (by rw [k7]; decide) (by decide) ?_
    refine lv_aload_n X.x X.b d_Item_sizeAt_72 rfl (lv_at hl 0 rfl) ?_
    refine m_get (v := .int (S.1 11 i)) X ok_Item (hI.2.2.1 i hi) 11 (by decide) k_Item_51 rfl d_Item_sizeAt_73 ?_
    exact m_iret X hS (Nat.zero_le _) (Nat.zero_le _) d_Item_sizeAt_76 (congrArg (fun z => some (Value.int z)) (by simp [szF, k7])) rfl
  by_cases k8 : S.1 0 i = 7
  · skip
    refine lv_tableIn (off := 73) (tgt := 77) X.x X.b d_Item_sizeAt_4 (by rw [k8]; decide) (by rw [k8]; decide) (by rw [k8]; decide) (by decide) ?_
    refine lv_aload_n X.x X.b d_Item_sizeAt_77 rfl (lv_at hl 0 rfl) ?_
    refine m_get (v := .int (S.1 3 i)) X ok_Item (hI.2.2.1 i hi) 3 (by decide) k_Item_26 rfl d_Item_sizeAt_78 ?_
    refine lv_if_le (tgt := 103) X.x X.b d_Item_sizeAt_81 (by decide) (fun c9 => ?_) (fun c9 => ?_)
    · skip
      have c9q := Int32.not_lt.mpr c9
      refine lv_iconst (v := 0) X.x X.b d_Item_sizeAt_103 (by decide) ?_
      exact m_iret X hS (Nat.zero_le _) (Nat.zero_le _) d_Item_sizeAt_104 (congrArg (fun z => some (Value.int z)) (by simp [szF, k8, c9, c9q])) rfl
    · skip
      have c9q := Int32.not_le.mp c9
      refine lv_aload_n X.x X.b d_Item_sizeAt_84 rfl (lv_at hl 0 rfl) ?_
      refine m_get (v := .int (S.1 3 i)) X ok_Item (hI.2.2.1 i hi) 3 (by decide) k_Item_26 rfl d_Item_sizeAt_85 ?_
      refine lv_iload_n X.x X.b d_Item_sizeAt_88 rfl (lv_at hl 1 rfl) ?_
      refine lv_aload_n X.x X.b d_Item_sizeAt_89 rfl (lv_at hl 0 rfl) ?_
      refine m_get (v := .int (S.1 3 i)) X ok_Item (hI.2.2.1 i hi) 3 (by decide) k_Item_26 rfl d_Item_sizeAt_90 ?_
      refine lv_irem X.x X.b d_Item_sizeAt_93 (fun z => by rw [z] at c9q; exact absurd c9q (by decide)) ?_
      refine lv_isub X.x X.b d_Item_sizeAt_94 ?_
      refine lv_aload_n X.x X.b d_Item_sizeAt_95 rfl (lv_at hl 0 rfl) ?_
      refine m_get (v := .int (S.1 3 i)) X ok_Item (hI.2.2.1 i hi) 3 (by decide) k_Item_26 rfl d_Item_sizeAt_96 ?_
      refine lv_irem X.x X.b d_Item_sizeAt_99 (fun z => by rw [z] at c9q; exact absurd c9q (by decide)) ?_
      refine lv_goto (tgt := 104) X.x X.b d_Item_sizeAt_100 (by decide) ?_
      exact m_iret X hS (Nat.zero_le _) (Nat.zero_le _) d_Item_sizeAt_104 (congrArg (fun z => some (Value.int z)) (by simp [szF, k8, c9, c9q])) rfl
  refine lv_tableOut (tgt := 105) X.x X.b d_Item_sizeAt_4 (by have := ne_toInt (k := 2) 2 (by decide) k1; have := ne_toInt (k := 3) 3 (by decide) k2; have := ne_toInt (k := 4) 4 (by decide) k4; have := ne_toInt (k := 5) 5 (by decide) k6; have := ne_toInt (k := 6) 6 (by decide) k7; have := ne_toInt (k := 7) 7 (by decide) k8; omega) (by decide) ?_
  refine lv_iconst (v := 0) X.x X.b d_Item_sizeAt_105 (by decide) ?_
  exact m_iret X hS (Nat.zero_le _) (Nat.zero_le _) d_Item_sizeAt_106 (congrArg (fun z => some (Value.int z)) (by simp [szF, k1, k2, k4, k6, k7, k8])) rfl
set_option maxRecDepth 100000 in
set_option maxHeartbeats 4000000 in
theorem M_Item_branchWord (l : Launch) (g : GG) {a c : Nat} {S : IS} {H0 : Heap} (hI : iAt g a c S H0) {i : Nat} (hi : i < 121) (k : Int32) : MP l y_Item_branchWord c_Item_branchWord 3 (some .int) 2 g H0 [.ref (a + 2 + i), .int k] (some (.int (bwF S i k))) := by
  refine MM.of (by decide +kernel) (Nat.le_of_ble_eq_true rfl) ?_
  intro p e s m below meth cd X hH ls hl
  have X : CX g p s m _ meth cd c_Item_branchWord 3 (some .int) R_Item _ := X
  have hl : lv_has ls 3 [(0, .ref (a + 2 + i)), (1, .int k)] := hl
  have hS : va_S (AA (noA) H0) H0 H0 [] := va_S.rf
  refine lv_aload_n X.x X.b d_Item_branchWord_0 rfl (lv_at hl 0 rfl) ?_
  refine m_get (v := .int (S.1 14 i)) X ok_Item (hI.2.2.1 i hi) 14 (by decide) k_Item_60 rfl d_Item_branchWord_1 ?_
  refine lv_if_ne (tgt := 30) X.x X.b d_Item_branchWord_4 (by decide) (fun c1 => ?_) (fun c1 => ?_)
  · skip
    refine lv_aload_n X.x X.b d_Item_branchWord_30 rfl (lv_at hl 0 rfl) ?_
    refine m_get (v := .int (S.1 0 i)) X ok_Item (hI.2.2.1 i hi) 0 (by decide) k_Item_15 rfl d_Item_branchWord_31 ?_
    refine lv_iconst (v := 4) X.x X.b d_Item_branchWord_34 (by decide) ?_
    refine lv_icmp_ne (tgt := 44) X.x X.b d_Item_branchWord_35 (by decide) (fun c2 => ?_) (fun c2 => ?_)
    · skip
      refine lv_iload_n X.x X.b d_Item_branchWord_44 rfl (lv_at hl 1 rfl) ?_
      refine lv_istore_n (lv' := [(2, .int k), (0, .ref (a + 2 + i)), (1, .int k)]) X.x X.b d_Item_branchWord_45 rfl hl (by decide) rfl (fun ls hl => ?_)
      refine lv_iload_n X.x X.b d_Item_branchWord_46 rfl (lv_at hl 0 rfl) ?_
      refine lv_if_ge (tgt := 54) X.x X.b d_Item_branchWord_47 (by decide) (fun c3 => ?_) (fun c3 => ?_)
      · skip
        have c3q := Int32.not_lt.mpr c3
        refine lv_iload_n X.x X.b d_Item_branchWord_54 rfl (lv_at hl 0 rfl) ?_
        refine lv_if_ne (tgt := 64) X.x X.b d_Item_branchWord_55 (by decide) (fun c4 => ?_) (fun c4 => ?_)
        · skip
          refine lv_aload_n X.x X.b d_Item_branchWord_64 rfl (lv_at hl 1 rfl) ?_
          refine m_callP X hS (M_Item_valueHere l g hI hi) v_Item_71 (hI.2.2.1 i hi) rfl rfl rfl (Nat.le_of_ble_eq_true rfl) hl.1 d_Item_branchWord_65 (by omega) (by decide) ⟨Nat.zero_le _, Nat.zero_le _⟩ (fun locs hS => ?_)
          exact m_iret X hS (Nat.zero_le _) (Nat.zero_le _) d_Item_branchWord_68 (congrArg (fun z => some (Value.int z)) (by simp [bwF, c1, c2, c3, c3q, c4])) rfl
        · skip
          refine lv_sipush (v := 3100) X.x X.b d_Item_branchWord_58 (by decide) ?_
          refine lv_goto (tgt := 68) X.x X.b d_Item_branchWord_61 (by decide) ?_
          exact m_iret X hS (Nat.zero_le _) (Nat.zero_le _) d_Item_branchWord_68 (congrArg (fun z => some (Value.int z)) (by simp [bwF, c1, c2, c3, c3q, c4])) rfl
      · skip
        have c3q := Int32.not_le.mp c3
        refine lv_sipush (v := 4100) X.x X.b d_Item_branchWord_50 (by decide) ?_
        exact m_iret X hS (Nat.zero_le _) (Nat.zero_le _) d_Item_branchWord_53 (congrArg (fun z => some (Value.int z)) (by simp [bwF, c1, c2, c3, c3q])) rfl
    · skip
      refine lv_iload_n X.x X.b d_Item_branchWord_38 rfl (lv_at hl 1 rfl) ?_
      refine lv_iconst (v := 1) X.x X.b d_Item_branchWord_39 (by decide) ?_
      refine lv_isub X.x X.b d_Item_branchWord_40 ?_
      refine lv_goto (tgt := 45) X.x X.b d_Item_branchWord_41 (by decide) ?_
      refine lv_istore_n (lv' := [(2, .int (k - 1)), (0, .ref (a + 2 + i)), (1, .int k)]) X.x X.b d_Item_branchWord_45 rfl hl (by decide) rfl (fun ls hl => ?_)
      refine lv_iload_n X.x X.b d_Item_branchWord_46 rfl (lv_at hl 0 rfl) ?_
      refine lv_if_ge (tgt := 54) X.x X.b d_Item_branchWord_47 (by decide) (fun c5 => ?_) (fun c5 => ?_)
      · skip
        have c5q := Int32.not_lt.mpr c5
        refine lv_iload_n X.x X.b d_Item_branchWord_54 rfl (lv_at hl 0 rfl) ?_
        refine lv_if_ne (tgt := 64) X.x X.b d_Item_branchWord_55 (by decide) (fun c6 => ?_) (fun c6 => ?_)
        · skip
          refine lv_aload_n X.x X.b d_Item_branchWord_64 rfl (lv_at hl 1 rfl) ?_
          refine m_callP X hS (M_Item_valueHere l g hI hi) v_Item_71 (hI.2.2.1 i hi) rfl rfl rfl (Nat.le_of_ble_eq_true rfl) hl.1 d_Item_branchWord_65 (by omega) (by decide) ⟨Nat.zero_le _, Nat.zero_le _⟩ (fun locs hS => ?_)
          exact m_iret X hS (Nat.zero_le _) (Nat.zero_le _) d_Item_branchWord_68 (congrArg (fun z => some (Value.int z)) (by simp [bwF, c1, c2, c5, c5q, c6])) rfl
        · skip
          refine lv_sipush (v := 3100) X.x X.b d_Item_branchWord_58 (by decide) ?_
          refine lv_goto (tgt := 68) X.x X.b d_Item_branchWord_61 (by decide) ?_
          exact m_iret X hS (Nat.zero_le _) (Nat.zero_le _) d_Item_branchWord_68 (congrArg (fun z => some (Value.int z)) (by simp [bwF, c1, c2, c5, c5q, c6])) rfl
      · skip
        have c5q := Int32.not_le.mp c5
        refine lv_sipush (v := 4100) X.x X.b d_Item_branchWord_50 (by decide) ?_
        exact m_iret X hS (Nat.zero_le _) (Nat.zero_le _) d_Item_branchWord_53 (congrArg (fun z => some (Value.int z)) (by simp [bwF, c1, c2, c5, c5q])) rfl
  · skip
    refine lv_aload_n X.x X.b d_Item_branchWord_7 rfl (lv_at hl 0 rfl) ?_
    refine m_get (v := .int (S.1 0 i)) X ok_Item (hI.2.2.1 i hi) 0 (by decide) k_Item_15 rfl d_Item_branchWord_8 ?_
    refine lv_iconst (v := 4) X.x X.b d_Item_branchWord_11 (by decide) ?_
    refine lv_icmp_ne (tgt := 21) X.x X.b d_Item_branchWord_12 (by decide) (fun c7 => ?_) (fun c7 => ?_)
    · skip
      refine lv_sipush (v := 3008) X.x X.b d_Item_branchWord_21 (by decide) ?_
      refine lv_aload_n X.x X.b d_Item_branchWord_24 rfl (lv_at hl 0 rfl) ?_
      refine m_callP X hS (M_Item_distanceHere l g hI hi) v_Item_75 (hI.2.2.1 i hi) rfl rfl rfl (Nat.le_of_ble_eq_true rfl) hl.1 d_Item_branchWord_25 (by omega) (by decide) ⟨Nat.zero_le _, Nat.zero_le _⟩ (fun locs hS => ?_)
      refine lv_iadd X.x X.b d_Item_branchWord_28 ?_
      exact m_iret X hS (Nat.zero_le _) (Nat.zero_le _) d_Item_branchWord_29 (congrArg (fun z => some (Value.int z)) (by simp [bwF, c1, c7])) rfl
    · skip
      refine lv_sipush (v := 4008) X.x X.b d_Item_branchWord_15 (by decide) ?_
      refine lv_goto (tgt := 24) X.x X.b d_Item_branchWord_18 (by decide) ?_
      refine lv_aload_n X.x X.b d_Item_branchWord_24 rfl (lv_at hl 0 rfl) ?_
      refine m_callP X hS (M_Item_distanceHere l g hI hi) v_Item_75 (hI.2.2.1 i hi) rfl rfl rfl (Nat.le_of_ble_eq_true rfl) hl.1 d_Item_branchWord_25 (by omega) (by decide) ⟨Nat.zero_le _, Nat.zero_le _⟩ (fun locs hS => ?_)
      refine lv_iadd X.x X.b d_Item_branchWord_28 ?_
      exact m_iret X hS (Nat.zero_le _) (Nat.zero_le _) d_Item_branchWord_29 (congrArg (fun z => some (Value.int z)) (by simp [bwF, c1, c7])) rfl
set_option maxRecDepth 100000 in
set_option maxHeartbeats 4000000 in
theorem M_Item_shareOf (l : Launch) (g : GG) {a c : Nat} {S : IS} {H0 : Heap} (hI : iAt g a c S H0) {i : Nat} (hi : i < 121) (k : Int32) : MP l y_Item_shareOf c_Item_shareOf 2 (some .int) 1 g H0 [.ref (a + 2 + i), .int k] (some (.int (shF S i k))) := by
  refine MM.of (by decide +kernel) (Nat.le_of_ble_eq_true rfl) ?_
  intro p e s m below meth cd X hH ls hl
  have X : CX g p s m _ meth cd c_Item_shareOf 2 (some .int) R_Item _ := X
  have hl : lv_has ls 2 [(0, .ref (a + 2 + i)), (1, .int k)] := hl
  have hS : va_S (AA (noA) H0) H0 H0 [] := va_S.rf
  refine lv_iload_n X.x X.b d_Item_shareOf_0 rfl (lv_at hl 1 rfl) ?_
  by_cases k1 : k = 2
  · skip
    refine lv_tableIn (off := 55) (tgt := 56) X.x X.b d_Item_shareOf_1 (by rw [k1]; decide) (by rw [k1]; decide) (by rw [k1]; decide) (by decide) ?_
    refine lv_iconst (v := 1) X.x X.b d_Item_shareOf_56 (by decide) ?_
    exact m_iret X hS (Nat.zero_le _) (Nat.zero_le _) d_Item_shareOf_57 (congrArg (fun z => some (Value.int z)) (by simp [shF, b2i, b2i_0, k1])) rfl
  by_cases k2 : k = 3
  · skip
    refine lv_tableIn (off := 57) (tgt := 58) X.x X.b d_Item_shareOf_1 (by rw [k2]; decide) (by rw [k2]; decide) (by rw [k2]; decide) (by decide) ?_
    refine lv_aload_n X.x X.b d_Item_shareOf_58 rfl (lv_at hl 0 rfl) ?_
    refine m_get (v := .int (S.1 13 i)) X ok_Item (hI.2.2.1 i hi) 13 (by decide) k_Item_57 rfl d_Item_shareOf_59 ?_
    exact m_iret X hS (Nat.zero_le _) (Nat.zero_le _) d_Item_shareOf_62 (congrArg (fun z => some (Value.int z)) (by simp [shF, b2i, b2i_0, k2])) rfl
  by_cases k3 : k = 4
  · skip
    refine lv_tableIn (off := 62) (tgt := 63) X.x X.b d_Item_shareOf_1 (by rw [k3]; decide) (by rw [k3]; decide) (by rw [k3]; decide) (by decide) ?_
    refine lv_aload_n X.x X.b d_Item_shareOf_63 rfl (lv_at hl 0 rfl) ?_
    refine m_callP X hS (M_Item_isBranch l g hI hi) v_Item_67 (hI.2.2.1 i hi) rfl rfl rfl (Nat.le_of_ble_eq_true rfl) hl.1 d_Item_shareOf_64 (by omega) (by decide) ⟨Nat.zero_le _, Nat.zero_le _⟩ (fun locs hS => ?_)
    refine lv_if_eq (tgt := 74) X.x X.b d_Item_shareOf_67 (by decide) (fun c4 => ?_) (fun c4 => ?_)
    · skip
      have c4 := b2i_0.mp c4
      refine lv_iconst (v := 0) X.x X.b d_Item_shareOf_74 (by decide) ?_
      exact m_iret X hS (Nat.zero_le _) (Nat.zero_le _) d_Item_shareOf_75 (congrArg (fun z => some (Value.int z)) (by simp [shF, b2i, b2i_0, k3, c4])) rfl
    · skip
      have c4 := b2i_n0 c4
      refine lv_iconst (v := 1) X.x X.b d_Item_shareOf_70 (by decide) ?_
      refine lv_goto (tgt := 75) X.x X.b d_Item_shareOf_71 (by decide) ?_
      exact m_iret X hS (Nat.zero_le _) (Nat.zero_le _) d_Item_shareOf_75 (congrArg (fun z => some (Value.int z)) (by simp [shF, b2i, b2i_0, k3, c4])) rfl
  by_cases k5 : k = 5
  · skip
    refine lv_tableIn (off := 75) (tgt := 76) X.x X.b d_Item_shareOf_1 (by rw [k5]; decide) (by rw [k5]; decide) (by rw [k5]; decide) (by decide) ?_
    refine lv_aload_n X.x X.b d_Item_shareOf_76 rfl (lv_at hl 0 rfl) ?_
    refine m_get (v := .int (S.1 14 i)) X ok_Item (hI.2.2.1 i hi) 14 (by decide) k_Item_60 rfl d_Item_shareOf_77 ?_
    refine lv_if_eq (tgt := 87) X.x X.b d_Item_shareOf_80 (by decide) (fun c6 => ?_) (fun c6 => ?_)
    · skip
      refine lv_iconst (v := 0) X.x X.b d_Item_shareOf_87 (by decide) ?_
      exact m_iret X hS (Nat.zero_le _) (Nat.zero_le _) d_Item_shareOf_88 (congrArg (fun z => some (Value.int z)) (by simp [shF, b2i, b2i_0, k5, c6])) rfl
    · skip
      refine lv_iconst (v := 1) X.x X.b d_Item_shareOf_83 (by decide) ?_
      refine lv_goto (tgt := 88) X.x X.b d_Item_shareOf_84 (by decide) ?_
      exact m_iret X hS (Nat.zero_le _) (Nat.zero_le _) d_Item_shareOf_88 (congrArg (fun z => some (Value.int z)) (by simp [shF, b2i, b2i_0, k5, c6])) rfl
  by_cases k7 : k = 6
  · skip
    refine lv_tableIn (off := 185) (tgt := 186) X.x X.b d_Item_shareOf_1 (by rw [k7]; decide) (by rw [k7]; decide) (by rw [k7]; decide) (by decide) ?_
    refine lv_iconst (v := 0) X.x X.b d_Item_shareOf_186 (by decide) ?_
    exact m_iret X hS (Nat.zero_le _) (Nat.zero_le _) d_Item_shareOf_187 (congrArg (fun z => some (Value.int z)) (by simp [shF, b2i, b2i_0, k7])) rfl
  by_cases k8 : k = 7
  · skip
    refine lv_tableIn (off := 88) (tgt := 89) X.x X.b d_Item_shareOf_1 (by rw [k8]; decide) (by rw [k8]; decide) (by rw [k8]; decide) (by decide) ?_
    refine lv_aload_n X.x X.b d_Item_shareOf_89 rfl (lv_at hl 0 rfl) ?_
    refine m_get (v := .int (S.1 0 i)) X ok_Item (hI.2.2.1 i hi) 0 (by decide) k_Item_15 rfl d_Item_shareOf_90 ?_
    refine lv_iconst (v := 5) X.x X.b d_Item_shareOf_93 (by decide) ?_
    refine lv_icmp_ne (tgt := 101) X.x X.b d_Item_shareOf_94 (by decide) (fun c9 => ?_) (fun c9 => ?_)
    · skip
      refine lv_iconst (v := 0) X.x X.b d_Item_shareOf_101 (by decide) ?_
      exact m_iret X hS (Nat.zero_le _) (Nat.zero_le _) d_Item_shareOf_102 (congrArg (fun z => some (Value.int z)) (by simp [shF, b2i, b2i_0, k8, c9])) rfl
    · skip
      refine lv_iconst (v := 1) X.x X.b d_Item_shareOf_97 (by decide) ?_
      refine lv_goto (tgt := 102) X.x X.b d_Item_shareOf_98 (by decide) ?_
      exact m_iret X hS (Nat.zero_le _) (Nat.zero_le _) d_Item_shareOf_102 (congrArg (fun z => some (Value.int z)) (by simp [shF, b2i, b2i_0, k8, c9])) rfl
  by_cases k10 : k = 8
  · skip
    refine lv_tableIn (off := 102) (tgt := 103) X.x X.b d_Item_shareOf_1 (by rw [k10]; decide) (by rw [k10]; decide) (by rw [k10]; decide) (by decide) ?_
    refine lv_aload_n X.x X.b d_Item_shareOf_103 rfl (lv_at hl 0 rfl) ?_
    refine m_get (v := .int (S.1 0 i)) X ok_Item (hI.2.2.1 i hi) 0 (by decide) k_Item_15 rfl d_Item_shareOf_104 ?_
    refine lv_bipush (v := 6) X.x X.b d_Item_shareOf_107 (by decide) ?_
    refine lv_icmp_ne (tgt := 119) X.x X.b d_Item_shareOf_109 (by decide) (fun c11 => ?_) (fun c11 => ?_)
    · skip
      refine lv_iconst (v := 0) X.x X.b d_Item_shareOf_119 (by decide) ?_
      exact m_iret X hS (Nat.zero_le _) (Nat.zero_le _) d_Item_shareOf_120 (congrArg (fun z => some (Value.int z)) (by simp [shF, b2i, b2i_0, k10, c11])) rfl
    · skip
      refine lv_aload_n X.x X.b d_Item_shareOf_112 rfl (lv_at hl 0 rfl) ?_
      refine m_get (v := .int (S.1 13 i)) X ok_Item (hI.2.2.1 i hi) 13 (by decide) k_Item_57 rfl d_Item_shareOf_113 ?_
      refine lv_goto (tgt := 120) X.x X.b d_Item_shareOf_116 (by decide) ?_
      exact m_iret X hS (Nat.zero_le _) (Nat.zero_le _) d_Item_shareOf_120 (congrArg (fun z => some (Value.int z)) (by simp [shF, b2i, b2i_0, k10, c11])) rfl
  by_cases k12 : k = 9
  · skip
    refine lv_tableIn (off := 120) (tgt := 121) X.x X.b d_Item_shareOf_1 (by rw [k12]; decide) (by rw [k12]; decide) (by rw [k12]; decide) (by decide) ?_
    refine lv_aload_n X.x X.b d_Item_shareOf_121 rfl (lv_at hl 0 rfl) ?_
    refine m_get (v := .int (S.1 0 i)) X ok_Item (hI.2.2.1 i hi) 0 (by decide) k_Item_15 rfl d_Item_shareOf_122 ?_
    refine lv_bipush (v := 7) X.x X.b d_Item_shareOf_125 (by decide) ?_
    refine lv_icmp_ne (tgt := 137) X.x X.b d_Item_shareOf_127 (by decide) (fun c13 => ?_) (fun c13 => ?_)
    · skip
      refine lv_iconst (v := 0) X.x X.b d_Item_shareOf_137 (by decide) ?_
      exact m_iret X hS (Nat.zero_le _) (Nat.zero_le _) d_Item_shareOf_138 (congrArg (fun z => some (Value.int z)) (by simp [shF, b2i, b2i_0, k12, c13])) rfl
    · skip
      refine lv_aload_n X.x X.b d_Item_shareOf_130 rfl (lv_at hl 0 rfl) ?_
      refine m_get (v := .int (S.1 13 i)) X ok_Item (hI.2.2.1 i hi) 13 (by decide) k_Item_57 rfl d_Item_shareOf_131 ?_
      refine lv_goto (tgt := 138) X.x X.b d_Item_shareOf_134 (by decide) ?_
      exact m_iret X hS (Nat.zero_le _) (Nat.zero_le _) d_Item_shareOf_138 (congrArg (fun z => some (Value.int z)) (by simp [shF, b2i, b2i_0, k12, c13])) rfl
  by_cases k14 : k = 10
  · skip
    refine lv_tableIn (off := 138) (tgt := 139) X.x X.b d_Item_shareOf_1 (by rw [k14]; decide) (by rw [k14]; decide) (by rw [k14]; decide) (by decide) ?_
    refine lv_aload_n X.x X.b d_Item_shareOf_139 rfl (lv_at hl 0 rfl) ?_
    refine m_get (v := .int (S.1 15 i)) X ok_Item (hI.2.2.1 i hi) 15 (by decide) k_Item_64 rfl d_Item_shareOf_140 ?_
    refine lv_if_eq (tgt := 153) X.x X.b d_Item_shareOf_143 (by decide) (fun c15 => ?_) (fun c15 => ?_)
    · skip
      refine lv_iconst (v := 0) X.x X.b d_Item_shareOf_153 (by decide) ?_
      exact m_iret X hS (Nat.zero_le _) (Nat.zero_le _) d_Item_shareOf_154 (congrArg (fun z => some (Value.int z)) (by simp [shF, b2i, b2i_0, k14, c15])) rfl
    · skip
      refine lv_aload_n X.x X.b d_Item_shareOf_146 rfl (lv_at hl 0 rfl) ?_
      refine m_get (v := .int (S.1 13 i)) X ok_Item (hI.2.2.1 i hi) 13 (by decide) k_Item_57 rfl d_Item_shareOf_147 ?_
      refine lv_goto (tgt := 154) X.x X.b d_Item_shareOf_150 (by decide) ?_
      exact m_iret X hS (Nat.zero_le _) (Nat.zero_le _) d_Item_shareOf_154 (congrArg (fun z => some (Value.int z)) (by simp [shF, b2i, b2i_0, k14, c15])) rfl
  by_cases k16 : k = 11
  · skip
    refine lv_tableIn (off := 154) (tgt := 155) X.x X.b d_Item_shareOf_1 (by rw [k16]; decide) (by rw [k16]; decide) (by rw [k16]; decide) (by decide) ?_
    refine lv_aload_n X.x X.b d_Item_shareOf_155 rfl (lv_at hl 0 rfl) ?_
    refine m_get (v := .int (S.1 15 i)) X ok_Item (hI.2.2.1 i hi) 15 (by decide) k_Item_64 rfl d_Item_shareOf_156 ?_
    refine lv_if_ne (tgt := 184) X.x X.b d_Item_shareOf_159 (by decide) (fun c17 => ?_) (fun c17 => ?_)
    · skip
      refine lv_iconst (v := 0) X.x X.b d_Item_shareOf_184 (by decide) ?_
      exact m_iret X hS (Nat.zero_le _) (Nat.zero_le _) d_Item_shareOf_185 (congrArg (fun z => some (Value.int z)) (by simp [shF, b2i, b2i_0, k16, c17])) rfl
    · skip
      refine lv_aload_n X.x X.b d_Item_shareOf_162 rfl (lv_at hl 0 rfl) ?_
      refine m_callP X hS (M_Item_isBranch l g hI hi) v_Item_67 (hI.2.2.1 i hi) rfl rfl rfl (Nat.le_of_ble_eq_true rfl) hl.1 d_Item_shareOf_163 (by omega) (by decide) ⟨Nat.zero_le _, Nat.zero_le _⟩ (fun locs hS => ?_)
      refine lv_if_ne (tgt := 177) X.x X.b d_Item_shareOf_166 (by decide) (fun c18 => ?_) (fun c18 => ?_)
      · skip
        have c18 := b2i_n0 c18
        refine lv_aload_n X.x X.b d_Item_shareOf_177 rfl (lv_at hl 0 rfl) ?_
        refine m_get (v := .int (S.1 13 i)) X ok_Item (hI.2.2.1 i hi) 13 (by decide) k_Item_57 rfl d_Item_shareOf_178 ?_
        refine lv_goto (tgt := 185) X.x X.b d_Item_shareOf_181 (by decide) ?_
        exact m_iret X hS (Nat.zero_le _) (Nat.zero_le _) d_Item_shareOf_185 (congrArg (fun z => some (Value.int z)) (by simp [shF, b2i, b2i_0, k16, c17, c18])) rfl
      · skip
        have c18 := b2i_0.mp c18
        refine lv_aload_n X.x X.b d_Item_shareOf_169 rfl (lv_at hl 0 rfl) ?_
        refine m_get (v := .int (S.1 0 i)) X ok_Item (hI.2.2.1 i hi) 0 (by decide) k_Item_15 rfl d_Item_shareOf_170 ?_
        refine lv_iconst (v := 5) X.x X.b d_Item_shareOf_173 (by decide) ?_
        refine lv_icmp_ne (tgt := 184) X.x X.b d_Item_shareOf_174 (by decide) (fun c19 => ?_) (fun c19 => ?_)
        · skip
          refine lv_iconst (v := 0) X.x X.b d_Item_shareOf_184 (by decide) ?_
          exact m_iret X hS (Nat.zero_le _) (Nat.zero_le _) d_Item_shareOf_185 (congrArg (fun z => some (Value.int z)) (by simp [shF, b2i, b2i_0, k16, c17, c18, c19])) rfl
        · skip
          refine lv_aload_n X.x X.b d_Item_shareOf_177 rfl (lv_at hl 0 rfl) ?_
          refine m_get (v := .int (S.1 13 i)) X ok_Item (hI.2.2.1 i hi) 13 (by decide) k_Item_57 rfl d_Item_shareOf_178 ?_
          refine lv_goto (tgt := 185) X.x X.b d_Item_shareOf_181 (by decide) ?_
          exact m_iret X hS (Nat.zero_le _) (Nat.zero_le _) d_Item_shareOf_185 (congrArg (fun z => some (Value.int z)) (by simp [shF, b2i, b2i_0, k16, c17, c18, c19])) rfl
  refine lv_tableOut (tgt := 186) X.x X.b d_Item_shareOf_1 (by have := ne_toInt (k := 2) 2 (by decide) k1; have := ne_toInt (k := 3) 3 (by decide) k2; have := ne_toInt (k := 4) 4 (by decide) k3; have := ne_toInt (k := 5) 5 (by decide) k5; have := ne_toInt (k := 6) 6 (by decide) k7; have := ne_toInt (k := 7) 7 (by decide) k8; have := ne_toInt (k := 8) 8 (by decide) k10; have := ne_toInt (k := 9) 9 (by decide) k12; have := ne_toInt (k := 10) 10 (by decide) k14; have := ne_toInt (k := 11) 11 (by decide) k16; omega) (by decide) ?_
  refine lv_iconst (v := 0) X.x X.b d_Item_shareOf_186 (by decide) ?_
  exact m_iret X hS (Nat.zero_le _) (Nat.zero_le _) d_Item_shareOf_187 (congrArg (fun z => some (Value.int z)) (by simp [shF, b2i, b2i_0, k1, k2, k3, k5, k7, k8, k10, k12, k14, k16])) rfl
