set_option maxRecDepth 100000 in
set_option maxHeartbeats 4000000 in
theorem M_Names_isLabel (l : Launch) (g : GG) {b : Nat} {N : NS} {H0 : Heap} (hN : nAt g b N H0) (x : Int32) : MP l y_Names_isLabel c_Names_isLabel 2 (some .boolean) 0 g H0 [.ref b, .int x] (some (.int (b2i (islF N x)))) := by
  refine MM.of (by decide +kernel) (Nat.le_of_ble_eq_true rfl) ?_
  intro p e s m below meth cd X hH ls hl
  have X : CX g p s m _ meth cd c_Names_isLabel 2 (some .boolean) R_Names _ := X
  have hl : lv_has ls 2 [(0, .ref b), (1, .int x)] := hl
  have hS : va_S (AA (noA) H0) H0 H0 [] := va_S.rf
  refine lv_iload_n X.x X.b d_Names_isLabel_0 rfl (lv_at hl 1 rfl) ?_
  refine lv_if_lt (tgt := 23) X.x X.b d_Names_isLabel_1 (by decide) (fun c1 => ?_) (fun c1 => ?_)
  · skip
    have c1q := Int32.not_le.mpr c1
    refine lv_iconst (v := 0) X.x X.b d_Names_isLabel_23 (by decide) ?_
    exact m_zret X hS (Nat.zero_le _) (Nat.zero_le _) d_Names_isLabel_24 rfl (congrArg (fun z => some (Value.int z)) (by simp [b2i, inN, islF, c1, c1q])) rfl
  · skip
    have c1q := Int32.not_lt.mp c1
    refine lv_iload_n X.x X.b d_Names_isLabel_4 rfl (lv_at hl 1 rfl) ?_
    refine lv_bipush (v := 8) X.x X.b d_Names_isLabel_5 (by decide) ?_
    refine lv_icmp_ge (tgt := 23) X.x X.b d_Names_isLabel_7 (by decide) (fun c2 => ?_) (fun c2 => ?_)
    · skip
      have c2q := Int32.not_lt.mpr c2
      refine lv_iconst (v := 0) X.x X.b d_Names_isLabel_23 (by decide) ?_
      exact m_zret X hS (Nat.zero_le _) (Nat.zero_le _) d_Names_isLabel_24 rfl (congrArg (fun z => some (Value.int z)) (by simp [b2i, inN, islF, c1, c1q, c2, c2q])) rfl
    · skip
      have c2q := Int32.not_le.mp c2
      refine lv_aload_n X.x X.b d_Names_isLabel_10 rfl (lv_at hl 0 rfl) ?_
      refine m_get (v := .ref (b + 1)) X ok_Names hN.1 0 (by decide) k_Names_9 rfl d_Names_isLabel_11 ?_
      refine lv_iload_n X.x X.b d_Names_isLabel_14 rfl (lv_at hl 1 rfl) ?_
      refine m_zald X hN.2.1 (vin8 c1 c2) d_Names_isLabel_15 ?_
      refine lv_if_eq (tgt := 23) X.x X.b d_Names_isLabel_16 (by decide) (fun c3 => ?_) (fun c3 => ?_)
      · skip
        refine lv_iconst (v := 0) X.x X.b d_Names_isLabel_23 (by decide) ?_
        exact m_zret X hS (Nat.zero_le _) (Nat.zero_le _) d_Names_isLabel_24 rfl (congrArg (fun z => some (Value.int z)) (by simp [b2i, inN, islF, c1, c1q, c2, c2q, c3])) rfl
      · skip
        refine lv_iconst (v := 1) X.x X.b d_Names_isLabel_19 (by decide) ?_
        refine lv_goto (tgt := 24) X.x X.b d_Names_isLabel_20 (by decide) ?_
        exact m_zret X hS (Nat.zero_le _) (Nat.zero_le _) d_Names_isLabel_24 rfl (congrArg (fun z => some (Value.int z)) (by simp [b2i, inN, islF, c1, c1q, c2, c2q, c3])) rfl
set_option maxRecDepth 100000 in
set_option maxHeartbeats 4000000 in
theorem M_Names_isSetSoFar (l : Launch) (g : GG) {b : Nat} {N : NS} {H0 : Heap} (hN : nAt g b N H0) (x : Int32) : MP l y_Names_isSetSoFar c_Names_isSetSoFar 2 (some .boolean) 0 g H0 [.ref b, .int x] (some (.int (b2i (issF N x)))) := by
  refine MM.of (by decide +kernel) (Nat.le_of_ble_eq_true rfl) ?_
  intro p e s m below meth cd X hH ls hl
  have X : CX g p s m _ meth cd c_Names_isSetSoFar 2 (some .boolean) R_Names _ := X
  have hl : lv_has ls 2 [(0, .ref b), (1, .int x)] := hl
  have hS : va_S (AA (noA) H0) H0 H0 [] := va_S.rf
  refine lv_iload_n X.x X.b d_Names_isSetSoFar_0 rfl (lv_at hl 1 rfl) ?_
  refine lv_if_lt (tgt := 23) X.x X.b d_Names_isSetSoFar_1 (by decide) (fun c1 => ?_) (fun c1 => ?_)
  · skip
    have c1q := Int32.not_le.mpr c1
    refine lv_iconst (v := 0) X.x X.b d_Names_isSetSoFar_23 (by decide) ?_
    exact m_zret X hS (Nat.zero_le _) (Nat.zero_le _) d_Names_isSetSoFar_24 rfl (congrArg (fun z => some (Value.int z)) (by simp [b2i, inN, issF, c1, c1q])) rfl
  · skip
    have c1q := Int32.not_lt.mp c1
    refine lv_iload_n X.x X.b d_Names_isSetSoFar_4 rfl (lv_at hl 1 rfl) ?_
    refine lv_bipush (v := 8) X.x X.b d_Names_isSetSoFar_5 (by decide) ?_
    refine lv_icmp_ge (tgt := 23) X.x X.b d_Names_isSetSoFar_7 (by decide) (fun c2 => ?_) (fun c2 => ?_)
    · skip
      have c2q := Int32.not_lt.mpr c2
      refine lv_iconst (v := 0) X.x X.b d_Names_isSetSoFar_23 (by decide) ?_
      exact m_zret X hS (Nat.zero_le _) (Nat.zero_le _) d_Names_isSetSoFar_24 rfl (congrArg (fun z => some (Value.int z)) (by simp [b2i, inN, issF, c1, c1q, c2, c2q])) rfl
    · skip
      have c2q := Int32.not_le.mp c2
      refine lv_aload_n X.x X.b d_Names_isSetSoFar_10 rfl (lv_at hl 0 rfl) ?_
      refine m_get (v := .ref (b + 2)) X ok_Names hN.1 1 (by decide) k_Names_15 rfl d_Names_isSetSoFar_11 ?_
      refine lv_iload_n X.x X.b d_Names_isSetSoFar_14 rfl (lv_at hl 1 rfl) ?_
      refine m_zald X hN.2.2.1 (vin8 c1 c2) d_Names_isSetSoFar_15 ?_
      refine lv_if_eq (tgt := 23) X.x X.b d_Names_isSetSoFar_16 (by decide) (fun c3 => ?_) (fun c3 => ?_)
      · skip
        refine lv_iconst (v := 0) X.x X.b d_Names_isSetSoFar_23 (by decide) ?_
        exact m_zret X hS (Nat.zero_le _) (Nat.zero_le _) d_Names_isSetSoFar_24 rfl (congrArg (fun z => some (Value.int z)) (by simp [b2i, inN, issF, c1, c1q, c2, c2q, c3])) rfl
      · skip
        refine lv_iconst (v := 1) X.x X.b d_Names_isSetSoFar_19 (by decide) ?_
        refine lv_goto (tgt := 24) X.x X.b d_Names_isSetSoFar_20 (by decide) ?_
        exact m_zret X hS (Nat.zero_le _) (Nat.zero_le _) d_Names_isSetSoFar_24 rfl (congrArg (fun z => some (Value.int z)) (by simp [b2i, inN, issF, c1, c1q, c2, c2q, c3])) rfl
set_option maxRecDepth 100000 in
set_option maxHeartbeats 4000000 in
theorem M_Names_isNoneOrSet (l : Launch) (g : GG) {b : Nat} {N : NS} {H0 : Heap} (hN : nAt g b N H0) (x : Int32) : MP l y_Names_isNoneOrSet c_Names_isNoneOrSet 2 (some .boolean) 0 g H0 [.ref b, .int x] (some (.int (b2i (nosF N x)))) := by
  refine MM.of (by decide +kernel) (Nat.le_of_ble_eq_true rfl) ?_
  intro p e s m below meth cd X hH ls hl
  have X : CX g p s m _ meth cd c_Names_isNoneOrSet 2 (some .boolean) R_Names _ := X
  have hl : lv_has ls 2 [(0, .ref b), (1, .int x)] := hl
  have hS : va_S (AA (noA) H0) H0 H0 [] := va_S.rf
  refine lv_iload_n X.x X.b d_Names_isNoneOrSet_0 rfl (lv_at hl 1 rfl) ?_
  refine lv_iconst (v := -1) X.x X.b d_Names_isNoneOrSet_1 (by decide) ?_
  refine lv_icmp_eq (tgt := 24) X.x X.b d_Names_isNoneOrSet_2 (by decide) (fun c1 => ?_) (fun c1 => ?_)
  · skip
    refine lv_iconst (v := 1) X.x X.b d_Names_isNoneOrSet_24 (by decide) ?_
    refine lv_goto (tgt := 29) X.x X.b d_Names_isNoneOrSet_25 (by decide) ?_
    exact m_zret X hS (Nat.zero_le _) (Nat.zero_le _) d_Names_isNoneOrSet_29 rfl (congrArg (fun z => some (Value.int z)) (by simp [b2i, inN, issF, nosF, c1])) rfl
  · skip
    refine lv_iload_n X.x X.b d_Names_isNoneOrSet_5 rfl (lv_at hl 1 rfl) ?_
    refine lv_if_lt (tgt := 28) X.x X.b d_Names_isNoneOrSet_6 (by decide) (fun c2 => ?_) (fun c2 => ?_)
    · skip
      have c2q := Int32.not_le.mpr c2
      refine lv_iconst (v := 0) X.x X.b d_Names_isNoneOrSet_28 (by decide) ?_
      exact m_zret X hS (Nat.zero_le _) (Nat.zero_le _) d_Names_isNoneOrSet_29 rfl (congrArg (fun z => some (Value.int z)) (by simp [b2i, inN, issF, nosF, c1, c2, c2q])) rfl
    · skip
      have c2q := Int32.not_lt.mp c2
      refine lv_iload_n X.x X.b d_Names_isNoneOrSet_9 rfl (lv_at hl 1 rfl) ?_
      refine lv_bipush (v := 8) X.x X.b d_Names_isNoneOrSet_10 (by decide) ?_
      refine lv_icmp_ge (tgt := 28) X.x X.b d_Names_isNoneOrSet_12 (by decide) (fun c3 => ?_) (fun c3 => ?_)
      · skip
        have c3q := Int32.not_lt.mpr c3
        refine lv_iconst (v := 0) X.x X.b d_Names_isNoneOrSet_28 (by decide) ?_
        exact m_zret X hS (Nat.zero_le _) (Nat.zero_le _) d_Names_isNoneOrSet_29 rfl (congrArg (fun z => some (Value.int z)) (by simp [b2i, inN, issF, nosF, c1, c2, c2q, c3, c3q])) rfl
      · skip
        have c3q := Int32.not_le.mp c3
        refine lv_aload_n X.x X.b d_Names_isNoneOrSet_15 rfl (lv_at hl 0 rfl) ?_
        refine m_get (v := .ref (b + 2)) X ok_Names hN.1 1 (by decide) k_Names_15 rfl d_Names_isNoneOrSet_16 ?_
        refine lv_iload_n X.x X.b d_Names_isNoneOrSet_19 rfl (lv_at hl 1 rfl) ?_
        refine m_zald X hN.2.2.1 (vin8 c2 c3) d_Names_isNoneOrSet_20 ?_
        refine lv_if_eq (tgt := 28) X.x X.b d_Names_isNoneOrSet_21 (by decide) (fun c4 => ?_) (fun c4 => ?_)
        · skip
          refine lv_iconst (v := 0) X.x X.b d_Names_isNoneOrSet_28 (by decide) ?_
          exact m_zret X hS (Nat.zero_le _) (Nat.zero_le _) d_Names_isNoneOrSet_29 rfl (congrArg (fun z => some (Value.int z)) (by simp [b2i, inN, issF, nosF, c1, c2, c2q, c3, c3q, c4])) rfl
        · skip
          refine lv_iconst (v := 1) X.x X.b d_Names_isNoneOrSet_24 (by decide) ?_
          refine lv_goto (tgt := 29) X.x X.b d_Names_isNoneOrSet_25 (by decide) ?_
          exact m_zret X hS (Nat.zero_le _) (Nat.zero_le _) d_Names_isNoneOrSet_29 rfl (congrArg (fun z => some (Value.int z)) (by simp [b2i, inN, issF, nosF, c1, c2, c2q, c3, c3q, c4])) rfl
set_option maxRecDepth 100000 in
set_option maxHeartbeats 4000000 in
theorem M_Names_soFar (l : Launch) (g : GG) {b : Nat} {N : NS} {H0 : Heap} (hN : nAt g b N H0) (x : Int32) : MP l y_Names_soFar c_Names_soFar 2 (some .int) 0 g H0 [.ref b, .int x] (some (.int (sofF N x))) := by
  refine MM.of (by decide +kernel) (Nat.le_of_ble_eq_true rfl) ?_
  intro p e s m below meth cd X hH ls hl
  have X : CX g p s m _ meth cd c_Names_soFar 2 (some .int) R_Names _ := X
  have hl : lv_has ls 2 [(0, .ref b), (1, .int x)] := hl
  have hS : va_S (AA (noA) H0) H0 H0 [] := va_S.rf
  refine lv_iload_n X.x X.b d_Names_soFar_0 rfl (lv_at hl 1 rfl) ?_
  refine lv_if_lt (tgt := 28) X.x X.b d_Names_soFar_1 (by decide) (fun c1 => ?_) (fun c1 => ?_)
  · skip
    have c1q := Int32.not_le.mpr c1
    refine lv_iconst (v := 0) X.x X.b d_Names_soFar_28 (by decide) ?_
    exact m_iret X hS (Nat.zero_le _) (Nat.zero_le _) d_Names_soFar_29 (congrArg (fun z => some (Value.int z)) (by simp [sofF, inN, issF, c1, c1q])) rfl
  · skip
    have c1q := Int32.not_lt.mp c1
    refine lv_iload_n X.x X.b d_Names_soFar_4 rfl (lv_at hl 1 rfl) ?_
    refine lv_bipush (v := 8) X.x X.b d_Names_soFar_5 (by decide) ?_
    refine lv_icmp_ge (tgt := 28) X.x X.b d_Names_soFar_7 (by decide) (fun c2 => ?_) (fun c2 => ?_)
    · skip
      have c2q := Int32.not_lt.mpr c2
      refine lv_iconst (v := 0) X.x X.b d_Names_soFar_28 (by decide) ?_
      exact m_iret X hS (Nat.zero_le _) (Nat.zero_le _) d_Names_soFar_29 (congrArg (fun z => some (Value.int z)) (by simp [sofF, inN, issF, c1, c1q, c2, c2q])) rfl
    · skip
      have c2q := Int32.not_le.mp c2
      refine lv_aload_n X.x X.b d_Names_soFar_10 rfl (lv_at hl 0 rfl) ?_
      refine m_get (v := .ref (b + 2)) X ok_Names hN.1 1 (by decide) k_Names_15 rfl d_Names_soFar_11 ?_
      refine lv_iload_n X.x X.b d_Names_soFar_14 rfl (lv_at hl 1 rfl) ?_
      refine m_zald X hN.2.2.1 (vin8 c1 c2) d_Names_soFar_15 ?_
      refine lv_if_eq (tgt := 28) X.x X.b d_Names_soFar_16 (by decide) (fun c3 => ?_) (fun c3 => ?_)
      · skip
        refine lv_iconst (v := 0) X.x X.b d_Names_soFar_28 (by decide) ?_
        exact m_iret X hS (Nat.zero_le _) (Nat.zero_le _) d_Names_soFar_29 (congrArg (fun z => some (Value.int z)) (by simp [sofF, inN, issF, c1, c1q, c2, c2q, c3])) rfl
      · skip
        refine lv_aload_n X.x X.b d_Names_soFar_19 rfl (lv_at hl 0 rfl) ?_
        refine m_get (v := .ref (b + 3)) X ok_Names hN.1 2 (by decide) k_Names_18 rfl d_Names_soFar_20 ?_
        refine lv_iload_n X.x X.b d_Names_soFar_23 rfl (lv_at hl 1 rfl) ?_
        refine m_iald X hN.2.2.2 (vin8 c1 c2) d_Names_soFar_24 ?_
        refine lv_goto (tgt := 29) X.x X.b d_Names_soFar_25 (by decide) ?_
        exact m_iret X hS (Nat.zero_le _) (Nat.zero_le _) d_Names_soFar_29 (congrArg (fun z => some (Value.int z)) (by simp [sofF, inN, issF, c1, c1q, c2, c2q, c3])) rfl
set_option maxRecDepth 100000 in
set_option maxHeartbeats 4000000 in
theorem M_Names_noteLabel (l : Launch) (g : GG) {b : Nat} {N : NS} {H0 : Heap} (hN : nAt g b N H0) (x : Int32) : MM l y_Names_noteLabel c_Names_noteLabel 2 none 0 0 0 g H0 [.ref b, .int x] (nF b) (none) (fun H1 => nAt g b (notl N x) H1) := by
  refine MM.of (by decide +kernel) (Nat.le_of_ble_eq_true rfl) ?_
  intro p e s m below meth cd X hH ls hl
  have X : CX g p s m _ meth cd c_Names_noteLabel 2 none R_Names _ := X
  have hl : lv_has ls 2 [(0, .ref b), (1, .int x)] := hl
  have hS : va_S (AA (nF b) H0) H0 H0 [] := va_S.rf
  refine lv_iload_n X.x X.b d_Names_noteLabel_0 rfl (lv_at hl 1 rfl) ?_
  refine lv_if_lt (tgt := 17) X.x X.b d_Names_noteLabel_1 (by decide) (fun c1 => ?_) (fun c1 => ?_)
  · skip
    have c1q := Int32.not_le.mpr c1
    exact m_vret X hS (Nat.zero_le _) (Nat.zero_le _) d_Names_noteLabel_17 rfl (by simp only [notl, inN]; first | (rw [if_pos ⟨c1q, c2q⟩]; exact hN) | (rw [if_neg (by simp [c1, c1q])]; exact hN))
  · skip
    have c1q := Int32.not_lt.mp c1
    refine lv_iload_n X.x X.b d_Names_noteLabel_4 rfl (lv_at hl 1 rfl) ?_
    refine lv_bipush (v := 8) X.x X.b d_Names_noteLabel_5 (by decide) ?_
    refine lv_icmp_ge (tgt := 17) X.x X.b d_Names_noteLabel_7 (by decide) (fun c2 => ?_) (fun c2 => ?_)
    · skip
      have c2q := Int32.not_lt.mpr c2
      exact m_vret X hS (Nat.zero_le _) (Nat.zero_le _) d_Names_noteLabel_17 rfl (by simp only [notl, inN]; first | (rw [if_pos ⟨c1q, c2q⟩]; exact hN) | (rw [if_neg (by simp [c1, c1q, c2, c2q])]; exact hN))
    · skip
      have c2q := Int32.not_le.mp c2
      refine lv_aload_n X.x X.b d_Names_noteLabel_10 rfl (lv_at hl 0 rfl) ?_
      refine m_get (v := .ref (b + 1)) X ok_Names hN.1 0 (by decide) k_Names_9 rfl d_Names_noteLabel_11 ?_
      refine lv_iload_n X.x X.b d_Names_noteLabel_14 rfl (lv_at hl 1 rfl) ?_
      refine lv_iconst (v := 1) X.x X.b d_Names_noteLabel_15 (by decide) ?_
      refine m_zast X hS (Or.inl ⟨by omega, by omega⟩) hN.2.1 rfl (vin8 c1 c2) d_Names_noteLabel_16 (fun H locs hp hcg hS => ?_)
      have hN := hN.p1 hp hcg
      exact m_vret X hS (Nat.zero_le _) (Nat.zero_le _) d_Names_noteLabel_17 rfl (by simp only [notl, inN]; first | (rw [if_pos ⟨c1q, c2q⟩]; exact hN) | (rw [if_neg (by simp [c1, c1q, c2, c2q])]; exact hN))
set_option maxRecDepth 100000 in
set_option maxHeartbeats 4000000 in
theorem M_Names_noteSet (l : Launch) (g : GG) {b : Nat} {N : NS} {H0 : Heap} (hN : nAt g b N H0) (x v : Int32) : MM l y_Names_noteSet c_Names_noteSet 3 none 0 0 0 g H0 [.ref b, .int x, .int v] (nF b) (none) (fun H1 => nAt g b (nots N x v) H1) := by
  refine MM.of (by decide +kernel) (Nat.le_of_ble_eq_true rfl) ?_
  intro p e s m below meth cd X hH ls hl
  have X : CX g p s m _ meth cd c_Names_noteSet 3 none R_Names _ := X
  have hl : lv_has ls 3 [(0, .ref b), (1, .int x), (2, .int v)] := hl
  have hS : va_S (AA (nF b) H0) H0 H0 [] := va_S.rf
  refine lv_iload_n X.x X.b d_Names_noteSet_0 rfl (lv_at hl 1 rfl) ?_
  refine lv_if_lt (tgt := 24) X.x X.b d_Names_noteSet_1 (by decide) (fun c1 => ?_) (fun c1 => ?_)
  · skip
    have c1q := Int32.not_le.mpr c1
    exact m_vret X hS (Nat.zero_le _) (Nat.zero_le _) d_Names_noteSet_24 rfl (by simp only [nots, inN]; first | (rw [if_pos ⟨c1q, c2q⟩]; exact hN) | (rw [if_neg (by simp [c1, c1q])]; exact hN))
  · skip
    have c1q := Int32.not_lt.mp c1
    refine lv_iload_n X.x X.b d_Names_noteSet_4 rfl (lv_at hl 1 rfl) ?_
    refine lv_bipush (v := 8) X.x X.b d_Names_noteSet_5 (by decide) ?_
    refine lv_icmp_ge (tgt := 24) X.x X.b d_Names_noteSet_7 (by decide) (fun c2 => ?_) (fun c2 => ?_)
    · skip
      have c2q := Int32.not_lt.mpr c2
      exact m_vret X hS (Nat.zero_le _) (Nat.zero_le _) d_Names_noteSet_24 rfl (by simp only [nots, inN]; first | (rw [if_pos ⟨c1q, c2q⟩]; exact hN) | (rw [if_neg (by simp [c1, c1q, c2, c2q])]; exact hN))
    · skip
      have c2q := Int32.not_le.mp c2
      refine lv_aload_n X.x X.b d_Names_noteSet_10 rfl (lv_at hl 0 rfl) ?_
      refine m_get (v := .ref (b + 2)) X ok_Names hN.1 1 (by decide) k_Names_15 rfl d_Names_noteSet_11 ?_
      refine lv_iload_n X.x X.b d_Names_noteSet_14 rfl (lv_at hl 1 rfl) ?_
      refine lv_iconst (v := 1) X.x X.b d_Names_noteSet_15 (by decide) ?_
      refine m_zast X hS (Or.inl ⟨by omega, by omega⟩) hN.2.2.1 rfl (vin8 c1 c2) d_Names_noteSet_16 (fun H locs hp hcg hS => ?_)
      have hN := hN.p2 hp hcg
      refine lv_aload_n X.x X.b d_Names_noteSet_17 rfl (lv_at hl 0 rfl) ?_
      refine m_get (v := .ref (b + 3)) X ok_Names hN.1 2 (by decide) k_Names_18 rfl d_Names_noteSet_18 ?_
      refine lv_iload_n X.x X.b d_Names_noteSet_21 rfl (lv_at hl 1 rfl) ?_
      refine lv_iload_n X.x X.b d_Names_noteSet_22 rfl (lv_at hl 2 rfl) ?_
      refine m_iast X hS (Or.inl ⟨by omega, by omega⟩) hN.2.2.2 (vin8 c1 c2) d_Names_noteSet_23 (fun H locs hp hcg hS => ?_)
      have hN := hN.p3 hp hcg
      exact m_vret X hS (Nat.zero_le _) (Nat.zero_le _) d_Names_noteSet_24 rfl (by simp only [nots, inN]; first | (rw [if_pos ⟨c1q, c2q⟩]; exact hN) | (rw [if_neg (by simp [c1, c1q, c2, c2q])]; exact hN))
set_option maxRecDepth 100000 in
set_option maxHeartbeats 4000000 in
theorem M_Names_clear (l : Launch) (g : GG) {b : Nat} {N : NS} {H0 : Heap} (hN : nAt g b N H0) : MM l y_Names_clear c_Names_clear 2 none 0 0 0 g H0 [.ref b] (nF b) (none) (fun H1 => nAt g b nn0 H1) := by
  refine MM.of (by decide +kernel) (Nat.le_of_ble_eq_true rfl) ?_
  intro p e s m below meth cd X hH ls hl
  have X : CX g p s m _ meth cd c_Names_clear 2 none R_Names _ := X
  have hl : lv_has ls 2 [(0, .ref b)] := hl
  have hS : va_S (AA (nF b) H0) H0 H0 [] := va_S.rf
  refine lv_iconst (v := 0) X.x X.b d_Names_clear_0 (by decide) ?_
  refine lv_istore_n (lv' := [(1, .int 0), (0, .ref b)]) X.x X.b d_Names_clear_1 rfl hl (by decide) rfl (fun ls hl => ?_)
  have lp : ∀ (n i : Nat) (Nx : NS), n = 8 - i → i < 5000 → (∀ t, t < i → Nx.1 t = 0 ∧ Nx.2.1 t = 0 ∧ Nx.2.2 t = 0) → ∀ (H : Heap) (locs : List Loc) (ls : Array Slot), nAt g b Nx H → va_S (AA (nF b) H0) H0 H locs → lv_has ls 2 [(0, .ref b), (1, .int (nI i))] → W p l e (rmK 0 0 0) s m ([.ref b] : List Value).toArray below meth cd H locs 0 0 (MQ below (QM (none) (fun H1 => nAt g b nn0 H1) (nF b) H0) ([.ref b] : List Value).toArray s 0 0 (AA (nF b) H0)) (F0 m 2 ls []) := by
    intro n
    induction n with
    | zero =>
      intro i Nx hin hi5 hE H locs ls hN hS hl
      refine lv_iload_n X.x X.b d_Names_clear_2 rfl (lv_at hl 1 rfl) ?_
      refine lv_bipush (v := 8) X.x X.b d_Names_clear_3 (by decide) ?_
      refine lv_icmp_ge (tgt := 35) X.x X.b d_Names_clear_5 (by decide) (fun c1 => ?_) (fun c1 => ?_)
      · skip
        have c1q := Int32.not_lt.mpr c1
        exact m_vret X hS (Nat.zero_le _) (Nat.zero_le _) d_Names_clear_35 rfl (by exact hN.ext (fun i hi => (hE i (by omega)).1) (fun i hi => (hE i (by omega)).2.1) (fun i hi => (hE i (by omega)).2.2))
      · exact absurd ((nI_leI (a := 8) (b := i) (by omega) (by omega)).mpr (by omega)) c1
    | succ n ih =>
      intro i Nx hin hi5 hE H locs ls hN hS hl
      refine lv_iload_n X.x X.b d_Names_clear_2 rfl (lv_at hl 1 rfl) ?_
      refine lv_bipush (v := 8) X.x X.b d_Names_clear_3 (by decide) ?_
      refine lv_icmp_ge (tgt := 35) X.x X.b d_Names_clear_5 (by decide) (fun c2 => ?_) (fun c2 => ?_)
      · exact absurd ((nI_leI (a := 8) (b := i) (by omega) (by omega)).mp c2) (by omega)
      · skip
        have c2q := Int32.not_le.mp c2
        refine lv_aload_n X.x X.b d_Names_clear_8 rfl (lv_at hl 0 rfl) ?_
        refine m_get (v := .ref (b + 1)) X ok_Names hN.1 0 (by decide) k_Names_9 rfl d_Names_clear_9 ?_
        refine lv_iload_n X.x X.b d_Names_clear_12 rfl (lv_at hl 1 rfl) ?_
        refine lv_iconst (v := 0) X.x X.b d_Names_clear_13 (by decide) ?_
        refine m_zast X hS (Or.inl ⟨by omega, by omega⟩) hN.2.1 rfl (vp_in_nI (by omega) (by omega)) d_Names_clear_14 (fun H locs hp hcg hS => ?_)
        have hN := hN.p1 hp hcg
        refine lv_aload_n X.x X.b d_Names_clear_15 rfl (lv_at hl 0 rfl) ?_
        refine m_get (v := .ref (b + 2)) X ok_Names hN.1 1 (by decide) k_Names_15 rfl d_Names_clear_16 ?_
        refine lv_iload_n X.x X.b d_Names_clear_19 rfl (lv_at hl 1 rfl) ?_
        refine lv_iconst (v := 0) X.x X.b d_Names_clear_20 (by decide) ?_
        refine m_zast X hS (Or.inl ⟨by omega, by omega⟩) hN.2.2.1 rfl (vp_in_nI (by omega) (by omega)) d_Names_clear_21 (fun H locs hp hcg hS => ?_)
        have hN := hN.p2 hp hcg
        refine lv_aload_n X.x X.b d_Names_clear_22 rfl (lv_at hl 0 rfl) ?_
        refine m_get (v := .ref (b + 3)) X ok_Names hN.1 2 (by decide) k_Names_18 rfl d_Names_clear_23 ?_
        refine lv_iload_n X.x X.b d_Names_clear_26 rfl (lv_at hl 1 rfl) ?_
        refine lv_iconst (v := 0) X.x X.b d_Names_clear_27 (by decide) ?_
        refine m_iast X hS (Or.inl ⟨by omega, by omega⟩) hN.2.2.2 (vp_in_nI (by omega) (by omega)) d_Names_clear_28 (fun H locs hp hcg hS => ?_)
        have hN := hN.p3 hp hcg
        refine lv_iinc (v := nI (i + 1)) (lv' := [(1, .int (nI (i + 1))), (0, .ref b)]) X.x X.b d_Names_clear_29 hl (k := 1) rfl (nI_1 i) (by decide) rfl (fun ls hl => ?_)
        refine lv_goto (tgt := 2) X.x X.b d_Names_clear_32 (by decide) ?_
        exact ih (i + 1) (((upd Nx.1 (nI i).toNatClampNeg 0, Nx.2.1, Nx.2.2).1, upd ((upd Nx.1 (nI i).toNatClampNeg 0, Nx.2.1, Nx.2.2).2.1) (nI i).toNatClampNeg 0, (upd Nx.1 (nI i).toNatClampNeg 0, Nx.2.1, Nx.2.2).2.2).1, ((upd Nx.1 (nI i).toNatClampNeg 0, Nx.2.1, Nx.2.2).1, upd ((upd Nx.1 (nI i).toNatClampNeg 0, Nx.2.1, Nx.2.2).2.1) (nI i).toNatClampNeg 0, (upd Nx.1 (nI i).toNatClampNeg 0, Nx.2.1, Nx.2.2).2.2).2.1, upd (((upd Nx.1 (nI i).toNatClampNeg 0, Nx.2.1, Nx.2.2).1, upd ((upd Nx.1 (nI i).toNatClampNeg 0, Nx.2.1, Nx.2.2).2.1) (nI i).toNatClampNeg 0, (upd Nx.1 (nI i).toNatClampNeg 0, Nx.2.1, Nx.2.2).2.2).2.2) (nI i).toNatClampNeg 0) (by omega) (by omega) (fun t ht => by rw [nI_clamp (by omega)]; by_cases z : t = i <;> simp [upd, z]; exact hE t (by omega)) _ _ _ hN hS (lv_sub hl [1, 0] rfl)
  exact lp 8 0 N (by omega) (by omega) (fun t ht => absurd ht (Nat.not_lt_zero t)) _ _ _ hN hS (lv_sub hl [1, 0] rfl)
set_option maxRecDepth 100000 in
set_option maxHeartbeats 4000000 in
theorem M_Line_isXOf (l : Launch) (g : GG) {H0 : Heap} (k x : Int32) : MP l y_Line_isXOf c_Line_isXOf 2 (some .boolean) 0 g H0 [.int k, .int x] (some (.int (b2i (xOk k x)))) := by
  refine MM.of (by decide +kernel) (Nat.le_of_ble_eq_true rfl) ?_
  intro p e s m below meth cd X hH ls hl
  have X : CX g p s m _ meth cd c_Line_isXOf 2 (some .boolean) R_Line _ := X
  have hl : lv_has ls 2 [(0, .int k), (1, .int x)] := hl
  have hS : va_S (AA (noA) H0) H0 H0 [] := va_S.rf
  refine lv_iload_n X.x X.b d_Line_isXOf_0 rfl (lv_at hl 0 rfl) ?_
  by_cases k1 : k = 0
  · skip
    refine lv_tableIn (off := 59) (tgt := 60) X.x X.b d_Line_isXOf_1 (by rw [k1]; decide) (by rw [k1]; decide) (by rw [k1]; decide) (by decide) ?_
    refine lv_iload_n X.x X.b d_Line_isXOf_60 rfl (lv_at hl 1 rfl) ?_
    refine lv_if_lt (tgt := 74) X.x X.b d_Line_isXOf_61 (by decide) (fun c2 => ?_) (fun c2 => ?_)
    · skip
      have c2q := Int32.not_le.mpr c2
      refine lv_iconst (v := 0) X.x X.b d_Line_isXOf_74 (by decide) ?_
      exact m_zret X hS (Nat.zero_le _) (Nat.zero_le _) d_Line_isXOf_75 rfl (congrArg (fun z => some (Value.int z)) (by simp [b2i, xOk, k1, c2, c2q])) rfl
    · skip
      have c2q := Int32.not_lt.mp c2
      refine lv_iload_n X.x X.b d_Line_isXOf_64 rfl (lv_at hl 1 rfl) ?_
      refine lv_bipush (v := 9) X.x X.b d_Line_isXOf_65 (by decide) ?_
      refine lv_icmp_gt (tgt := 74) X.x X.b d_Line_isXOf_67 (by decide) (fun c3 => ?_) (fun c3 => ?_)
      · skip
        have c3q := Int32.not_le.mpr c3
        refine lv_iconst (v := 0) X.x X.b d_Line_isXOf_74 (by decide) ?_
        exact m_zret X hS (Nat.zero_le _) (Nat.zero_le _) d_Line_isXOf_75 rfl (congrArg (fun z => some (Value.int z)) (by simp [b2i, xOk, k1, c2, c2q, c3, c3q])) rfl
      · skip
        have c3q := Int32.not_lt.mp c3
        refine lv_iconst (v := 1) X.x X.b d_Line_isXOf_70 (by decide) ?_
        refine lv_goto (tgt := 75) X.x X.b d_Line_isXOf_71 (by decide) ?_
        exact m_zret X hS (Nat.zero_le _) (Nat.zero_le _) d_Line_isXOf_75 rfl (congrArg (fun z => some (Value.int z)) (by simp [b2i, xOk, k1, c2, c2q, c3, c3q])) rfl
  by_cases k4 : k = 1
  · skip
    refine lv_tableIn (off := 75) (tgt := 76) X.x X.b d_Line_isXOf_1 (by rw [k4]; decide) (by rw [k4]; decide) (by rw [k4]; decide) (by decide) ?_
    refine lv_iload_n X.x X.b d_Line_isXOf_76 rfl (lv_at hl 1 rfl) ?_
    refine lv_if_lt (tgt := 90) X.x X.b d_Line_isXOf_77 (by decide) (fun c5 => ?_) (fun c5 => ?_)
    · skip
      have c5q := Int32.not_le.mpr c5
      refine lv_iconst (v := 0) X.x X.b d_Line_isXOf_90 (by decide) ?_
      exact m_zret X hS (Nat.zero_le _) (Nat.zero_le _) d_Line_isXOf_91 rfl (congrArg (fun z => some (Value.int z)) (by simp [b2i, xOk, k4, c5, c5q])) rfl
    · skip
      have c5q := Int32.not_lt.mp c5
      refine lv_iload_n X.x X.b d_Line_isXOf_80 rfl (lv_at hl 1 rfl) ?_
      refine lv_bipush (v := 8) X.x X.b d_Line_isXOf_81 (by decide) ?_
      refine lv_icmp_ge (tgt := 90) X.x X.b d_Line_isXOf_83 (by decide) (fun c6 => ?_) (fun c6 => ?_)
      · skip
        have c6q := Int32.not_lt.mpr c6
        refine lv_iconst (v := 0) X.x X.b d_Line_isXOf_90 (by decide) ?_
        exact m_zret X hS (Nat.zero_le _) (Nat.zero_le _) d_Line_isXOf_91 rfl (congrArg (fun z => some (Value.int z)) (by simp [b2i, xOk, k4, c5, c5q, c6, c6q])) rfl
      · skip
        have c6q := Int32.not_le.mp c6
        refine lv_iconst (v := 1) X.x X.b d_Line_isXOf_86 (by decide) ?_
        refine lv_goto (tgt := 91) X.x X.b d_Line_isXOf_87 (by decide) ?_
        exact m_zret X hS (Nat.zero_le _) (Nat.zero_le _) d_Line_isXOf_91 rfl (congrArg (fun z => some (Value.int z)) (by simp [b2i, xOk, k4, c5, c5q, c6, c6q])) rfl
  by_cases k7 : k = 2
  · skip
    refine lv_tableIn (off := 91) (tgt := 92) X.x X.b d_Line_isXOf_1 (by rw [k7]; decide) (by rw [k7]; decide) (by rw [k7]; decide) (by decide) ?_
    refine lv_iload_n X.x X.b d_Line_isXOf_92 rfl (lv_at hl 1 rfl) ?_
    refine lv_iconst (v := -1) X.x X.b d_Line_isXOf_93 (by decide) ?_
    refine lv_icmp_lt (tgt := 107) X.x X.b d_Line_isXOf_94 (by decide) (fun c8 => ?_) (fun c8 => ?_)
    · skip
      have c8q := Int32.not_le.mpr c8
      refine lv_iconst (v := 0) X.x X.b d_Line_isXOf_107 (by decide) ?_
      exact m_zret X hS (Nat.zero_le _) (Nat.zero_le _) d_Line_isXOf_108 rfl (congrArg (fun z => some (Value.int z)) (by simp [b2i, xOk, k7, c8, c8q])) rfl
    · skip
      have c8q := Int32.not_lt.mp c8
      refine lv_iload_n X.x X.b d_Line_isXOf_97 rfl (lv_at hl 1 rfl) ?_
      refine lv_bipush (v := 11) X.x X.b d_Line_isXOf_98 (by decide) ?_
      refine lv_icmp_gt (tgt := 107) X.x X.b d_Line_isXOf_100 (by decide) (fun c9 => ?_) (fun c9 => ?_)
      · skip
        have c9q := Int32.not_le.mpr c9
        refine lv_iconst (v := 0) X.x X.b d_Line_isXOf_107 (by decide) ?_
        exact m_zret X hS (Nat.zero_le _) (Nat.zero_le _) d_Line_isXOf_108 rfl (congrArg (fun z => some (Value.int z)) (by simp [b2i, xOk, k7, c8, c8q, c9, c9q])) rfl
      · skip
        have c9q := Int32.not_lt.mp c9
        refine lv_iconst (v := 1) X.x X.b d_Line_isXOf_103 (by decide) ?_
        refine lv_goto (tgt := 108) X.x X.b d_Line_isXOf_104 (by decide) ?_
        exact m_zret X hS (Nat.zero_le _) (Nat.zero_le _) d_Line_isXOf_108 rfl (congrArg (fun z => some (Value.int z)) (by simp [b2i, xOk, k7, c8, c8q, c9, c9q])) rfl
  by_cases k10 : k = 3
  · skip
    refine lv_tableIn (off := 91) (tgt := 92) X.x X.b d_Line_isXOf_1 (by rw [k10]; decide) (by rw [k10]; decide) (by rw [k10]; decide) (by decide) ?_
    refine lv_iload_n X.x X.b d_Line_isXOf_92 rfl (lv_at hl 1 rfl) ?_
    refine lv_iconst (v := -1) X.x X.b d_Line_isXOf_93 (by decide) ?_
    refine lv_icmp_lt (tgt := 107) X.x X.b d_Line_isXOf_94 (by decide) (fun c11 => ?_) (fun c11 => ?_)
    · skip
      have c11q := Int32.not_le.mpr c11
      refine lv_iconst (v := 0) X.x X.b d_Line_isXOf_107 (by decide) ?_
      exact m_zret X hS (Nat.zero_le _) (Nat.zero_le _) d_Line_isXOf_108 rfl (congrArg (fun z => some (Value.int z)) (by simp [b2i, xOk, k10, c11, c11q])) rfl
    · skip
      have c11q := Int32.not_lt.mp c11
      refine lv_iload_n X.x X.b d_Line_isXOf_97 rfl (lv_at hl 1 rfl) ?_
      refine lv_bipush (v := 11) X.x X.b d_Line_isXOf_98 (by decide) ?_
      refine lv_icmp_gt (tgt := 107) X.x X.b d_Line_isXOf_100 (by decide) (fun c12 => ?_) (fun c12 => ?_)
      · skip
        have c12q := Int32.not_le.mpr c12
        refine lv_iconst (v := 0) X.x X.b d_Line_isXOf_107 (by decide) ?_
        exact m_zret X hS (Nat.zero_le _) (Nat.zero_le _) d_Line_isXOf_108 rfl (congrArg (fun z => some (Value.int z)) (by simp [b2i, xOk, k10, c11, c11q, c12, c12q])) rfl
      · skip
        have c12q := Int32.not_lt.mp c12
        refine lv_iconst (v := 1) X.x X.b d_Line_isXOf_103 (by decide) ?_
        refine lv_goto (tgt := 108) X.x X.b d_Line_isXOf_104 (by decide) ?_
        exact m_zret X hS (Nat.zero_le _) (Nat.zero_le _) d_Line_isXOf_108 rfl (congrArg (fun z => some (Value.int z)) (by simp [b2i, xOk, k10, c11, c11q, c12, c12q])) rfl
  by_cases k13 : k = 4
  · skip
    refine lv_tableIn (off := 91) (tgt := 92) X.x X.b d_Line_isXOf_1 (by rw [k13]; decide) (by rw [k13]; decide) (by rw [k13]; decide) (by decide) ?_
    refine lv_iload_n X.x X.b d_Line_isXOf_92 rfl (lv_at hl 1 rfl) ?_
    refine lv_iconst (v := -1) X.x X.b d_Line_isXOf_93 (by decide) ?_
    refine lv_icmp_lt (tgt := 107) X.x X.b d_Line_isXOf_94 (by decide) (fun c14 => ?_) (fun c14 => ?_)
    · skip
      have c14q := Int32.not_le.mpr c14
      refine lv_iconst (v := 0) X.x X.b d_Line_isXOf_107 (by decide) ?_
      exact m_zret X hS (Nat.zero_le _) (Nat.zero_le _) d_Line_isXOf_108 rfl (congrArg (fun z => some (Value.int z)) (by simp [b2i, xOk, k13, c14, c14q])) rfl
    · skip
      have c14q := Int32.not_lt.mp c14
      refine lv_iload_n X.x X.b d_Line_isXOf_97 rfl (lv_at hl 1 rfl) ?_
      refine lv_bipush (v := 11) X.x X.b d_Line_isXOf_98 (by decide) ?_
      refine lv_icmp_gt (tgt := 107) X.x X.b d_Line_isXOf_100 (by decide) (fun c15 => ?_) (fun c15 => ?_)
      · skip
        have c15q := Int32.not_le.mpr c15
        refine lv_iconst (v := 0) X.x X.b d_Line_isXOf_107 (by decide) ?_
        exact m_zret X hS (Nat.zero_le _) (Nat.zero_le _) d_Line_isXOf_108 rfl (congrArg (fun z => some (Value.int z)) (by simp [b2i, xOk, k13, c14, c14q, c15, c15q])) rfl
      · skip
        have c15q := Int32.not_lt.mp c15
        refine lv_iconst (v := 1) X.x X.b d_Line_isXOf_103 (by decide) ?_
        refine lv_goto (tgt := 108) X.x X.b d_Line_isXOf_104 (by decide) ?_
        exact m_zret X hS (Nat.zero_le _) (Nat.zero_le _) d_Line_isXOf_108 rfl (congrArg (fun z => some (Value.int z)) (by simp [b2i, xOk, k13, c14, c14q, c15, c15q])) rfl
  by_cases k16 : k = 5
  · skip
    refine lv_tableIn (off := 140) (tgt := 141) X.x X.b d_Line_isXOf_1 (by rw [k16]; decide) (by rw [k16]; decide) (by rw [k16]; decide) (by decide) ?_
    refine lv_iload_n X.x X.b d_Line_isXOf_141 rfl (lv_at hl 1 rfl) ?_
    refine lv_iconst (v := -1) X.x X.b d_Line_isXOf_142 (by decide) ?_
    refine lv_icmp_ne (tgt := 150) X.x X.b d_Line_isXOf_143 (by decide) (fun c17 => ?_) (fun c17 => ?_)
    · skip
      refine lv_iconst (v := 0) X.x X.b d_Line_isXOf_150 (by decide) ?_
      exact m_zret X hS (Nat.zero_le _) (Nat.zero_le _) d_Line_isXOf_151 rfl (congrArg (fun z => some (Value.int z)) (by simp [b2i, xOk, k16, c17])) rfl
    · skip
      refine lv_iconst (v := 1) X.x X.b d_Line_isXOf_146 (by decide) ?_
      refine lv_goto (tgt := 151) X.x X.b d_Line_isXOf_147 (by decide) ?_
      exact m_zret X hS (Nat.zero_le _) (Nat.zero_le _) d_Line_isXOf_151 rfl (congrArg (fun z => some (Value.int z)) (by simp [b2i, xOk, k16, c17])) rfl
  by_cases k18 : k = 6
  · skip
    refine lv_tableIn (off := 140) (tgt := 141) X.x X.b d_Line_isXOf_1 (by rw [k18]; decide) (by rw [k18]; decide) (by rw [k18]; decide) (by decide) ?_
    refine lv_iload_n X.x X.b d_Line_isXOf_141 rfl (lv_at hl 1 rfl) ?_
    refine lv_iconst (v := -1) X.x X.b d_Line_isXOf_142 (by decide) ?_
    refine lv_icmp_ne (tgt := 150) X.x X.b d_Line_isXOf_143 (by decide) (fun c19 => ?_) (fun c19 => ?_)
    · skip
      refine lv_iconst (v := 0) X.x X.b d_Line_isXOf_150 (by decide) ?_
      exact m_zret X hS (Nat.zero_le _) (Nat.zero_le _) d_Line_isXOf_151 rfl (congrArg (fun z => some (Value.int z)) (by simp [b2i, xOk, k18, c19])) rfl
    · skip
      refine lv_iconst (v := 1) X.x X.b d_Line_isXOf_146 (by decide) ?_
      refine lv_goto (tgt := 151) X.x X.b d_Line_isXOf_147 (by decide) ?_
      exact m_zret X hS (Nat.zero_le _) (Nat.zero_le _) d_Line_isXOf_151 rfl (congrArg (fun z => some (Value.int z)) (by simp [b2i, xOk, k18, c19])) rfl
  by_cases k20 : k = 7
  · skip
    refine lv_tableIn (off := 140) (tgt := 141) X.x X.b d_Line_isXOf_1 (by rw [k20]; decide) (by rw [k20]; decide) (by rw [k20]; decide) (by decide) ?_
    refine lv_iload_n X.x X.b d_Line_isXOf_141 rfl (lv_at hl 1 rfl) ?_
    refine lv_iconst (v := -1) X.x X.b d_Line_isXOf_142 (by decide) ?_
    refine lv_icmp_ne (tgt := 150) X.x X.b d_Line_isXOf_143 (by decide) (fun c21 => ?_) (fun c21 => ?_)
    · skip
      refine lv_iconst (v := 0) X.x X.b d_Line_isXOf_150 (by decide) ?_
      exact m_zret X hS (Nat.zero_le _) (Nat.zero_le _) d_Line_isXOf_151 rfl (congrArg (fun z => some (Value.int z)) (by simp [b2i, xOk, k20, c21])) rfl
    · skip
      refine lv_iconst (v := 1) X.x X.b d_Line_isXOf_146 (by decide) ?_
      refine lv_goto (tgt := 151) X.x X.b d_Line_isXOf_147 (by decide) ?_
      exact m_zret X hS (Nat.zero_le _) (Nat.zero_le _) d_Line_isXOf_151 rfl (congrArg (fun z => some (Value.int z)) (by simp [b2i, xOk, k20, c21])) rfl
  by_cases k22 : k = 8
  · skip
    refine lv_tableIn (off := 108) (tgt := 109) X.x X.b d_Line_isXOf_1 (by rw [k22]; decide) (by rw [k22]; decide) (by rw [k22]; decide) (by decide) ?_
    refine lv_iload_n X.x X.b d_Line_isXOf_109 rfl (lv_at hl 1 rfl) ?_
    refine lv_iconst (v := -1) X.x X.b d_Line_isXOf_110 (by decide) ?_
    refine lv_icmp_lt (tgt := 124) X.x X.b d_Line_isXOf_111 (by decide) (fun c23 => ?_) (fun c23 => ?_)
    · skip
      have c23q := Int32.not_le.mpr c23
      refine lv_iconst (v := 0) X.x X.b d_Line_isXOf_124 (by decide) ?_
      exact m_zret X hS (Nat.zero_le _) (Nat.zero_le _) d_Line_isXOf_125 rfl (congrArg (fun z => some (Value.int z)) (by simp [b2i, xOk, k22, c23, c23q])) rfl
    · skip
      have c23q := Int32.not_lt.mp c23
      refine lv_iload_n X.x X.b d_Line_isXOf_114 rfl (lv_at hl 1 rfl) ?_
      refine lv_bipush (v := 8) X.x X.b d_Line_isXOf_115 (by decide) ?_
      refine lv_icmp_ge (tgt := 124) X.x X.b d_Line_isXOf_117 (by decide) (fun c24 => ?_) (fun c24 => ?_)
      · skip
        have c24q := Int32.not_lt.mpr c24
        refine lv_iconst (v := 0) X.x X.b d_Line_isXOf_124 (by decide) ?_
        exact m_zret X hS (Nat.zero_le _) (Nat.zero_le _) d_Line_isXOf_125 rfl (congrArg (fun z => some (Value.int z)) (by simp [b2i, xOk, k22, c23, c23q, c24, c24q])) rfl
      · skip
        have c24q := Int32.not_le.mp c24
        refine lv_iconst (v := 1) X.x X.b d_Line_isXOf_120 (by decide) ?_
        refine lv_goto (tgt := 125) X.x X.b d_Line_isXOf_121 (by decide) ?_
        exact m_zret X hS (Nat.zero_le _) (Nat.zero_le _) d_Line_isXOf_125 rfl (congrArg (fun z => some (Value.int z)) (by simp [b2i, xOk, k22, c23, c23q, c24, c24q])) rfl
  by_cases k25 : k = 9
  · skip
    refine lv_tableIn (off := 140) (tgt := 141) X.x X.b d_Line_isXOf_1 (by rw [k25]; decide) (by rw [k25]; decide) (by rw [k25]; decide) (by decide) ?_
    refine lv_iload_n X.x X.b d_Line_isXOf_141 rfl (lv_at hl 1 rfl) ?_
    refine lv_iconst (v := -1) X.x X.b d_Line_isXOf_142 (by decide) ?_
    refine lv_icmp_ne (tgt := 150) X.x X.b d_Line_isXOf_143 (by decide) (fun c26 => ?_) (fun c26 => ?_)
    · skip
      refine lv_iconst (v := 0) X.x X.b d_Line_isXOf_150 (by decide) ?_
      exact m_zret X hS (Nat.zero_le _) (Nat.zero_le _) d_Line_isXOf_151 rfl (congrArg (fun z => some (Value.int z)) (by simp [b2i, xOk, k25, c26])) rfl
    · skip
      refine lv_iconst (v := 1) X.x X.b d_Line_isXOf_146 (by decide) ?_
      refine lv_goto (tgt := 151) X.x X.b d_Line_isXOf_147 (by decide) ?_
      exact m_zret X hS (Nat.zero_le _) (Nat.zero_le _) d_Line_isXOf_151 rfl (congrArg (fun z => some (Value.int z)) (by simp [b2i, xOk, k25, c26])) rfl
  by_cases k27 : k = 10
  · skip
    refine lv_tableIn (off := 125) (tgt := 126) X.x X.b d_Line_isXOf_1 (by rw [k27]; decide) (by rw [k27]; decide) (by rw [k27]; decide) (by decide) ?_
    refine lv_iload_n X.x X.b d_Line_isXOf_126 rfl (lv_at hl 1 rfl) ?_
    refine lv_if_le (tgt := 139) X.x X.b d_Line_isXOf_127 (by decide) (fun c28 => ?_) (fun c28 => ?_)
    · skip
      have c28q := Int32.not_lt.mpr c28
      refine lv_iconst (v := 0) X.x X.b d_Line_isXOf_139 (by decide) ?_
      exact m_zret X hS (Nat.zero_le _) (Nat.zero_le _) d_Line_isXOf_140 rfl (congrArg (fun z => some (Value.int z)) (by simp [b2i, xOk, k27, c28, c28q])) rfl
    · skip
      have c28q := Int32.not_le.mp c28
      refine lv_iload_n X.x X.b d_Line_isXOf_130 rfl (lv_at hl 1 rfl) ?_
      refine lv_iconst (v := 5) X.x X.b d_Line_isXOf_131 (by decide) ?_
      refine lv_icmp_ge (tgt := 139) X.x X.b d_Line_isXOf_132 (by decide) (fun c29 => ?_) (fun c29 => ?_)
      · skip
        have c29q := Int32.not_lt.mpr c29
        refine lv_iconst (v := 0) X.x X.b d_Line_isXOf_139 (by decide) ?_
        exact m_zret X hS (Nat.zero_le _) (Nat.zero_le _) d_Line_isXOf_140 rfl (congrArg (fun z => some (Value.int z)) (by simp [b2i, xOk, k27, c28, c28q, c29, c29q])) rfl
      · skip
        have c29q := Int32.not_le.mp c29
        refine lv_iconst (v := 1) X.x X.b d_Line_isXOf_135 (by decide) ?_
        refine lv_goto (tgt := 140) X.x X.b d_Line_isXOf_136 (by decide) ?_
        exact m_zret X hS (Nat.zero_le _) (Nat.zero_le _) d_Line_isXOf_140 rfl (congrArg (fun z => some (Value.int z)) (by simp [b2i, xOk, k27, c28, c28q, c29, c29q])) rfl
  refine lv_tableOut (tgt := 141) X.x X.b d_Line_isXOf_1 (by have := ne_toInt (k := 0) 0 (by decide) k1; have := ne_toInt (k := 1) 1 (by decide) k4; have := ne_toInt (k := 2) 2 (by decide) k7; have := ne_toInt (k := 3) 3 (by decide) k10; have := ne_toInt (k := 4) 4 (by decide) k13; have := ne_toInt (k := 5) 5 (by decide) k16; have := ne_toInt (k := 6) 6 (by decide) k18; have := ne_toInt (k := 7) 7 (by decide) k20; have := ne_toInt (k := 8) 8 (by decide) k22; have := ne_toInt (k := 9) 9 (by decide) k25; have := ne_toInt (k := 10) 10 (by decide) k27; omega) (by decide) ?_
  refine lv_iload_n X.x X.b d_Line_isXOf_141 rfl (lv_at hl 1 rfl) ?_
  refine lv_iconst (v := -1) X.x X.b d_Line_isXOf_142 (by decide) ?_
  refine lv_icmp_ne (tgt := 150) X.x X.b d_Line_isXOf_143 (by decide) (fun c30 => ?_) (fun c30 => ?_)
  · skip
    refine lv_iconst (v := 0) X.x X.b d_Line_isXOf_150 (by decide) ?_
    exact m_zret X hS (Nat.zero_le _) (Nat.zero_le _) d_Line_isXOf_151 rfl (congrArg (fun z => some (Value.int z)) (by simp [b2i, xOk, k1, k4, k7, k10, k13, k16, k18, k20, k22, k25, k27, c30])) rfl
  · skip
    refine lv_iconst (v := 1) X.x X.b d_Line_isXOf_146 (by decide) ?_
    refine lv_goto (tgt := 151) X.x X.b d_Line_isXOf_147 (by decide) ?_
    exact m_zret X hS (Nat.zero_le _) (Nat.zero_le _) d_Line_isXOf_151 rfl (congrArg (fun z => some (Value.int z)) (by simp [b2i, xOk, k1, k4, k7, k10, k13, k16, k18, k20, k22, k25, k27, c30])) rfl
set_option maxRecDepth 100000 in
set_option maxHeartbeats 4000000 in
theorem M_Line_isYOf (l : Launch) (g : GG) {H0 : Heap} (k x : Int32) : MP l y_Line_isYOf c_Line_isYOf 2 (some .boolean) 0 g H0 [.int k, .int x] (some (.int (b2i (yOk k x)))) := by
  refine MM.of (by decide +kernel) (Nat.le_of_ble_eq_true rfl) ?_
  intro p e s m below meth cd X hH ls hl
  have X : CX g p s m _ meth cd c_Line_isYOf 2 (some .boolean) R_Line _ := X
  have hl : lv_has ls 2 [(0, .int k), (1, .int x)] := hl
  have hS : va_S (AA (noA) H0) H0 H0 [] := va_S.rf
  refine lv_iload_n X.x X.b d_Line_isYOf_0 rfl (lv_at hl 0 rfl) ?_
  by_cases k1 : k = 1
  · skip
    refine lv_lookup (off := 35) (tgt := 36) X.x X.b d_Line_isYOf_1 (by decide) (by rw [k1]; decide) (by decide) ?_
    refine lv_iload_n X.x X.b d_Line_isYOf_36 rfl (lv_at hl 1 rfl) ?_
    refine lv_iconst (v := -1) X.x X.b d_Line_isYOf_37 (by decide) ?_
    refine lv_icmp_lt (tgt := 51) X.x X.b d_Line_isYOf_38 (by decide) (fun c2 => ?_) (fun c2 => ?_)
    · skip
      have c2q := Int32.not_le.mpr c2
      refine lv_iconst (v := 0) X.x X.b d_Line_isYOf_51 (by decide) ?_
      exact m_zret X hS (Nat.zero_le _) (Nat.zero_le _) d_Line_isYOf_52 rfl (congrArg (fun z => some (Value.int z)) (by simp [b2i, yOk, k1, c2, c2q])) rfl
    · skip
      have c2q := Int32.not_lt.mp c2
      refine lv_iload_n X.x X.b d_Line_isYOf_41 rfl (lv_at hl 1 rfl) ?_
      refine lv_bipush (v := 8) X.x X.b d_Line_isYOf_42 (by decide) ?_
      refine lv_icmp_ge (tgt := 51) X.x X.b d_Line_isYOf_44 (by decide) (fun c3 => ?_) (fun c3 => ?_)
      · skip
        have c3q := Int32.not_lt.mpr c3
        refine lv_iconst (v := 0) X.x X.b d_Line_isYOf_51 (by decide) ?_
        exact m_zret X hS (Nat.zero_le _) (Nat.zero_le _) d_Line_isYOf_52 rfl (congrArg (fun z => some (Value.int z)) (by simp [b2i, yOk, k1, c2, c2q, c3, c3q])) rfl
      · skip
        have c3q := Int32.not_le.mp c3
        refine lv_iconst (v := 1) X.x X.b d_Line_isYOf_47 (by decide) ?_
        refine lv_goto (tgt := 52) X.x X.b d_Line_isYOf_48 (by decide) ?_
        exact m_zret X hS (Nat.zero_le _) (Nat.zero_le _) d_Line_isYOf_52 rfl (congrArg (fun z => some (Value.int z)) (by simp [b2i, yOk, k1, c2, c2q, c3, c3q])) rfl
  by_cases k4 : k = 2
  · skip
    refine lv_lookup (off := 52) (tgt := 53) X.x X.b d_Line_isYOf_1 (by decide) (by rw [k4]; decide) (by decide) ?_
    refine lv_iload_n X.x X.b d_Line_isYOf_53 rfl (lv_at hl 1 rfl) ?_
    refine lv_iconst (v := -1) X.x X.b d_Line_isYOf_54 (by decide) ?_
    refine lv_icmp_lt (tgt := 68) X.x X.b d_Line_isYOf_55 (by decide) (fun c5 => ?_) (fun c5 => ?_)
    · skip
      have c5q := Int32.not_le.mpr c5
      refine lv_iconst (v := 0) X.x X.b d_Line_isYOf_68 (by decide) ?_
      exact m_zret X hS (Nat.zero_le _) (Nat.zero_le _) d_Line_isYOf_69 rfl (congrArg (fun z => some (Value.int z)) (by simp [b2i, yOk, k4, c5, c5q])) rfl
    · skip
      have c5q := Int32.not_lt.mp c5
      refine lv_iload_n X.x X.b d_Line_isYOf_58 rfl (lv_at hl 1 rfl) ?_
      refine lv_bipush (v := 11) X.x X.b d_Line_isYOf_59 (by decide) ?_
      refine lv_icmp_gt (tgt := 68) X.x X.b d_Line_isYOf_61 (by decide) (fun c6 => ?_) (fun c6 => ?_)
      · skip
        have c6q := Int32.not_le.mpr c6
        refine lv_iconst (v := 0) X.x X.b d_Line_isYOf_68 (by decide) ?_
        exact m_zret X hS (Nat.zero_le _) (Nat.zero_le _) d_Line_isYOf_69 rfl (congrArg (fun z => some (Value.int z)) (by simp [b2i, yOk, k4, c5, c5q, c6, c6q])) rfl
      · skip
        have c6q := Int32.not_lt.mp c6
        refine lv_iconst (v := 1) X.x X.b d_Line_isYOf_64 (by decide) ?_
        refine lv_goto (tgt := 69) X.x X.b d_Line_isYOf_65 (by decide) ?_
        exact m_zret X hS (Nat.zero_le _) (Nat.zero_le _) d_Line_isYOf_69 rfl (congrArg (fun z => some (Value.int z)) (by simp [b2i, yOk, k4, c5, c5q, c6, c6q])) rfl
  by_cases k7 : k = 8
  · skip
    refine lv_lookup (off := 35) (tgt := 36) X.x X.b d_Line_isYOf_1 (by decide) (by rw [k7]; decide) (by decide) ?_
    refine lv_iload_n X.x X.b d_Line_isYOf_36 rfl (lv_at hl 1 rfl) ?_
    refine lv_iconst (v := -1) X.x X.b d_Line_isYOf_37 (by decide) ?_
    refine lv_icmp_lt (tgt := 51) X.x X.b d_Line_isYOf_38 (by decide) (fun c8 => ?_) (fun c8 => ?_)
    · skip
      have c8q := Int32.not_le.mpr c8
      refine lv_iconst (v := 0) X.x X.b d_Line_isYOf_51 (by decide) ?_
      exact m_zret X hS (Nat.zero_le _) (Nat.zero_le _) d_Line_isYOf_52 rfl (congrArg (fun z => some (Value.int z)) (by simp [b2i, yOk, k7, c8, c8q])) rfl
    · skip
      have c8q := Int32.not_lt.mp c8
      refine lv_iload_n X.x X.b d_Line_isYOf_41 rfl (lv_at hl 1 rfl) ?_
      refine lv_bipush (v := 8) X.x X.b d_Line_isYOf_42 (by decide) ?_
      refine lv_icmp_ge (tgt := 51) X.x X.b d_Line_isYOf_44 (by decide) (fun c9 => ?_) (fun c9 => ?_)
      · skip
        have c9q := Int32.not_lt.mpr c9
        refine lv_iconst (v := 0) X.x X.b d_Line_isYOf_51 (by decide) ?_
        exact m_zret X hS (Nat.zero_le _) (Nat.zero_le _) d_Line_isYOf_52 rfl (congrArg (fun z => some (Value.int z)) (by simp [b2i, yOk, k7, c8, c8q, c9, c9q])) rfl
      · skip
        have c9q := Int32.not_le.mp c9
        refine lv_iconst (v := 1) X.x X.b d_Line_isYOf_47 (by decide) ?_
        refine lv_goto (tgt := 52) X.x X.b d_Line_isYOf_48 (by decide) ?_
        exact m_zret X hS (Nat.zero_le _) (Nat.zero_le _) d_Line_isYOf_52 rfl (congrArg (fun z => some (Value.int z)) (by simp [b2i, yOk, k7, c8, c8q, c9, c9q])) rfl
  refine lv_lookup (off := 69) (tgt := 70) X.x X.b d_Line_isYOf_1 (by decide) (by have := ne_toInt (k := 1) 1 (by decide) k1; have := ne_toInt (k := 2) 2 (by decide) k4; have := ne_toInt (k := 8) 8 (by decide) k7; simp [Op.lookupswitch.offset]; repeat (rw [if_neg (by omega)])) (by decide) ?_
  refine lv_iload_n X.x X.b d_Line_isYOf_70 rfl (lv_at hl 1 rfl) ?_
  refine lv_iconst (v := -1) X.x X.b d_Line_isYOf_71 (by decide) ?_
  refine lv_icmp_ne (tgt := 79) X.x X.b d_Line_isYOf_72 (by decide) (fun c10 => ?_) (fun c10 => ?_)
  · skip
    refine lv_iconst (v := 0) X.x X.b d_Line_isYOf_79 (by decide) ?_
    exact m_zret X hS (Nat.zero_le _) (Nat.zero_le _) d_Line_isYOf_80 rfl (congrArg (fun z => some (Value.int z)) (by simp [b2i, yOk, k1, k4, k7, c10])) rfl
  · skip
    refine lv_iconst (v := 1) X.x X.b d_Line_isYOf_75 (by decide) ?_
    refine lv_goto (tgt := 80) X.x X.b d_Line_isYOf_76 (by decide) ?_
    exact m_zret X hS (Nat.zero_le _) (Nat.zero_le _) d_Line_isYOf_80 rfl (congrArg (fun z => some (Value.int z)) (by simp [b2i, yOk, k1, k4, k7, c10])) rfl
set_option maxRecDepth 100000 in
set_option maxHeartbeats 4000000 in
theorem M_Line_isNOf (l : Launch) (g : GG) {H0 : Heap} (k x : Int32) : MP l y_Line_isNOf c_Line_isNOf 2 (some .boolean) 0 g H0 [.int k, .int x] (some (.int (b2i (nOk k x)))) := by
  refine MM.of (by decide +kernel) (Nat.le_of_ble_eq_true rfl) ?_
  intro p e s m below meth cd X hH ls hl
  have X : CX g p s m _ meth cd c_Line_isNOf 2 (some .boolean) R_Line _ := X
  have hl : lv_has ls 2 [(0, .int k), (1, .int x)] := hl
  have hS : va_S (AA (noA) H0) H0 H0 [] := va_S.rf
  refine lv_iload_n X.x X.b d_Line_isNOf_0 rfl (lv_at hl 0 rfl) ?_
  by_cases k1 : k = 0
  · skip
    refine lv_tableIn (off := 55) (tgt := 56) X.x X.b d_Line_isNOf_1 (by rw [k1]; decide) (by rw [k1]; decide) (by rw [k1]; decide) (by decide) ?_
    refine lv_iload_n X.x X.b d_Line_isNOf_56 rfl (lv_at hl 1 rfl) ?_
    refine lv_if_ne (tgt := 64) X.x X.b d_Line_isNOf_57 (by decide) (fun c2 => ?_) (fun c2 => ?_)
    · skip
      refine lv_iconst (v := 0) X.x X.b d_Line_isNOf_64 (by decide) ?_
      exact m_zret X hS (Nat.zero_le _) (Nat.zero_le _) d_Line_isNOf_65 rfl (congrArg (fun z => some (Value.int z)) (by simp [b2i, nOk, k1, c2])) rfl
    · skip
      refine lv_iconst (v := 1) X.x X.b d_Line_isNOf_60 (by decide) ?_
      refine lv_goto (tgt := 65) X.x X.b d_Line_isNOf_61 (by decide) ?_
      exact m_zret X hS (Nat.zero_le _) (Nat.zero_le _) d_Line_isNOf_65 rfl (congrArg (fun z => some (Value.int z)) (by simp [b2i, nOk, k1, c2])) rfl
  by_cases k3 : k = 1
  · skip
    refine lv_tableIn (off := 87) (tgt := 88) X.x X.b d_Line_isNOf_1 (by rw [k3]; decide) (by rw [k3]; decide) (by rw [k3]; decide) (by decide) ?_
    refine lv_iload_n X.x X.b d_Line_isNOf_88 rfl (lv_at hl 1 rfl) ?_
    refine lv_bipush (v := -99) X.x X.b d_Line_isNOf_89 (by decide) ?_
    refine lv_icmp_lt (tgt := 104) X.x X.b d_Line_isNOf_91 (by decide) (fun c4 => ?_) (fun c4 => ?_)
    · skip
      have c4q := Int32.not_le.mpr c4
      refine lv_iconst (v := 0) X.x X.b d_Line_isNOf_104 (by decide) ?_
      exact m_zret X hS (Nat.zero_le _) (Nat.zero_le _) d_Line_isNOf_105 rfl (congrArg (fun z => some (Value.int z)) (by simp [b2i, nOk, k3, c4, c4q])) rfl
    · skip
      have c4q := Int32.not_lt.mp c4
      refine lv_iload_n X.x X.b d_Line_isNOf_94 rfl (lv_at hl 1 rfl) ?_
      refine lv_bipush (v := 99) X.x X.b d_Line_isNOf_95 (by decide) ?_
      refine lv_icmp_gt (tgt := 104) X.x X.b d_Line_isNOf_97 (by decide) (fun c5 => ?_) (fun c5 => ?_)
      · skip
        have c5q := Int32.not_le.mpr c5
        refine lv_iconst (v := 0) X.x X.b d_Line_isNOf_104 (by decide) ?_
        exact m_zret X hS (Nat.zero_le _) (Nat.zero_le _) d_Line_isNOf_105 rfl (congrArg (fun z => some (Value.int z)) (by simp [b2i, nOk, k3, c4, c4q, c5, c5q])) rfl
      · skip
        have c5q := Int32.not_lt.mp c5
        refine lv_iconst (v := 1) X.x X.b d_Line_isNOf_100 (by decide) ?_
        refine lv_goto (tgt := 105) X.x X.b d_Line_isNOf_101 (by decide) ?_
        exact m_zret X hS (Nat.zero_le _) (Nat.zero_le _) d_Line_isNOf_105 rfl (congrArg (fun z => some (Value.int z)) (by simp [b2i, nOk, k3, c4, c4q, c5, c5q])) rfl
  by_cases k6 : k = 2
  · skip
    refine lv_tableIn (off := 87) (tgt := 88) X.x X.b d_Line_isNOf_1 (by rw [k6]; decide) (by rw [k6]; decide) (by rw [k6]; decide) (by decide) ?_
    refine lv_iload_n X.x X.b d_Line_isNOf_88 rfl (lv_at hl 1 rfl) ?_
    refine lv_bipush (v := -99) X.x X.b d_Line_isNOf_89 (by decide) ?_
    refine lv_icmp_lt (tgt := 104) X.x X.b d_Line_isNOf_91 (by decide) (fun c7 => ?_) (fun c7 => ?_)
    · skip
      have c7q := Int32.not_le.mpr c7
      refine lv_iconst (v := 0) X.x X.b d_Line_isNOf_104 (by decide) ?_
      exact m_zret X hS (Nat.zero_le _) (Nat.zero_le _) d_Line_isNOf_105 rfl (congrArg (fun z => some (Value.int z)) (by simp [b2i, nOk, k6, c7, c7q])) rfl
    · skip
      have c7q := Int32.not_lt.mp c7
      refine lv_iload_n X.x X.b d_Line_isNOf_94 rfl (lv_at hl 1 rfl) ?_
      refine lv_bipush (v := 99) X.x X.b d_Line_isNOf_95 (by decide) ?_
      refine lv_icmp_gt (tgt := 104) X.x X.b d_Line_isNOf_97 (by decide) (fun c8 => ?_) (fun c8 => ?_)
      · skip
        have c8q := Int32.not_le.mpr c8
        refine lv_iconst (v := 0) X.x X.b d_Line_isNOf_104 (by decide) ?_
        exact m_zret X hS (Nat.zero_le _) (Nat.zero_le _) d_Line_isNOf_105 rfl (congrArg (fun z => some (Value.int z)) (by simp [b2i, nOk, k6, c7, c7q, c8, c8q])) rfl
      · skip
        have c8q := Int32.not_lt.mp c8
        refine lv_iconst (v := 1) X.x X.b d_Line_isNOf_100 (by decide) ?_
        refine lv_goto (tgt := 105) X.x X.b d_Line_isNOf_101 (by decide) ?_
        exact m_zret X hS (Nat.zero_le _) (Nat.zero_le _) d_Line_isNOf_105 rfl (congrArg (fun z => some (Value.int z)) (by simp [b2i, nOk, k6, c7, c7q, c8, c8q])) rfl
  by_cases k9 : k = 3
  · skip
    refine lv_tableIn (off := 87) (tgt := 88) X.x X.b d_Line_isNOf_1 (by rw [k9]; decide) (by rw [k9]; decide) (by rw [k9]; decide) (by decide) ?_
    refine lv_iload_n X.x X.b d_Line_isNOf_88 rfl (lv_at hl 1 rfl) ?_
    refine lv_bipush (v := -99) X.x X.b d_Line_isNOf_89 (by decide) ?_
    refine lv_icmp_lt (tgt := 104) X.x X.b d_Line_isNOf_91 (by decide) (fun c10 => ?_) (fun c10 => ?_)
    · skip
      have c10q := Int32.not_le.mpr c10
      refine lv_iconst (v := 0) X.x X.b d_Line_isNOf_104 (by decide) ?_
      exact m_zret X hS (Nat.zero_le _) (Nat.zero_le _) d_Line_isNOf_105 rfl (congrArg (fun z => some (Value.int z)) (by simp [b2i, nOk, k9, c10, c10q])) rfl
    · skip
      have c10q := Int32.not_lt.mp c10
      refine lv_iload_n X.x X.b d_Line_isNOf_94 rfl (lv_at hl 1 rfl) ?_
      refine lv_bipush (v := 99) X.x X.b d_Line_isNOf_95 (by decide) ?_
      refine lv_icmp_gt (tgt := 104) X.x X.b d_Line_isNOf_97 (by decide) (fun c11 => ?_) (fun c11 => ?_)
      · skip
        have c11q := Int32.not_le.mpr c11
        refine lv_iconst (v := 0) X.x X.b d_Line_isNOf_104 (by decide) ?_
        exact m_zret X hS (Nat.zero_le _) (Nat.zero_le _) d_Line_isNOf_105 rfl (congrArg (fun z => some (Value.int z)) (by simp [b2i, nOk, k9, c10, c10q, c11, c11q])) rfl
      · skip
        have c11q := Int32.not_lt.mp c11
        refine lv_iconst (v := 1) X.x X.b d_Line_isNOf_100 (by decide) ?_
        refine lv_goto (tgt := 105) X.x X.b d_Line_isNOf_101 (by decide) ?_
        exact m_zret X hS (Nat.zero_le _) (Nat.zero_le _) d_Line_isNOf_105 rfl (congrArg (fun z => some (Value.int z)) (by simp [b2i, nOk, k9, c10, c10q, c11, c11q])) rfl
  by_cases k12 : k = 4
  · skip
    refine lv_tableIn (off := 87) (tgt := 88) X.x X.b d_Line_isNOf_1 (by rw [k12]; decide) (by rw [k12]; decide) (by rw [k12]; decide) (by decide) ?_
    refine lv_iload_n X.x X.b d_Line_isNOf_88 rfl (lv_at hl 1 rfl) ?_
    refine lv_bipush (v := -99) X.x X.b d_Line_isNOf_89 (by decide) ?_
    refine lv_icmp_lt (tgt := 104) X.x X.b d_Line_isNOf_91 (by decide) (fun c13 => ?_) (fun c13 => ?_)
    · skip
      have c13q := Int32.not_le.mpr c13
      refine lv_iconst (v := 0) X.x X.b d_Line_isNOf_104 (by decide) ?_
      exact m_zret X hS (Nat.zero_le _) (Nat.zero_le _) d_Line_isNOf_105 rfl (congrArg (fun z => some (Value.int z)) (by simp [b2i, nOk, k12, c13, c13q])) rfl
    · skip
      have c13q := Int32.not_lt.mp c13
      refine lv_iload_n X.x X.b d_Line_isNOf_94 rfl (lv_at hl 1 rfl) ?_
      refine lv_bipush (v := 99) X.x X.b d_Line_isNOf_95 (by decide) ?_
      refine lv_icmp_gt (tgt := 104) X.x X.b d_Line_isNOf_97 (by decide) (fun c14 => ?_) (fun c14 => ?_)
      · skip
        have c14q := Int32.not_le.mpr c14
        refine lv_iconst (v := 0) X.x X.b d_Line_isNOf_104 (by decide) ?_
        exact m_zret X hS (Nat.zero_le _) (Nat.zero_le _) d_Line_isNOf_105 rfl (congrArg (fun z => some (Value.int z)) (by simp [b2i, nOk, k12, c13, c13q, c14, c14q])) rfl
      · skip
        have c14q := Int32.not_lt.mp c14
        refine lv_iconst (v := 1) X.x X.b d_Line_isNOf_100 (by decide) ?_
        refine lv_goto (tgt := 105) X.x X.b d_Line_isNOf_101 (by decide) ?_
        exact m_zret X hS (Nat.zero_le _) (Nat.zero_le _) d_Line_isNOf_105 rfl (congrArg (fun z => some (Value.int z)) (by simp [b2i, nOk, k12, c13, c13q, c14, c14q])) rfl
  by_cases k15 : k = 5
  · skip
    refine lv_tableIn (off := 87) (tgt := 88) X.x X.b d_Line_isNOf_1 (by rw [k15]; decide) (by rw [k15]; decide) (by rw [k15]; decide) (by decide) ?_
    refine lv_iload_n X.x X.b d_Line_isNOf_88 rfl (lv_at hl 1 rfl) ?_
    refine lv_bipush (v := -99) X.x X.b d_Line_isNOf_89 (by decide) ?_
    refine lv_icmp_lt (tgt := 104) X.x X.b d_Line_isNOf_91 (by decide) (fun c16 => ?_) (fun c16 => ?_)
    · skip
      have c16q := Int32.not_le.mpr c16
      refine lv_iconst (v := 0) X.x X.b d_Line_isNOf_104 (by decide) ?_
      exact m_zret X hS (Nat.zero_le _) (Nat.zero_le _) d_Line_isNOf_105 rfl (congrArg (fun z => some (Value.int z)) (by simp [b2i, nOk, k15, c16, c16q])) rfl
    · skip
      have c16q := Int32.not_lt.mp c16
      refine lv_iload_n X.x X.b d_Line_isNOf_94 rfl (lv_at hl 1 rfl) ?_
      refine lv_bipush (v := 99) X.x X.b d_Line_isNOf_95 (by decide) ?_
      refine lv_icmp_gt (tgt := 104) X.x X.b d_Line_isNOf_97 (by decide) (fun c17 => ?_) (fun c17 => ?_)
      · skip
        have c17q := Int32.not_le.mpr c17
        refine lv_iconst (v := 0) X.x X.b d_Line_isNOf_104 (by decide) ?_
        exact m_zret X hS (Nat.zero_le _) (Nat.zero_le _) d_Line_isNOf_105 rfl (congrArg (fun z => some (Value.int z)) (by simp [b2i, nOk, k15, c16, c16q, c17, c17q])) rfl
      · skip
        have c17q := Int32.not_lt.mp c17
        refine lv_iconst (v := 1) X.x X.b d_Line_isNOf_100 (by decide) ?_
        refine lv_goto (tgt := 105) X.x X.b d_Line_isNOf_101 (by decide) ?_
        exact m_zret X hS (Nat.zero_le _) (Nat.zero_le _) d_Line_isNOf_105 rfl (congrArg (fun z => some (Value.int z)) (by simp [b2i, nOk, k15, c16, c16q, c17, c17q])) rfl
  by_cases k18 : k = 6
  · skip
    refine lv_tableIn (off := 55) (tgt := 56) X.x X.b d_Line_isNOf_1 (by rw [k18]; decide) (by rw [k18]; decide) (by rw [k18]; decide) (by decide) ?_
    refine lv_iload_n X.x X.b d_Line_isNOf_56 rfl (lv_at hl 1 rfl) ?_
    refine lv_if_ne (tgt := 64) X.x X.b d_Line_isNOf_57 (by decide) (fun c19 => ?_) (fun c19 => ?_)
    · skip
      refine lv_iconst (v := 0) X.x X.b d_Line_isNOf_64 (by decide) ?_
      exact m_zret X hS (Nat.zero_le _) (Nat.zero_le _) d_Line_isNOf_65 rfl (congrArg (fun z => some (Value.int z)) (by simp [b2i, nOk, k18, c19])) rfl
    · skip
      refine lv_iconst (v := 1) X.x X.b d_Line_isNOf_60 (by decide) ?_
      refine lv_goto (tgt := 65) X.x X.b d_Line_isNOf_61 (by decide) ?_
      exact m_zret X hS (Nat.zero_le _) (Nat.zero_le _) d_Line_isNOf_65 rfl (congrArg (fun z => some (Value.int z)) (by simp [b2i, nOk, k18, c19])) rfl
  by_cases k20 : k = 7
  · skip
    refine lv_tableIn (off := 65) (tgt := 66) X.x X.b d_Line_isNOf_1 (by rw [k20]; decide) (by rw [k20]; decide) (by rw [k20]; decide) (by decide) ?_
    refine lv_iload_n X.x X.b d_Line_isNOf_66 rfl (lv_at hl 1 rfl) ?_
    refine lv_iconst (v := 2) X.x X.b d_Line_isNOf_67 (by decide) ?_
    refine lv_icmp_eq (tgt := 82) X.x X.b d_Line_isNOf_68 (by decide) (fun c21 => ?_) (fun c21 => ?_)
    · skip
      refine lv_iconst (v := 1) X.x X.b d_Line_isNOf_82 (by decide) ?_
      refine lv_goto (tgt := 87) X.x X.b d_Line_isNOf_83 (by decide) ?_
      exact m_zret X hS (Nat.zero_le _) (Nat.zero_le _) d_Line_isNOf_87 rfl (congrArg (fun z => some (Value.int z)) (by simp [b2i, nOk, k20, c21])) rfl
    · skip
      refine lv_iload_n X.x X.b d_Line_isNOf_71 rfl (lv_at hl 1 rfl) ?_
      refine lv_iconst (v := 4) X.x X.b d_Line_isNOf_72 (by decide) ?_
      refine lv_icmp_eq (tgt := 82) X.x X.b d_Line_isNOf_73 (by decide) (fun c22 => ?_) (fun c22 => ?_)
      · skip
        refine lv_iconst (v := 1) X.x X.b d_Line_isNOf_82 (by decide) ?_
        refine lv_goto (tgt := 87) X.x X.b d_Line_isNOf_83 (by decide) ?_
        exact m_zret X hS (Nat.zero_le _) (Nat.zero_le _) d_Line_isNOf_87 rfl (congrArg (fun z => some (Value.int z)) (by simp [b2i, nOk, k20, c21, c22])) rfl
      · skip
        refine lv_iload_n X.x X.b d_Line_isNOf_76 rfl (lv_at hl 1 rfl) ?_
        refine lv_bipush (v := 8) X.x X.b d_Line_isNOf_77 (by decide) ?_
        refine lv_icmp_ne (tgt := 86) X.x X.b d_Line_isNOf_79 (by decide) (fun c23 => ?_) (fun c23 => ?_)
        · skip
          refine lv_iconst (v := 0) X.x X.b d_Line_isNOf_86 (by decide) ?_
          exact m_zret X hS (Nat.zero_le _) (Nat.zero_le _) d_Line_isNOf_87 rfl (congrArg (fun z => some (Value.int z)) (by simp [b2i, nOk, k20, c21, c22, c23])) rfl
        · skip
          refine lv_iconst (v := 1) X.x X.b d_Line_isNOf_82 (by decide) ?_
          refine lv_goto (tgt := 87) X.x X.b d_Line_isNOf_83 (by decide) ?_
          exact m_zret X hS (Nat.zero_le _) (Nat.zero_le _) d_Line_isNOf_87 rfl (congrArg (fun z => some (Value.int z)) (by simp [b2i, nOk, k20, c21, c22, c23])) rfl
  by_cases k24 : k = 8
  · skip
    refine lv_tableIn (off := 87) (tgt := 88) X.x X.b d_Line_isNOf_1 (by rw [k24]; decide) (by rw [k24]; decide) (by rw [k24]; decide) (by decide) ?_
    refine lv_iload_n X.x X.b d_Line_isNOf_88 rfl (lv_at hl 1 rfl) ?_
    refine lv_bipush (v := -99) X.x X.b d_Line_isNOf_89 (by decide) ?_
    refine lv_icmp_lt (tgt := 104) X.x X.b d_Line_isNOf_91 (by decide) (fun c25 => ?_) (fun c25 => ?_)
    · skip
      have c25q := Int32.not_le.mpr c25
      refine lv_iconst (v := 0) X.x X.b d_Line_isNOf_104 (by decide) ?_
      exact m_zret X hS (Nat.zero_le _) (Nat.zero_le _) d_Line_isNOf_105 rfl (congrArg (fun z => some (Value.int z)) (by simp [b2i, nOk, k24, c25, c25q])) rfl
    · skip
      have c25q := Int32.not_lt.mp c25
      refine lv_iload_n X.x X.b d_Line_isNOf_94 rfl (lv_at hl 1 rfl) ?_
      refine lv_bipush (v := 99) X.x X.b d_Line_isNOf_95 (by decide) ?_
      refine lv_icmp_gt (tgt := 104) X.x X.b d_Line_isNOf_97 (by decide) (fun c26 => ?_) (fun c26 => ?_)
      · skip
        have c26q := Int32.not_le.mpr c26
        refine lv_iconst (v := 0) X.x X.b d_Line_isNOf_104 (by decide) ?_
        exact m_zret X hS (Nat.zero_le _) (Nat.zero_le _) d_Line_isNOf_105 rfl (congrArg (fun z => some (Value.int z)) (by simp [b2i, nOk, k24, c25, c25q, c26, c26q])) rfl
      · skip
        have c26q := Int32.not_lt.mp c26
        refine lv_iconst (v := 1) X.x X.b d_Line_isNOf_100 (by decide) ?_
        refine lv_goto (tgt := 105) X.x X.b d_Line_isNOf_101 (by decide) ?_
        exact m_zret X hS (Nat.zero_le _) (Nat.zero_le _) d_Line_isNOf_105 rfl (congrArg (fun z => some (Value.int z)) (by simp [b2i, nOk, k24, c25, c25q, c26, c26q])) rfl
  by_cases k27 : k = 9
  · skip
    refine lv_tableIn (off := 55) (tgt := 56) X.x X.b d_Line_isNOf_1 (by rw [k27]; decide) (by rw [k27]; decide) (by rw [k27]; decide) (by decide) ?_
    refine lv_iload_n X.x X.b d_Line_isNOf_56 rfl (lv_at hl 1 rfl) ?_
    refine lv_if_ne (tgt := 64) X.x X.b d_Line_isNOf_57 (by decide) (fun c28 => ?_) (fun c28 => ?_)
    · skip
      refine lv_iconst (v := 0) X.x X.b d_Line_isNOf_64 (by decide) ?_
      exact m_zret X hS (Nat.zero_le _) (Nat.zero_le _) d_Line_isNOf_65 rfl (congrArg (fun z => some (Value.int z)) (by simp [b2i, nOk, k27, c28])) rfl
    · skip
      refine lv_iconst (v := 1) X.x X.b d_Line_isNOf_60 (by decide) ?_
      refine lv_goto (tgt := 65) X.x X.b d_Line_isNOf_61 (by decide) ?_
      exact m_zret X hS (Nat.zero_le _) (Nat.zero_le _) d_Line_isNOf_65 rfl (congrArg (fun z => some (Value.int z)) (by simp [b2i, nOk, k27, c28])) rfl
  refine lv_tableOut (tgt := 88) X.x X.b d_Line_isNOf_1 (by have := ne_toInt (k := 0) 0 (by decide) k1; have := ne_toInt (k := 1) 1 (by decide) k3; have := ne_toInt (k := 2) 2 (by decide) k6; have := ne_toInt (k := 3) 3 (by decide) k9; have := ne_toInt (k := 4) 4 (by decide) k12; have := ne_toInt (k := 5) 5 (by decide) k15; have := ne_toInt (k := 6) 6 (by decide) k18; have := ne_toInt (k := 7) 7 (by decide) k20; have := ne_toInt (k := 8) 8 (by decide) k24; have := ne_toInt (k := 9) 9 (by decide) k27; omega) (by decide) ?_
  refine lv_iload_n X.x X.b d_Line_isNOf_88 rfl (lv_at hl 1 rfl) ?_
  refine lv_bipush (v := -99) X.x X.b d_Line_isNOf_89 (by decide) ?_
  refine lv_icmp_lt (tgt := 104) X.x X.b d_Line_isNOf_91 (by decide) (fun c29 => ?_) (fun c29 => ?_)
  · skip
    have c29q := Int32.not_le.mpr c29
    refine lv_iconst (v := 0) X.x X.b d_Line_isNOf_104 (by decide) ?_
    exact m_zret X hS (Nat.zero_le _) (Nat.zero_le _) d_Line_isNOf_105 rfl (congrArg (fun z => some (Value.int z)) (by simp [b2i, nOk, k1, k3, k6, k9, k12, k15, k18, k20, k24, k27, c29, c29q])) rfl
  · skip
    have c29q := Int32.not_lt.mp c29
    refine lv_iload_n X.x X.b d_Line_isNOf_94 rfl (lv_at hl 1 rfl) ?_
    refine lv_bipush (v := 99) X.x X.b d_Line_isNOf_95 (by decide) ?_
    refine lv_icmp_gt (tgt := 104) X.x X.b d_Line_isNOf_97 (by decide) (fun c30 => ?_) (fun c30 => ?_)
    · skip
      have c30q := Int32.not_le.mpr c30
      refine lv_iconst (v := 0) X.x X.b d_Line_isNOf_104 (by decide) ?_
      exact m_zret X hS (Nat.zero_le _) (Nat.zero_le _) d_Line_isNOf_105 rfl (congrArg (fun z => some (Value.int z)) (by simp [b2i, nOk, k1, k3, k6, k9, k12, k15, k18, k20, k24, k27, c29, c29q, c30, c30q])) rfl
    · skip
      have c30q := Int32.not_lt.mp c30
      refine lv_iconst (v := 1) X.x X.b d_Line_isNOf_100 (by decide) ?_
      refine lv_goto (tgt := 105) X.x X.b d_Line_isNOf_101 (by decide) ?_
      exact m_zret X hS (Nat.zero_le _) (Nat.zero_le _) d_Line_isNOf_105 rfl (congrArg (fun z => some (Value.int z)) (by simp [b2i, nOk, k1, k3, k6, k9, k12, k15, k18, k20, k24, k27, c29, c29q, c30, c30q])) rfl
set_option maxRecDepth 100000 in
set_option maxHeartbeats 4000000 in
theorem M_Line_canBeRelative (l : Launch) (g : GG) {H0 : Heap} (k : Int32) : MP l y_Line_canBeRelative c_Line_canBeRelative 1 (some .boolean) 0 g H0 [.int k] (some (.int (b2i (rOk k)))) := by
  refine MM.of (by decide +kernel) (Nat.le_of_ble_eq_true rfl) ?_
  intro p e s m below meth cd X hH ls hl
  have X : CX g p s m _ meth cd c_Line_canBeRelative 1 (some .boolean) R_Line _ := X
  have hl : lv_has ls 1 [(0, .int k)] := hl
  have hS : va_S (AA (noA) H0) H0 H0 [] := va_S.rf
  refine lv_iload_n X.x X.b d_Line_canBeRelative_0 rfl (lv_at hl 0 rfl) ?_
  refine lv_if_eq (tgt := 26) X.x X.b d_Line_canBeRelative_1 (by decide) (fun c1 => ?_) (fun c1 => ?_)
  · skip
    refine lv_iconst (v := 0) X.x X.b d_Line_canBeRelative_26 (by decide) ?_
    exact m_zret X hS (Nat.zero_le _) (Nat.zero_le _) d_Line_canBeRelative_27 rfl (congrArg (fun z => some (Value.int z)) (by simp [b2i, rOk, c1])) rfl
  · skip
    refine lv_iload_n X.x X.b d_Line_canBeRelative_4 rfl (lv_at hl 0 rfl) ?_
    refine lv_bipush (v := 6) X.x X.b d_Line_canBeRelative_5 (by decide) ?_
    refine lv_icmp_eq (tgt := 26) X.x X.b d_Line_canBeRelative_7 (by decide) (fun c2 => ?_) (fun c2 => ?_)
    · skip
      refine lv_iconst (v := 0) X.x X.b d_Line_canBeRelative_26 (by decide) ?_
      exact m_zret X hS (Nat.zero_le _) (Nat.zero_le _) d_Line_canBeRelative_27 rfl (congrArg (fun z => some (Value.int z)) (by simp [b2i, rOk, c1, c2])) rfl
    · skip
      refine lv_iload_n X.x X.b d_Line_canBeRelative_10 rfl (lv_at hl 0 rfl) ?_
      refine lv_bipush (v := 9) X.x X.b d_Line_canBeRelative_11 (by decide) ?_
      refine lv_icmp_eq (tgt := 26) X.x X.b d_Line_canBeRelative_13 (by decide) (fun c3 => ?_) (fun c3 => ?_)
      · skip
        refine lv_iconst (v := 0) X.x X.b d_Line_canBeRelative_26 (by decide) ?_
        exact m_zret X hS (Nat.zero_le _) (Nat.zero_le _) d_Line_canBeRelative_27 rfl (congrArg (fun z => some (Value.int z)) (by simp [b2i, rOk, c1, c2, c3])) rfl
      · skip
        refine lv_iload_n X.x X.b d_Line_canBeRelative_16 rfl (lv_at hl 0 rfl) ?_
        refine lv_bipush (v := 7) X.x X.b d_Line_canBeRelative_17 (by decide) ?_
        refine lv_icmp_eq (tgt := 26) X.x X.b d_Line_canBeRelative_19 (by decide) (fun c4 => ?_) (fun c4 => ?_)
        · skip
          refine lv_iconst (v := 0) X.x X.b d_Line_canBeRelative_26 (by decide) ?_
          exact m_zret X hS (Nat.zero_le _) (Nat.zero_le _) d_Line_canBeRelative_27 rfl (congrArg (fun z => some (Value.int z)) (by simp [b2i, rOk, c1, c2, c3, c4])) rfl
        · skip
          refine lv_iconst (v := 1) X.x X.b d_Line_canBeRelative_22 (by decide) ?_
          refine lv_goto (tgt := 27) X.x X.b d_Line_canBeRelative_23 (by decide) ?_
          exact m_zret X hS (Nat.zero_le _) (Nat.zero_le _) d_Line_canBeRelative_27 rfl (congrArg (fun z => some (Value.int z)) (by simp [b2i, rOk, c1, c2, c3, c4])) rfl
set_option maxRecDepth 100000 in
set_option maxHeartbeats 4000000 in
theorem M_Line_isAllowed (l : Launch) (g : GG) {H0 : Heap} (k x y z r : Int32) : MP l y_Line_isAllowed c_Line_isAllowed 5 (some .boolean) 1 g H0 [.int k, .int x, .int y, .int z, .int r] (some (.int (b2i (lnOk k x y z r)))) := by
  refine MM.of (by decide +kernel) (Nat.le_of_ble_eq_true rfl) ?_
  intro p e s m below meth cd X hH ls hl
  have X : CX g p s m _ meth cd c_Line_isAllowed 5 (some .boolean) R_Line _ := X
  have hl : lv_has ls 5 [(0, .int k), (1, .int x), (2, .int y), (3, .int z), (4, .int r)] := hl
  have hS : va_S (AA (noA) H0) H0 H0 [] := va_S.rf
  refine lv_iload_n X.x X.b d_Line_isAllowed_0 rfl (lv_at hl 0 rfl) ?_
  refine lv_if_lt (tgt := 50) X.x X.b d_Line_isAllowed_1 (by decide) (fun c1 => ?_) (fun c1 => ?_)
  · skip
    have c1q := Int32.not_le.mpr c1
    refine lv_iconst (v := 0) X.x X.b d_Line_isAllowed_50 (by decide) ?_
    exact m_zret X hS (Nat.zero_le _) (Nat.zero_le _) d_Line_isAllowed_51 rfl (congrArg (fun z => some (Value.int z)) (by simp [b2i, lnOk, c1, c1q])) rfl
  · skip
    have c1q := Int32.not_lt.mp c1
    refine lv_iload_n X.x X.b d_Line_isAllowed_4 rfl (lv_at hl 0 rfl) ?_
    refine lv_bipush (v := 10) X.x X.b d_Line_isAllowed_5 (by decide) ?_
    refine lv_icmp_gt (tgt := 50) X.x X.b d_Line_isAllowed_7 (by decide) (fun c2 => ?_) (fun c2 => ?_)
    · skip
      have c2q := Int32.not_le.mpr c2
      refine lv_iconst (v := 0) X.x X.b d_Line_isAllowed_50 (by decide) ?_
      exact m_zret X hS (Nat.zero_le _) (Nat.zero_le _) d_Line_isAllowed_51 rfl (congrArg (fun z => some (Value.int z)) (by simp [b2i, lnOk, c1, c1q, c2, c2q])) rfl
    · skip
      have c2q := Int32.not_lt.mp c2
      refine lv_iload_n X.x X.b d_Line_isAllowed_10 rfl (lv_at hl 0 rfl) ?_
      refine lv_iload_n X.x X.b d_Line_isAllowed_11 rfl (lv_at hl 1 rfl) ?_
      refine m_callSP X hS (M_Line_isXOf l g k x) s_Line_28 rfl rfl (Nat.le_of_ble_eq_true rfl) hl.1 d_Line_isAllowed_12 (by omega) (by decide) ⟨Nat.zero_le _, Nat.zero_le _⟩ (fun locs hS => ?_)
      refine lv_if_eq (tgt := 50) X.x X.b d_Line_isAllowed_15 (by decide) (fun c3 => ?_) (fun c3 => ?_)
      · skip
        have c3 := b2i_0.mp c3
        refine lv_iconst (v := 0) X.x X.b d_Line_isAllowed_50 (by decide) ?_
        exact m_zret X hS (Nat.zero_le _) (Nat.zero_le _) d_Line_isAllowed_51 rfl (congrArg (fun z => some (Value.int z)) (by simp [b2i, lnOk, c1, c1q, c2, c2q, c3])) rfl
      · skip
        have c3 := b2i_n0 c3
        refine lv_iload_n X.x X.b d_Line_isAllowed_18 rfl (lv_at hl 0 rfl) ?_
        refine lv_iload_n X.x X.b d_Line_isAllowed_19 rfl (lv_at hl 2 rfl) ?_
        refine m_callSP X hS (M_Line_isYOf l g k y) s_Line_32 rfl rfl (Nat.le_of_ble_eq_true rfl) hl.1 d_Line_isAllowed_20 (by omega) (by decide) ⟨Nat.zero_le _, Nat.zero_le _⟩ (fun locs hS => ?_)
        refine lv_if_eq (tgt := 50) X.x X.b d_Line_isAllowed_23 (by decide) (fun c4 => ?_) (fun c4 => ?_)
        · skip
          have c4 := b2i_0.mp c4
          refine lv_iconst (v := 0) X.x X.b d_Line_isAllowed_50 (by decide) ?_
          exact m_zret X hS (Nat.zero_le _) (Nat.zero_le _) d_Line_isAllowed_51 rfl (congrArg (fun z => some (Value.int z)) (by simp [b2i, lnOk, c1, c1q, c2, c2q, c3, c4])) rfl
        · skip
          have c4 := b2i_n0 c4
          refine lv_iload_n X.x X.b d_Line_isAllowed_26 rfl (lv_at hl 0 rfl) ?_
          refine lv_iload_n X.x X.b d_Line_isAllowed_27 rfl (lv_at hl 3 rfl) ?_
          refine m_callSP X hS (M_Line_isNOf l g k z) s_Line_35 rfl rfl (Nat.le_of_ble_eq_true rfl) hl.1 d_Line_isAllowed_28 (by omega) (by decide) ⟨Nat.zero_le _, Nat.zero_le _⟩ (fun locs hS => ?_)
          refine lv_if_eq (tgt := 50) X.x X.b d_Line_isAllowed_31 (by decide) (fun c5 => ?_) (fun c5 => ?_)
          · skip
            have c5 := b2i_0.mp c5
            refine lv_iconst (v := 0) X.x X.b d_Line_isAllowed_50 (by decide) ?_
            exact m_zret X hS (Nat.zero_le _) (Nat.zero_le _) d_Line_isAllowed_51 rfl (congrArg (fun z => some (Value.int z)) (by simp [b2i, lnOk, c1, c1q, c2, c2q, c3, c4, c5])) rfl
          · skip
            have c5 := b2i_n0 c5
            refine lv_iload X.x X.b d_Line_isAllowed_34 (lv_at hl 4 rfl) ?_
            refine lv_if_eq (tgt := 46) X.x X.b d_Line_isAllowed_36 (by decide) (fun c6 => ?_) (fun c6 => ?_)
            · skip
              refine lv_iconst (v := 1) X.x X.b d_Line_isAllowed_46 (by decide) ?_
              refine lv_goto (tgt := 51) X.x X.b d_Line_isAllowed_47 (by decide) ?_
              exact m_zret X hS (Nat.zero_le _) (Nat.zero_le _) d_Line_isAllowed_51 rfl (congrArg (fun z => some (Value.int z)) (by simp [b2i, lnOk, c1, c1q, c2, c2q, c3, c4, c5, c6])) rfl
            · skip
              refine lv_iload_n X.x X.b d_Line_isAllowed_39 rfl (lv_at hl 0 rfl) ?_
              refine m_callSP X hS (M_Line_canBeRelative l g k) s_Line_38 rfl rfl (Nat.le_of_ble_eq_true rfl) hl.1 d_Line_isAllowed_40 (by omega) (by decide) ⟨Nat.zero_le _, Nat.zero_le _⟩ (fun locs hS => ?_)
              refine lv_if_eq (tgt := 50) X.x X.b d_Line_isAllowed_43 (by decide) (fun c7 => ?_) (fun c7 => ?_)
              · skip
                have c7 := b2i_0.mp c7
                refine lv_iconst (v := 0) X.x X.b d_Line_isAllowed_50 (by decide) ?_
                exact m_zret X hS (Nat.zero_le _) (Nat.zero_le _) d_Line_isAllowed_51 rfl (congrArg (fun z => some (Value.int z)) (by simp [b2i, lnOk, c1, c1q, c2, c2q, c3, c4, c5, c6, c7])) rfl
              · skip
                have c7 := b2i_n0 c7
                refine lv_iconst (v := 1) X.x X.b d_Line_isAllowed_46 (by decide) ?_
                refine lv_goto (tgt := 51) X.x X.b d_Line_isAllowed_47 (by decide) ?_
                exact m_zret X hS (Nat.zero_le _) (Nat.zero_le _) d_Line_isAllowed_51 rfl (congrArg (fun z => some (Value.int z)) (by simp [b2i, lnOk, c1, c1q, c2, c2q, c3, c4, c5, c6, c7])) rfl
set_option maxRecDepth 100000 in
set_option maxHeartbeats 4000000 in
theorem M_Line_isItem (l : Launch) (g : GG) {ln : Nat} {k x y z r : Int32} {H0 : Heap} (hL : lnAt g ln k x y z r H0) : MP l y_Line_isItem c_Line_isItem 1 (some .boolean) 0 g H0 [.ref ln] (some (.int (b2i (itmF k)))) := by
  refine MM.of (by decide +kernel) (Nat.le_of_ble_eq_true rfl) ?_
  intro p e s m below meth cd X hH ls hl
  have X : CX g p s m _ meth cd c_Line_isItem 1 (some .boolean) R_Line _ := X
  have hl : lv_has ls 1 [(0, .ref ln)] := hl
  have hS : va_S (AA (noA) H0) H0 H0 [] := va_S.rf
  refine lv_aload_n X.x X.b d_Line_isItem_0 rfl (lv_at hl 0 rfl) ?_
  refine m_get (v := .int k) X ok_Line hL 0 (by decide) k_Line_9 rfl d_Line_isItem_1 ?_
  refine lv_bipush (v := 8) X.x X.b d_Line_isItem_4 (by decide) ?_
  refine lv_icmp_eq (tgt := 31) X.x X.b d_Line_isItem_6 (by decide) (fun c1 => ?_) (fun c1 => ?_)
  · skip
    refine lv_iconst (v := 0) X.x X.b d_Line_isItem_31 (by decide) ?_
    exact m_zret X hS (Nat.zero_le _) (Nat.zero_le _) d_Line_isItem_32 rfl (congrArg (fun z => some (Value.int z)) (by simp [b2i, itmF, c1])) rfl
  · skip
    refine lv_aload_n X.x X.b d_Line_isItem_9 rfl (lv_at hl 0 rfl) ?_
    refine m_get (v := .int k) X ok_Line hL 0 (by decide) k_Line_9 rfl d_Line_isItem_10 ?_
    refine lv_bipush (v := 9) X.x X.b d_Line_isItem_13 (by decide) ?_
    refine lv_icmp_eq (tgt := 31) X.x X.b d_Line_isItem_15 (by decide) (fun c2 => ?_) (fun c2 => ?_)
    · skip
      refine lv_iconst (v := 0) X.x X.b d_Line_isItem_31 (by decide) ?_
      exact m_zret X hS (Nat.zero_le _) (Nat.zero_le _) d_Line_isItem_32 rfl (congrArg (fun z => some (Value.int z)) (by simp [b2i, itmF, c1, c2])) rfl
    · skip
      refine lv_aload_n X.x X.b d_Line_isItem_18 rfl (lv_at hl 0 rfl) ?_
      refine m_get (v := .int k) X ok_Line hL 0 (by decide) k_Line_9 rfl d_Line_isItem_19 ?_
      refine lv_bipush (v := 10) X.x X.b d_Line_isItem_22 (by decide) ?_
      refine lv_icmp_eq (tgt := 31) X.x X.b d_Line_isItem_24 (by decide) (fun c3 => ?_) (fun c3 => ?_)
      · skip
        refine lv_iconst (v := 0) X.x X.b d_Line_isItem_31 (by decide) ?_
        exact m_zret X hS (Nat.zero_le _) (Nat.zero_le _) d_Line_isItem_32 rfl (congrArg (fun z => some (Value.int z)) (by simp [b2i, itmF, c1, c2, c3])) rfl
      · skip
        refine lv_iconst (v := 1) X.x X.b d_Line_isItem_27 (by decide) ?_
        refine lv_goto (tgt := 32) X.x X.b d_Line_isItem_28 (by decide) ?_
        exact m_zret X hS (Nat.zero_le _) (Nat.zero_le _) d_Line_isItem_32 rfl (congrArg (fun z => some (Value.int z)) (by simp [b2i, itmF, c1, c2, c3])) rfl
