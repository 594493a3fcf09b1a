set_option maxRecDepth 100000 in
set_option maxHeartbeats 4000000 in
theorem M_Source_hasRow (l : Launch) (g : GG) {so cap0 lo hi : Nat} {cnt : Nat → Nat} {f : Nat → Nat → Nat} {D : DT} {H0 : Heap} (hs : sAt g so cap0 cnt f D lo hi H0) (row : Int32) : MP l y_Source_hasRow c_Source_hasRow 2 (some .boolean) 0 g H0 [.ref so, .int row] (some (.int (b2i (rIn row)))) := by
  refine MM.of (by decide +kernel) (Nat.le_of_ble_eq_true rfl) ?_
  intro p e s m below meth cd X hH ls hl
  have X : CX g p s m _ meth cd c_Source_hasRow 2 (some .boolean) R_Source _ := X
  have hl : lv_has ls 2 [(0, .ref so), (1, .int row)] := hl
  have hS : va_S (AA (noA) H0) H0 H0 [] := va_S.rf
  refine lv_iload_n X.x X.b d_Source_hasRow_0 rfl (lv_at hl 1 rfl) ?_
  refine lv_if_lt (tgt := 13) X.x X.b d_Source_hasRow_1 (by decide) (fun c1 => ?_) (fun c1 => ?_)
  · skip
    have c1q := Int32.not_le.mpr c1
    refine lv_iconst (v := 0) X.x X.b d_Source_hasRow_13 (by decide) ?_
    exact m_zret X hS (Nat.zero_le _) (Nat.zero_le _) d_Source_hasRow_14 rfl (congrArg (fun z => some (Value.int z)) (by simp [b2i, rIn, c1, c1q])) rfl
  · skip
    have c1q := Int32.not_lt.mp c1
    refine lv_iload_n X.x X.b d_Source_hasRow_4 rfl (lv_at hl 1 rfl) ?_
    refine lv_iconst (v := 5) X.x X.b d_Source_hasRow_5 (by decide) ?_
    refine lv_icmp_ge (tgt := 13) X.x X.b d_Source_hasRow_6 (by decide) (fun c2 => ?_) (fun c2 => ?_)
    · skip
      have c2q := Int32.not_lt.mpr c2
      refine lv_iconst (v := 0) X.x X.b d_Source_hasRow_13 (by decide) ?_
      exact m_zret X hS (Nat.zero_le _) (Nat.zero_le _) d_Source_hasRow_14 rfl (congrArg (fun z => some (Value.int z)) (by simp [b2i, rIn, c1, c1q, c2, c2q])) rfl
    · skip
      have c2q := Int32.not_le.mp c2
      refine lv_iconst (v := 1) X.x X.b d_Source_hasRow_9 (by decide) ?_
      refine lv_goto (tgt := 14) X.x X.b d_Source_hasRow_10 (by decide) ?_
      exact m_zret X hS (Nat.zero_le _) (Nat.zero_le _) d_Source_hasRow_14 rfl (congrArg (fun z => some (Value.int z)) (by simp [b2i, rIn, c1, c1q, c2, c2q])) rfl
set_option maxRecDepth 100000 in
set_option maxHeartbeats 4000000 in
theorem M_Source_countOf (l : Launch) (g : GG) {so cap0 lo hi : Nat} {cnt : Nat → Nat} {f : Nat → Nat → Nat} {D : DT} {H0 : Heap} (hs : sAt g so cap0 cnt f D lo hi H0) (row : Int32) : MP l y_Source_countOf c_Source_countOf 2 (some .int) 1 g H0 [.ref so, .int row] (some (.int (ctF cnt row))) := by
  refine MM.of (by decide +kernel) (Nat.le_of_ble_eq_true rfl) ?_
  intro p e s m below meth cd X hH ls hl
  have X : CX g p s m _ meth cd c_Source_countOf 2 (some .int) R_Source _ := X
  have hl : lv_has ls 2 [(0, .ref so), (1, .int row)] := hl
  have hS : va_S (AA (noA) H0) H0 H0 [] := va_S.rf
  refine lv_aload_n X.x X.b d_Source_countOf_0 rfl (lv_at hl 0 rfl) ?_
  refine lv_iload_n X.x X.b d_Source_countOf_1 rfl (lv_at hl 1 rfl) ?_
  refine m_callP X hS (M_Source_hasRow l g hs row) v_Source_20 hs.1 rfl rfl rfl (Nat.le_of_ble_eq_true rfl) hl.1 d_Source_countOf_2 (by omega) (by decide) ⟨Nat.zero_le _, Nat.zero_le _⟩ (fun locs hS => ?_)
  refine lv_if_eq (tgt := 20) X.x X.b d_Source_countOf_5 (by decide) (fun c1 => ?_) (fun c1 => ?_)
  · skip
    have c1 := b2i_0.mp c1
    refine lv_iconst (v := 0) X.x X.b d_Source_countOf_20 (by decide) ?_
    exact m_iret X hS (Nat.zero_le _) (Nat.zero_le _) d_Source_countOf_21 (by first | rw [ctF_in hr] | rw [ctF_out (by assumption)]) rfl
  · skip
    have c1 := b2i_n0 c1
    obtain ⟨r, hr, rfl⟩ := rIn_ex c1
    refine lv_aload_n X.x X.b d_Source_countOf_8 rfl (lv_at hl 0 rfl) ?_
    refine m_get (v := .ref (so + 1)) X ok_Source hs.1 0 (by decide) k_Source_11 rfl d_Source_countOf_9 ?_
    refine lv_iload_n X.x X.b d_Source_countOf_12 rfl (lv_at hl 1 rfl) ?_
    refine m_qald (v := .ref (so + 2 + 2 * r)) X 3 rfl hs.2.1 (vp_in_nI hr (by omega)) (by rw [nI_clamp (by omega)]; rfl) d_Source_countOf_13 ?_
    refine m_get (v := .int (nI (cnt r))) X ok_Row (hs.2.2.1 r hr).1.1 1 (by decide) k_Source_24 rfl d_Source_countOf_14 ?_
    refine lv_goto (tgt := 21) X.x X.b d_Source_countOf_17 (by decide) ?_
    exact m_iret X hS (Nat.zero_le _) (Nat.zero_le _) d_Source_countOf_21 (by first | rw [ctF_in hr] | rw [ctF_out (by assumption)]) rfl
set_option maxRecDepth 100000 in
set_option maxHeartbeats 4000000 in
theorem M_Source_hasLine (l : Launch) (g : GG) {so cap0 lo hi : Nat} {cnt : Nat → Nat} {f : Nat → Nat → Nat} {D : DT} {H0 : Heap} (hs : sAt g so cap0 cnt f D lo hi H0) (row line : Int32) : MP l y_Source_hasLine c_Source_hasLine 3 (some .boolean) 1 g H0 [.ref so, .int row, .int line] (some (.int (b2i (lIn cnt row line)))) := by
  refine MM.of (by decide +kernel) (Nat.le_of_ble_eq_true rfl) ?_
  intro p e s m below meth cd X hH ls hl
  have X : CX g p s m _ meth cd c_Source_hasLine 3 (some .boolean) R_Source _ := X
  have hl : lv_has ls 3 [(0, .ref so), (1, .int row), (2, .int line)] := hl
  have hS : va_S (AA (noA) H0) H0 H0 [] := va_S.rf
  refine lv_aload_n X.x X.b d_Source_hasLine_0 rfl (lv_at hl 0 rfl) ?_
  refine lv_iload_n X.x X.b d_Source_hasLine_1 rfl (lv_at hl 1 rfl) ?_
  refine m_callP X hS (M_Source_hasRow l g hs row) v_Source_20 hs.1 rfl rfl rfl (Nat.le_of_ble_eq_true rfl) hl.1 d_Source_hasLine_2 (by omega) (by decide) ⟨Nat.zero_le _, Nat.zero_le _⟩ (fun locs hS => ?_)
  refine lv_if_eq (tgt := 29) X.x X.b d_Source_hasLine_5 (by decide) (fun c1 => ?_) (fun c1 => ?_)
  · skip
    have c1 := b2i_0.mp c1
    refine lv_iconst (v := 0) X.x X.b d_Source_hasLine_29 (by decide) ?_
    exact m_zret X hS (Nat.zero_le _) (Nat.zero_le _) d_Source_hasLine_30 rfl (congrArg (fun z => some (Value.int z)) (by rw [b2i, if_neg (lIn_out c1)])) rfl
  · skip
    have c1 := b2i_n0 c1
    obtain ⟨r, hr, rfl⟩ := rIn_ex c1
    refine lv_iload_n X.x X.b d_Source_hasLine_8 rfl (lv_at hl 2 rfl) ?_
    refine lv_if_lt (tgt := 29) X.x X.b d_Source_hasLine_9 (by decide) (fun c2 => ?_) (fun c2 => ?_)
    · skip
      have c2q := Int32.not_le.mpr c2
      refine lv_iconst (v := 0) X.x X.b d_Source_hasLine_29 (by decide) ?_
      exact m_zret X hS (Nat.zero_le _) (Nat.zero_le _) d_Source_hasLine_30 rfl (congrArg (fun z => some (Value.int z)) (by simp [b2i, lIn, ctF_in hr, c1, c2, c2q])) rfl
    · skip
      have c2q := Int32.not_lt.mp c2
      refine lv_iload_n X.x X.b d_Source_hasLine_12 rfl (lv_at hl 2 rfl) ?_
      refine lv_aload_n X.x X.b d_Source_hasLine_13 rfl (lv_at hl 0 rfl) ?_
      refine m_get (v := .ref (so + 1)) X ok_Source hs.1 0 (by decide) k_Source_11 rfl d_Source_hasLine_14 ?_
      refine lv_iload_n X.x X.b d_Source_hasLine_17 rfl (lv_at hl 1 rfl) ?_
      refine m_qald (v := .ref (so + 2 + 2 * r)) X 3 rfl hs.2.1 (vp_in_nI hr (by omega)) (by rw [nI_clamp (by omega)]; rfl) d_Source_hasLine_18 ?_
      refine m_get (v := .int (nI (cnt r))) X ok_Row (hs.2.2.1 r hr).1.1 1 (by decide) k_Source_24 rfl d_Source_hasLine_19 ?_
      refine lv_icmp_ge (tgt := 29) X.x X.b d_Source_hasLine_22 (by decide) (fun c3 => ?_) (fun c3 => ?_)
      · skip
        have c3q := Int32.not_lt.mpr c3
        refine lv_iconst (v := 0) X.x X.b d_Source_hasLine_29 (by decide) ?_
        exact m_zret X hS (Nat.zero_le _) (Nat.zero_le _) d_Source_hasLine_30 rfl (congrArg (fun z => some (Value.int z)) (by simp [b2i, lIn, ctF_in hr, c1, c2, c2q, c3, c3q])) rfl
      · skip
        have c3q := Int32.not_le.mp c3
        refine lv_iconst (v := 1) X.x X.b d_Source_hasLine_25 (by decide) ?_
        refine lv_goto (tgt := 30) X.x X.b d_Source_hasLine_26 (by decide) ?_
        exact m_zret X hS (Nat.zero_le _) (Nat.zero_le _) d_Source_hasLine_30 rfl (congrArg (fun z => some (Value.int z)) (by simp [b2i, lIn, ctF_in hr, c1, c2, c2q, c3, c3q])) rfl
set_option maxRecDepth 100000 in
set_option maxHeartbeats 4000000 in
theorem M_Source_lineAt (l : Launch) (g : GG) {so cap0 lo hi : Nat} {cnt : Nat → Nat} {f : Nat → Nat → Nat} {D : DT} {H0 : Heap} (hs : sAt g so cap0 cnt f D lo hi H0) (row line : Int32) : MP l y_Source_lineAt c_Source_lineAt 3 (some (.object "BranchPress$Line")) 3 g H0 [.ref so, .int row, .int line] (some (lr f (lnO cnt row line))) := by
  refine MM.of (by decide +kernel) (Nat.le_of_ble_eq_true rfl) ?_
  intro p e s m below meth cd X hH ls hl
  have X : CX g p s m _ meth cd c_Source_lineAt 3 (some (.object "BranchPress$Line")) R_Source _ := X
  have hl : lv_has ls 3 [(0, .ref so), (1, .int row), (2, .int line)] := hl
  have hS : va_S (AA (noA) H0) H0 H0 [] := va_S.rf
  refine lv_aload_n X.x X.b d_Source_lineAt_0 rfl (lv_at hl 0 rfl) ?_
  refine lv_iload_n X.x X.b d_Source_lineAt_1 rfl (lv_at hl 1 rfl) ?_
  refine lv_iload_n X.x X.b d_Source_lineAt_2 rfl (lv_at hl 2 rfl) ?_
  refine m_callP X hS (M_Source_hasLine l g hs row line) v_Source_32 hs.1 rfl rfl rfl (Nat.le_of_ble_eq_true rfl) hl.1 d_Source_lineAt_3 (by omega) (by decide) ⟨Nat.zero_le _, Nat.zero_le _⟩ (fun locs hS => ?_)
  refine lv_if_eq (tgt := 23) X.x X.b d_Source_lineAt_6 (by decide) (fun c1 => ?_) (fun c1 => ?_)
  · skip
    have c1 := b2i_0.mp c1
    refine lv_null X.x X.b d_Source_lineAt_23 ?_
    exact m_aret X hS (Nat.zero_le _) (Nat.zero_le _) (Or.inl rfl) d_Source_lineAt_24 (by first | (rw [lnO_in hr hi (hs.cap _ hr)]; rfl) | (unfold lnO; rw [if_neg (by assumption)]; rfl)) rfl
  · skip
    have c1 := b2i_n0 c1
    obtain ⟨r, i, hr, hi, rfl, rfl⟩ := lIn_ex hs.cap c1
    refine lv_aload_n X.x X.b d_Source_lineAt_9 rfl (lv_at hl 0 rfl) ?_
    refine m_get (v := .ref (so + 1)) X ok_Source hs.1 0 (by decide) k_Source_11 rfl d_Source_lineAt_10 ?_
    refine lv_iload_n X.x X.b d_Source_lineAt_13 rfl (lv_at hl 1 rfl) ?_
    refine m_qald (v := .ref (so + 2 + 2 * r)) X 3 rfl hs.2.1 (vp_in_nI hr (by omega)) (by rw [nI_clamp (by omega)]; rfl) d_Source_lineAt_14 ?_
    obtain ⟨-, F, hrA, hrF⟩ := (hs.2.2.1 r hr).1
    refine m_get (v := .ref (so + 2 + 2 * r + 1)) X ok_Row (hs.2.2.1 r hr).1.1 0 (by decide) k_Source_28 rfl d_Source_lineAt_15 ?_
    refine lv_iload_n X.x X.b d_Source_lineAt_18 rfl (lv_at hl 2 rfl) ?_
    refine m_qald (v := .ref (f r i)) X 2 rfl hrA (vp_in_nI (Nat.lt_of_lt_of_le hi (hs.2.2.1 _ hr).2) (hs.capb _)) (by rw [nI_clamp (by have := hs.cap _ hr; omega), hrF _ hi]; rfl) d_Source_lineAt_19 ?_
    refine lv_goto (tgt := 24) X.x X.b d_Source_lineAt_20 (by decide) ?_
    exact m_aret X hS (Nat.zero_le _) (Nat.zero_le _) (Or.inr ⟨_, rfl⟩) d_Source_lineAt_24 (by first | (rw [lnO_in hr hi (hs.cap _ hr)]; rfl) | (unfold lnO; rw [if_neg (by assumption)]; rfl)) rfl
set_option maxRecDepth 100000 in
set_option maxHeartbeats 4000000 in
theorem M_Source_isFull (l : Launch) (g : GG) {so cap0 lo hi : Nat} {cnt : Nat → Nat} {f : Nat → Nat → Nat} {D : DT} {H0 : Heap} (hs : sAt g so cap0 cnt f D lo hi H0) (row : Int32) : MP l y_Source_isFull c_Source_isFull 2 (some .boolean) 1 g H0 [.ref so, .int row] (some (.int (b2i (rIn row ∧ nI (capF cap0 row.toNatClampNeg) ≤ nI (cnt row.toNatClampNeg))))) := by
  refine MM.of (by decide +kernel) (Nat.le_of_ble_eq_true rfl) ?_
  intro p e s m below meth cd X hH ls hl
  have X : CX g p s m _ meth cd c_Source_isFull 2 (some .boolean) R_Source _ := X
  have hl : lv_has ls 2 [(0, .ref so), (1, .int row)] := hl
  have hS : va_S (AA (noA) H0) H0 H0 [] := va_S.rf
  refine lv_aload_n X.x X.b d_Source_isFull_0 rfl (lv_at hl 0 rfl) ?_
  refine lv_iload_n X.x X.b d_Source_isFull_1 rfl (lv_at hl 1 rfl) ?_
  refine m_callP X hS (M_Source_hasRow l g hs row) v_Source_20 hs.1 rfl rfl rfl (Nat.le_of_ble_eq_true rfl) hl.1 d_Source_isFull_2 (by omega) (by decide) ⟨Nat.zero_le _, Nat.zero_le _⟩ (fun locs hS => ?_)
  refine lv_if_eq (tgt := 34) X.x X.b d_Source_isFull_5 (by decide) (fun c1 => ?_) (fun c1 => ?_)
  · skip
    have c1 := b2i_0.mp c1
    refine lv_iconst (v := 0) X.x X.b d_Source_isFull_34 (by decide) ?_
    exact m_zret X hS (Nat.zero_le _) (Nat.zero_le _) d_Source_isFull_35 rfl (congrArg (fun z => some (Value.int z)) (by first | simp [b2i, c1, rIn_tn hr] | simp [b2i, c1])) rfl
  · skip
    have c1 := b2i_n0 c1
    obtain ⟨r, hr, rfl⟩ := rIn_ex c1
    refine lv_aload_n X.x X.b d_Source_isFull_8 rfl (lv_at hl 0 rfl) ?_
    refine m_get (v := .ref (so + 1)) X ok_Source hs.1 0 (by decide) k_Source_11 rfl d_Source_isFull_9 ?_
    refine lv_iload_n X.x X.b d_Source_isFull_12 rfl (lv_at hl 1 rfl) ?_
    refine m_qald (v := .ref (so + 2 + 2 * r)) X 3 rfl hs.2.1 (vp_in_nI hr (by omega)) (by rw [nI_clamp (by omega)]; rfl) d_Source_isFull_13 ?_
    refine m_get (v := .int (nI (cnt r))) X ok_Row (hs.2.2.1 r hr).1.1 1 (by decide) k_Source_24 rfl d_Source_isFull_14 ?_
    refine lv_aload_n X.x X.b d_Source_isFull_17 rfl (lv_at hl 0 rfl) ?_
    refine m_get (v := .ref (so + 1)) X ok_Source hs.1 0 (by decide) k_Source_11 rfl d_Source_isFull_18 ?_
    refine lv_iload_n X.x X.b d_Source_isFull_21 rfl (lv_at hl 1 rfl) ?_
    refine m_qald (v := .ref (so + 2 + 2 * r)) X 3 rfl hs.2.1 (vp_in_nI hr (by omega)) (by rw [nI_clamp (by omega)]; rfl) d_Source_isFull_22 ?_
    obtain ⟨-, F, hrA, hrF⟩ := (hs.2.2.1 r hr).1
    refine m_get (v := .ref (so + 2 + 2 * r + 1)) X ok_Row (hs.2.2.1 r hr).1.1 0 (by decide) k_Source_28 rfl d_Source_isFull_23 ?_
    refine m_alen (v := nI (capF cap0 r)) X 2 rfl hrA rfl d_Source_isFull_26 ?_
    refine lv_icmp_lt (tgt := 34) X.x X.b d_Source_isFull_27 (by decide) (fun c2 => ?_) (fun c2 => ?_)
    · skip
      have c2q := Int32.not_le.mpr c2
      refine lv_iconst (v := 0) X.x X.b d_Source_isFull_34 (by decide) ?_
      exact m_zret X hS (Nat.zero_le _) (Nat.zero_le _) d_Source_isFull_35 rfl (congrArg (fun z => some (Value.int z)) (by first | simp [b2i, c1, c2, c2q, rIn_tn hr] | simp [b2i, c1, c2, c2q])) rfl
    · skip
      have c2q := Int32.not_lt.mp c2
      refine lv_iconst (v := 1) X.x X.b d_Source_isFull_30 (by decide) ?_
      refine lv_goto (tgt := 35) X.x X.b d_Source_isFull_31 (by decide) ?_
      exact m_zret X hS (Nat.zero_le _) (Nat.zero_le _) d_Source_isFull_35 rfl (congrArg (fun z => some (Value.int z)) (by first | simp [b2i, c1, c2, c2q, rIn_tn hr] | simp [b2i, c1, c2, c2q])) rfl
set_option maxRecDepth 100000 in
set_option maxHeartbeats 4000000 in
theorem M_Source_countOfAll (l : Launch) (g : GG) {so cap0 lo hi : Nat} {cnt : Nat → Nat} {f : Nat → Nat → Nat} {D : DT} {H0 : Heap} (hs : sAt g so cap0 cnt f D lo hi H0) : MP l y_Source_countOfAll c_Source_countOfAll 3 (some .int) 0 g H0 [.ref so] (some (.int (totF cnt 5 0 0))) := by
  refine MM.of (by decide +kernel) (Nat.le_of_ble_eq_true rfl) ?_
  intro p e s m below meth cd X hH ls hl
  have X : CX g p s m _ meth cd c_Source_countOfAll 3 (some .int) R_Source _ := X
  have hl : lv_has ls 3 [(0, .ref so)] := hl
  have hS : va_S (AA (noA) H0) H0 H0 [] := va_S.rf
  refine lv_iconst (v := 0) X.x X.b d_Source_countOfAll_0 (by decide) ?_
  refine lv_istore_n (lv' := [(1, .int 0), (0, .ref so)]) X.x X.b d_Source_countOfAll_1 rfl hl (by decide) rfl (fun ls hl => ?_)
  refine lv_iconst (v := 0) X.x X.b d_Source_countOfAll_2 (by decide) ?_
  refine lv_istore_n (lv' := [(2, .int 0), (1, .int 0), (0, .ref so)]) X.x X.b d_Source_countOfAll_3 rfl hl (by decide) rfl (fun ls hl => ?_)
  have lp : ∀ (n i : Nat) (u : Int32), n = 5 - i → i < 5000 → (totF cnt n i u = totF cnt 5 0 0) → ∀ (locs : List Loc) (ls : Array Slot), va_S (AA (noA) H0) H0 H0 locs → lv_has ls 3 [(0, .ref so), (1, .int u), (2, .int (nI i))] → W p l e (rmK 0 0 0) s m ([.ref so] : List Value).toArray below meth cd H0 locs 0 0 (MQ below (QM (some (.int (totF cnt 5 0 0))) (fun H1 => H1 = H0) (noA) H0) ([.ref so] : List Value).toArray s 0 0 (AA (noA) H0)) (F0 m 4 ls []) := by
    intro n
    induction n with
    | zero =>
      intro i u hin hi5 hE locs ls hS hl
      refine lv_iload_n X.x X.b d_Source_countOfAll_4 rfl (lv_at hl 2 rfl) ?_
      refine lv_iconst (v := 5) X.x X.b d_Source_countOfAll_5 (by decide) ?_
      refine lv_icmp_ge (tgt := 27) X.x X.b d_Source_countOfAll_6 (by decide) (fun c1 => ?_) (fun c1 => ?_)
      · skip
        have c1q := Int32.not_lt.mpr c1
        refine lv_iload_n X.x X.b d_Source_countOfAll_27 rfl (lv_at hl 1 rfl) ?_
        exact m_iret X hS (Nat.zero_le _) (Nat.zero_le _) d_Source_countOfAll_28 (by rw [← hE]; rfl) rfl
      · exact absurd ((nI_leI (a := 5) (b := i) (by omega) (by omega)).mpr (by omega)) c1
    | succ n ih =>
      intro i u hin hi5 hE locs ls hS hl
      refine lv_iload_n X.x X.b d_Source_countOfAll_4 rfl (lv_at hl 2 rfl) ?_
      refine lv_iconst (v := 5) X.x X.b d_Source_countOfAll_5 (by decide) ?_
      refine lv_icmp_ge (tgt := 27) X.x X.b d_Source_countOfAll_6 (by decide) (fun c2 => ?_) (fun c2 => ?_)
      · exact absurd ((nI_leI (a := 5) (b := i) (by omega) (by omega)).mp c2) (by omega)
      · skip
        have c2q := Int32.not_le.mp c2
        refine lv_iload_n X.x X.b d_Source_countOfAll_9 rfl (lv_at hl 1 rfl) ?_
        refine lv_aload_n X.x X.b d_Source_countOfAll_10 rfl (lv_at hl 0 rfl) ?_
        refine m_get (v := .ref (so + 1)) X ok_Source hs.1 0 (by decide) k_Source_11 rfl d_Source_countOfAll_11 ?_
        refine lv_iload_n X.x X.b d_Source_countOfAll_14 rfl (lv_at hl 2 rfl) ?_
        refine m_qald (v := .ref (so + 2 + 2 * i)) X 3 rfl hs.2.1 (vp_in_nI (by omega) (by omega)) (by rw [nI_clamp (by omega)]; rfl) d_Source_countOfAll_15 ?_
        refine m_get (v := .int (nI (cnt i))) X ok_Row (hs.2.2.1 i (by omega)).1.1 1 (by decide) k_Source_24 rfl d_Source_countOfAll_16 ?_
        refine lv_iadd X.x X.b d_Source_countOfAll_19 ?_
        refine lv_istore_n (lv' := [(1, .int (u + (nI (cnt i)))), (0, .ref so), (2, .int (nI i))]) X.x X.b d_Source_countOfAll_20 rfl hl (by decide) rfl (fun ls hl => ?_)
        refine lv_iinc (v := nI (i + 1)) (lv' := [(2, .int (nI (i + 1))), (1, .int (u + (nI (cnt i)))), (0, .ref so)]) X.x X.b d_Source_countOfAll_21 hl (k := 2) rfl (nI_1 i) (by decide) rfl (fun ls hl => ?_)
        refine lv_goto (tgt := 4) X.x X.b d_Source_countOfAll_24 (by decide) ?_
        exact ih (i + 1) (u + (nI (cnt i))) (by omega) (by omega) (by rw [← hE]; simp [totF, c2, c2q]) _ _ hS (lv_sub hl [2, 1, 0] rfl)
  exact lp 5 0 0 (by omega) (by omega) (rfl) _ _ hS (lv_sub hl [2, 1, 0] rfl)
set_option maxRecDepth 100000 in
set_option maxHeartbeats 4000000 in
theorem M_Source_insert (l : Launch) (g : GG) {so cap0 lo hi : Nat} {cnt : Nat → Nat} {f : Nat → Nat → Nat} {D : DT} {H0 : Heap} (hs : sAt g so cap0 cnt f D lo hi H0) {r ln : Nat} {d : Nat → Int32} (hr : r < 5) (hL : lnD g ln d H0) (hlo : ln < lo ∨ hi ≤ ln) {t : Nat} (ht : t ≤ cnt r) (hc1 : cnt r < capF cap0 r) : MM l y_Source_insert c_Source_insert 4 none 1 0 0 g H0 [.ref so, .int (nI r), .int (nI t), .ref ln] (sF so) (none) (fun H1 => sAt g so cap0 (va_up cnt r (cnt r + 1)) (va_up f r (insF (f r) t ln)) (va_up D r (insF (D r) t d)) lo hi H1) := by
  refine MM.of (by decide +kernel) (Nat.le_of_ble_eq_true rfl) ?_
  intro p e s m below meth cd X hH ls hl
  have X : CX g p s m _ meth cd c_Source_insert 4 none R_Source _ := X
  have hl : lv_has ls 4 [(0, .ref so), (1, .int (nI r)), (2, .int (nI t)), (3, .ref ln)] := hl
  have hS : va_S (AA (sF so) H0) H0 H0 [] := va_S.rf
  refine lv_aload_n X.x X.b d_Source_insert_0 rfl (lv_at hl 0 rfl) ?_
  refine lv_iload_n X.x X.b d_Source_insert_1 rfl (lv_at hl 1 rfl) ?_
  refine m_callP X hS (M_Source_hasRow l g hs (nI r)) v_Source_20 hs.1 rfl rfl rfl (Nat.le_of_ble_eq_true rfl) hl.1 d_Source_insert_2 (by omega) (by decide) ⟨Nat.zero_le _, Nat.zero_le _⟩ (fun locs hS => ?_)
  refine lv_if_eq (tgt := 19) X.x X.b d_Source_insert_5 (by decide) (fun c1 => ?_) (fun c1 => ?_)
  · exact absurd (rIn_nI hr) (b2i_0.mp c1)
  · skip
    have c1 := b2i_n0 c1
    refine lv_aload_n X.x X.b d_Source_insert_8 rfl (lv_at hl 0 rfl) ?_
    refine m_get (v := .ref (so + 1)) X ok_Source hs.1 0 (by decide) k_Source_11 rfl d_Source_insert_9 ?_
    refine lv_iload_n X.x X.b d_Source_insert_12 rfl (lv_at hl 1 rfl) ?_
    refine m_qald (v := .ref (so + 2 + 2 * r)) X 3 rfl hs.2.1 (vp_in_nI hr (by omega)) (by rw [nI_clamp (by omega)]; rfl) d_Source_insert_13 ?_
    refine lv_iload_n X.x X.b d_Source_insert_14 rfl (lv_at hl 2 rfl) ?_
    refine lv_aload_n X.x X.b d_Source_insert_15 rfl (lv_at hl 3 rfl) ?_
    refine m_callM X hS (M_Row_insert (t := t) (ln := ln) l g (hs.2.2.1 r hr).1 (by have h11 := hs.2.2.2.2.2.2.1; unfold capF; split <;> omega) (hs.2.2.1 r hr).2 (hs.ln hr) ht hc1 ⟨_, hL⟩ (by have h12 := hs.2.2.2.2; unfold offR; omega)) v_Source_36 (hs.2.2.1 r hr).1.1 rfl rfl rfl (Nat.le_of_ble_eq_true rfl) hl.1 d_Source_insert_16 (by decide) (by decide) ⟨Nat.zero_le _, Nat.zero_le _⟩ (fun q z => by have h9 := z.1; have h10 := z.2; exact ⟨by omega, by omega⟩) (fun H locs hR hfr hS => ?_)
    have hs := hs.ins (d := d) hr ht hc1 hL hlo hfr hR
    exact m_vret X hS (Nat.zero_le _) (Nat.zero_le _) d_Source_insert_19 rfl (by exact hs)
set_option maxRecDepth 100000 in
set_option maxHeartbeats 4000000 in
theorem M_Source_remove (l : Launch) (g : GG) {so cap0 lo hi : Nat} {cnt : Nat → Nat} {f : Nat → Nat → Nat} {D : DT} {H0 : Heap} (hs : sAt g so cap0 cnt f D lo hi H0) {r t : Nat} (hr : r < 5) (ht : t < cnt r) : MM l y_Source_remove c_Source_remove 3 none 3 0 0 g H0 [.ref so, .int (nI r), .int (nI t)] (sF so) (none) (fun H1 => sAt g so cap0 (va_up cnt r (cnt r - 1)) (va_up f r (remF (f r) t)) (va_up D r (remF (D r) t)) lo hi H1) := by
  refine MM.of (by decide +kernel) (Nat.le_of_ble_eq_true rfl) ?_
  intro p e s m below meth cd X hH ls hl
  have X : CX g p s m _ meth cd c_Source_remove 3 none R_Source _ := X
  have hl : lv_has ls 3 [(0, .ref so), (1, .int (nI r)), (2, .int (nI t))] := hl
  have hS : va_S (AA (sF so) H0) H0 H0 [] := va_S.rf
  refine lv_aload_n X.x X.b d_Source_remove_0 rfl (lv_at hl 0 rfl) ?_
  refine lv_iload_n X.x X.b d_Source_remove_1 rfl (lv_at hl 1 rfl) ?_
  refine lv_iload_n X.x X.b d_Source_remove_2 rfl (lv_at hl 2 rfl) ?_
  refine m_callP X hS (M_Source_hasLine l g hs (nI r) (nI t)) v_Source_32 hs.1 rfl rfl rfl (Nat.le_of_ble_eq_true rfl) hl.1 d_Source_remove_3 (by omega) (by decide) ⟨Nat.zero_le _, Nat.zero_le _⟩ (fun locs hS => ?_)
  refine lv_if_eq (tgt := 19) X.x X.b d_Source_remove_6 (by decide) (fun c1 => ?_) (fun c1 => ?_)
  · exact absurd (lIn_nI hr ht (hs.cap _ hr)) (b2i_0.mp c1)
  · skip
    have c1 := b2i_n0 c1
    refine lv_aload_n X.x X.b d_Source_remove_9 rfl (lv_at hl 0 rfl) ?_
    refine m_get (v := .ref (so + 1)) X ok_Source hs.1 0 (by decide) k_Source_11 rfl d_Source_remove_10 ?_
    refine lv_iload_n X.x X.b d_Source_remove_13 rfl (lv_at hl 1 rfl) ?_
    refine m_qald (v := .ref (so + 2 + 2 * r)) X 3 rfl hs.2.1 (vp_in_nI hr (by omega)) (by rw [nI_clamp (by omega)]; rfl) d_Source_remove_14 ?_
    refine lv_iload_n X.x X.b d_Source_remove_15 rfl (lv_at hl 2 rfl) ?_
    refine m_callM X hS (M_Row_remove (t := t) l g (hs.2.2.1 r hr).1 (by have h11 := hs.2.2.2.2.2.2.1; unfold capF; split <;> omega) (hs.2.2.1 r hr).2 (hs.ln hr) ht) v_Source_40 (hs.2.2.1 r hr).1.1 rfl rfl rfl (Nat.le_of_ble_eq_true rfl) hl.1 d_Source_remove_16 (by decide) (by decide) ⟨Nat.zero_le _, Nat.zero_le _⟩ (fun q z => by have h9 := z.1; have h10 := z.2; exact ⟨by omega, by omega⟩) (fun H locs hR hfr hS => ?_)
    have hs := hs.rem hr ht hfr hR
    exact m_vret X hS (Nat.zero_le _) (Nat.zero_le _) d_Source_remove_19 rfl (by exact hs)
set_option maxRecDepth 100000 in
set_option maxHeartbeats 4000000 in
theorem M_Source_replace (l : Launch) (g : GG) {so cap0 lo hi : Nat} {cnt : Nat → Nat} {f : Nat → Nat → Nat} {D : DT} {H0 : Heap} (hs : sAt g so cap0 cnt f D lo hi H0) {r ln : Nat} {d : Nat → Int32} (hr : r < 5) (hL : lnD g ln d H0) (hlo : ln < lo ∨ hi ≤ ln) {t : Nat} (ht : t < cnt r) : MM l y_Source_replace c_Source_replace 4 none 3 0 0 g H0 [.ref so, .int (nI r), .int (nI t), .ref ln] (sF so) (none) (fun H1 => sAt g so cap0 cnt (va_up f r (va_up (f r) t ln)) (va_up D r (va_up (D r) t d)) lo hi H1) := by
  refine MM.of (by decide +kernel) (Nat.le_of_ble_eq_true rfl) ?_
  intro p e s m below meth cd X hH ls hl
  have X : CX g p s m _ meth cd c_Source_replace 4 none R_Source _ := X
  have hl : lv_has ls 4 [(0, .ref so), (1, .int (nI r)), (2, .int (nI t)), (3, .ref ln)] := hl
  have hS : va_S (AA (sF so) H0) H0 H0 [] := va_S.rf
  refine lv_aload_n X.x X.b d_Source_replace_0 rfl (lv_at hl 0 rfl) ?_
  refine lv_iload_n X.x X.b d_Source_replace_1 rfl (lv_at hl 1 rfl) ?_
  refine lv_iload_n X.x X.b d_Source_replace_2 rfl (lv_at hl 2 rfl) ?_
  refine m_callP X hS (M_Source_hasLine l g hs (nI r) (nI t)) v_Source_32 hs.1 rfl rfl rfl (Nat.le_of_ble_eq_true rfl) hl.1 d_Source_replace_3 (by omega) (by decide) ⟨Nat.zero_le _, Nat.zero_le _⟩ (fun locs hS => ?_)
  refine lv_if_eq (tgt := 21) X.x X.b d_Source_replace_6 (by decide) (fun c1 => ?_) (fun c1 => ?_)
  · exact absurd (lIn_nI hr ht (hs.cap _ hr)) (b2i_0.mp c1)
  · skip
    have c1 := b2i_n0 c1
    refine lv_aload_n X.x X.b d_Source_replace_9 rfl (lv_at hl 0 rfl) ?_
    refine m_get (v := .ref (so + 1)) X ok_Source hs.1 0 (by decide) k_Source_11 rfl d_Source_replace_10 ?_
    refine lv_iload_n X.x X.b d_Source_replace_13 rfl (lv_at hl 1 rfl) ?_
    refine m_qald (v := .ref (so + 2 + 2 * r)) X 3 rfl hs.2.1 (vp_in_nI hr (by omega)) (by rw [nI_clamp (by omega)]; rfl) d_Source_replace_14 ?_
    obtain ⟨-, F, hrA, hrF⟩ := (hs.2.2.1 r hr).1
    refine m_get (v := .ref (so + 2 + 2 * r + 1)) X ok_Row (hs.2.2.1 r hr).1.1 0 (by decide) k_Source_28 rfl d_Source_replace_15 ?_
    refine lv_iload_n X.x X.b d_Source_replace_18 rfl (lv_at hl 2 rfl) ?_
    refine lv_aload_n X.x X.b d_Source_replace_19 rfl (lv_at hl 3 rfl) ?_
    refine m_qast X hS (Or.inl ⟨by omega, by omega⟩) 2 ci_Line rfl hrA hL rfl (vp_in_nI (Nat.lt_of_lt_of_le ht (hs.2.2.1 _ hr).2) (hs.capb _)) d_Source_replace_20 (fun H locs hp hcg hS => ?_)
    rw [nI_clamp (by have := hs.cap _ hr; omega)] at hp
    have hs := hs.rep (d := d) hr ht hL hlo hrF hcg hp
    exact m_vret X hS (Nat.zero_le _) (Nat.zero_le _) d_Source_replace_21 rfl (by exact hs)
set_option maxRecDepth 100000 in
set_option maxHeartbeats 4000000 in
theorem M_Source_copyFrom (l : Launch) (g : GG) {so cap0 so2 cap2 lo hi : Nat} {cnt cnt2 : Nat → Nat} {f f2 : Nat → Nat → Nat} {D D2 : DT} {H0 : Heap} (hs : sAt g so cap0 cnt f D lo hi H0) (hz : sAt g so2 cap2 cnt2 f2 D2 lo hi H0) (hd : so + 12 ≤ so2 ∨ so2 + 12 ≤ so) (hcc : ∀ r, r < 5 → cnt2 r ≤ capF cap0 r) : MM l y_Source_copyFrom c_Source_copyFrom 3 none 2 0 0 g H0 [.ref so, .ref so2] (sF so) (none) (fun H1 => sAt g so cap0 cnt2 f2 D2 lo hi H1 ∧ sAt g so2 cap2 cnt2 f2 D2 lo hi H1) := by
  refine MM.of (by decide +kernel) (Nat.le_of_ble_eq_true rfl) ?_
  intro p e s m below meth cd X hH ls hl
  have X : CX g p s m _ meth cd c_Source_copyFrom 3 none R_Source _ := X
  have hl : lv_has ls 3 [(0, .ref so), (1, .ref so2)] := hl
  have hS : va_S (AA (sF so) H0) H0 H0 [] := va_S.rf
  refine lv_iconst (v := 0) X.x X.b d_Source_copyFrom_0 (by decide) ?_
  refine lv_istore_n (lv' := [(2, .int 0), (0, .ref so), (1, .ref so2)]) X.x X.b d_Source_copyFrom_1 rfl hl (by decide) rfl (fun ls hl => ?_)
  have lp : ∀ (n i : Nat) (ct : Nat → Nat) (fx : Nat → Nat → Nat) (Dx : DT), n = 5 - i → i < 5000 → (∀ r, r < i → ct r = cnt2 r ∧ fx r = f2 r ∧ Dx r = D2 r) → ∀ (H : Heap) (locs : List Loc) (ls : Array Slot), sAt g so cap0 ct fx Dx lo hi H → sAt g so2 cap2 cnt2 f2 D2 lo hi H → va_S (AA (sF so) H0) H0 H locs → lv_has ls 3 [(0, .ref so), (1, .ref so2), (2, .int (nI i))] → W p l e (rmK 2 0 0) s m ([.ref so, .ref so2] : List Value).toArray below meth cd H locs 0 0 (MQ below (QM (none) (fun H1 => sAt g so cap0 cnt2 f2 D2 lo hi H1 ∧ sAt g so2 cap2 cnt2 f2 D2 lo hi H1) (sF so) H0) ([.ref so, .ref so2] : List Value).toArray s 0 0 (AA (sF so) H0)) (F0 m 2 ls []) := by
    intro n
    induction n with
    | zero =>
      intro i ct fx Dx hin hi5 hE H locs ls hs hz hS hl
      refine lv_iload_n X.x X.b d_Source_copyFrom_2 rfl (lv_at hl 2 rfl) ?_
      refine lv_iconst (v := 5) X.x X.b d_Source_copyFrom_3 (by decide) ?_
      refine lv_icmp_ge (tgt := 28) X.x X.b d_Source_copyFrom_4 (by decide) (fun c1 => ?_) (fun c1 => ?_)
      · skip
        have c1q := Int32.not_lt.mpr c1
        exact m_vret X hS (Nat.zero_le _) (Nat.zero_le _) d_Source_copyFrom_28 rfl ⟨hs.same (fun r hr => hE r (by omega)), hz⟩
      · exact absurd ((nI_leI (a := 5) (b := i) (by omega) (by omega)).mpr (by omega)) c1
    | succ n ih =>
      intro i ct fx Dx hin hi5 hE H locs ls hs hz hS hl
      refine lv_iload_n X.x X.b d_Source_copyFrom_2 rfl (lv_at hl 2 rfl) ?_
      refine lv_iconst (v := 5) X.x X.b d_Source_copyFrom_3 (by decide) ?_
      refine lv_icmp_ge (tgt := 28) X.x X.b d_Source_copyFrom_4 (by decide) (fun c2 => ?_) (fun c2 => ?_)
      · exact absurd ((nI_leI (a := 5) (b := i) (by omega) (by omega)).mp c2) (by omega)
      · skip
        have c2q := Int32.not_le.mp c2
        refine lv_aload_n X.x X.b d_Source_copyFrom_7 rfl (lv_at hl 0 rfl) ?_
        refine m_get (v := .ref (so + 1)) X ok_Source hs.1 0 (by decide) k_Source_11 rfl d_Source_copyFrom_8 ?_
        refine lv_iload_n X.x X.b d_Source_copyFrom_11 rfl (lv_at hl 2 rfl) ?_
        refine m_qald (v := .ref (so + 2 + 2 * i)) X 3 rfl hs.2.1 (vp_in_nI (by omega) (by omega)) (by rw [nI_clamp (by omega)]; rfl) d_Source_copyFrom_12 ?_
        refine lv_aload_n X.x X.b d_Source_copyFrom_13 rfl (lv_at hl 1 rfl) ?_
        refine m_get (v := .ref (so2 + 1)) X ok_Source hz.1 0 (by decide) k_Source_11 rfl d_Source_copyFrom_14 ?_
        refine lv_iload_n X.x X.b d_Source_copyFrom_17 rfl (lv_at hl 2 rfl) ?_
        refine m_qald (v := .ref (so2 + 2 + 2 * i)) X 3 rfl hz.2.1 (vp_in_nI (by omega) (by omega)) (by rw [nI_clamp (by omega)]; rfl) d_Source_copyFrom_18 ?_
        refine m_callM X hS (M_Row_copyFrom l g (hs.2.2.1 i (by omega)).1 (hz.2.2.1 i (by omega)).1 (by have h11 := hs.2.2.2.2.2.2.1; unfold capF; split <;> omega) (hcc i (by omega)) (hz.2.2.1 i (by omega)).2 (by have h11 := hz.2.2.2.2.2.2.1; unfold capF; split <;> omega) (by omega) (fun x hx => ⟨(hz.ln (by omega) x hx).1, (by have h12 := hs.2.2.2.2; have h13 := (hz.2.2.2.1 i x (by omega) hx).2; unfold offR; omega)⟩)) v_Source_43 (hs.2.2.1 i (by omega)).1.1 rfl rfl rfl (Nat.le_of_ble_eq_true rfl) hl.1 d_Source_copyFrom_19 (by decide) (by decide) ⟨Nat.zero_le _, Nat.zero_le _⟩ (fun q z => by have h9 := z.1; have h10 := z.2; exact ⟨by omega, by omega⟩) (fun H locs hR hfr hS => ?_)
        have hs := hs.row (D' := D2 i) (by omega) hfr hR (hcc i (by omega)) (fun x hx => ⟨(hz.2.2.2.1 i x (by omega) hx).1.fr hfr (fun z => by have h9 := z.1; have h10 := z.2; have h13 := (hz.2.2.2.1 i x (by omega) hx).2; have h12 := hs.2.2.2.2; omega), (hz.2.2.2.1 i x (by omega) hx).2⟩)
        have hz := hz.frame hfr (fun q z => by have h9 := z.1; have h10 := z.2; have h12 := hs.2.2.2.2; omega)
        refine lv_iinc (v := nI (i + 1)) (lv' := [(2, .int (nI (i + 1))), (0, .ref so), (1, .ref so2)]) X.x X.b d_Source_copyFrom_22 hl (k := 2) rfl (nI_1 i) (by decide) rfl (fun ls hl => ?_)
        refine lv_goto (tgt := 2) X.x X.b d_Source_copyFrom_25 (by decide) ?_
        exact ih (i + 1) (va_up ct i (cnt2 i)) (va_up fx i (f2 i)) (va_up Dx i (D2 i)) (by omega) (by omega) (fun r hr => by by_cases z : r = i <;> first | (subst z; exact ⟨va_up_self _ _ _, va_up_self _ _ _, va_up_self _ _ _⟩) | (rw [va_up_ne _ _ z, va_up_ne _ _ z, va_up_ne _ _ z]; exact hE r (by omega))) _ _ _ hs hz hS (lv_sub hl [1, 2, 0] rfl)
  exact lp 5 0 cnt f D (by omega) (by omega) (fun r hr => absurd hr (Nat.not_lt_zero r)) _ _ _ hs hz hS (lv_sub hl [1, 2, 0] rfl)
