set_option maxRecDepth 100000 in
set_option maxHeartbeats 4000000 in
theorem M_Items_itemAt (l : Launch) (g : GG) {a c : Nat} {S : IS} {H0 : Heap} (hI : iAt g a c S H0) (hc : c ≤ 121) (k : Int32) : MP l y_Items_itemAt c_Items_itemAt 2 (some (.object "BranchPress$Item")) 0 g H0 [.ref a, .int k] (some (ir a (iaO c k))) := by
  refine MM.of (by decide +kernel) (Nat.le_of_ble_eq_true rfl) ?_
  intro p e s m below meth cd X hH ls hl
  have X : CX g p s m _ meth cd c_Items_itemAt 2 (some (.object "BranchPress$Item")) R_Items _ := X
  have hl : lv_has ls 2 [(0, .ref a), (1, .int k)] := hl
  have hS : va_S (AA (noA) H0) H0 H0 [] := va_S.rf
  refine lv_iload_n X.x X.b d_Items_itemAt_0 rfl (lv_at hl 1 rfl) ?_
  refine lv_if_lt (tgt := 21) X.x X.b d_Items_itemAt_1 (by decide) (fun c1 => ?_) (fun c1 => ?_)
  · skip
    have c1q := Int32.not_le.mpr c1
    refine lv_null X.x X.b d_Items_itemAt_21 ?_
    exact m_aret X hS (Nat.zero_le _) (Nat.zero_le _) (Or.inl rfl) d_Items_itemAt_22 (by first | (rw [iaO_in hj (by omega)]; rfl) | simp [iaO, ir_n, iaO, ir_n, ir_s, c1, c1q]) rfl
  · skip
    have c1q := Int32.not_lt.mp c1
    refine lv_iload_n X.x X.b d_Items_itemAt_4 rfl (lv_at hl 1 rfl) ?_
    refine lv_aload_n X.x X.b d_Items_itemAt_5 rfl (lv_at hl 0 rfl) ?_
    refine m_get (v := .int (nI c)) X ok_Items hI.1 1 (by decide) k_Items_18 rfl d_Items_itemAt_6 ?_
    refine lv_icmp_ge (tgt := 21) X.x X.b d_Items_itemAt_9 (by decide) (fun c2 => ?_) (fun c2 => ?_)
    · skip
      have c2q := Int32.not_lt.mpr c2
      refine lv_null X.x X.b d_Items_itemAt_21 ?_
      exact m_aret X hS (Nat.zero_le _) (Nat.zero_le _) (Or.inl rfl) d_Items_itemAt_22 (by first | (rw [iaO_in hj (by omega)]; rfl) | simp [iaO, ir_n, iaO, ir_n, ir_s, c1, c1q, c2, c2q]) rfl
    · skip
      have c2q := Int32.not_le.mp c2
      obtain ⟨j, hj, rfl⟩ : ∃ j, j < c ∧ k = nI j := (pk_ix k (by omega)).elim (fun z => absurd z c1) (fun z => z.elim (fun z => absurd z c2) id)
      refine lv_aload_n X.x X.b d_Items_itemAt_12 rfl (lv_at hl 0 rfl) ?_
      refine m_get (v := .ref (a + 1)) X ok_Items hI.1 0 (by decide) k_Items_11 rfl d_Items_itemAt_13 ?_
      refine lv_iload_n X.x X.b d_Items_itemAt_16 rfl (lv_at hl 1 rfl) ?_
      refine m_qald (v := .ref (a + 2 + j)) X 4 rfl hI.2.1 (vp_in_nI (by omega) (by decide)) (by rw [nI_clamp (lt31 (by omega))]; rfl) d_Items_itemAt_17 ?_
      refine lv_goto (tgt := 22) X.x X.b d_Items_itemAt_18 (by decide) ?_
      exact m_aret X hS (Nat.zero_le _) (Nat.zero_le _) (Or.inr ⟨_, rfl⟩) d_Items_itemAt_22 (by first | (rw [iaO_in hj (by omega)]; rfl) | simp [iaO, ir_n, iaO, ir_n, ir_s, c1, c1q, c2, c2q]) rfl
set_option maxRecDepth 100000 in
set_option maxHeartbeats 4000000 in
theorem M_Items_nearestAhead (l : Launch) (g : GG) {a c : Nat} {S : IS} {H0 : Heap} (hI : iAt g a c S H0) (hc : c ≤ 121) (k x : Int32) {t : Nat} (ht : t ≤ 121) : MP l y_Items_nearestAhead c_Items_nearestAhead 5 (some (.object "BranchPress$Item")) 1 g H0 [.ref a, .int k, .int x, .int (nI t)] (some (ir a (nAh S k x (min t c)))) := by
  refine MM.of (by decide +kernel) (Nat.le_of_ble_eq_true rfl) ?_
  intro p e s m below meth cd X hH ls hl
  have X : CX g p s m _ meth cd c_Items_nearestAhead 5 (some (.object "BranchPress$Item")) R_Items _ := X
  have hl : lv_has ls 5 [(0, .ref a), (1, .int k), (2, .int x), (3, .int (nI t))] := hl
  have hS : va_S (AA (noA) H0) H0 H0 [] := va_S.rf
  refine lv_iload_n X.x X.b d_Items_nearestAhead_0 rfl (lv_at hl 3 rfl) ?_
  refine lv_aload_n X.x X.b d_Items_nearestAhead_1 rfl (lv_at hl 0 rfl) ?_
  refine m_get (v := .int (nI c)) X ok_Items hI.1 1 (by decide) k_Items_18 rfl d_Items_nearestAhead_2 ?_
  refine m_min (v := nI (min t c)) X (by decide) wmin_l3 (Nat.le_of_ble_eq_true rfl) hl.1 ⟨Nat.zero_le _, Nat.zero_le _⟩ (nI_min (by omega) (by omega)) d_Items_nearestAhead_5 ?_
  refine lv_iconst (v := 1) X.x X.b d_Items_nearestAhead_8 (by decide) ?_
  refine lv_isub X.x X.b d_Items_nearestAhead_9 ?_
  refine lv_istore (lv' := [(4, .int ((nI (min t c)) - 1)), (0, .ref a), (1, .int k), (2, .int x), (3, .int (nI t))]) X.x X.b d_Items_nearestAhead_10 hl (by decide) rfl (fun ls hl => ?_)
  have lp : ∀ (j : Nat), j ≤ 121 → nAh S k x j = nAh S k x (min t c) → ∀ (locs : List Loc) (ls : Array Slot), va_S (AA (noA) H0) H0 H0 locs → lv_has ls 5 [(0, .ref a), (1, .int k), (2, .int x), (4, .int (nI j - 1))] → W p l e (rmK 1 0 0) s m ([.ref a, .int k, .int x, .int (nI t)] : List Value).toArray below meth cd H0 locs 0 0 (MQ below (QM (some (ir a (nAh S k x (min t c)))) (fun H1 => H1 = H0) (noA) H0) ([.ref a, .int k, .int x, .int (nI t)] : List Value).toArray s 0 0 (AA (noA) H0)) (F0 m 12 ls []) := by
    intro j
    induction j with
    | zero =>
      intro hj hE locs ls hS hl
      refine lv_iload X.x X.b d_Items_nearestAhead_12 (lv_at hl 3 rfl) ?_
      refine lv_if_lt (tgt := 59) X.x X.b d_Items_nearestAhead_14 (by decide) (fun c1 => ?_) (fun c1 => ?_)
      · skip
        have c1q := Int32.not_le.mpr c1
        refine lv_null X.x X.b d_Items_nearestAhead_59 ?_
        exact m_aret X hS (Nat.zero_le _) (Nat.zero_le _) (Or.inl rfl) d_Items_nearestAhead_60 (by rw [← hE]; simp [nAh, ir_n, ir_s, c1, c1q]) rfl
      · exact absurd (by decide) c1
    | succ j ih =>
      intro hj hE locs ls hS hl
      rw [nI_pred] at hl
      refine lv_iload X.x X.b d_Items_nearestAhead_12 (lv_at hl 3 rfl) ?_
      refine lv_if_lt (tgt := 59) X.x X.b d_Items_nearestAhead_14 (by decide) (fun c2 => ?_) (fun c2 => ?_)
      · exact absurd c2 (nI_pos (by omega))
      · skip
        have c2q := Int32.not_lt.mp c2
        refine lv_aload_n X.x X.b d_Items_nearestAhead_17 rfl (lv_at hl 0 rfl) ?_
        refine m_get (v := .ref (a + 1)) X ok_Items hI.1 0 (by decide) k_Items_11 rfl d_Items_nearestAhead_18 ?_
        refine lv_iload X.x X.b d_Items_nearestAhead_21 (lv_at hl 3 rfl) ?_
        refine m_qald (v := .ref (a + 2 + j)) X 4 rfl hI.2.1 (vp_in_nI (by omega) (by decide)) (by rw [nI_clamp (lt31 (by omega))]; rfl) d_Items_nearestAhead_23 ?_
        refine m_get (v := .int (S.1 0 j)) X ok_Item (hI.2.2.1 j (by omega)) 0 (by decide) k_Items_32 rfl d_Items_nearestAhead_24 ?_
        refine lv_iload_n X.x X.b d_Items_nearestAhead_27 rfl (lv_at hl 1 rfl) ?_
        refine lv_icmp_ne (tgt := 53) X.x X.b d_Items_nearestAhead_28 (by decide) (fun c3 => ?_) (fun c3 => ?_)
        · skip
          refine lv_iinc (v := nI j - 1) (lv' := [(4, .int (nI j - 1)), (0, .ref a), (1, .int k), (2, .int x)]) X.x X.b d_Items_nearestAhead_53 hl (k := 3) rfl (nI_dec _) (by decide) rfl (fun ls hl => ?_)
          refine lv_goto (tgt := 12) X.x X.b d_Items_nearestAhead_56 (by decide) ?_
          exact ih (by omega) (by rw [← hE]; simp [nAh, c2, c2q, c3]) _ _ hS (lv_sub hl [1, 2, 3, 0] rfl)
        · skip
          refine lv_aload_n X.x X.b d_Items_nearestAhead_31 rfl (lv_at hl 0 rfl) ?_
          refine m_get (v := .ref (a + 1)) X ok_Items hI.1 0 (by decide) k_Items_11 rfl d_Items_nearestAhead_32 ?_
          refine lv_iload X.x X.b d_Items_nearestAhead_35 (lv_at hl 3 rfl) ?_
          refine m_qald (v := .ref (a + 2 + j)) X 4 rfl hI.2.1 (vp_in_nI (by omega) (by decide)) (by rw [nI_clamp (lt31 (by omega))]; rfl) d_Items_nearestAhead_37 ?_
          refine m_get (v := .int (S.1 1 j)) X ok_Item (hI.2.2.1 j (by omega)) 1 (by decide) k_Items_35 rfl d_Items_nearestAhead_38 ?_
          refine lv_iload_n X.x X.b d_Items_nearestAhead_41 rfl (lv_at hl 2 rfl) ?_
          refine lv_icmp_ne (tgt := 53) X.x X.b d_Items_nearestAhead_42 (by decide) (fun c4 => ?_) (fun c4 => ?_)
          · skip
            refine lv_iinc (v := nI j - 1) (lv' := [(4, .int (nI j - 1)), (0, .ref a), (1, .int k), (2, .int x)]) X.x X.b d_Items_nearestAhead_53 hl (k := 3) rfl (nI_dec _) (by decide) rfl (fun ls hl => ?_)
            refine lv_goto (tgt := 12) X.x X.b d_Items_nearestAhead_56 (by decide) ?_
            exact ih (by omega) (by rw [← hE]; simp [nAh, c2, c2q, c3, c4]) _ _ hS (lv_sub hl [1, 2, 3, 0] rfl)
          · skip
            refine lv_aload_n X.x X.b d_Items_nearestAhead_45 rfl (lv_at hl 0 rfl) ?_
            refine m_get (v := .ref (a + 1)) X ok_Items hI.1 0 (by decide) k_Items_11 rfl d_Items_nearestAhead_46 ?_
            refine lv_iload X.x X.b d_Items_nearestAhead_49 (lv_at hl 3 rfl) ?_
            refine m_qald (v := .ref (a + 2 + j)) X 4 rfl hI.2.1 (vp_in_nI (by omega) (by decide)) (by rw [nI_clamp (lt31 (by omega))]; rfl) d_Items_nearestAhead_51 ?_
            exact m_aret X hS (Nat.zero_le _) (Nat.zero_le _) (Or.inr ⟨_, rfl⟩) d_Items_nearestAhead_52 (by rw [← hE]; simp [nAh, ir_n, ir_s, c2, c2q, c3, c4]) rfl
  exact lp (min t c) (by omega) rfl _ _ hS (lv_sub hl [1, 2, 3, 0] rfl)
set_option maxRecDepth 100000 in
set_option maxHeartbeats 4000000 in
theorem M_Items_nearestBehind (l : Launch) (g : GG) {a c : Nat} {S : IS} {H0 : Heap} (hI : iAt g a c S H0) (hc : c ≤ 121) (k x : Int32) {t : Nat} (ht : t ≤ 121) : MP l y_Items_nearestBehind c_Items_nearestBehind 5 (some (.object "BranchPress$Item")) 1 g H0 [.ref a, .int k, .int x, .int (nI t)] (some (ir a (nBe S k x (c - (t + 1)) (t + 1)))) := by
  refine MM.of (by decide +kernel) (Nat.le_of_ble_eq_true rfl) ?_
  intro p e s m below meth cd X hH ls hl
  have X : CX g p s m _ meth cd c_Items_nearestBehind 5 (some (.object "BranchPress$Item")) R_Items _ := X
  have hl : lv_has ls 5 [(0, .ref a), (1, .int k), (2, .int x), (3, .int (nI t))] := hl
  have hS : va_S (AA (noA) H0) H0 H0 [] := va_S.rf
  refine lv_iload_n X.x X.b d_Items_nearestBehind_0 rfl (lv_at hl 3 rfl) ?_
  refine lv_iconst (v := -1) X.x X.b d_Items_nearestBehind_1 (by decide) ?_
  refine m_max (v := nI t) X (by decide) wmax_l3 (Nat.le_of_ble_eq_true rfl) hl.1 ⟨Nat.zero_le _, Nat.zero_le _⟩ (if_neg (fun z => absurd (Int32.lt_of_lt_of_le z (by decide : (-1 : Int32) ≤ 0)) (nI_pos (by omega)))) d_Items_nearestBehind_2 ?_
  refine lv_iconst (v := 1) X.x X.b d_Items_nearestBehind_5 (by decide) ?_
  refine lv_iadd X.x X.b d_Items_nearestBehind_6 ?_
  refine lv_topi (fun z ez => ?_)
  rw [nI_1] at ez
  subst ez
  refine lv_istore (lv' := [(4, .int (nI (t + 1))), (0, .ref a), (1, .int k), (2, .int x), (3, .int (nI t))]) X.x X.b d_Items_nearestBehind_7 hl (by decide) rfl (fun ls hl => ?_)
  have lp : ∀ (n i : Nat), n = c - i → i < 5000 → (nBe S k x n i = nBe S k x (c - (t + 1)) (t + 1)) → ∀ (locs : List Loc) (ls : Array Slot), va_S (AA (noA) H0) H0 H0 locs → lv_has ls 5 [(0, .ref a), (1, .int k), (2, .int x), (4, .int (nI i))] → W p l e (rmK 1 0 0) s m ([.ref a, .int k, .int x, .int (nI t)] : List Value).toArray below meth cd H0 locs 0 0 (MQ below (QM (some (ir a (nBe S k x (c - (t + 1)) (t + 1)))) (fun H1 => H1 = H0) (noA) H0) ([.ref a, .int k, .int x, .int (nI t)] : List Value).toArray s 0 0 (AA (noA) H0)) (F0 m 9 ls []) := by
    intro n
    induction n with
    | zero =>
      intro i hin hi5 hE locs ls hS hl
      refine lv_iload X.x X.b d_Items_nearestBehind_9 (lv_at hl 3 rfl) ?_
      refine lv_aload_n X.x X.b d_Items_nearestBehind_11 rfl (lv_at hl 0 rfl) ?_
      refine m_get (v := .int (nI c)) X ok_Items hI.1 1 (by decide) k_Items_18 rfl d_Items_nearestBehind_12 ?_
      refine lv_icmp_ge (tgt := 60) X.x X.b d_Items_nearestBehind_15 (by decide) (fun c1 => ?_) (fun c1 => ?_)
      · skip
        have c1q := Int32.not_lt.mpr c1
        refine lv_null X.x X.b d_Items_nearestBehind_60 ?_
        exact m_aret X hS (Nat.zero_le _) (Nat.zero_le _) (Or.inl rfl) d_Items_nearestBehind_61 (by rw [← hE]; simp [nBe, ir_n, ir_s, c1, c1q]) rfl
      · exact absurd ((nI_leI (a := c) (b := i) (by omega) (by omega)).mpr (by omega)) c1
    | succ n ih =>
      intro i hin hi5 hE locs ls hS hl
      refine lv_iload X.x X.b d_Items_nearestBehind_9 (lv_at hl 3 rfl) ?_
      refine lv_aload_n X.x X.b d_Items_nearestBehind_11 rfl (lv_at hl 0 rfl) ?_
      refine m_get (v := .int (nI c)) X ok_Items hI.1 1 (by decide) k_Items_18 rfl d_Items_nearestBehind_12 ?_
      refine lv_icmp_ge (tgt := 60) X.x X.b d_Items_nearestBehind_15 (by decide) (fun c2 => ?_) (fun c2 => ?_)
      · exact absurd ((nI_leI (a := c) (b := i) (by omega) (by omega)).mp c2) (by omega)
      · skip
        have c2q := Int32.not_le.mp c2
        refine lv_aload_n X.x X.b d_Items_nearestBehind_18 rfl (lv_at hl 0 rfl) ?_
        refine m_get (v := .ref (a + 1)) X ok_Items hI.1 0 (by decide) k_Items_11 rfl d_Items_nearestBehind_19 ?_
        refine lv_iload X.x X.b d_Items_nearestBehind_22 (lv_at hl 3 rfl) ?_
        refine m_qald (v := .ref (a + 2 + i)) X 4 rfl hI.2.1 (vp_in_nI (by omega) (by decide)) (by rw [nI_clamp (lt31 (by omega))]; rfl) d_Items_nearestBehind_24 ?_
        refine m_get (v := .int (S.1 0 i)) X ok_Item (hI.2.2.1 i (by omega)) 0 (by decide) k_Items_32 rfl d_Items_nearestBehind_25 ?_
        refine lv_iload_n X.x X.b d_Items_nearestBehind_28 rfl (lv_at hl 1 rfl) ?_
        refine lv_icmp_ne (tgt := 54) X.x X.b d_Items_nearestBehind_29 (by decide) (fun c3 => ?_) (fun c3 => ?_)
        · skip
          refine lv_iinc (v := nI (i + 1)) (lv' := [(4, .int (nI (i + 1))), (0, .ref a), (1, .int k), (2, .int x)]) X.x X.b d_Items_nearestBehind_54 hl (k := 3) rfl (nI_1 i) (by decide) rfl (fun ls hl => ?_)
          refine lv_goto (tgt := 9) X.x X.b d_Items_nearestBehind_57 (by decide) ?_
          exact ih (i + 1) (by omega) (by omega) (by rw [← hE]; simp [nBe, c2, c2q, c3]) _ _ hS (lv_sub hl [1, 2, 3, 0] rfl)
        · skip
          refine lv_aload_n X.x X.b d_Items_nearestBehind_32 rfl (lv_at hl 0 rfl) ?_
          refine m_get (v := .ref (a + 1)) X ok_Items hI.1 0 (by decide) k_Items_11 rfl d_Items_nearestBehind_33 ?_
          refine lv_iload X.x X.b d_Items_nearestBehind_36 (lv_at hl 3 rfl) ?_
          refine m_qald (v := .ref (a + 2 + i)) X 4 rfl hI.2.1 (vp_in_nI (by omega) (by decide)) (by rw [nI_clamp (lt31 (by omega))]; rfl) d_Items_nearestBehind_38 ?_
          refine m_get (v := .int (S.1 1 i)) X ok_Item (hI.2.2.1 i (by omega)) 1 (by decide) k_Items_35 rfl d_Items_nearestBehind_39 ?_
          refine lv_iload_n X.x X.b d_Items_nearestBehind_42 rfl (lv_at hl 2 rfl) ?_
          refine lv_icmp_ne (tgt := 54) X.x X.b d_Items_nearestBehind_43 (by decide) (fun c4 => ?_) (fun c4 => ?_)
          · skip
            refine lv_iinc (v := nI (i + 1)) (lv' := [(4, .int (nI (i + 1))), (0, .ref a), (1, .int k), (2, .int x)]) X.x X.b d_Items_nearestBehind_54 hl (k := 3) rfl (nI_1 i) (by decide) rfl (fun ls hl => ?_)
            refine lv_goto (tgt := 9) X.x X.b d_Items_nearestBehind_57 (by decide) ?_
            exact ih (i + 1) (by omega) (by omega) (by rw [← hE]; simp [nBe, c2, c2q, c3, c4]) _ _ hS (lv_sub hl [1, 2, 3, 0] rfl)
          · skip
            refine lv_aload_n X.x X.b d_Items_nearestBehind_46 rfl (lv_at hl 0 rfl) ?_
            refine m_get (v := .ref (a + 1)) X ok_Items hI.1 0 (by decide) k_Items_11 rfl d_Items_nearestBehind_47 ?_
            refine lv_iload X.x X.b d_Items_nearestBehind_50 (lv_at hl 3 rfl) ?_
            refine m_qald (v := .ref (a + 2 + i)) X 4 rfl hI.2.1 (vp_in_nI (by omega) (by decide)) (by rw [nI_clamp (lt31 (by omega))]; rfl) d_Items_nearestBehind_52 ?_
            exact m_aret X hS (Nat.zero_le _) (Nat.zero_le _) (Or.inr ⟨_, rfl⟩) d_Items_nearestBehind_53 (by rw [← hE]; simp [nBe, ir_n, ir_s, c2, c2q, c3, c4]) rfl
  exact lp (c - (t + 1)) (t + 1) (by omega) (by omega) (rfl) _ _ hS (lv_sub hl [1, 2, 3, 0] rfl)
set_option maxRecDepth 100000 in
set_option maxHeartbeats 4000000 in
theorem M_Items_giverOf (l : Launch) (g : GG) {a c : Nat} {S : IS} {H0 : Heap} (hI : iAt g a c S H0) (hc : c ≤ 121) (x : Int32) {t : Nat} (ht : t ≤ 121) : MP l y_Items_giverOf c_Items_giverOf 4 (some (.object "BranchPress$Item")) 2 g H0 [.ref a, .int x, .int (nI t)] (some (ir a (gvO S c x t))) := by
  refine MM.of (by decide +kernel) (Nat.le_of_ble_eq_true rfl) ?_
  intro p e s m below meth cd X hH ls hl
  have X : CX g p s m _ meth cd c_Items_giverOf 4 (some (.object "BranchPress$Item")) R_Items _ := X
  have hl : lv_has ls 4 [(0, .ref a), (1, .int x), (2, .int (nI t))] := hl
  have hS : va_S (AA (noA) H0) H0 H0 [] := va_S.rf
  refine lv_iload_n X.x X.b d_Items_giverOf_0 rfl (lv_at hl 1 rfl) ?_
  refine lv_bipush (v := 9) X.x X.b d_Items_giverOf_1 (by decide) ?_
  refine lv_icmp_le (tgt := 16) X.x X.b d_Items_giverOf_3 (by decide) (fun c1 => ?_) (fun c1 => ?_)
  · skip
    have c1q := Int32.not_lt.mpr c1
    refine lv_aload_n X.x X.b d_Items_giverOf_16 rfl (lv_at hl 0 rfl) ?_
    refine lv_iconst (v := 0) X.x X.b d_Items_giverOf_17 (by decide) ?_
    refine lv_iload_n X.x X.b d_Items_giverOf_18 rfl (lv_at hl 1 rfl) ?_
    refine lv_iload_n X.x X.b d_Items_giverOf_19 rfl (lv_at hl 2 rfl) ?_
    refine m_callP X hS (M_Items_nearestAhead l g hI hc 0 x ht) v_Items_45 hI.1 rfl rfl rfl (Nat.le_of_ble_eq_true rfl) hl.1 d_Items_giverOf_20 (by omega) (by decide) ⟨Nat.zero_le _, Nat.zero_le _⟩ (fun locs hS => ?_)
    rcases o2 : nAh S 0 x (min t c) with _ | j3
    · skip
      try rw [o2]
      refine lv_astore_nN (lv' := [(3, .null), (0, .ref a), (1, .int x), (2, .int (nI t))]) X.x X.b d_Items_giverOf_23 rfl hl (by decide) rfl (fun ls hl => ?_)
      refine lv_aload_nN X.x X.b d_Items_giverOf_24 rfl (lv_at hl 0 rfl) ?_
      refine lv_ifnonnullN X.x X.b d_Items_giverOf_25 ?_
      refine lv_iload_n X.x X.b d_Items_giverOf_28 rfl (lv_at hl 2 rfl) ?_
      refine lv_bipush (v := 8) X.x X.b d_Items_giverOf_29 (by decide) ?_
      refine lv_icmp_ge (tgt := 42) X.x X.b d_Items_giverOf_31 (by decide) (fun c4 => ?_) (fun c4 => ?_)
      · skip
        have c4q := Int32.not_lt.mpr c4
        refine lv_aload_nN X.x X.b d_Items_giverOf_42 rfl (lv_at hl 0 rfl) ?_
        refine lv_ifnonnullN X.x X.b d_Items_giverOf_43 ?_
        refine lv_iload_n X.x X.b d_Items_giverOf_46 rfl (lv_at hl 2 rfl) ?_
        refine lv_bipush (v := 8) X.x X.b d_Items_giverOf_47 (by decide) ?_
        refine lv_icmp_ge (tgt := 60) X.x X.b d_Items_giverOf_49 (by decide) (fun c5 => ?_) (fun c5 => ?_)
        · skip
          have c5q := Int32.not_lt.mpr c5
          refine lv_aload_nN X.x X.b d_Items_giverOf_60 rfl (lv_at hl 0 rfl) ?_
          exact m_aret X hS (Nat.zero_le _) (Nat.zero_le _) (Or.inl rfl) d_Items_giverOf_61 (by simp [gvO, ir_n, ir_s, c1, c1q, o2, c4, c4q, c5, c5q]) rfl
        · exact absurd c4 c5
      · skip
        have c4q := Int32.not_le.mp c4
        refine lv_aload_n X.x X.b d_Items_giverOf_34 rfl (lv_at hl 1 rfl) ?_
        refine lv_iconst (v := 0) X.x X.b d_Items_giverOf_35 (by decide) ?_
        refine lv_iload_n X.x X.b d_Items_giverOf_36 rfl (lv_at hl 2 rfl) ?_
        refine lv_iload_n X.x X.b d_Items_giverOf_37 rfl (lv_at hl 3 rfl) ?_
        refine m_callP X hS (M_Items_nearestBehind l g hI hc 0 x ht) v_Items_41 hI.1 rfl rfl rfl (Nat.le_of_ble_eq_true rfl) hl.1 d_Items_giverOf_38 (by omega) (by decide) ⟨Nat.zero_le _, Nat.zero_le _⟩ (fun locs hS => ?_)
        rcases o6 : nBe S 0 x (c - (t + 1)) (t + 1) with _ | j7
        · skip
          try rw [o6]
          refine lv_astore_nN (lv' := [(3, .null), (0, .ref a), (1, .int x), (2, .int (nI t))]) X.x X.b d_Items_giverOf_41 rfl hl (by decide) rfl (fun ls hl => ?_)
          refine lv_aload_nN X.x X.b d_Items_giverOf_42 rfl (lv_at hl 0 rfl) ?_
          refine lv_ifnonnullN X.x X.b d_Items_giverOf_43 ?_
          refine lv_iload_n X.x X.b d_Items_giverOf_46 rfl (lv_at hl 2 rfl) ?_
          refine lv_bipush (v := 8) X.x X.b d_Items_giverOf_47 (by decide) ?_
          refine lv_icmp_ge (tgt := 60) X.x X.b d_Items_giverOf_49 (by decide) (fun c8 => ?_) (fun c8 => ?_)
          · exact absurd c8 c4
          · skip
            have c8q := Int32.not_le.mp c8
            refine lv_aload_n X.x X.b d_Items_giverOf_52 rfl (lv_at hl 1 rfl) ?_
            refine lv_iconst (v := 1) X.x X.b d_Items_giverOf_53 (by decide) ?_
            refine lv_iload_n X.x X.b d_Items_giverOf_54 rfl (lv_at hl 2 rfl) ?_
            refine lv_iload_n X.x X.b d_Items_giverOf_55 rfl (lv_at hl 3 rfl) ?_
            refine m_callP X hS (M_Items_nearestAhead l g hI hc 1 x ht) v_Items_45 hI.1 rfl rfl rfl (Nat.le_of_ble_eq_true rfl) hl.1 d_Items_giverOf_56 (by omega) (by decide) ⟨Nat.zero_le _, Nat.zero_le _⟩ (fun locs hS => ?_)
            rcases o9 : nAh S 1 x (min t c) with _ | j10
            · skip
              try rw [o9]
              refine lv_astore_nN (lv' := [(3, .null), (0, .ref a), (1, .int x), (2, .int (nI t))]) X.x X.b d_Items_giverOf_59 rfl hl (by decide) rfl (fun ls hl => ?_)
              refine lv_aload_nN X.x X.b d_Items_giverOf_60 rfl (lv_at hl 0 rfl) ?_
              exact m_aret X hS (Nat.zero_le _) (Nat.zero_le _) (Or.inl rfl) d_Items_giverOf_61 (by simp [gvO, ir_n, ir_s, c1, c1q, o2, c4, c4q, o6, c8, c8q, o9]) rfl
            · skip
              try rw [o9]
              refine lv_astore_n (lv' := [(3, .ref (a + 2 + j10)), (0, .ref a), (1, .int x), (2, .int (nI t))]) X.x X.b d_Items_giverOf_59 rfl hl (by decide) rfl (fun ls hl => ?_)
              refine lv_aload_n X.x X.b d_Items_giverOf_60 rfl (lv_at hl 0 rfl) ?_
              exact m_aret X hS (Nat.zero_le _) (Nat.zero_le _) (Or.inr ⟨_, rfl⟩) d_Items_giverOf_61 (by simp [gvO, ir_n, ir_s, c1, c1q, o2, c4, c4q, o6, c8, c8q, o9]) rfl
        · skip
          try rw [o6]
          refine lv_astore_n (lv' := [(3, .ref (a + 2 + j7)), (0, .ref a), (1, .int x), (2, .int (nI t))]) X.x X.b d_Items_giverOf_41 rfl hl (by decide) rfl (fun ls hl => ?_)
          refine lv_aload_n X.x X.b d_Items_giverOf_42 rfl (lv_at hl 0 rfl) ?_
          refine lv_ifnonnull (tgt := 60) X.x X.b d_Items_giverOf_43 (by decide) ?_
          refine lv_aload_n X.x X.b d_Items_giverOf_60 rfl (lv_at hl 0 rfl) ?_
          exact m_aret X hS (Nat.zero_le _) (Nat.zero_le _) (Or.inr ⟨_, rfl⟩) d_Items_giverOf_61 (by simp [gvO, ir_n, ir_s, c1, c1q, o2, c4, c4q, o6]) rfl
    · skip
      try rw [o2]
      refine lv_astore_n (lv' := [(3, .ref (a + 2 + j3)), (0, .ref a), (1, .int x), (2, .int (nI t))]) X.x X.b d_Items_giverOf_23 rfl hl (by decide) rfl (fun ls hl => ?_)
      refine lv_aload_n X.x X.b d_Items_giverOf_24 rfl (lv_at hl 0 rfl) ?_
      refine lv_ifnonnull (tgt := 42) X.x X.b d_Items_giverOf_25 (by decide) ?_
      refine lv_aload_n X.x X.b d_Items_giverOf_42 rfl (lv_at hl 0 rfl) ?_
      refine lv_ifnonnull (tgt := 60) X.x X.b d_Items_giverOf_43 (by decide) ?_
      refine lv_aload_n X.x X.b d_Items_giverOf_60 rfl (lv_at hl 0 rfl) ?_
      exact m_aret X hS (Nat.zero_le _) (Nat.zero_le _) (Or.inr ⟨_, rfl⟩) d_Items_giverOf_61 (by simp [gvO, ir_n, ir_s, c1, c1q, o2]) rfl
  · skip
    have c1q := Int32.not_le.mp c1
    refine lv_aload_n X.x X.b d_Items_giverOf_6 rfl (lv_at hl 0 rfl) ?_
    refine lv_iconst (v := 0) X.x X.b d_Items_giverOf_7 (by decide) ?_
    refine lv_iload_n X.x X.b d_Items_giverOf_8 rfl (lv_at hl 1 rfl) ?_
    refine lv_iconst (v := 2) X.x X.b d_Items_giverOf_9 (by decide) ?_
    refine lv_isub X.x X.b d_Items_giverOf_10 ?_
    refine lv_iload_n X.x X.b d_Items_giverOf_11 rfl (lv_at hl 2 rfl) ?_
    refine m_callP X hS (M_Items_nearestBehind l g hI hc 0 (x - 2) ht) v_Items_41 hI.1 rfl rfl rfl (Nat.le_of_ble_eq_true rfl) hl.1 d_Items_giverOf_12 (by omega) (by decide) ⟨Nat.zero_le _, Nat.zero_le _⟩ (fun locs hS => ?_)
    rcases o11 : nBe S 0 (x - 2) (c - (t + 1)) (t + 1) with _ | j12
    · skip
      try rw [o11]
      exact m_aret X hS (Nat.zero_le _) (Nat.zero_le _) (Or.inl rfl) d_Items_giverOf_15 (by simp [gvO, ir_n, ir_s, c1, c1q, o11]) rfl
    · skip
      try rw [o11]
      exact m_aret X hS (Nat.zero_le _) (Nat.zero_le _) (Or.inr ⟨_, rfl⟩) d_Items_giverOf_15 (by simp [gvO, ir_n, ir_s, c1, c1q, o11]) rfl
theorem M_Items_giverOf2 (l : Launch) (g : GG) {a c : Nat} {S S2 : IS} {H0 : Heap} (h : S.1 = S2.1) (hI : iAt g a c S H0) (hc : c ≤ 121) (x : Int32) {t : Nat} (ht : t ≤ 121) : MP l y_Items_giverOf c_Items_giverOf 4 (some (.object "BranchPress$Item")) 2 g H0 [.ref a, .int x, .int (nI t)] (some (ir a (gvO S2 c x t))) := by
  rw [← gvO_1 h]
  exact M_Items_giverOf l g hI hc x ht
set_option maxRecDepth 100000 in
set_option maxHeartbeats 4000000 in
theorem M_Items_linkValues (l : Launch) (g : GG) {a c : Nat} {S : IS} {H0 : Heap} (hI : iAt g a c S H0) (hc : c ≤ 121) : MM l y_Items_linkValues c_Items_linkValues 3 (some .int) 3 0 0 g H0 [.ref a] (iF a) (some (.int (lkv c c 0 S).2)) (fun H1 => iAt g a c (lkv c c 0 S).1 H1) := by
  refine MM.of (by decide +kernel) (Nat.le_of_ble_eq_true rfl) ?_
  intro p e s m below meth cd X hH ls hl
  have X : CX g p s m _ meth cd c_Items_linkValues 3 (some .int) R_Items _ := X
  have hl : lv_has ls 3 [(0, .ref a)] := hl
  have hS : va_S (AA (iF a) H0) H0 H0 [] := va_S.rf
  refine lv_iconst (v := 0) X.x X.b d_Items_linkValues_0 (by decide) ?_
  refine lv_istore_n (lv' := [(1, .int 0), (0, .ref a)]) X.x X.b d_Items_linkValues_1 rfl hl (by decide) rfl (fun ls hl => ?_)
  have lp : ∀ (n i : Nat) (Sx : IS), n = c - i → i < 5000 → (lkv c n i Sx = lkv c c 0 S) → ∀ (H : Heap) (locs : List Loc) (ls : Array Slot), iAt g a c Sx H → va_S (AA (iF a) H0) H0 H locs → lv_has ls 3 [(0, .ref a), (1, .int (nI i))] → W p l e (rmK 3 0 0) s m ([.ref a] : List Value).toArray below meth cd H locs 0 0 (MQ below (QM (some (.int (lkv c c 0 S).2)) (fun H1 => iAt g a c (lkv c c 0 S).1 H1) (iF a) H0) ([.ref a] : List Value).toArray s 0 0 (AA (iF a) H0)) (F0 m 2 ls []) := by
    intro n
    induction n with
    | zero =>
      intro i Sx hin hi5 hE H locs ls hI hS hl
      refine lv_iload_n X.x X.b d_Items_linkValues_2 rfl (lv_at hl 1 rfl) ?_
      refine lv_aload_n X.x X.b d_Items_linkValues_3 rfl (lv_at hl 0 rfl) ?_
      refine m_get (v := .int (nI c)) X ok_Items hI.1 1 (by decide) k_Items_18 rfl d_Items_linkValues_4 ?_
      refine lv_icmp_ge (tgt := 115) X.x X.b d_Items_linkValues_7 (by decide) (fun c1 => ?_) (fun c1 => ?_)
      · skip
        have c1q := Int32.not_lt.mpr c1
        refine lv_iconst (v := -1) X.x X.b d_Items_linkValues_115 (by decide) ?_
        exact m_iret X hS (Nat.zero_le _) (Nat.zero_le _) d_Items_linkValues_116 (by rw [← hE]; rfl) (by rw [← hE]; exact hI)
      · exact absurd ((nI_leI (a := c) (b := i) (by omega) (by omega)).mpr (by omega)) c1
    | succ n ih =>
      intro i Sx hin hi5 hE H locs ls hI hS hl
      refine lv_iload_n X.x X.b d_Items_linkValues_2 rfl (lv_at hl 1 rfl) ?_
      refine lv_aload_n X.x X.b d_Items_linkValues_3 rfl (lv_at hl 0 rfl) ?_
      refine m_get (v := .int (nI c)) X ok_Items hI.1 1 (by decide) k_Items_18 rfl d_Items_linkValues_4 ?_
      refine lv_icmp_ge (tgt := 115) X.x X.b d_Items_linkValues_7 (by decide) (fun c2 => ?_) (fun c2 => ?_)
      · exact absurd ((nI_leI (a := c) (b := i) (by omega) (by omega)).mp c2) (by omega)
      · skip
        have c2q := Int32.not_le.mp c2
        refine lv_aload_n X.x X.b d_Items_linkValues_10 rfl (lv_at hl 0 rfl) ?_
        refine m_get (v := .ref (a + 1)) X ok_Items hI.1 0 (by decide) k_Items_11 rfl d_Items_linkValues_11 ?_
        refine lv_iload_n X.x X.b d_Items_linkValues_14 rfl (lv_at hl 1 rfl) ?_
        refine m_qald (v := .ref (a + 2 + i)) X 4 rfl hI.2.1 (vp_in_nI (by omega) (by decide)) (by rw [nI_clamp (lt31 (by omega))]; rfl) d_Items_linkValues_15 ?_
        refine lv_astore_n (lv' := [(2, .ref (a + 2 + i)), (0, .ref a), (1, .int (nI i))]) X.x X.b d_Items_linkValues_16 rfl hl (by decide) rfl (fun ls hl => ?_)
        refine lv_aload_n X.x X.b d_Items_linkValues_17 rfl (lv_at hl 0 rfl) ?_
        refine m_callP X hS (M_Item_hasValue l g hI (by omega)) v_Items_48 (hI.2.2.1 i (by omega)) rfl rfl rfl (Nat.le_of_ble_eq_true rfl) hl.1 d_Items_linkValues_18 (by omega) (by decide) ⟨Nat.zero_le _, Nat.zero_le _⟩ (fun locs hS => ?_)
        refine lv_if_ne (tgt := 27) X.x X.b d_Items_linkValues_21 (by decide) (fun c3 => ?_) (fun c3 => ?_)
        · skip
          have c3 := b2i_n0 c3
          refine lv_aload_n X.x X.b d_Items_linkValues_27 rfl (lv_at hl 0 rfl) ?_
          refine lv_aload_n X.x X.b d_Items_linkValues_28 rfl (lv_at hl 0 rfl) ?_
          refine m_get (v := .int (Sx.1 1 i)) X ok_Item (hI.2.2.1 i (by omega)) 1 (by decide) k_Items_35 rfl d_Items_linkValues_29 ?_
          refine lv_iconst (v := -1) X.x X.b d_Items_linkValues_32 (by decide) ?_
          refine lv_icmp_ne (tgt := 40) X.x X.b d_Items_linkValues_33 (by decide) (fun c4 => ?_) (fun c4 => ?_)
          · skip
            refine lv_aload_n X.x X.b d_Items_linkValues_40 rfl (lv_at hl 1 rfl) ?_
            refine lv_aload_n X.x X.b d_Items_linkValues_41 rfl (lv_at hl 0 rfl) ?_
            refine m_get (v := .int (Sx.1 1 i)) X ok_Item (hI.2.2.1 i (by omega)) 1 (by decide) k_Items_35 rfl d_Items_linkValues_42 ?_
            refine lv_iload_n X.x X.b d_Items_linkValues_45 rfl (lv_at hl 2 rfl) ?_
            refine m_callP X hS (M_Items_giverOf2 (S := Sx) (S2 := Sx) l g rfl hI hc (Sx.1 1 i) (t := i) (by omega)) v_Items_52 hI.1 rfl rfl rfl (Nat.le_of_ble_eq_true rfl) hl.1 d_Items_linkValues_46 (by omega) (by decide) ⟨Nat.zero_le _, Nat.zero_le _⟩ (fun locs hS => ?_)
            rcases o5 : gvO Sx c (Sx.1 1 i) i with _ | j6
            · skip
              try rw [o5]
              refine m_put X ok_Item hS (Or.inl ⟨by omega, by omega⟩) (hI.2.2.1 i (by omega)) 7 (by decide) k_Items_56 rfl (ok_Item.2.2.1 _ (by decide)) rfl rfl (Nat.le_of_ble_eq_true rfl) d_Items_linkValues_49 (fun H locs hp hcg hS => ?_)
              have hI := hI.pR (k := 7) (o := none) (by omega) (fun _ z => by cases z) hp hcg (by simp [iv, sR, ir, va_rf])
              refine lv_aload_n X.x X.b d_Items_linkValues_52 rfl (lv_at hl 0 rfl) ?_
              refine lv_aload_n X.x X.b d_Items_linkValues_53 rfl (lv_at hl 0 rfl) ?_
              refine m_get (v := .int (Sx.1 2 i)) X ok_Item (hI.2.2.1 i (by omega)) 2 (by decide) k_Items_60 rfl d_Items_linkValues_54 ?_
              refine lv_iconst (v := -1) X.x X.b d_Items_linkValues_57 (by decide) ?_
              refine lv_icmp_ne (tgt := 65) X.x X.b d_Items_linkValues_58 (by decide) (fun c7 => ?_) (fun c7 => ?_)
              · skip
                refine lv_aload_n X.x X.b d_Items_linkValues_65 rfl (lv_at hl 1 rfl) ?_
                refine lv_aload_n X.x X.b d_Items_linkValues_66 rfl (lv_at hl 0 rfl) ?_
                refine m_get (v := .int (Sx.1 2 i)) X ok_Item (hI.2.2.1 i (by omega)) 2 (by decide) k_Items_60 rfl d_Items_linkValues_67 ?_
                refine lv_iload_n X.x X.b d_Items_linkValues_70 rfl (lv_at hl 2 rfl) ?_
                refine m_callP X hS (M_Items_giverOf2 (S := (sR Sx 7 i none)) (S2 := Sx) l g rfl hI hc (Sx.1 2 i) (t := i) (by omega)) v_Items_52 hI.1 rfl rfl rfl (Nat.le_of_ble_eq_true rfl) hl.1 d_Items_linkValues_71 (by omega) (by decide) ⟨Nat.zero_le _, Nat.zero_le _⟩ (fun locs hS => ?_)
                rcases o8 : gvO Sx c (Sx.1 2 i) i with _ | j9
                · skip
                  try rw [o8]
                  refine m_put X ok_Item hS (Or.inl ⟨by omega, by omega⟩) (hI.2.2.1 i (by omega)) 8 (by decide) k_Items_63 rfl (ok_Item.2.2.1 _ (by decide)) rfl rfl (Nat.le_of_ble_eq_true rfl) d_Items_linkValues_74 (fun H locs hp hcg hS => ?_)
                  have hI := hI.pR (k := 8) (o := none) (by omega) (fun _ z => by cases z) hp hcg (by simp [iv, sR, ir, va_rf])
                  refine lv_aload_n X.x X.b d_Items_linkValues_77 rfl (lv_at hl 0 rfl) ?_
                  refine m_get (v := .int (Sx.1 1 i)) X ok_Item (hI.2.2.1 i (by omega)) 1 (by decide) k_Items_35 rfl d_Items_linkValues_78 ?_
                  refine lv_iconst (v := -1) X.x X.b d_Items_linkValues_81 (by decide) ?_
                  refine lv_icmp_eq (tgt := 92) X.x X.b d_Items_linkValues_82 (by decide) (fun c10 => ?_) (fun c10 => ?_)
                  · exact absurd c10 c4
                  · skip
                    refine lv_aload_n X.x X.b d_Items_linkValues_85 rfl (lv_at hl 0 rfl) ?_
                    refine m_get (v := .null) X ok_Item (hI.2.2.1 i (by omega)) 7 (by decide) k_Items_56 (by simp [iv, sR, ir_n, ir_s]) d_Items_linkValues_86 ?_
                    refine lv_ifnullN (tgt := 107) X.x X.b d_Items_linkValues_89 (by decide) ?_
                    refine lv_iload_n X.x X.b d_Items_linkValues_107 rfl (lv_at hl 2 rfl) ?_
                    have hM : lkv c (n + 1) i Sx = ((sR (sR Sx 7 i none) 8 i none), nI i) := by simp [lkv, lkS, xgO, misF, c2, c2q, c3, c4, o5, c7, o8, c10]
                    exact m_iret X hS (Nat.zero_le _) (Nat.zero_le _) d_Items_linkValues_108 (by rw [← hE, hM]) (by rw [← hE, hM]; exact hI)
                · skip
                  try rw [o8]
                  refine m_put X ok_Item hS (Or.inl ⟨by omega, by omega⟩) (hI.2.2.1 i (by omega)) 8 (by decide) k_Items_63 rfl (ok_Item.2.2.1 _ (by decide)) rfl rfl (Nat.le_of_ble_eq_true rfl) d_Items_linkValues_74 (fun H locs hp hcg hS => ?_)
                  have hI := hI.pR (k := 8) (o := some j9) (by omega) (fun _ z => by cases z; exact (Nat.lt_of_lt_of_le (gvO_lt o8) hc)) hp hcg (by simp [iv, sR, ir, va_rf])
                  refine lv_aload_n X.x X.b d_Items_linkValues_77 rfl (lv_at hl 0 rfl) ?_
                  refine m_get (v := .int (Sx.1 1 i)) X ok_Item (hI.2.2.1 i (by omega)) 1 (by decide) k_Items_35 rfl d_Items_linkValues_78 ?_
                  refine lv_iconst (v := -1) X.x X.b d_Items_linkValues_81 (by decide) ?_
                  refine lv_icmp_eq (tgt := 92) X.x X.b d_Items_linkValues_82 (by decide) (fun c11 => ?_) (fun c11 => ?_)
                  · exact absurd c11 c4
                  · skip
                    refine lv_aload_n X.x X.b d_Items_linkValues_85 rfl (lv_at hl 0 rfl) ?_
                    refine m_get (v := .null) X ok_Item (hI.2.2.1 i (by omega)) 7 (by decide) k_Items_56 (by simp [iv, sR, ir_n, ir_s]) d_Items_linkValues_86 ?_
                    refine lv_ifnullN (tgt := 107) X.x X.b d_Items_linkValues_89 (by decide) ?_
                    refine lv_iload_n X.x X.b d_Items_linkValues_107 rfl (lv_at hl 2 rfl) ?_
                    have hM : lkv c (n + 1) i Sx = ((sR (sR Sx 7 i none) 8 i (some j9)), nI i) := by simp [lkv, lkS, xgO, misF, c2, c2q, c3, c4, o5, c7, o8, c11]
                    exact m_iret X hS (Nat.zero_le _) (Nat.zero_le _) d_Items_linkValues_108 (by rw [← hE, hM]) (by rw [← hE, hM]; exact hI)
              · skip
                refine lv_null X.x X.b d_Items_linkValues_61 ?_
                refine lv_goto (tgt := 74) X.x X.b d_Items_linkValues_62 (by decide) ?_
                refine m_put X ok_Item hS (Or.inl ⟨by omega, by omega⟩) (hI.2.2.1 i (by omega)) 8 (by decide) k_Items_63 rfl (ok_Item.2.2.1 _ (by decide)) rfl rfl (Nat.le_of_ble_eq_true rfl) d_Items_linkValues_74 (fun H locs hp hcg hS => ?_)
                have hI := hI.pR (k := 8) (o := none) (by omega) (fun _ z => by cases z) hp hcg (by simp [iv, sR, ir, va_rf])
                refine lv_aload_n X.x X.b d_Items_linkValues_77 rfl (lv_at hl 0 rfl) ?_
                refine m_get (v := .int (Sx.1 1 i)) X ok_Item (hI.2.2.1 i (by omega)) 1 (by decide) k_Items_35 rfl d_Items_linkValues_78 ?_
                refine lv_iconst (v := -1) X.x X.b d_Items_linkValues_81 (by decide) ?_
                refine lv_icmp_eq (tgt := 92) X.x X.b d_Items_linkValues_82 (by decide) (fun c12 => ?_) (fun c12 => ?_)
                · exact absurd c12 c4
                · skip
                  refine lv_aload_n X.x X.b d_Items_linkValues_85 rfl (lv_at hl 0 rfl) ?_
                  refine m_get (v := .null) X ok_Item (hI.2.2.1 i (by omega)) 7 (by decide) k_Items_56 (by simp [iv, sR, ir_n, ir_s]) d_Items_linkValues_86 ?_
                  refine lv_ifnullN (tgt := 107) X.x X.b d_Items_linkValues_89 (by decide) ?_
                  refine lv_iload_n X.x X.b d_Items_linkValues_107 rfl (lv_at hl 2 rfl) ?_
                  have hM : lkv c (n + 1) i Sx = ((sR (sR Sx 7 i none) 8 i none), nI i) := by simp [lkv, lkS, xgO, misF, c2, c2q, c3, c4, o5, c7, c12]
                  exact m_iret X hS (Nat.zero_le _) (Nat.zero_le _) d_Items_linkValues_108 (by rw [← hE, hM]) (by rw [← hE, hM]; exact hI)
            · skip
              try rw [o5]
              refine m_put X ok_Item hS (Or.inl ⟨by omega, by omega⟩) (hI.2.2.1 i (by omega)) 7 (by decide) k_Items_56 rfl (ok_Item.2.2.1 _ (by decide)) rfl rfl (Nat.le_of_ble_eq_true rfl) d_Items_linkValues_49 (fun H locs hp hcg hS => ?_)
              have hI := hI.pR (k := 7) (o := some j6) (by omega) (fun _ z => by cases z; exact (Nat.lt_of_lt_of_le (gvO_lt o5) hc)) hp hcg (by simp [iv, sR, ir, va_rf])
              refine lv_aload_n X.x X.b d_Items_linkValues_52 rfl (lv_at hl 0 rfl) ?_
              refine lv_aload_n X.x X.b d_Items_linkValues_53 rfl (lv_at hl 0 rfl) ?_
              refine m_get (v := .int (Sx.1 2 i)) X ok_Item (hI.2.2.1 i (by omega)) 2 (by decide) k_Items_60 rfl d_Items_linkValues_54 ?_
              refine lv_iconst (v := -1) X.x X.b d_Items_linkValues_57 (by decide) ?_
              refine lv_icmp_ne (tgt := 65) X.x X.b d_Items_linkValues_58 (by decide) (fun c13 => ?_) (fun c13 => ?_)
              · skip
                refine lv_aload_n X.x X.b d_Items_linkValues_65 rfl (lv_at hl 1 rfl) ?_
                refine lv_aload_n X.x X.b d_Items_linkValues_66 rfl (lv_at hl 0 rfl) ?_
                refine m_get (v := .int (Sx.1 2 i)) X ok_Item (hI.2.2.1 i (by omega)) 2 (by decide) k_Items_60 rfl d_Items_linkValues_67 ?_
                refine lv_iload_n X.x X.b d_Items_linkValues_70 rfl (lv_at hl 2 rfl) ?_
                refine m_callP X hS (M_Items_giverOf2 (S := (sR Sx 7 i (some j6))) (S2 := Sx) l g rfl hI hc (Sx.1 2 i) (t := i) (by omega)) v_Items_52 hI.1 rfl rfl rfl (Nat.le_of_ble_eq_true rfl) hl.1 d_Items_linkValues_71 (by omega) (by decide) ⟨Nat.zero_le _, Nat.zero_le _⟩ (fun locs hS => ?_)
                rcases o14 : gvO Sx c (Sx.1 2 i) i with _ | j15
                · skip
                  try rw [o14]
                  refine m_put X ok_Item hS (Or.inl ⟨by omega, by omega⟩) (hI.2.2.1 i (by omega)) 8 (by decide) k_Items_63 rfl (ok_Item.2.2.1 _ (by decide)) rfl rfl (Nat.le_of_ble_eq_true rfl) d_Items_linkValues_74 (fun H locs hp hcg hS => ?_)
                  have hI := hI.pR (k := 8) (o := none) (by omega) (fun _ z => by cases z) hp hcg (by simp [iv, sR, ir, va_rf])
                  refine lv_aload_n X.x X.b d_Items_linkValues_77 rfl (lv_at hl 0 rfl) ?_
                  refine m_get (v := .int (Sx.1 1 i)) X ok_Item (hI.2.2.1 i (by omega)) 1 (by decide) k_Items_35 rfl d_Items_linkValues_78 ?_
                  refine lv_iconst (v := -1) X.x X.b d_Items_linkValues_81 (by decide) ?_
                  refine lv_icmp_eq (tgt := 92) X.x X.b d_Items_linkValues_82 (by decide) (fun c16 => ?_) (fun c16 => ?_)
                  · exact absurd c16 c4
                  · skip
                    refine lv_aload_n X.x X.b d_Items_linkValues_85 rfl (lv_at hl 0 rfl) ?_
                    refine m_get (v := .ref (a + 2 + j6)) X ok_Item (hI.2.2.1 i (by omega)) 7 (by decide) k_Items_56 (by simp [iv, sR, ir_n, ir_s]) d_Items_linkValues_86 ?_
                    refine lv_ifnull X.x X.b d_Items_linkValues_89 ?_
                    refine lv_aload_n X.x X.b d_Items_linkValues_92 rfl (lv_at hl 0 rfl) ?_
                    refine m_get (v := .int (Sx.1 2 i)) X ok_Item (hI.2.2.1 i (by omega)) 2 (by decide) k_Items_60 rfl d_Items_linkValues_93 ?_
                    refine lv_iconst (v := -1) X.x X.b d_Items_linkValues_96 (by decide) ?_
                    refine lv_icmp_eq (tgt := 109) X.x X.b d_Items_linkValues_97 (by decide) (fun c17 => ?_) (fun c17 => ?_)
                    · exact absurd c17 c13
                    · skip
                      refine lv_aload_n X.x X.b d_Items_linkValues_100 rfl (lv_at hl 0 rfl) ?_
                      refine m_get (v := .null) X ok_Item (hI.2.2.1 i (by omega)) 8 (by decide) k_Items_63 (by simp [iv, sR, ir_n, ir_s]) d_Items_linkValues_101 ?_
                      refine lv_ifnonnullN X.x X.b d_Items_linkValues_104 ?_
                      refine lv_iload_n X.x X.b d_Items_linkValues_107 rfl (lv_at hl 2 rfl) ?_
                      have hM : lkv c (n + 1) i Sx = ((sR (sR Sx 7 i (some j6)) 8 i none), nI i) := by simp [lkv, lkS, xgO, misF, c2, c2q, c3, c4, o5, c13, o14, c16, c17]
                      exact m_iret X hS (Nat.zero_le _) (Nat.zero_le _) d_Items_linkValues_108 (by rw [← hE, hM]) (by rw [← hE, hM]; exact hI)
                · skip
                  try rw [o14]
                  refine m_put X ok_Item hS (Or.inl ⟨by omega, by omega⟩) (hI.2.2.1 i (by omega)) 8 (by decide) k_Items_63 rfl (ok_Item.2.2.1 _ (by decide)) rfl rfl (Nat.le_of_ble_eq_true rfl) d_Items_linkValues_74 (fun H locs hp hcg hS => ?_)
                  have hI := hI.pR (k := 8) (o := some j15) (by omega) (fun _ z => by cases z; exact (Nat.lt_of_lt_of_le (gvO_lt o14) hc)) hp hcg (by simp [iv, sR, ir, va_rf])
                  refine lv_aload_n X.x X.b d_Items_linkValues_77 rfl (lv_at hl 0 rfl) ?_
                  refine m_get (v := .int (Sx.1 1 i)) X ok_Item (hI.2.2.1 i (by omega)) 1 (by decide) k_Items_35 rfl d_Items_linkValues_78 ?_
                  refine lv_iconst (v := -1) X.x X.b d_Items_linkValues_81 (by decide) ?_
                  refine lv_icmp_eq (tgt := 92) X.x X.b d_Items_linkValues_82 (by decide) (fun c18 => ?_) (fun c18 => ?_)
                  · exact absurd c18 c4
                  · skip
                    refine lv_aload_n X.x X.b d_Items_linkValues_85 rfl (lv_at hl 0 rfl) ?_
                    refine m_get (v := .ref (a + 2 + j6)) X ok_Item (hI.2.2.1 i (by omega)) 7 (by decide) k_Items_56 (by simp [iv, sR, ir_n, ir_s]) d_Items_linkValues_86 ?_
                    refine lv_ifnull X.x X.b d_Items_linkValues_89 ?_
                    refine lv_aload_n X.x X.b d_Items_linkValues_92 rfl (lv_at hl 0 rfl) ?_
                    refine m_get (v := .int (Sx.1 2 i)) X ok_Item (hI.2.2.1 i (by omega)) 2 (by decide) k_Items_60 rfl d_Items_linkValues_93 ?_
                    refine lv_iconst (v := -1) X.x X.b d_Items_linkValues_96 (by decide) ?_
                    refine lv_icmp_eq (tgt := 109) X.x X.b d_Items_linkValues_97 (by decide) (fun c19 => ?_) (fun c19 => ?_)
                    · exact absurd c19 c13
                    · skip
                      refine lv_aload_n X.x X.b d_Items_linkValues_100 rfl (lv_at hl 0 rfl) ?_
                      refine m_get (v := .ref (a + 2 + j15)) X ok_Item (hI.2.2.1 i (by omega)) 8 (by decide) k_Items_63 (by simp [iv, sR, ir_n, ir_s]) d_Items_linkValues_101 ?_
                      refine lv_ifnonnull (tgt := 109) X.x X.b d_Items_linkValues_104 (by decide) ?_
                      refine lv_iinc (v := nI (i + 1)) (lv' := [(1, .int (nI (i + 1))), (2, .ref (a + 2 + i)), (0, .ref a)]) X.x X.b d_Items_linkValues_109 hl (k := 2) rfl (nI_1 i) (by decide) rfl (fun ls hl => ?_)
                      refine lv_goto (tgt := 2) X.x X.b d_Items_linkValues_112 (by decide) ?_
                      exact ih (i + 1) (sR (sR Sx 7 i (some j6)) 8 i (some j15)) (by omega) (by omega) (by rw [← hE]; simp [lkv, lkS, xgO, misF, c2, c2q, c3, c4, o5, c13, o14, c18, c19]) _ _ _ hI hS (lv_sub hl [2, 0] rfl)
              · skip
                refine lv_null X.x X.b d_Items_linkValues_61 ?_
                refine lv_goto (tgt := 74) X.x X.b d_Items_linkValues_62 (by decide) ?_
                refine m_put X ok_Item hS (Or.inl ⟨by omega, by omega⟩) (hI.2.2.1 i (by omega)) 8 (by decide) k_Items_63 rfl (ok_Item.2.2.1 _ (by decide)) rfl rfl (Nat.le_of_ble_eq_true rfl) d_Items_linkValues_74 (fun H locs hp hcg hS => ?_)
                have hI := hI.pR (k := 8) (o := none) (by omega) (fun _ z => by cases z) hp hcg (by simp [iv, sR, ir, va_rf])
                refine lv_aload_n X.x X.b d_Items_linkValues_77 rfl (lv_at hl 0 rfl) ?_
                refine m_get (v := .int (Sx.1 1 i)) X ok_Item (hI.2.2.1 i (by omega)) 1 (by decide) k_Items_35 rfl d_Items_linkValues_78 ?_
                refine lv_iconst (v := -1) X.x X.b d_Items_linkValues_81 (by decide) ?_
                refine lv_icmp_eq (tgt := 92) X.x X.b d_Items_linkValues_82 (by decide) (fun c20 => ?_) (fun c20 => ?_)
                · exact absurd c20 c4
                · skip
                  refine lv_aload_n X.x X.b d_Items_linkValues_85 rfl (lv_at hl 0 rfl) ?_
                  refine m_get (v := .ref (a + 2 + j6)) X ok_Item (hI.2.2.1 i (by omega)) 7 (by decide) k_Items_56 (by simp [iv, sR, ir_n, ir_s]) d_Items_linkValues_86 ?_
                  refine lv_ifnull X.x X.b d_Items_linkValues_89 ?_
                  refine lv_aload_n X.x X.b d_Items_linkValues_92 rfl (lv_at hl 0 rfl) ?_
                  refine m_get (v := .int (Sx.1 2 i)) X ok_Item (hI.2.2.1 i (by omega)) 2 (by decide) k_Items_60 rfl d_Items_linkValues_93 ?_
                  refine lv_iconst (v := -1) X.x X.b d_Items_linkValues_96 (by decide) ?_
                  refine lv_icmp_eq (tgt := 109) X.x X.b d_Items_linkValues_97 (by decide) (fun c21 => ?_) (fun c21 => ?_)
                  · skip
                    refine lv_iinc (v := nI (i + 1)) (lv' := [(1, .int (nI (i + 1))), (2, .ref (a + 2 + i)), (0, .ref a)]) X.x X.b d_Items_linkValues_109 hl (k := 2) rfl (nI_1 i) (by decide) rfl (fun ls hl => ?_)
                    refine lv_goto (tgt := 2) X.x X.b d_Items_linkValues_112 (by decide) ?_
                    exact ih (i + 1) (sR (sR Sx 7 i (some j6)) 8 i none) (by omega) (by omega) (by rw [← hE]; simp [lkv, lkS, xgO, misF, c2, c2q, c3, c4, o5, c13, c20, c21]) _ _ _ hI hS (lv_sub hl [2, 0] rfl)
                  · exact absurd c13 c21
          · skip
            refine lv_null X.x X.b d_Items_linkValues_36 ?_
            refine lv_goto (tgt := 49) X.x X.b d_Items_linkValues_37 (by decide) ?_
            refine m_put X ok_Item hS (Or.inl ⟨by omega, by omega⟩) (hI.2.2.1 i (by omega)) 7 (by decide) k_Items_56 rfl (ok_Item.2.2.1 _ (by decide)) rfl rfl (Nat.le_of_ble_eq_true rfl) d_Items_linkValues_49 (fun H locs hp hcg hS => ?_)
            have hI := hI.pR (k := 7) (o := none) (by omega) (fun _ z => by cases z) hp hcg (by simp [iv, sR, ir, va_rf])
            refine lv_aload_n X.x X.b d_Items_linkValues_52 rfl (lv_at hl 0 rfl) ?_
            refine lv_aload_n X.x X.b d_Items_linkValues_53 rfl (lv_at hl 0 rfl) ?_
            refine m_get (v := .int (Sx.1 2 i)) X ok_Item (hI.2.2.1 i (by omega)) 2 (by decide) k_Items_60 rfl d_Items_linkValues_54 ?_
            refine lv_iconst (v := -1) X.x X.b d_Items_linkValues_57 (by decide) ?_
            refine lv_icmp_ne (tgt := 65) X.x X.b d_Items_linkValues_58 (by decide) (fun c22 => ?_) (fun c22 => ?_)
            · skip
              refine lv_aload_n X.x X.b d_Items_linkValues_65 rfl (lv_at hl 1 rfl) ?_
              refine lv_aload_n X.x X.b d_Items_linkValues_66 rfl (lv_at hl 0 rfl) ?_
              refine m_get (v := .int (Sx.1 2 i)) X ok_Item (hI.2.2.1 i (by omega)) 2 (by decide) k_Items_60 rfl d_Items_linkValues_67 ?_
              refine lv_iload_n X.x X.b d_Items_linkValues_70 rfl (lv_at hl 2 rfl) ?_
              refine m_callP X hS (M_Items_giverOf2 (S := (sR Sx 7 i none)) (S2 := Sx) l g rfl hI hc (Sx.1 2 i) (t := i) (by omega)) v_Items_52 hI.1 rfl rfl rfl (Nat.le_of_ble_eq_true rfl) hl.1 d_Items_linkValues_71 (by omega) (by decide) ⟨Nat.zero_le _, Nat.zero_le _⟩ (fun locs hS => ?_)
              rcases o23 : gvO Sx c (Sx.1 2 i) i with _ | j24
              · skip
                try rw [o23]
                refine m_put X ok_Item hS (Or.inl ⟨by omega, by omega⟩) (hI.2.2.1 i (by omega)) 8 (by decide) k_Items_63 rfl (ok_Item.2.2.1 _ (by decide)) rfl rfl (Nat.le_of_ble_eq_true rfl) d_Items_linkValues_74 (fun H locs hp hcg hS => ?_)
                have hI := hI.pR (k := 8) (o := none) (by omega) (fun _ z => by cases z) hp hcg (by simp [iv, sR, ir, va_rf])
                refine lv_aload_n X.x X.b d_Items_linkValues_77 rfl (lv_at hl 0 rfl) ?_
                refine m_get (v := .int (Sx.1 1 i)) X ok_Item (hI.2.2.1 i (by omega)) 1 (by decide) k_Items_35 rfl d_Items_linkValues_78 ?_
                refine lv_iconst (v := -1) X.x X.b d_Items_linkValues_81 (by decide) ?_
                refine lv_icmp_eq (tgt := 92) X.x X.b d_Items_linkValues_82 (by decide) (fun c25 => ?_) (fun c25 => ?_)
                · skip
                  refine lv_aload_n X.x X.b d_Items_linkValues_92 rfl (lv_at hl 0 rfl) ?_
                  refine m_get (v := .int (Sx.1 2 i)) X ok_Item (hI.2.2.1 i (by omega)) 2 (by decide) k_Items_60 rfl d_Items_linkValues_93 ?_
                  refine lv_iconst (v := -1) X.x X.b d_Items_linkValues_96 (by decide) ?_
                  refine lv_icmp_eq (tgt := 109) X.x X.b d_Items_linkValues_97 (by decide) (fun c26 => ?_) (fun c26 => ?_)
                  · exact absurd c26 c22
                  · skip
                    refine lv_aload_n X.x X.b d_Items_linkValues_100 rfl (lv_at hl 0 rfl) ?_
                    refine m_get (v := .null) X ok_Item (hI.2.2.1 i (by omega)) 8 (by decide) k_Items_63 (by simp [iv, sR, ir_n, ir_s]) d_Items_linkValues_101 ?_
                    refine lv_ifnonnullN X.x X.b d_Items_linkValues_104 ?_
                    refine lv_iload_n X.x X.b d_Items_linkValues_107 rfl (lv_at hl 2 rfl) ?_
                    have hM : lkv c (n + 1) i Sx = ((sR (sR Sx 7 i none) 8 i none), nI i) := by simp [lkv, lkS, xgO, misF, c2, c2q, c3, c4, c22, o23, c25, c26]
                    exact m_iret X hS (Nat.zero_le _) (Nat.zero_le _) d_Items_linkValues_108 (by rw [← hE, hM]) (by rw [← hE, hM]; exact hI)
                · exact absurd c4 c25
              · skip
                try rw [o23]
                refine m_put X ok_Item hS (Or.inl ⟨by omega, by omega⟩) (hI.2.2.1 i (by omega)) 8 (by decide) k_Items_63 rfl (ok_Item.2.2.1 _ (by decide)) rfl rfl (Nat.le_of_ble_eq_true rfl) d_Items_linkValues_74 (fun H locs hp hcg hS => ?_)
                have hI := hI.pR (k := 8) (o := some j24) (by omega) (fun _ z => by cases z; exact (Nat.lt_of_lt_of_le (gvO_lt o23) hc)) hp hcg (by simp [iv, sR, ir, va_rf])
                refine lv_aload_n X.x X.b d_Items_linkValues_77 rfl (lv_at hl 0 rfl) ?_
                refine m_get (v := .int (Sx.1 1 i)) X ok_Item (hI.2.2.1 i (by omega)) 1 (by decide) k_Items_35 rfl d_Items_linkValues_78 ?_
                refine lv_iconst (v := -1) X.x X.b d_Items_linkValues_81 (by decide) ?_
                refine lv_icmp_eq (tgt := 92) X.x X.b d_Items_linkValues_82 (by decide) (fun c27 => ?_) (fun c27 => ?_)
                · skip
                  refine lv_aload_n X.x X.b d_Items_linkValues_92 rfl (lv_at hl 0 rfl) ?_
                  refine m_get (v := .int (Sx.1 2 i)) X ok_Item (hI.2.2.1 i (by omega)) 2 (by decide) k_Items_60 rfl d_Items_linkValues_93 ?_
                  refine lv_iconst (v := -1) X.x X.b d_Items_linkValues_96 (by decide) ?_
                  refine lv_icmp_eq (tgt := 109) X.x X.b d_Items_linkValues_97 (by decide) (fun c28 => ?_) (fun c28 => ?_)
                  · exact absurd c28 c22
                  · skip
                    refine lv_aload_n X.x X.b d_Items_linkValues_100 rfl (lv_at hl 0 rfl) ?_
                    refine m_get (v := .ref (a + 2 + j24)) X ok_Item (hI.2.2.1 i (by omega)) 8 (by decide) k_Items_63 (by simp [iv, sR, ir_n, ir_s]) d_Items_linkValues_101 ?_
                    refine lv_ifnonnull (tgt := 109) X.x X.b d_Items_linkValues_104 (by decide) ?_
                    refine lv_iinc (v := nI (i + 1)) (lv' := [(1, .int (nI (i + 1))), (2, .ref (a + 2 + i)), (0, .ref a)]) X.x X.b d_Items_linkValues_109 hl (k := 2) rfl (nI_1 i) (by decide) rfl (fun ls hl => ?_)
                    refine lv_goto (tgt := 2) X.x X.b d_Items_linkValues_112 (by decide) ?_
                    exact ih (i + 1) (sR (sR Sx 7 i none) 8 i (some j24)) (by omega) (by omega) (by rw [← hE]; simp [lkv, lkS, xgO, misF, c2, c2q, c3, c4, c22, o23, c27, c28]) _ _ _ hI hS (lv_sub hl [2, 0] rfl)
                · exact absurd c4 c27
            · skip
              refine lv_null X.x X.b d_Items_linkValues_61 ?_
              refine lv_goto (tgt := 74) X.x X.b d_Items_linkValues_62 (by decide) ?_
              refine m_put X ok_Item hS (Or.inl ⟨by omega, by omega⟩) (hI.2.2.1 i (by omega)) 8 (by decide) k_Items_63 rfl (ok_Item.2.2.1 _ (by decide)) rfl rfl (Nat.le_of_ble_eq_true rfl) d_Items_linkValues_74 (fun H locs hp hcg hS => ?_)
              have hI := hI.pR (k := 8) (o := none) (by omega) (fun _ z => by cases z) hp hcg (by simp [iv, sR, ir, va_rf])
              refine lv_aload_n X.x X.b d_Items_linkValues_77 rfl (lv_at hl 0 rfl) ?_
              refine m_get (v := .int (Sx.1 1 i)) X ok_Item (hI.2.2.1 i (by omega)) 1 (by decide) k_Items_35 rfl d_Items_linkValues_78 ?_
              refine lv_iconst (v := -1) X.x X.b d_Items_linkValues_81 (by decide) ?_
              refine lv_icmp_eq (tgt := 92) X.x X.b d_Items_linkValues_82 (by decide) (fun c29 => ?_) (fun c29 => ?_)
              · skip
                refine lv_aload_n X.x X.b d_Items_linkValues_92 rfl (lv_at hl 0 rfl) ?_
                refine m_get (v := .int (Sx.1 2 i)) X ok_Item (hI.2.2.1 i (by omega)) 2 (by decide) k_Items_60 rfl d_Items_linkValues_93 ?_
                refine lv_iconst (v := -1) X.x X.b d_Items_linkValues_96 (by decide) ?_
                refine lv_icmp_eq (tgt := 109) X.x X.b d_Items_linkValues_97 (by decide) (fun c30 => ?_) (fun c30 => ?_)
                · skip
                  refine lv_iinc (v := nI (i + 1)) (lv' := [(1, .int (nI (i + 1))), (2, .ref (a + 2 + i)), (0, .ref a)]) X.x X.b d_Items_linkValues_109 hl (k := 2) rfl (nI_1 i) (by decide) rfl (fun ls hl => ?_)
                  refine lv_goto (tgt := 2) X.x X.b d_Items_linkValues_112 (by decide) ?_
                  exact ih (i + 1) (sR (sR Sx 7 i none) 8 i none) (by omega) (by omega) (by rw [← hE]; simp [lkv, lkS, xgO, misF, c2, c2q, c3, c4, c22, c29, c30]) _ _ _ hI hS (lv_sub hl [2, 0] rfl)
                · exact absurd c22 c30
              · exact absurd c4 c29
        · skip
          have c3 := b2i_0.mp c3
          refine lv_goto (tgt := 109) X.x X.b d_Items_linkValues_24 (by decide) ?_
          refine lv_iinc (v := nI (i + 1)) (lv' := [(1, .int (nI (i + 1))), (2, .ref (a + 2 + i)), (0, .ref a)]) X.x X.b d_Items_linkValues_109 hl (k := 2) rfl (nI_1 i) (by decide) rfl (fun ls hl => ?_)
          refine lv_goto (tgt := 2) X.x X.b d_Items_linkValues_112 (by decide) ?_
          exact ih (i + 1) Sx (by omega) (by omega) (by rw [← hE]; simp [lkv, lkS, xgO, misF, c2, c2q, c3]) _ _ _ hI hS (lv_sub hl [2, 0] rfl)
  exact lp c 0 S (by omega) (by omega) (rfl) _ _ _ hI hS (lv_sub hl [1, 0] rfl)
