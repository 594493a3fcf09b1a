set_option maxRecDepth 100000 in
set_option maxHeartbeats 4000000 in
theorem M_Items_countNeedlesslyLong (l : Launch) (g : GG) {a c : Nat} {S : IS} {H0 : Heap} (hI : iAt g a c S H0) (hc : c ≤ 121) : MM l y_Items_countNeedlesslyLong c_Items_countNeedlesslyLong 3 (some .int) 3 0 0 g H0 [.ref a] (iF a) (some (.int (cnl c c 0 S 0).2)) (fun H1 => iAt g a c (cnl c c 0 S 0).1 H1) := by
  refine MM.of (by decide +kernel) (Nat.le_of_ble_eq_true rfl) ?_
  intro p e s m below meth cd X hH ls hl
  have X : CX g p s m _ meth cd c_Items_countNeedlesslyLong 3 (some .int) R_Items _ := X
  have hl : lv_has ls 3 [(0, .ref a)] := hl
  have hS : va_S (AA (iF a) H0) H0 H0 [] := va_S.rf
  refine lv_iconst (v := 0) X.x X.b d_Items_countNeedlesslyLong_0 (by decide) ?_
  refine lv_istore_n (lv' := [(1, .int 0), (0, .ref a)]) X.x X.b d_Items_countNeedlesslyLong_1 rfl hl (by decide) rfl (fun ls hl => ?_)
  refine lv_iconst (v := 0) X.x X.b d_Items_countNeedlesslyLong_2 (by decide) ?_
  refine lv_istore_n (lv' := [(2, .int 0), (1, .int 0), (0, .ref a)]) X.x X.b d_Items_countNeedlesslyLong_3 rfl hl (by decide) rfl (fun ls hl => ?_)
  have lp : ∀ (n i : Nat) (u : Int32) (Sx : IS), n = c - i → i < 5000 → (cnl c n i Sx u = cnl c c 0 S 0) → ∀ (H : Heap) (locs : List Loc) (ls : Array Slot), iAt g a c Sx H → va_S (AA (iF a) H0) H0 H locs → lv_has ls 3 [(0, .ref a), (1, .int u), (2, .int (nI i))] → W p l e (rmK 3 0 0) s m ([.ref a] : List Value).toArray below meth cd H locs 0 0 (MQ below (QM (some (.int (cnl c c 0 S 0).2)) (fun H1 => iAt g a c (cnl c c 0 S 0).1 H1) (iF a) H0) ([.ref a] : List Value).toArray s 0 0 (AA (iF a) H0)) (F0 m 4 ls []) := by
    intro n
    induction n with
    | zero =>
      intro i u Sx hin hi5 hE H locs ls hI hS hl
      refine lv_iload_n X.x X.b d_Items_countNeedlesslyLong_4 rfl (lv_at hl 2 rfl) ?_
      refine lv_aload_n X.x X.b d_Items_countNeedlesslyLong_5 rfl (lv_at hl 0 rfl) ?_
      refine m_get (v := .int (nI c)) X ok_Items hI.1 1 (by decide) k_Items_18 rfl d_Items_countNeedlesslyLong_6 ?_
      refine lv_icmp_ge (tgt := 74) X.x X.b d_Items_countNeedlesslyLong_9 (by decide) (fun c1 => ?_) (fun c1 => ?_)
      · skip
        have c1q := Int32.not_lt.mpr c1
        refine lv_aload_n X.x X.b d_Items_countNeedlesslyLong_74 rfl (lv_at hl 0 rfl) ?_
        refine m_callM X hS (M_Items_place l g hI hc) v_Items_112 hI.1 rfl rfl rfl (Nat.le_of_ble_eq_true rfl) hl.1 d_Items_countNeedlesslyLong_75 (by omega) (by decide) ⟨Nat.zero_le _, Nat.zero_le _⟩ (fun _ h => h) (fun H locs hI hfr hS => ?_)
        refine lv_iload_n X.x X.b d_Items_countNeedlesslyLong_78 rfl (lv_at hl 1 rfl) ?_
        exact m_iret X hS (Nat.zero_le _) (Nat.zero_le _) d_Items_countNeedlesslyLong_79 (by rw [← hE]; rfl) (by rw [← hE]; exact hI)
      · exact absurd ((nI_leI (a := c) (b := i) (by omega) (by omega)).mpr (by omega)) c1
    | succ n ih =>
      intro i u Sx hin hi5 hE H locs ls hI hS hl
      refine lv_iload_n X.x X.b d_Items_countNeedlesslyLong_4 rfl (lv_at hl 2 rfl) ?_
      refine lv_aload_n X.x X.b d_Items_countNeedlesslyLong_5 rfl (lv_at hl 0 rfl) ?_
      refine m_get (v := .int (nI c)) X ok_Items hI.1 1 (by decide) k_Items_18 rfl d_Items_countNeedlesslyLong_6 ?_
      refine lv_icmp_ge (tgt := 74) X.x X.b d_Items_countNeedlesslyLong_9 (by decide) (fun c2 => ?_) (fun c2 => ?_)
      · exact absurd ((nI_leI (a := c) (b := i) (by omega) (by omega)).mp c2) (by omega)
      · skip
        have c2q := Int32.not_le.mp c2
        refine lv_aload_n X.x X.b d_Items_countNeedlesslyLong_12 rfl (lv_at hl 0 rfl) ?_
        refine m_get (v := .ref (a + 1)) X ok_Items hI.1 0 (by decide) k_Items_11 rfl d_Items_countNeedlesslyLong_13 ?_
        refine lv_iload_n X.x X.b d_Items_countNeedlesslyLong_16 rfl (lv_at hl 2 rfl) ?_
        refine m_qald (v := .ref (a + 2 + i)) X 4 rfl hI.2.1 (vp_in_nI (by omega) (by decide)) (by rw [nI_clamp (lt31 (by omega))]; rfl) d_Items_countNeedlesslyLong_17 ?_
        refine m_get (v := .int (Sx.1 14 i)) X ok_Item (hI.2.2.1 i (by omega)) 14 (by decide) k_Items_101 rfl d_Items_countNeedlesslyLong_18 ?_
        refine lv_if_eq (tgt := 68) X.x X.b d_Items_countNeedlesslyLong_21 (by decide) (fun c3 => ?_) (fun c3 => ?_)
        · skip
          refine lv_iinc (v := nI (i + 1)) (lv' := [(2, .int (nI (i + 1))), (0, .ref a), (1, .int u)]) X.x X.b d_Items_countNeedlesslyLong_68 hl (k := 2) rfl (nI_1 i) (by decide) rfl (fun ls hl => ?_)
          refine lv_goto (tgt := 4) X.x X.b d_Items_countNeedlesslyLong_71 (by decide) ?_
          exact ih (i + 1) u Sx (by omega) (by omega) (by rw [← hE]; simp [cnl, b2i, nearF, c2, c2q, c3]) _ _ _ hI hS (lv_sub hl [1, 2, 0] rfl)
        · skip
          refine lv_aload_n X.x X.b d_Items_countNeedlesslyLong_24 rfl (lv_at hl 0 rfl) ?_
          refine m_get (v := .ref (a + 1)) X ok_Items hI.1 0 (by decide) k_Items_11 rfl d_Items_countNeedlesslyLong_25 ?_
          refine lv_iload_n X.x X.b d_Items_countNeedlesslyLong_28 rfl (lv_at hl 2 rfl) ?_
          refine m_qald (v := .ref (a + 2 + i)) X 4 rfl hI.2.1 (vp_in_nI (by omega) (by decide)) (by rw [nI_clamp (lt31 (by omega))]; rfl) d_Items_countNeedlesslyLong_29 ?_
          refine lv_iconst (v := 0) X.x X.b d_Items_countNeedlesslyLong_30 (by decide) ?_
          refine m_put X ok_Item hS (Or.inl ⟨by omega, by omega⟩) (hI.2.2.1 i (by omega)) 14 (by decide) k_Items_101 rfl (ok_Item.2.2.1 _ (by decide)) rfl rfl (Nat.le_of_ble_eq_true rfl) d_Items_countNeedlesslyLong_31 (fun H locs hp hcg hS => ?_)
          have hI := hI.pI (k := 14) (v := 0) (by omega) hp hcg (by simp [iv, sI])
          obtain ⟨S4, eS4⟩ : ∃ z, z = sI Sx 14 i 0 := ⟨_, rfl⟩
          rw [← eS4] at hI
          refine lv_aload_n X.x X.b d_Items_countNeedlesslyLong_34 rfl (lv_at hl 0 rfl) ?_
          refine m_callM X hS (M_Items_place l g hI hc) v_Items_112 hI.1 rfl rfl rfl (Nat.le_of_ble_eq_true rfl) hl.1 d_Items_countNeedlesslyLong_35 (by omega) (by decide) ⟨Nat.zero_le _, Nat.zero_le _⟩ (fun _ h => h) (fun H locs hI hfr hS => ?_)
          refine lv_iload_n X.x X.b d_Items_countNeedlesslyLong_38 rfl (lv_at hl 1 rfl) ?_
          refine lv_aload_n X.x X.b d_Items_countNeedlesslyLong_39 rfl (lv_at hl 0 rfl) ?_
          refine m_get (v := .ref (a + 1)) X ok_Items hI.1 0 (by decide) k_Items_11 rfl d_Items_countNeedlesslyLong_40 ?_
          refine lv_iload_n X.x X.b d_Items_countNeedlesslyLong_43 rfl (lv_at hl 2 rfl) ?_
          refine m_qald (v := .ref (a + 2 + i)) X 4 rfl hI.2.1 (vp_in_nI (by omega) (by decide)) (by rw [nI_clamp (lt31 (by omega))]; rfl) d_Items_countNeedlesslyLong_44 ?_
          refine m_callP X hS (M_Item_isNear l g hI (by omega)) v_Items_105 (hI.2.2.1 i (by omega)) rfl rfl rfl (Nat.le_of_ble_eq_true rfl) hl.1 d_Items_countNeedlesslyLong_45 (by omega) (by decide) ⟨Nat.zero_le _, Nat.zero_le _⟩ (fun locs hS => ?_)
          refine lv_if_eq (tgt := 55) X.x X.b d_Items_countNeedlesslyLong_48 (by decide) (fun c5 => ?_) (fun c5 => ?_)
          · skip
            have c5 := b2i_0.mp c5
            refine lv_iconst (v := 0) X.x X.b d_Items_countNeedlesslyLong_55 (by decide) ?_
            refine lv_iadd X.x X.b d_Items_countNeedlesslyLong_56 ?_
            refine lv_istore_n (lv' := [(1, .int (u + 0)), (0, .ref a), (2, .int (nI i))]) X.x X.b d_Items_countNeedlesslyLong_57 rfl hl (by decide) rfl (fun ls hl => ?_)
            refine lv_aload_n X.x X.b d_Items_countNeedlesslyLong_58 rfl (lv_at hl 1 rfl) ?_
            refine m_get (v := .ref (a + 1)) X ok_Items hI.1 0 (by decide) k_Items_11 rfl d_Items_countNeedlesslyLong_59 ?_
            refine lv_iload_n X.x X.b d_Items_countNeedlesslyLong_62 rfl (lv_at hl 2 rfl) ?_
            refine m_qald (v := .ref (a + 2 + i)) X 4 rfl hI.2.1 (vp_in_nI (by omega) (by decide)) (by rw [nI_clamp (lt31 (by omega))]; rfl) d_Items_countNeedlesslyLong_63 ?_
            refine lv_iconst (v := 1) X.x X.b d_Items_countNeedlesslyLong_64 (by decide) ?_
            refine m_put X ok_Item hS (Or.inl ⟨by omega, by omega⟩) (hI.2.2.1 i (by omega)) 14 (by decide) k_Items_101 rfl (ok_Item.2.2.1 _ (by decide)) rfl rfl (Nat.le_of_ble_eq_true rfl) d_Items_countNeedlesslyLong_65 (fun H locs hp hcg hS => ?_)
            have hI := hI.pI (k := 14) (v := 1) (by omega) hp hcg (by simp [iv, sI])
            obtain ⟨S6, eS6⟩ : ∃ z, z = sI (plc c 0 S4 0) 14 i 1 := ⟨_, rfl⟩
            rw [← eS6] at hI
            refine lv_iinc (v := nI (i + 1)) (lv' := [(2, .int (nI (i + 1))), (1, .int (u + 0)), (0, .ref a)]) X.x X.b d_Items_countNeedlesslyLong_68 hl (k := 2) rfl (nI_1 i) (by decide) rfl (fun ls hl => ?_)
            refine lv_goto (tgt := 4) X.x X.b d_Items_countNeedlesslyLong_71 (by decide) ?_
            exact ih (i + 1) (u + 0) S6 (by omega) (by omega) (by rw [← hE]; simp [cnl, b2i, nearF, c2, c2q, c3, ← eS4, c5, ← eS6]) _ _ _ hI hS (lv_sub hl [2, 1, 0] rfl)
          · skip
            have c5 := b2i_n0 c5
            refine lv_iconst (v := 1) X.x X.b d_Items_countNeedlesslyLong_51 (by decide) ?_
            refine lv_goto (tgt := 56) X.x X.b d_Items_countNeedlesslyLong_52 (by decide) ?_
            refine lv_iadd X.x X.b d_Items_countNeedlesslyLong_56 ?_
            refine lv_istore_n (lv' := [(1, .int (u + 1)), (0, .ref a), (2, .int (nI i))]) X.x X.b d_Items_countNeedlesslyLong_57 rfl hl (by decide) rfl (fun ls hl => ?_)
            refine lv_aload_n X.x X.b d_Items_countNeedlesslyLong_58 rfl (lv_at hl 1 rfl) ?_
            refine m_get (v := .ref (a + 1)) X ok_Items hI.1 0 (by decide) k_Items_11 rfl d_Items_countNeedlesslyLong_59 ?_
            refine lv_iload_n X.x X.b d_Items_countNeedlesslyLong_62 rfl (lv_at hl 2 rfl) ?_
            refine m_qald (v := .ref (a + 2 + i)) X 4 rfl hI.2.1 (vp_in_nI (by omega) (by decide)) (by rw [nI_clamp (lt31 (by omega))]; rfl) d_Items_countNeedlesslyLong_63 ?_
            refine lv_iconst (v := 1) X.x X.b d_Items_countNeedlesslyLong_64 (by decide) ?_
            refine m_put X ok_Item hS (Or.inl ⟨by omega, by omega⟩) (hI.2.2.1 i (by omega)) 14 (by decide) k_Items_101 rfl (ok_Item.2.2.1 _ (by decide)) rfl rfl (Nat.le_of_ble_eq_true rfl) d_Items_countNeedlesslyLong_65 (fun H locs hp hcg hS => ?_)
            have hI := hI.pI (k := 14) (v := 1) (by omega) hp hcg (by simp [iv, sI])
            obtain ⟨S7, eS7⟩ : ∃ z, z = sI (plc c 0 S4 0) 14 i 1 := ⟨_, rfl⟩
            rw [← eS7] at hI
            refine lv_iinc (v := nI (i + 1)) (lv' := [(2, .int (nI (i + 1))), (1, .int (u + 1)), (0, .ref a)]) X.x X.b d_Items_countNeedlesslyLong_68 hl (k := 2) rfl (nI_1 i) (by decide) rfl (fun ls hl => ?_)
            refine lv_goto (tgt := 4) X.x X.b d_Items_countNeedlesslyLong_71 (by decide) ?_
            exact ih (i + 1) (u + 1) S7 (by omega) (by omega) (by rw [← hE]; simp [cnl, b2i, nearF, c2, c2q, c3, ← eS4, c5, ← eS7]) _ _ _ hI hS (lv_sub hl [2, 1, 0] rfl)
  exact lp c 0 0 S (by omega) (by omega) (rfl) _ _ _ hI hS (lv_sub hl [2, 1, 0] rfl)
set_option maxRecDepth 100000 in
set_option maxHeartbeats 4000000 in
theorem M_Items_wordOf (l : Launch) (g : GG) {a c : Nat} {S : IS} {H0 : Heap} (hI : iAt g a c S H0) (hc : c ≤ 121) {i : Nat} (hi : i < 121) (k : Int32) : MP l y_Items_wordOf c_Items_wordOf 3 (some .int) 3 g H0 [.ref a, .ref (a + 2 + i), .int k] (some (.int (woF S c i k))) := by
  refine MM.of (by decide +kernel) (Nat.le_of_ble_eq_true rfl) ?_
  intro p e s m below meth cd X hH ls hl
  have X : CX g p s m _ meth cd c_Items_wordOf 3 (some .int) R_Items _ := X
  have hl : lv_has ls 3 [(0, .ref a), (1, .ref (a + 2 + i)), (2, .int k)] := hl
  have hS : va_S (AA (noA) H0) H0 H0 [] := va_S.rf
  refine lv_aload_n X.x X.b d_Items_wordOf_0 rfl (lv_at hl 1 rfl) ?_
  refine m_get (v := .int (S.1 0 i)) X ok_Item (hI.2.2.1 i hi) 0 (by decide) k_Items_32 rfl d_Items_wordOf_1 ?_
  by_cases k1 : S.1 0 i = 2
  · skip
    refine lv_tableIn (off := 36) (tgt := 40) X.x X.b d_Items_wordOf_4 (by rw [k1]; decide) (by rw [k1]; decide) (by rw [k1]; decide) (by decide) ?_
    refine lv_aload_n X.x X.b d_Items_wordOf_40 rfl (lv_at hl 1 rfl) ?_
    refine m_callP X hS (M_Item_valueHere l g hI hi) v_Items_120 (hI.2.2.1 i hi) rfl rfl rfl (Nat.le_of_ble_eq_true rfl) hl.1 d_Items_wordOf_41 (by omega) (by decide) ⟨Nat.zero_le _, Nat.zero_le _⟩ (fun locs hS => ?_)
    exact m_iret X hS (Nat.zero_le _) (Nat.zero_le _) d_Items_wordOf_44 (congrArg (fun z => some (Value.int z)) (by simp [woF, k1])) rfl
  by_cases k2 : S.1 0 i = 3
  · skip
    refine lv_tableIn (off := 41) (tgt := 45) X.x X.b d_Items_wordOf_4 (by rw [k2]; decide) (by rw [k2]; decide) (by rw [k2]; decide) (by decide) ?_
    refine lv_aload_n X.x X.b d_Items_wordOf_45 rfl (lv_at hl 1 rfl) ?_
    refine lv_iload_n X.x X.b d_Items_wordOf_46 rfl (lv_at hl 2 rfl) ?_
    refine m_callP X hS (M_Item_branchWord l g hI hi k) v_Items_123 (hI.2.2.1 i hi) rfl rfl rfl (Nat.le_of_ble_eq_true rfl) hl.1 d_Items_wordOf_47 (by omega) (by decide) ⟨Nat.zero_le _, Nat.zero_le _⟩ (fun locs hS => ?_)
    exact m_iret X hS (Nat.zero_le _) (Nat.zero_le _) d_Items_wordOf_50 (congrArg (fun z => some (Value.int z)) (by simp [woF, k2])) rfl
  by_cases k3 : S.1 0 i = 4
  · skip
    refine lv_tableIn (off := 41) (tgt := 45) X.x X.b d_Items_wordOf_4 (by rw [k3]; decide) (by rw [k3]; decide) (by rw [k3]; decide) (by decide) ?_
    refine lv_aload_n X.x X.b d_Items_wordOf_45 rfl (lv_at hl 1 rfl) ?_
    refine lv_iload_n X.x X.b d_Items_wordOf_46 rfl (lv_at hl 2 rfl) ?_
    refine m_callP X hS (M_Item_branchWord l g hI hi k) v_Items_123 (hI.2.2.1 i hi) rfl rfl rfl (Nat.le_of_ble_eq_true rfl) hl.1 d_Items_wordOf_47 (by omega) (by decide) ⟨Nat.zero_le _, Nat.zero_le _⟩ (fun locs hS => ?_)
    exact m_iret X hS (Nat.zero_le _) (Nat.zero_le _) d_Items_wordOf_50 (congrArg (fun z => some (Value.int z)) (by simp [woF, k3])) rfl
  by_cases k4 : S.1 0 i = 5
  · skip
    refine lv_tableIn (off := 47) (tgt := 51) X.x X.b d_Items_wordOf_4 (by rw [k4]; decide) (by rw [k4]; decide) (by rw [k4]; decide) (by decide) ?_
    refine lv_sipush (v := 5000) X.x X.b d_Items_wordOf_51 (by decide) ?_
    refine lv_aload_n X.x X.b d_Items_wordOf_54 rfl (lv_at hl 1 rfl) ?_
    refine m_callP X hS (M_Item_aboveLoad l g hI hi) v_Items_108 (hI.2.2.1 i hi) rfl rfl rfl (Nat.le_of_ble_eq_true rfl) hl.1 d_Items_wordOf_55 (by omega) (by decide) ⟨Nat.zero_le _, Nat.zero_le _⟩ (fun locs hS => ?_)
    refine lv_iadd X.x X.b d_Items_wordOf_58 ?_
    refine lv_iconst (v := 1) X.x X.b d_Items_wordOf_59 (by decide) ?_
    refine lv_isub X.x X.b d_Items_wordOf_60 ?_
    exact m_iret X hS (Nat.zero_le _) (Nat.zero_le _) d_Items_wordOf_61 (congrArg (fun z => some (Value.int z)) (by simp [woF, k4])) rfl
  by_cases k5 : S.1 0 i = 6
  · skip
    refine lv_tableIn (off := 58) (tgt := 62) X.x X.b d_Items_wordOf_4 (by rw [k5]; decide) (by rw [k5]; decide) (by rw [k5]; decide) (by decide) ?_
    refine lv_aload_n X.x X.b d_Items_wordOf_62 rfl (lv_at hl 0 rfl) ?_
    refine lv_aload_n X.x X.b d_Items_wordOf_63 rfl (lv_at hl 1 rfl) ?_
    refine lv_iload_n X.x X.b d_Items_wordOf_64 rfl (lv_at hl 2 rfl) ?_
    refine m_callP X hS (M_Items_wordOfPool (q := i) l g hI hc hi k) v_Items_126 hI.1 rfl rfl rfl (Nat.le_of_ble_eq_true rfl) hl.1 d_Items_wordOf_65 (by omega) (by decide) ⟨Nat.zero_le _, Nat.zero_le _⟩ (fun locs hS => ?_)
    exact m_iret X hS (Nat.zero_le _) (Nat.zero_le _) d_Items_wordOf_68 (congrArg (fun z => some (Value.int z)) (by simp [woF, k5])) rfl
  refine lv_tableOut (tgt := 69) X.x X.b d_Items_wordOf_4 (by have := ne_toInt (k := 2) 2 (by decide) k1; have := ne_toInt (k := 3) 3 (by decide) k2; have := ne_toInt (k := 4) 4 (by decide) k3; have := ne_toInt (k := 5) 5 (by decide) k4; have := ne_toInt (k := 6) 6 (by decide) k5; omega) (by decide) ?_
  refine lv_iconst (v := 0) X.x X.b d_Items_wordOf_69 (by decide) ?_
  exact m_iret X hS (Nat.zero_le _) (Nat.zero_le _) d_Items_wordOf_70 (congrArg (fun z => some (Value.int z)) (by simp [woF, k1, k2, k3, k4, k5])) rfl
set_option maxRecDepth 100000 in
set_option maxHeartbeats 4000000 in
theorem M_Item_tell (l : Launch) (g : GG) {a c : Nat} {S : IS} {H0 : Heap} (hI : iAt g a c S H0) (hc : c ≤ 121) {ln : Nat} {k x y z r : Int32} (hL : lnAt g ln k x y z r H0) (hln : ln < a ∨ a + 123 ≤ ln) {i : Nat} (hi : i < 121) (nn says ml dp : Int32) : MM l y_Item_tell c_Item_tell 6 none 0 0 0 g H0 [.ref (a + 2 + i), .ref ln, .int nn, .int says, .int ml, .int dp] (iF a) (none) (fun H1 => iAt g a c (telS S i k x y nn says ml dp) H1) := by
  refine MM.of (by decide +kernel) (Nat.le_of_ble_eq_true rfl) ?_
  intro p e s m below meth cd X hH ls hl
  have X : CX g p s m _ meth cd c_Item_tell 6 none R_Item _ := X
  have hl : lv_has ls 6 [(0, .ref (a + 2 + i)), (1, .ref ln), (2, .int nn), (3, .int says), (4, .int ml), (5, .int dp)] := hl
  have hS : va_S (AA (iF a) H0) H0 H0 [] := va_S.rf
  refine lv_aload_n X.x X.b d_Item_tell_0 rfl (lv_at hl 0 rfl) ?_
  refine lv_aload_n X.x X.b d_Item_tell_1 rfl (lv_at hl 1 rfl) ?_
  refine m_get (v := .int k) X ok_Line hL 0 (by decide) k_Item_9 rfl d_Item_tell_2 ?_
  refine m_put X ok_Item hS (Or.inl ⟨by omega, by omega⟩) (hI.2.2.1 i hi) 0 (by decide) k_Item_15 rfl (ok_Item.2.2.1 _ (by decide)) rfl rfl (Nat.le_of_ble_eq_true rfl) d_Item_tell_5 (fun H locs hp hcg hS => ?_)
  have hI := hI.pI (k := 0) (v := k) hi hp hcg (by simp [iv, sI])
  obtain ⟨S1, eS1⟩ : ∃ z, z = sI S 0 i k := ⟨_, rfl⟩
  rw [← eS1] at hI
  have hL := hL.off hcg (by omega)
  refine lv_aload_n X.x X.b d_Item_tell_8 rfl (lv_at hl 0 rfl) ?_
  refine lv_aload_n X.x X.b d_Item_tell_9 rfl (lv_at hl 1 rfl) ?_
  refine m_get (v := .int x) X ok_Line hL 1 (by decide) k_Item_18 rfl d_Item_tell_10 ?_
  refine m_put X ok_Item hS (Or.inl ⟨by omega, by omega⟩) (hI.2.2.1 i hi) 1 (by decide) k_Item_21 rfl (ok_Item.2.2.1 _ (by decide)) rfl rfl (Nat.le_of_ble_eq_true rfl) d_Item_tell_13 (fun H locs hp hcg hS => ?_)
  have hI := hI.pI (k := 1) (v := x) hi hp hcg (by simp [iv, sI])
  obtain ⟨S2, eS2⟩ : ∃ z, z = sI S1 1 i x := ⟨_, rfl⟩
  rw [← eS2] at hI
  have hL := hL.off hcg (by omega)
  refine lv_aload_n X.x X.b d_Item_tell_16 rfl (lv_at hl 0 rfl) ?_
  refine lv_aload_n X.x X.b d_Item_tell_17 rfl (lv_at hl 1 rfl) ?_
  refine m_get (v := .int y) X ok_Line hL 2 (by decide) k_Item_22 rfl d_Item_tell_18 ?_
  refine m_put X ok_Item hS (Or.inl ⟨by omega, by omega⟩) (hI.2.2.1 i hi) 2 (by decide) k_Item_25 rfl (ok_Item.2.2.1 _ (by decide)) rfl rfl (Nat.le_of_ble_eq_true rfl) d_Item_tell_21 (fun H locs hp hcg hS => ?_)
  have hI := hI.pI (k := 2) (v := y) hi hp hcg (by simp [iv, sI])
  obtain ⟨S3, eS3⟩ : ∃ z, z = sI S2 2 i y := ⟨_, rfl⟩
  rw [← eS3] at hI
  have hL := hL.off hcg (by omega)
  refine lv_aload_n X.x X.b d_Item_tell_24 rfl (lv_at hl 0 rfl) ?_
  refine lv_iload_n X.x X.b d_Item_tell_25 rfl (lv_at hl 2 rfl) ?_
  refine m_put X ok_Item hS (Or.inl ⟨by omega, by omega⟩) (hI.2.2.1 i hi) 3 (by decide) k_Item_26 rfl (ok_Item.2.2.1 _ (by decide)) rfl rfl (Nat.le_of_ble_eq_true rfl) d_Item_tell_26 (fun H locs hp hcg hS => ?_)
  have hI := hI.pI (k := 3) (v := nn) hi hp hcg (by simp [iv, sI])
  obtain ⟨S4, eS4⟩ : ∃ z, z = sI S3 3 i nn := ⟨_, rfl⟩
  rw [← eS4] at hI
  have hL := hL.off hcg (by omega)
  refine lv_aload_n X.x X.b d_Item_tell_29 rfl (lv_at hl 0 rfl) ?_
  refine lv_iload_n X.x X.b d_Item_tell_30 rfl (lv_at hl 3 rfl) ?_
  refine m_put X ok_Item hS (Or.inl ⟨by omega, by omega⟩) (hI.2.2.1 i hi) 4 (by decide) k_Item_29 rfl (ok_Item.2.2.1 _ (by decide)) rfl rfl (Nat.le_of_ble_eq_true rfl) d_Item_tell_31 (fun H locs hp hcg hS => ?_)
  have hI := hI.pI (k := 4) (v := says) hi hp hcg (by simp [iv, sI])
  obtain ⟨S5, eS5⟩ : ∃ z, z = sI S4 4 i says := ⟨_, rfl⟩
  rw [← eS5] at hI
  have hL := hL.off hcg (by omega)
  refine lv_aload_n X.x X.b d_Item_tell_34 rfl (lv_at hl 0 rfl) ?_
  refine lv_iload X.x X.b d_Item_tell_35 (lv_at hl 4 rfl) ?_
  refine m_put X ok_Item hS (Or.inl ⟨by omega, by omega⟩) (hI.2.2.1 i hi) 5 (by decide) k_Item_32 rfl (ok_Item.2.2.1 _ (by decide)) rfl rfl (Nat.le_of_ble_eq_true rfl) d_Item_tell_37 (fun H locs hp hcg hS => ?_)
  have hI := hI.pI (k := 5) (v := ml) hi hp hcg (by simp [iv, sI])
  obtain ⟨S6, eS6⟩ : ∃ z, z = sI S5 5 i ml := ⟨_, rfl⟩
  rw [← eS6] at hI
  have hL := hL.off hcg (by omega)
  refine lv_aload_n X.x X.b d_Item_tell_40 rfl (lv_at hl 0 rfl) ?_
  refine lv_iload X.x X.b d_Item_tell_41 (lv_at hl 5 rfl) ?_
  refine m_put X ok_Item hS (Or.inl ⟨by omega, by omega⟩) (hI.2.2.1 i hi) 6 (by decide) k_Item_35 rfl (ok_Item.2.2.1 _ (by decide)) rfl rfl (Nat.le_of_ble_eq_true rfl) d_Item_tell_43 (fun H locs hp hcg hS => ?_)
  have hI := hI.pI (k := 6) (v := dp) hi hp hcg (by simp [iv, sI])
  obtain ⟨S7, eS7⟩ : ∃ z, z = sI S6 6 i dp := ⟨_, rfl⟩
  rw [← eS7] at hI
  have hL := hL.off hcg (by omega)
  refine lv_aload_n X.x X.b d_Item_tell_46 rfl (lv_at hl 0 rfl) ?_
  refine lv_null X.x X.b d_Item_tell_47 ?_
  refine m_put X ok_Item hS (Or.inl ⟨by omega, by omega⟩) (hI.2.2.1 i hi) 7 (by decide) k_Item_38 rfl (ok_Item.2.2.1 _ (by decide)) rfl rfl (Nat.le_of_ble_eq_true rfl) d_Item_tell_48 (fun H locs hp hcg hS => ?_)
  have hI := hI.pR (k := 7) (o := none) hi (fun _ z => by cases z) hp hcg (by simp [iv, sR, ir, va_rf])
  have hL := hL.off hcg (by omega)
  refine lv_aload_n X.x X.b d_Item_tell_51 rfl (lv_at hl 0 rfl) ?_
  refine lv_null X.x X.b d_Item_tell_52 ?_
  refine m_put X ok_Item hS (Or.inl ⟨by omega, by omega⟩) (hI.2.2.1 i hi) 8 (by decide) k_Item_42 rfl (ok_Item.2.2.1 _ (by decide)) rfl rfl (Nat.le_of_ble_eq_true rfl) d_Item_tell_53 (fun H locs hp hcg hS => ?_)
  have hI := hI.pR (k := 8) (o := none) hi (fun _ z => by cases z) hp hcg (by simp [iv, sR, ir, va_rf])
  have hL := hL.off hcg (by omega)
  refine lv_aload_n X.x X.b d_Item_tell_56 rfl (lv_at hl 0 rfl) ?_
  refine lv_null X.x X.b d_Item_tell_57 ?_
  refine m_put X ok_Item hS (Or.inl ⟨by omega, by omega⟩) (hI.2.2.1 i hi) 9 (by decide) k_Item_45 rfl (ok_Item.2.2.1 _ (by decide)) rfl rfl (Nat.le_of_ble_eq_true rfl) d_Item_tell_58 (fun H locs hp hcg hS => ?_)
  have hI := hI.pR (k := 9) (o := none) hi (fun _ z => by cases z) hp hcg (by simp [iv, sR, ir, va_rf])
  have hL := hL.off hcg (by omega)
  refine lv_aload_n X.x X.b d_Item_tell_61 rfl (lv_at hl 0 rfl) ?_
  refine lv_iconst (v := 0) X.x X.b d_Item_tell_62 (by decide) ?_
  refine m_put X ok_Item hS (Or.inl ⟨by omega, by omega⟩) (hI.2.2.1 i hi) 10 (by decide) k_Item_48 rfl (ok_Item.2.2.1 _ (by decide)) rfl rfl (Nat.le_of_ble_eq_true rfl) d_Item_tell_63 (fun H locs hp hcg hS => ?_)
  have hI := hI.pI (k := 10) (v := 0) hi hp hcg (by simp [iv, sI])
  obtain ⟨S8, eS8⟩ : ∃ z, z = sI (sR (sR (sR S7 7 i none) 8 i none) 9 i none) 10 i 0 := ⟨_, rfl⟩
  rw [← eS8] at hI
  have hL := hL.off hcg (by omega)
  refine lv_aload_n X.x X.b d_Item_tell_66 rfl (lv_at hl 0 rfl) ?_
  refine lv_iconst (v := 0) X.x X.b d_Item_tell_67 (by decide) ?_
  refine m_put X ok_Item hS (Or.inl ⟨by omega, by omega⟩) (hI.2.2.1 i hi) 11 (by decide) k_Item_51 rfl (ok_Item.2.2.1 _ (by decide)) rfl rfl (Nat.le_of_ble_eq_true rfl) d_Item_tell_68 (fun H locs hp hcg hS => ?_)
  have hI := hI.pI (k := 11) (v := 0) hi hp hcg (by simp [iv, sI])
  obtain ⟨S9, eS9⟩ : ∃ z, z = sI S8 11 i 0 := ⟨_, rfl⟩
  rw [← eS9] at hI
  have hL := hL.off hcg (by omega)
  refine lv_aload_n X.x X.b d_Item_tell_71 rfl (lv_at hl 0 rfl) ?_
  refine lv_iconst (v := 0) X.x X.b d_Item_tell_72 (by decide) ?_
  refine m_put X ok_Item hS (Or.inl ⟨by omega, by omega⟩) (hI.2.2.1 i hi) 12 (by decide) k_Item_54 rfl (ok_Item.2.2.1 _ (by decide)) rfl rfl (Nat.le_of_ble_eq_true rfl) d_Item_tell_73 (fun H locs hp hcg hS => ?_)
  have hI := hI.pI (k := 12) (v := 0) hi hp hcg (by simp [iv, sI])
  obtain ⟨S10, eS10⟩ : ∃ z, z = sI S9 12 i 0 := ⟨_, rfl⟩
  rw [← eS10] at hI
  have hL := hL.off hcg (by omega)
  refine lv_aload_n X.x X.b d_Item_tell_76 rfl (lv_at hl 0 rfl) ?_
  refine lv_iconst (v := 0) X.x X.b d_Item_tell_77 (by decide) ?_
  refine m_put X ok_Item hS (Or.inl ⟨by omega, by omega⟩) (hI.2.2.1 i hi) 13 (by decide) k_Item_57 rfl (ok_Item.2.2.1 _ (by decide)) rfl rfl (Nat.le_of_ble_eq_true rfl) d_Item_tell_78 (fun H locs hp hcg hS => ?_)
  have hI := hI.pI (k := 13) (v := 0) hi hp hcg (by simp [iv, sI])
  obtain ⟨S11, eS11⟩ : ∃ z, z = sI S10 13 i 0 := ⟨_, rfl⟩
  rw [← eS11] at hI
  have hL := hL.off hcg (by omega)
  refine lv_aload_n X.x X.b d_Item_tell_81 rfl (lv_at hl 0 rfl) ?_
  refine lv_iconst (v := 0) X.x X.b d_Item_tell_82 (by decide) ?_
  refine m_put X ok_Item hS (Or.inl ⟨by omega, by omega⟩) (hI.2.2.1 i hi) 14 (by decide) k_Item_60 rfl (ok_Item.2.2.1 _ (by decide)) rfl rfl (Nat.le_of_ble_eq_true rfl) d_Item_tell_83 (fun H locs hp hcg hS => ?_)
  have hI := hI.pI (k := 14) (v := 0) hi hp hcg (by simp [iv, sI])
  obtain ⟨S12, eS12⟩ : ∃ z, z = sI S11 14 i 0 := ⟨_, rfl⟩
  rw [← eS12] at hI
  have hL := hL.off hcg (by omega)
  refine lv_aload_n X.x X.b d_Item_tell_86 rfl (lv_at hl 0 rfl) ?_
  refine lv_iconst (v := 0) X.x X.b d_Item_tell_87 (by decide) ?_
  refine m_put X ok_Item hS (Or.inl ⟨by omega, by omega⟩) (hI.2.2.1 i hi) 15 (by decide) k_Item_64 rfl (ok_Item.2.2.1 _ (by decide)) rfl rfl (Nat.le_of_ble_eq_true rfl) d_Item_tell_88 (fun H locs hp hcg hS => ?_)
  have hI := hI.pI (k := 15) (v := 0) hi hp hcg (by simp [iv, sI])
  obtain ⟨S13, eS13⟩ : ∃ z, z = sI S12 15 i 0 := ⟨_, rfl⟩
  rw [← eS13] at hI
  have hL := hL.off hcg (by omega)
  exact m_vret X hS (Nat.zero_le _) (Nat.zero_le _) d_Item_tell_91 rfl (by simp only [telS, ← eS1, ← eS2, ← eS3, ← eS4, ← eS5, ← eS6, ← eS7, ← eS8, ← eS9, ← eS10, ← eS11, ← eS12, ← eS13]; exact hI)
set_option maxRecDepth 100000 in
set_option maxHeartbeats 4000000 in
theorem M_Items_append (l : Launch) (g : GG) {a c : Nat} {S : IS} {H0 : Heap} (hI : iAt g a c S H0) (hc : c ≤ 121) {ln : Nat} {k x y z r : Int32} (hL : lnAt g ln k x y z r H0) (hln : ln < a ∨ a + 123 ≤ ln) (h1 : c < 121) (nn says ml dp : Int32) : MM l y_Items_append c_Items_append 6 none 1 0 0 g H0 [.ref a, .ref ln, .int nn, .int says, .int ml, .int dp] (iF a) (none) (fun H1 => iAt g a (c + 1) (telS S c k x y nn says ml dp) H1) := by
  refine MM.of (by decide +kernel) (Nat.le_of_ble_eq_true rfl) ?_
  intro p e s m below meth cd X hH ls hl
  have X : CX g p s m _ meth cd c_Items_append 6 none R_Items _ := X
  have hl : lv_has ls 6 [(0, .ref a), (1, .ref ln), (2, .int nn), (3, .int says), (4, .int ml), (5, .int dp)] := hl
  have hS : va_S (AA (iF a) H0) H0 H0 [] := va_S.rf
  refine lv_aload_n X.x X.b d_Items_append_0 rfl (lv_at hl 0 rfl) ?_
  refine m_get (v := .int (nI c)) X ok_Items hI.1 1 (by decide) k_Items_18 rfl d_Items_append_1 ?_
  refine lv_aload_n X.x X.b d_Items_append_4 rfl (lv_at hl 0 rfl) ?_
  refine m_get (v := .ref (a + 1)) X ok_Items hI.1 0 (by decide) k_Items_11 rfl d_Items_append_5 ?_
  refine m_alen (v := 121) X 4 rfl hI.2.1 rfl d_Items_append_8 ?_
  refine lv_icmp_ge (tgt := 41) X.x X.b d_Items_append_9 (by decide) (fun c1 => ?_) (fun c1 => ?_)
  · exact absurd c1 (nI_ge (a := c) (b := 121) (by omega) (by omega))
  · skip
    have c1q := Int32.not_le.mp c1
    refine lv_aload_n X.x X.b d_Items_append_12 rfl (lv_at hl 0 rfl) ?_
    refine m_get (v := .ref (a + 1)) X ok_Items hI.1 0 (by decide) k_Items_11 rfl d_Items_append_13 ?_
    refine lv_aload_n X.x X.b d_Items_append_16 rfl (lv_at hl 0 rfl) ?_
    refine m_get (v := .int (nI c)) X ok_Items hI.1 1 (by decide) k_Items_18 rfl d_Items_append_17 ?_
    refine m_qald (v := .ref (a + 2 + c)) X 4 rfl hI.2.1 (vp_in_nI (by omega) (by decide)) (by rw [nI_clamp (lt31 (by omega))]; rfl) d_Items_append_20 ?_
    refine lv_aload_n X.x X.b d_Items_append_21 rfl (lv_at hl 1 rfl) ?_
    refine lv_iload_n X.x X.b d_Items_append_22 rfl (lv_at hl 2 rfl) ?_
    refine lv_iload_n X.x X.b d_Items_append_23 rfl (lv_at hl 3 rfl) ?_
    refine lv_iload X.x X.b d_Items_append_24 (lv_at hl 4 rfl) ?_
    refine lv_iload X.x X.b d_Items_append_26 (lv_at hl 5 rfl) ?_
    refine m_callM X hS (M_Item_tell l g hI hc hL hln (by omega) nn says ml dp) v_Items_22 (hI.2.2.1 c (by omega)) rfl rfl rfl (Nat.le_of_ble_eq_true rfl) hl.1 d_Items_append_28 (by omega) (by decide) ⟨Nat.zero_le _, Nat.zero_le _⟩ (fun _ h => h) (fun H locs hI hfr hS => ?_)
    have hL := hL.fr hfr (by show ¬ (_ ∧ _); omega)
    refine lv_aload_n X.x X.b d_Items_append_31 rfl (lv_at hl 0 rfl) ?_
    refine lv_dup X.x X.b d_Items_append_32 rfl ?_
    refine m_get (v := .int (nI c)) X ok_Items hI.1 1 (by decide) k_Items_18 rfl d_Items_append_33 ?_
    refine lv_iconst (v := 1) X.x X.b d_Items_append_36 (by decide) ?_
    refine lv_iadd X.x X.b d_Items_append_37 ?_
    refine m_put X ok_Items hS (Or.inl ⟨by omega, by omega⟩) hI.1 1 (by decide) k_Items_18 rfl (ok_Items.2.2.1 _ (by decide)) rfl rfl (Nat.le_of_ble_eq_true rfl) d_Items_append_38 (fun H locs hp hcg hS => ?_)
    have hI := hI.pC (c' := c + 1) hp hcg (by rw [← nI_1]; rfl)
    have hL := hL.off hcg (by omega)
    exact m_vret X hS (Nat.zero_le _) (Nat.zero_le _) d_Items_append_41 rfl (by exact hI)
set_option maxRecDepth 100000 in
set_option maxHeartbeats 4000000 in
theorem M_Items_clear (l : Launch) (g : GG) {a c : Nat} {S : IS} {H0 : Heap} (hI : iAt g a c S H0) (hc : c ≤ 121) : MM l y_Items_clear c_Items_clear 1 none 0 0 0 g H0 [.ref a] (iF a) (none) (fun H1 => iAt g a 0 S H1) := by
  refine MM.of (by decide +kernel) (Nat.le_of_ble_eq_true rfl) ?_
  intro p e s m below meth cd X hH ls hl
  have X : CX g p s m _ meth cd c_Items_clear 1 none R_Items _ := X
  have hl : lv_has ls 1 [(0, .ref a)] := hl
  have hS : va_S (AA (iF a) H0) H0 H0 [] := va_S.rf
  refine lv_aload_n X.x X.b d_Items_clear_0 rfl (lv_at hl 0 rfl) ?_
  refine lv_iconst (v := 0) X.x X.b d_Items_clear_1 (by decide) ?_
  refine m_put X ok_Items hS (Or.inl ⟨by omega, by omega⟩) hI.1 1 (by decide) k_Items_18 rfl (ok_Items.2.2.1 _ (by decide)) rfl rfl (Nat.le_of_ble_eq_true rfl) d_Items_clear_2 (fun H locs hp hcg hS => ?_)
  have hI := hI.pC (c' := 0) hp hcg (by rfl)
  exact m_vret X hS (Nat.zero_le _) (Nat.zero_le _) d_Items_clear_5 rfl (by exact hI)
