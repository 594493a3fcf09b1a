-- THE REFERENCE'S SMALL METHODS
abbrev chOk (k v r : Int32) : Prop := if k = 7 then (v = 2 ∨ v = 4 ∨ v = 8) ∧ r = 0 else if k = 0 ∨ k = 6 ∨ k = 9 then v = 0 ∧ r = 0 else -99 ≤ v ∧ v ≤ 99
abbrev abOk (k a b : Int32) : Prop := if k = 0 then (0 ≤ a ∧ a ≤ 9) ∧ b = -1 else if k = 1 then (0 ≤ a ∧ a ≤ 7) ∧ -1 ≤ b ∧ b ≤ 7 else if k = 2 then (-1 ≤ a ∧ a ≤ 11) ∧ -1 ≤ b ∧ b ≤ 11 else if k = 3 ∨ k = 4 then (-1 ≤ a ∧ a ≤ 11) ∧ b = -1 else if k = 8 then (-1 ≤ a ∧ a ≤ 7) ∧ -1 ≤ b ∧ b ≤ 7 else if k = 10 then (1 ≤ a ∧ a ≤ 4) ∧ b = -1 else (0 ≤ k ∧ k ≤ 10) ∧ a = -1 ∧ b = -1
abbrev cbOk (k a b v r : Int32) : Prop := chOk k v r ∧ abOk k a b
def itR (s0 : Nat → Nat → Int32) (c : Nat) (k a b v fr_ dp : Int32) : Nat → Nat → Int32 :=
  let s1 := updR s0 8 (upd (s0 8) c k)
  let s2 := updR s1 9 (upd (s1 9) c a)
  let s3 := updR s2 10 (upd (s2 10) c b)
  let s4 := updR s3 11 (upd (s3 11) c v)
  let s5 := updR s4 12 (upd (s4 12) c fr_)
  updR s5 13 (upd (s5 13) c dp)
def wrR (s0 : Nat → Nat → Int32) (i : Nat) (k a b v d : Int32) : Nat → Nat → Int32 :=
  let s1 := updR s0 1 (upd (s0 1) i k)
  let s2 := updR s1 1 (upd (s1 1) (i + 1) a)
  let s3 := updR s2 1 (upd (s2 1) (i + 2) b)
  let s4 := updR s3 1 (upd (s3 1) (i + 3) v)
  updR s4 1 (upd (s4 1) (i + 4) d)
theorem nI_ad (a b : Nat) : nI a + nI b = nI (a + b) := (Int32.ofNat_add a b).symm
theorem nI_mu (a b : Nat) : nI a * nI b = nI (a * b) := (Int32.ofNat_mul a b).symm
theorem at_nI {r t : Nat} (_ : r < 5) (_ : t < 64) : (nI r * 64 + nI t) * 5 = nI ((r * 64 + t) * 5) := by
  rw [show (64 : Int32) = nI 64 from rfl, show (5 : Int32) = nI 5 from rfl, nI_mu, nI_ad, nI_mu]
set_option maxRecDepth 100000 in
set_option maxHeartbeats 4000000 in
theorem M_Model_isIn (l : Launch) (g : GG) {H0 : Heap} (v a b : Int32) : MP l y_Model_isIn c_Model_isIn 3 (some .boolean) 0 g H0 [.int v, .int a, .int b] (some (.int (b2i (a ≤ v ∧ v ≤ b)))) := by
  refine MM.of (by decide +kernel) (Nat.le_of_ble_eq_true rfl) ?_
  intro p e s m below meth cd X hH ls hl
  have X : CX g p s m _ meth cd c_Model_isIn 3 (some .boolean) R_Model _ := X
  have hl : lv_has ls 3 [(0, .int v), (1, .int a), (2, .int b)] := hl
  have hS : va_S (AA (noA) H0) H0 H0 [] := va_S.rf
  refine lv_iload_n X.x X.b d_Model_isIn_0 rfl (lv_at hl 0 rfl) ?_
  refine lv_iload_n X.x X.b d_Model_isIn_1 rfl (lv_at hl 1 rfl) ?_
  refine lv_icmp_lt (tgt := 14) X.x X.b d_Model_isIn_2 (by decide) (fun c1 => ?_) (fun c1 => ?_)
  · skip
    have c1q := Int32.not_le.mpr c1
    refine lv_iconst (v := 0) X.x X.b d_Model_isIn_14 (by decide) ?_
    exact m_zret X hS (Nat.zero_le _) (Nat.zero_le _) d_Model_isIn_15 rfl (congrArg (fun z => some (Value.int z)) (by simp [b2i, c1, c1q])) rfl
  · skip
    have c1q := Int32.not_lt.mp c1
    refine lv_iload_n X.x X.b d_Model_isIn_5 rfl (lv_at hl 0 rfl) ?_
    refine lv_iload_n X.x X.b d_Model_isIn_6 rfl (lv_at hl 2 rfl) ?_
    refine lv_icmp_gt (tgt := 14) X.x X.b d_Model_isIn_7 (by decide) (fun c2 => ?_) (fun c2 => ?_)
    · skip
      have c2q := Int32.not_le.mpr c2
      refine lv_iconst (v := 0) X.x X.b d_Model_isIn_14 (by decide) ?_
      exact m_zret X hS (Nat.zero_le _) (Nat.zero_le _) d_Model_isIn_15 rfl (congrArg (fun z => some (Value.int z)) (by simp [b2i, c1, c1q, c2, c2q])) rfl
    · skip
      have c2q := Int32.not_lt.mp c2
      refine lv_iconst (v := 1) X.x X.b d_Model_isIn_10 (by decide) ?_
      refine lv_goto (tgt := 15) X.x X.b d_Model_isIn_11 (by decide) ?_
      exact m_zret X hS (Nat.zero_le _) (Nat.zero_le _) d_Model_isIn_15 rfl (congrArg (fun z => some (Value.int z)) (by simp [b2i, c1, c1q, c2, c2q])) rfl
set_option maxRecDepth 100000 in
set_option maxHeartbeats 4000000 in
theorem M_Model_canHave (l : Launch) (g : GG) {H0 : Heap} (k v r : Int32) : MP l y_Model_canHave c_Model_canHave 3 (some .boolean) 1 g H0 [.int k, .int v, .int r] (some (.int (b2i (chOk k v r)))) := by
  refine MM.of (by decide +kernel) (Nat.le_of_ble_eq_true rfl) ?_
  intro p e s m below meth cd X hH ls hl
  have X : CX g p s m _ meth cd c_Model_canHave 3 (some .boolean) R_Model _ := X
  have hl : lv_has ls 3 [(0, .int k), (1, .int v), (2, .int r)] := hl
  have hS : va_S (AA (noA) H0) H0 H0 [] := va_S.rf
  refine lv_iload_n X.x X.b d_Model_canHave_0 rfl (lv_at hl 0 rfl) ?_
  refine lv_bipush (v := 7) X.x X.b d_Model_canHave_1 (by decide) ?_
  refine lv_icmp_ne (tgt := 32) X.x X.b d_Model_canHave_3 (by decide) (fun c1 => ?_) (fun c1 => ?_)
  · skip
    refine lv_iload_n X.x X.b d_Model_canHave_32 rfl (lv_at hl 0 rfl) ?_
    refine lv_if_eq (tgt := 48) X.x X.b d_Model_canHave_33 (by decide) (fun c2 => ?_) (fun c2 => ?_)
    · skip
      refine lv_iload_n X.x X.b d_Model_canHave_48 rfl (lv_at hl 1 rfl) ?_
      refine lv_if_ne (tgt := 60) X.x X.b d_Model_canHave_49 (by decide) (fun c3 => ?_) (fun c3 => ?_)
      · skip
        refine lv_iconst (v := 0) X.x X.b d_Model_canHave_60 (by decide) ?_
        exact m_zret X hS (Nat.zero_le _) (Nat.zero_le _) d_Model_canHave_61 rfl (congrArg (fun z => some (Value.int z)) (by simp [b2i, chOk, c1, c2, c3])) rfl
      · skip
        refine lv_iload_n X.x X.b d_Model_canHave_52 rfl (lv_at hl 2 rfl) ?_
        refine lv_if_ne (tgt := 60) X.x X.b d_Model_canHave_53 (by decide) (fun c4 => ?_) (fun c4 => ?_)
        · skip
          refine lv_iconst (v := 0) X.x X.b d_Model_canHave_60 (by decide) ?_
          exact m_zret X hS (Nat.zero_le _) (Nat.zero_le _) d_Model_canHave_61 rfl (congrArg (fun z => some (Value.int z)) (by simp [b2i, chOk, c1, c2, c3, c4])) rfl
        · skip
          refine lv_iconst (v := 1) X.x X.b d_Model_canHave_56 (by decide) ?_
          refine lv_goto (tgt := 61) X.x X.b d_Model_canHave_57 (by decide) ?_
          exact m_zret X hS (Nat.zero_le _) (Nat.zero_le _) d_Model_canHave_61 rfl (congrArg (fun z => some (Value.int z)) (by simp [b2i, chOk, c1, c2, c3, c4])) rfl
    · skip
      refine lv_iload_n X.x X.b d_Model_canHave_36 rfl (lv_at hl 0 rfl) ?_
      refine lv_bipush (v := 6) X.x X.b d_Model_canHave_37 (by decide) ?_
      refine lv_icmp_eq (tgt := 48) X.x X.b d_Model_canHave_39 (by decide) (fun c5 => ?_) (fun c5 => ?_)
      · skip
        refine lv_iload_n X.x X.b d_Model_canHave_48 rfl (lv_at hl 1 rfl) ?_
        refine lv_if_ne (tgt := 60) X.x X.b d_Model_canHave_49 (by decide) (fun c6 => ?_) (fun c6 => ?_)
        · skip
          refine lv_iconst (v := 0) X.x X.b d_Model_canHave_60 (by decide) ?_
          exact m_zret X hS (Nat.zero_le _) (Nat.zero_le _) d_Model_canHave_61 rfl (congrArg (fun z => some (Value.int z)) (by simp [b2i, chOk, c1, c2, c5, c6])) rfl
        · skip
          refine lv_iload_n X.x X.b d_Model_canHave_52 rfl (lv_at hl 2 rfl) ?_
          refine lv_if_ne (tgt := 60) X.x X.b d_Model_canHave_53 (by decide) (fun c7 => ?_) (fun c7 => ?_)
          · skip
            refine lv_iconst (v := 0) X.x X.b d_Model_canHave_60 (by decide) ?_
            exact m_zret X hS (Nat.zero_le _) (Nat.zero_le _) d_Model_canHave_61 rfl (congrArg (fun z => some (Value.int z)) (by simp [b2i, chOk, c1, c2, c5, c6, c7])) rfl
          · skip
            refine lv_iconst (v := 1) X.x X.b d_Model_canHave_56 (by decide) ?_
            refine lv_goto (tgt := 61) X.x X.b d_Model_canHave_57 (by decide) ?_
            exact m_zret X hS (Nat.zero_le _) (Nat.zero_le _) d_Model_canHave_61 rfl (congrArg (fun z => some (Value.int z)) (by simp [b2i, chOk, c1, c2, c5, c6, c7])) rfl
      · skip
        refine lv_iload_n X.x X.b d_Model_canHave_42 rfl (lv_at hl 0 rfl) ?_
        refine lv_bipush (v := 9) X.x X.b d_Model_canHave_43 (by decide) ?_
        refine lv_icmp_ne (tgt := 62) X.x X.b d_Model_canHave_45 (by decide) (fun c8 => ?_) (fun c8 => ?_)
        · skip
          refine lv_iload_n X.x X.b d_Model_canHave_62 rfl (lv_at hl 1 rfl) ?_
          refine lv_bipush (v := -99) X.x X.b d_Model_canHave_63 (by decide) ?_
          refine lv_bipush (v := 99) X.x X.b d_Model_canHave_65 (by decide) ?_
          refine m_callSP X hS (M_Model_isIn l g v (-99) 99) s_Model_84 rfl rfl (Nat.le_of_ble_eq_true rfl) hl.1 d_Model_canHave_67 (by omega) (by decide) ⟨by omega, by omega⟩ (fun locs hS => ?_)
          exact m_zret X hS (Nat.zero_le _) (Nat.zero_le _) d_Model_canHave_70 b2i_nar (congrArg (fun z => some (Value.int z)) (by simp [b2i, chOk, c1, c2, c5, c8])) rfl
        · skip
          refine lv_iload_n X.x X.b d_Model_canHave_48 rfl (lv_at hl 1 rfl) ?_
          refine lv_if_ne (tgt := 60) X.x X.b d_Model_canHave_49 (by decide) (fun c9 => ?_) (fun c9 => ?_)
          · skip
            refine lv_iconst (v := 0) X.x X.b d_Model_canHave_60 (by decide) ?_
            exact m_zret X hS (Nat.zero_le _) (Nat.zero_le _) d_Model_canHave_61 rfl (congrArg (fun z => some (Value.int z)) (by simp [b2i, chOk, c1, c2, c5, c8, c9])) rfl
          · skip
            refine lv_iload_n X.x X.b d_Model_canHave_52 rfl (lv_at hl 2 rfl) ?_
            refine lv_if_ne (tgt := 60) X.x X.b d_Model_canHave_53 (by decide) (fun c10 => ?_) (fun c10 => ?_)
            · skip
              refine lv_iconst (v := 0) X.x X.b d_Model_canHave_60 (by decide) ?_
              exact m_zret X hS (Nat.zero_le _) (Nat.zero_le _) d_Model_canHave_61 rfl (congrArg (fun z => some (Value.int z)) (by simp [b2i, chOk, c1, c2, c5, c8, c9, c10])) rfl
            · skip
              refine lv_iconst (v := 1) X.x X.b d_Model_canHave_56 (by decide) ?_
              refine lv_goto (tgt := 61) X.x X.b d_Model_canHave_57 (by decide) ?_
              exact m_zret X hS (Nat.zero_le _) (Nat.zero_le _) d_Model_canHave_61 rfl (congrArg (fun z => some (Value.int z)) (by simp [b2i, chOk, c1, c2, c5, c8, c9, c10])) rfl
  · skip
    refine lv_iload_n X.x X.b d_Model_canHave_6 rfl (lv_at hl 1 rfl) ?_
    refine lv_iconst (v := 2) X.x X.b d_Model_canHave_7 (by decide) ?_
    refine lv_icmp_eq (tgt := 22) X.x X.b d_Model_canHave_8 (by decide) (fun c11 => ?_) (fun c11 => ?_)
    · skip
      refine lv_iload_n X.x X.b d_Model_canHave_22 rfl (lv_at hl 2 rfl) ?_
      refine lv_if_ne (tgt := 30) X.x X.b d_Model_canHave_23 (by decide) (fun c12 => ?_) (fun c12 => ?_)
      · skip
        refine lv_iconst (v := 0) X.x X.b d_Model_canHave_30 (by decide) ?_
        exact m_zret X hS (Nat.zero_le _) (Nat.zero_le _) d_Model_canHave_31 rfl (congrArg (fun z => some (Value.int z)) (by simp [b2i, chOk, c1, c11, c12])) rfl
      · skip
        refine lv_iconst (v := 1) X.x X.b d_Model_canHave_26 (by decide) ?_
        refine lv_goto (tgt := 31) X.x X.b d_Model_canHave_27 (by decide) ?_
        exact m_zret X hS (Nat.zero_le _) (Nat.zero_le _) d_Model_canHave_31 rfl (congrArg (fun z => some (Value.int z)) (by simp [b2i, chOk, c1, c11, c12])) rfl
    · skip
      refine lv_iload_n X.x X.b d_Model_canHave_11 rfl (lv_at hl 1 rfl) ?_
      refine lv_iconst (v := 4) X.x X.b d_Model_canHave_12 (by decide) ?_
      refine lv_icmp_eq (tgt := 22) X.x X.b d_Model_canHave_13 (by decide) (fun c13 => ?_) (fun c13 => ?_)
      · skip
        refine lv_iload_n X.x X.b d_Model_canHave_22 rfl (lv_at hl 2 rfl) ?_
        refine lv_if_ne (tgt := 30) X.x X.b d_Model_canHave_23 (by decide) (fun c14 => ?_) (fun c14 => ?_)
        · skip
          refine lv_iconst (v := 0) X.x X.b d_Model_canHave_30 (by decide) ?_
          exact m_zret X hS (Nat.zero_le _) (Nat.zero_le _) d_Model_canHave_31 rfl (congrArg (fun z => some (Value.int z)) (by simp [b2i, chOk, c1, c11, c13, c14])) rfl
        · skip
          refine lv_iconst (v := 1) X.x X.b d_Model_canHave_26 (by decide) ?_
          refine lv_goto (tgt := 31) X.x X.b d_Model_canHave_27 (by decide) ?_
          exact m_zret X hS (Nat.zero_le _) (Nat.zero_le _) d_Model_canHave_31 rfl (congrArg (fun z => some (Value.int z)) (by simp [b2i, chOk, c1, c11, c13, c14])) rfl
      · skip
        refine lv_iload_n X.x X.b d_Model_canHave_16 rfl (lv_at hl 1 rfl) ?_
        refine lv_bipush (v := 8) X.x X.b d_Model_canHave_17 (by decide) ?_
        refine lv_icmp_ne (tgt := 30) X.x X.b d_Model_canHave_19 (by decide) (fun c15 => ?_) (fun c15 => ?_)
        · skip
          refine lv_iconst (v := 0) X.x X.b d_Model_canHave_30 (by decide) ?_
          exact m_zret X hS (Nat.zero_le _) (Nat.zero_le _) d_Model_canHave_31 rfl (congrArg (fun z => some (Value.int z)) (by simp [b2i, chOk, c1, c11, c13, c15])) rfl
        · skip
          refine lv_iload_n X.x X.b d_Model_canHave_22 rfl (lv_at hl 2 rfl) ?_
          refine lv_if_ne (tgt := 30) X.x X.b d_Model_canHave_23 (by decide) (fun c16 => ?_) (fun c16 => ?_)
          · skip
            refine lv_iconst (v := 0) X.x X.b d_Model_canHave_30 (by decide) ?_
            exact m_zret X hS (Nat.zero_le _) (Nat.zero_le _) d_Model_canHave_31 rfl (congrArg (fun z => some (Value.int z)) (by simp [b2i, chOk, c1, c11, c13, c15, c16])) rfl
          · skip
            refine lv_iconst (v := 1) X.x X.b d_Model_canHave_26 (by decide) ?_
            refine lv_goto (tgt := 31) X.x X.b d_Model_canHave_27 (by decide) ?_
            exact m_zret X hS (Nat.zero_le _) (Nat.zero_le _) d_Model_canHave_31 rfl (congrArg (fun z => some (Value.int z)) (by simp [b2i, chOk, c1, c11, c13, c15, c16])) rfl
set_option maxRecDepth 100000 in
set_option maxHeartbeats 4000000 in
theorem M_Model_canBe (l : Launch) (g : GG) {H0 : Heap} (k a b v r : Int32) : MP l y_Model_canBe c_Model_canBe 5 (some .boolean) 2 g H0 [.int k, .int a, .int b, .int v, .int r] (some (.int (b2i (cbOk k a b v r)))) := by
  refine MM.of (by decide +kernel) (Nat.le_of_ble_eq_true rfl) ?_
  intro p e s m below meth cd X hH ls hl
  have X : CX g p s m _ meth cd c_Model_canBe 5 (some .boolean) R_Model _ := X
  have hl : lv_has ls 5 [(0, .int k), (1, .int a), (2, .int b), (3, .int v), (4, .int r)] := hl
  have hS : va_S (AA (noA) H0) H0 H0 [] := va_S.rf
  refine lv_iload_n X.x X.b d_Model_canBe_0 rfl (lv_at hl 0 rfl) ?_
  refine lv_iload_n X.x X.b d_Model_canBe_1 rfl (lv_at hl 3 rfl) ?_
  refine lv_iload X.x X.b d_Model_canBe_2 (lv_at hl 4 rfl) ?_
  refine m_callSP X hS (M_Model_canHave l g k v r) s_Model_88 rfl rfl (Nat.le_of_ble_eq_true rfl) hl.1 d_Model_canBe_4 (by omega) (by decide) ⟨by omega, by omega⟩ (fun locs hS => ?_)
  refine lv_if_ne (tgt := 12) X.x X.b d_Model_canBe_7 (by decide) (fun c1 => ?_) (fun c1 => ?_)
  · skip
    have c1 := b2i_n0 c1
    refine lv_iload_n X.x X.b d_Model_canBe_12 rfl (lv_at hl 0 rfl) ?_
    by_cases k2 : k = 0
    · skip
      refine lv_tableIn (off := 59) (tgt := 72) X.x X.b d_Model_canBe_13 (by rw [k2]; decide) (by rw [k2]; decide) (by rw [k2]; decide) (by decide) ?_
      refine lv_iload_n X.x X.b d_Model_canBe_72 rfl (lv_at hl 1 rfl) ?_
      refine lv_iconst (v := 0) X.x X.b d_Model_canBe_73 (by decide) ?_
      refine lv_bipush (v := 9) X.x X.b d_Model_canBe_74 (by decide) ?_
      refine m_callSP X hS (M_Model_isIn l g a 0 9) s_Model_84 rfl rfl (Nat.le_of_ble_eq_true rfl) hl.1 d_Model_canBe_76 (by omega) (by decide) ⟨by omega, by omega⟩ (fun locs hS => ?_)
      refine lv_if_eq (tgt := 91) X.x X.b d_Model_canBe_79 (by decide) (fun c3 => ?_) (fun c3 => ?_)
      · skip
        have c3 := b2i_0.mp c3
        refine lv_iconst (v := 0) X.x X.b d_Model_canBe_91 (by decide) ?_
        exact m_zret X hS (Nat.zero_le _) (Nat.zero_le _) d_Model_canBe_92 rfl (congrArg (fun z => some (Value.int z)) (by rw [b2i, if_neg (fun z => by have z2 := z.2; first | (simp [abOk, k2, c3] at z2; done) | (exfalso; simp_all; done))])) rfl
      · skip
        have c3 := b2i_n0 c3
        refine lv_iload_n X.x X.b d_Model_canBe_82 rfl (lv_at hl 2 rfl) ?_
        refine lv_iconst (v := -1) X.x X.b d_Model_canBe_83 (by decide) ?_
        refine lv_icmp_ne (tgt := 91) X.x X.b d_Model_canBe_84 (by decide) (fun c4 => ?_) (fun c4 => ?_)
        · skip
          refine lv_iconst (v := 0) X.x X.b d_Model_canBe_91 (by decide) ?_
          exact m_zret X hS (Nat.zero_le _) (Nat.zero_le _) d_Model_canBe_92 rfl (congrArg (fun z => some (Value.int z)) (by rw [b2i, if_neg (fun z => by have z2 := z.2; first | (simp [abOk, k2, c3, c4] at z2; done) | (exfalso; simp_all; done))])) rfl
        · skip
          refine lv_iconst (v := 1) X.x X.b d_Model_canBe_87 (by decide) ?_
          refine lv_goto (tgt := 92) X.x X.b d_Model_canBe_88 (by decide) ?_
          exact m_zret X hS (Nat.zero_le _) (Nat.zero_le _) d_Model_canBe_92 rfl (congrArg (fun z => some (Value.int z)) (by rw [b2i, if_pos ⟨c1, by simp [abOk, k2, c3, c4]⟩])) rfl
    by_cases k5 : k = 1
    · skip
      refine lv_tableIn (off := 80) (tgt := 93) X.x X.b d_Model_canBe_13 (by rw [k5]; decide) (by rw [k5]; decide) (by rw [k5]; decide) (by decide) ?_
      refine lv_iload_n X.x X.b d_Model_canBe_93 rfl (lv_at hl 1 rfl) ?_
      refine lv_iconst (v := 0) X.x X.b d_Model_canBe_94 (by decide) ?_
      refine lv_bipush (v := 7) X.x X.b d_Model_canBe_95 (by decide) ?_
      refine m_callSP X hS (M_Model_isIn l g a 0 7) s_Model_84 rfl rfl (Nat.le_of_ble_eq_true rfl) hl.1 d_Model_canBe_97 (by omega) (by decide) ⟨by omega, by omega⟩ (fun locs hS => ?_)
      refine lv_if_eq (tgt := 117) X.x X.b d_Model_canBe_100 (by decide) (fun c6 => ?_) (fun c6 => ?_)
      · skip
        have c6 := b2i_0.mp c6
        refine lv_iconst (v := 0) X.x X.b d_Model_canBe_117 (by decide) ?_
        exact m_zret X hS (Nat.zero_le _) (Nat.zero_le _) d_Model_canBe_118 rfl (congrArg (fun z => some (Value.int z)) (by rw [b2i, if_neg (fun z => by have z2 := z.2; first | (simp [abOk, k5, c6] at z2; done) | (exfalso; simp_all; done))])) rfl
      · skip
        have c6 := b2i_n0 c6
        refine lv_iload_n X.x X.b d_Model_canBe_103 rfl (lv_at hl 2 rfl) ?_
        refine lv_iconst (v := -1) X.x X.b d_Model_canBe_104 (by decide) ?_
        refine lv_bipush (v := 7) X.x X.b d_Model_canBe_105 (by decide) ?_
        refine m_callSP X hS (M_Model_isIn l g b (-1) 7) s_Model_84 rfl rfl (Nat.le_of_ble_eq_true rfl) hl.1 d_Model_canBe_107 (by omega) (by decide) ⟨by omega, by omega⟩ (fun locs hS => ?_)
        refine lv_if_eq (tgt := 117) X.x X.b d_Model_canBe_110 (by decide) (fun c7 => ?_) (fun c7 => ?_)
        · skip
          have c7 := b2i_0.mp c7
          refine lv_iconst (v := 0) X.x X.b d_Model_canBe_117 (by decide) ?_
          exact m_zret X hS (Nat.zero_le _) (Nat.zero_le _) d_Model_canBe_118 rfl (congrArg (fun z => some (Value.int z)) (by rw [b2i, if_neg (fun z => by have z2 := z.2; first | (simp [abOk, k5, c6, c7] at z2; done) | (exfalso; simp_all; done))])) rfl
        · skip
          have c7 := b2i_n0 c7
          refine lv_iconst (v := 1) X.x X.b d_Model_canBe_113 (by decide) ?_
          refine lv_goto (tgt := 118) X.x X.b d_Model_canBe_114 (by decide) ?_
          exact m_zret X hS (Nat.zero_le _) (Nat.zero_le _) d_Model_canBe_118 rfl (congrArg (fun z => some (Value.int z)) (by rw [b2i, if_pos ⟨c1, by simp [abOk, k5, c6, c7]⟩])) rfl
    by_cases k8 : k = 2
    · skip
      refine lv_tableIn (off := 106) (tgt := 119) X.x X.b d_Model_canBe_13 (by rw [k8]; decide) (by rw [k8]; decide) (by rw [k8]; decide) (by decide) ?_
      refine lv_iload_n X.x X.b d_Model_canBe_119 rfl (lv_at hl 1 rfl) ?_
      refine lv_iconst (v := -1) X.x X.b d_Model_canBe_120 (by decide) ?_
      refine lv_bipush (v := 11) X.x X.b d_Model_canBe_121 (by decide) ?_
      refine m_callSP X hS (M_Model_isIn l g a (-1) 11) s_Model_84 rfl rfl (Nat.le_of_ble_eq_true rfl) hl.1 d_Model_canBe_123 (by omega) (by decide) ⟨by omega, by omega⟩ (fun locs hS => ?_)
      refine lv_if_eq (tgt := 143) X.x X.b d_Model_canBe_126 (by decide) (fun c9 => ?_) (fun c9 => ?_)
      · skip
        have c9 := b2i_0.mp c9
        refine lv_iconst (v := 0) X.x X.b d_Model_canBe_143 (by decide) ?_
        exact m_zret X hS (Nat.zero_le _) (Nat.zero_le _) d_Model_canBe_144 rfl (congrArg (fun z => some (Value.int z)) (by rw [b2i, if_neg (fun z => by have z2 := z.2; first | (simp [abOk, k8, c9] at z2; done) | (exfalso; simp_all; done))])) rfl
      · skip
        have c9 := b2i_n0 c9
        refine lv_iload_n X.x X.b d_Model_canBe_129 rfl (lv_at hl 2 rfl) ?_
        refine lv_iconst (v := -1) X.x X.b d_Model_canBe_130 (by decide) ?_
        refine lv_bipush (v := 11) X.x X.b d_Model_canBe_131 (by decide) ?_
        refine m_callSP X hS (M_Model_isIn l g b (-1) 11) s_Model_84 rfl rfl (Nat.le_of_ble_eq_true rfl) hl.1 d_Model_canBe_133 (by omega) (by decide) ⟨by omega, by omega⟩ (fun locs hS => ?_)
        refine lv_if_eq (tgt := 143) X.x X.b d_Model_canBe_136 (by decide) (fun c10 => ?_) (fun c10 => ?_)
        · skip
          have c10 := b2i_0.mp c10
          refine lv_iconst (v := 0) X.x X.b d_Model_canBe_143 (by decide) ?_
          exact m_zret X hS (Nat.zero_le _) (Nat.zero_le _) d_Model_canBe_144 rfl (congrArg (fun z => some (Value.int z)) (by rw [b2i, if_neg (fun z => by have z2 := z.2; first | (simp [abOk, k8, c9, c10] at z2; done) | (exfalso; simp_all; done))])) rfl
        · skip
          have c10 := b2i_n0 c10
          refine lv_iconst (v := 1) X.x X.b d_Model_canBe_139 (by decide) ?_
          refine lv_goto (tgt := 144) X.x X.b d_Model_canBe_140 (by decide) ?_
          exact m_zret X hS (Nat.zero_le _) (Nat.zero_le _) d_Model_canBe_144 rfl (congrArg (fun z => some (Value.int z)) (by rw [b2i, if_pos ⟨c1, by simp [abOk, k8, c9, c10]⟩])) rfl
    by_cases k11 : k = 3
    · skip
      refine lv_tableIn (off := 132) (tgt := 145) X.x X.b d_Model_canBe_13 (by rw [k11]; decide) (by rw [k11]; decide) (by rw [k11]; decide) (by decide) ?_
      refine lv_iload_n X.x X.b d_Model_canBe_145 rfl (lv_at hl 1 rfl) ?_
      refine lv_iconst (v := -1) X.x X.b d_Model_canBe_146 (by decide) ?_
      refine lv_bipush (v := 11) X.x X.b d_Model_canBe_147 (by decide) ?_
      refine m_callSP X hS (M_Model_isIn l g a (-1) 11) s_Model_84 rfl rfl (Nat.le_of_ble_eq_true rfl) hl.1 d_Model_canBe_149 (by omega) (by decide) ⟨by omega, by omega⟩ (fun locs hS => ?_)
      refine lv_if_eq (tgt := 164) X.x X.b d_Model_canBe_152 (by decide) (fun c12 => ?_) (fun c12 => ?_)
      · skip
        have c12 := b2i_0.mp c12
        refine lv_iconst (v := 0) X.x X.b d_Model_canBe_164 (by decide) ?_
        exact m_zret X hS (Nat.zero_le _) (Nat.zero_le _) d_Model_canBe_165 rfl (congrArg (fun z => some (Value.int z)) (by rw [b2i, if_neg (fun z => by have z2 := z.2; first | (simp [abOk, k11, c12] at z2; done) | (exfalso; simp_all; done))])) rfl
      · skip
        have c12 := b2i_n0 c12
        refine lv_iload_n X.x X.b d_Model_canBe_155 rfl (lv_at hl 2 rfl) ?_
        refine lv_iconst (v := -1) X.x X.b d_Model_canBe_156 (by decide) ?_
        refine lv_icmp_ne (tgt := 164) X.x X.b d_Model_canBe_157 (by decide) (fun c13 => ?_) (fun c13 => ?_)
        · skip
          refine lv_iconst (v := 0) X.x X.b d_Model_canBe_164 (by decide) ?_
          exact m_zret X hS (Nat.zero_le _) (Nat.zero_le _) d_Model_canBe_165 rfl (congrArg (fun z => some (Value.int z)) (by rw [b2i, if_neg (fun z => by have z2 := z.2; first | (simp [abOk, k11, c12, c13] at z2; done) | (exfalso; simp_all; done))])) rfl
        · skip
          refine lv_iconst (v := 1) X.x X.b d_Model_canBe_160 (by decide) ?_
          refine lv_goto (tgt := 165) X.x X.b d_Model_canBe_161 (by decide) ?_
          exact m_zret X hS (Nat.zero_le _) (Nat.zero_le _) d_Model_canBe_165 rfl (congrArg (fun z => some (Value.int z)) (by rw [b2i, if_pos ⟨c1, by simp [abOk, k11, c12, c13]⟩])) rfl
    by_cases k14 : k = 4
    · skip
      refine lv_tableIn (off := 132) (tgt := 145) X.x X.b d_Model_canBe_13 (by rw [k14]; decide) (by rw [k14]; decide) (by rw [k14]; decide) (by decide) ?_
      refine lv_iload_n X.x X.b d_Model_canBe_145 rfl (lv_at hl 1 rfl) ?_
      refine lv_iconst (v := -1) X.x X.b d_Model_canBe_146 (by decide) ?_
      refine lv_bipush (v := 11) X.x X.b d_Model_canBe_147 (by decide) ?_
      refine m_callSP X hS (M_Model_isIn l g a (-1) 11) s_Model_84 rfl rfl (Nat.le_of_ble_eq_true rfl) hl.1 d_Model_canBe_149 (by omega) (by decide) ⟨by omega, by omega⟩ (fun locs hS => ?_)
      refine lv_if_eq (tgt := 164) X.x X.b d_Model_canBe_152 (by decide) (fun c15 => ?_) (fun c15 => ?_)
      · skip
        have c15 := b2i_0.mp c15
        refine lv_iconst (v := 0) X.x X.b d_Model_canBe_164 (by decide) ?_
        exact m_zret X hS (Nat.zero_le _) (Nat.zero_le _) d_Model_canBe_165 rfl (congrArg (fun z => some (Value.int z)) (by rw [b2i, if_neg (fun z => by have z2 := z.2; first | (simp [abOk, k14, c15] at z2; done) | (exfalso; simp_all; done))])) rfl
      · skip
        have c15 := b2i_n0 c15
        refine lv_iload_n X.x X.b d_Model_canBe_155 rfl (lv_at hl 2 rfl) ?_
        refine lv_iconst (v := -1) X.x X.b d_Model_canBe_156 (by decide) ?_
        refine lv_icmp_ne (tgt := 164) X.x X.b d_Model_canBe_157 (by decide) (fun c16 => ?_) (fun c16 => ?_)
        · skip
          refine lv_iconst (v := 0) X.x X.b d_Model_canBe_164 (by decide) ?_
          exact m_zret X hS (Nat.zero_le _) (Nat.zero_le _) d_Model_canBe_165 rfl (congrArg (fun z => some (Value.int z)) (by rw [b2i, if_neg (fun z => by have z2 := z.2; first | (simp [abOk, k14, c15, c16] at z2; done) | (exfalso; simp_all; done))])) rfl
        · skip
          refine lv_iconst (v := 1) X.x X.b d_Model_canBe_160 (by decide) ?_
          refine lv_goto (tgt := 165) X.x X.b d_Model_canBe_161 (by decide) ?_
          exact m_zret X hS (Nat.zero_le _) (Nat.zero_le _) d_Model_canBe_165 rfl (congrArg (fun z => some (Value.int z)) (by rw [b2i, if_pos ⟨c1, by simp [abOk, k14, c15, c16]⟩])) rfl
    by_cases k17 : k = 5
    · skip
      refine lv_tableIn (off := 199) (tgt := 212) X.x X.b d_Model_canBe_13 (by rw [k17]; decide) (by rw [k17]; decide) (by rw [k17]; decide) (by decide) ?_
      refine lv_iload_n X.x X.b d_Model_canBe_212 rfl (lv_at hl 0 rfl) ?_
      refine lv_iconst (v := 0) X.x X.b d_Model_canBe_213 (by decide) ?_
      refine lv_bipush (v := 10) X.x X.b d_Model_canBe_214 (by decide) ?_
      refine m_callSP X hS (M_Model_isIn l g k 0 10) s_Model_84 rfl rfl (Nat.le_of_ble_eq_true rfl) hl.1 d_Model_canBe_216 (by omega) (by decide) ⟨by omega, by omega⟩ (fun locs hS => ?_)
      refine lv_if_eq (tgt := 236) X.x X.b d_Model_canBe_219 (by decide) (fun c18 => ?_) (fun c18 => ?_)
      · skip
        have c18 := b2i_0.mp c18
        refine lv_iconst (v := 0) X.x X.b d_Model_canBe_236 (by decide) ?_
        exact m_zret X hS (Nat.zero_le _) (Nat.zero_le _) d_Model_canBe_237 rfl (congrArg (fun z => some (Value.int z)) (by rw [b2i, if_neg (fun z => by have z2 := z.2; first | (simp [abOk, k17, c18] at z2; done) | (exfalso; simp_all; done))])) rfl
      · skip
        have c18 := b2i_n0 c18
        refine lv_iload_n X.x X.b d_Model_canBe_222 rfl (lv_at hl 1 rfl) ?_
        refine lv_iconst (v := -1) X.x X.b d_Model_canBe_223 (by decide) ?_
        refine lv_icmp_ne (tgt := 236) X.x X.b d_Model_canBe_224 (by decide) (fun c19 => ?_) (fun c19 => ?_)
        · skip
          refine lv_iconst (v := 0) X.x X.b d_Model_canBe_236 (by decide) ?_
          exact m_zret X hS (Nat.zero_le _) (Nat.zero_le _) d_Model_canBe_237 rfl (congrArg (fun z => some (Value.int z)) (by rw [b2i, if_neg (fun z => by have z2 := z.2; first | (simp [abOk, k17, c18, c19] at z2; done) | (exfalso; simp_all; done))])) rfl
        · skip
          refine lv_iload_n X.x X.b d_Model_canBe_227 rfl (lv_at hl 2 rfl) ?_
          refine lv_iconst (v := -1) X.x X.b d_Model_canBe_228 (by decide) ?_
          refine lv_icmp_ne (tgt := 236) X.x X.b d_Model_canBe_229 (by decide) (fun c20 => ?_) (fun c20 => ?_)
          · skip
            refine lv_iconst (v := 0) X.x X.b d_Model_canBe_236 (by decide) ?_
            exact m_zret X hS (Nat.zero_le _) (Nat.zero_le _) d_Model_canBe_237 rfl (congrArg (fun z => some (Value.int z)) (by rw [b2i, if_neg (fun z => by have z2 := z.2; first | (simp [abOk, k17, c18, c19, c20] at z2; done) | (exfalso; simp_all; done))])) rfl
          · skip
            refine lv_iconst (v := 1) X.x X.b d_Model_canBe_232 (by decide) ?_
            refine lv_goto (tgt := 237) X.x X.b d_Model_canBe_233 (by decide) ?_
            exact m_zret X hS (Nat.zero_le _) (Nat.zero_le _) d_Model_canBe_237 rfl (congrArg (fun z => some (Value.int z)) (by rw [b2i, if_pos ⟨c1, by simp [abOk, k17, c18, c19, c20]⟩])) rfl
    by_cases k21 : k = 6
    · skip
      refine lv_tableIn (off := 199) (tgt := 212) X.x X.b d_Model_canBe_13 (by rw [k21]; decide) (by rw [k21]; decide) (by rw [k21]; decide) (by decide) ?_
      refine lv_iload_n X.x X.b d_Model_canBe_212 rfl (lv_at hl 0 rfl) ?_
      refine lv_iconst (v := 0) X.x X.b d_Model_canBe_213 (by decide) ?_
      refine lv_bipush (v := 10) X.x X.b d_Model_canBe_214 (by decide) ?_
      refine m_callSP X hS (M_Model_isIn l g k 0 10) s_Model_84 rfl rfl (Nat.le_of_ble_eq_true rfl) hl.1 d_Model_canBe_216 (by omega) (by decide) ⟨by omega, by omega⟩ (fun locs hS => ?_)
      refine lv_if_eq (tgt := 236) X.x X.b d_Model_canBe_219 (by decide) (fun c22 => ?_) (fun c22 => ?_)
      · skip
        have c22 := b2i_0.mp c22
        refine lv_iconst (v := 0) X.x X.b d_Model_canBe_236 (by decide) ?_
        exact m_zret X hS (Nat.zero_le _) (Nat.zero_le _) d_Model_canBe_237 rfl (congrArg (fun z => some (Value.int z)) (by rw [b2i, if_neg (fun z => by have z2 := z.2; first | (simp [abOk, k21, c22] at z2; done) | (exfalso; simp_all; done))])) rfl
      · skip
        have c22 := b2i_n0 c22
        refine lv_iload_n X.x X.b d_Model_canBe_222 rfl (lv_at hl 1 rfl) ?_
        refine lv_iconst (v := -1) X.x X.b d_Model_canBe_223 (by decide) ?_
        refine lv_icmp_ne (tgt := 236) X.x X.b d_Model_canBe_224 (by decide) (fun c23 => ?_) (fun c23 => ?_)
        · skip
          refine lv_iconst (v := 0) X.x X.b d_Model_canBe_236 (by decide) ?_
          exact m_zret X hS (Nat.zero_le _) (Nat.zero_le _) d_Model_canBe_237 rfl (congrArg (fun z => some (Value.int z)) (by rw [b2i, if_neg (fun z => by have z2 := z.2; first | (simp [abOk, k21, c22, c23] at z2; done) | (exfalso; simp_all; done))])) rfl
        · skip
          refine lv_iload_n X.x X.b d_Model_canBe_227 rfl (lv_at hl 2 rfl) ?_
          refine lv_iconst (v := -1) X.x X.b d_Model_canBe_228 (by decide) ?_
          refine lv_icmp_ne (tgt := 236) X.x X.b d_Model_canBe_229 (by decide) (fun c24 => ?_) (fun c24 => ?_)
          · skip
            refine lv_iconst (v := 0) X.x X.b d_Model_canBe_236 (by decide) ?_
            exact m_zret X hS (Nat.zero_le _) (Nat.zero_le _) d_Model_canBe_237 rfl (congrArg (fun z => some (Value.int z)) (by rw [b2i, if_neg (fun z => by have z2 := z.2; first | (simp [abOk, k21, c22, c23, c24] at z2; done) | (exfalso; simp_all; done))])) rfl
          · skip
            refine lv_iconst (v := 1) X.x X.b d_Model_canBe_232 (by decide) ?_
            refine lv_goto (tgt := 237) X.x X.b d_Model_canBe_233 (by decide) ?_
            exact m_zret X hS (Nat.zero_le _) (Nat.zero_le _) d_Model_canBe_237 rfl (congrArg (fun z => some (Value.int z)) (by rw [b2i, if_pos ⟨c1, by simp [abOk, k21, c22, c23, c24]⟩])) rfl
    by_cases k25 : k = 7
    · skip
      refine lv_tableIn (off := 199) (tgt := 212) X.x X.b d_Model_canBe_13 (by rw [k25]; decide) (by rw [k25]; decide) (by rw [k25]; decide) (by decide) ?_
      refine lv_iload_n X.x X.b d_Model_canBe_212 rfl (lv_at hl 0 rfl) ?_
      refine lv_iconst (v := 0) X.x X.b d_Model_canBe_213 (by decide) ?_
      refine lv_bipush (v := 10) X.x X.b d_Model_canBe_214 (by decide) ?_
      refine m_callSP X hS (M_Model_isIn l g k 0 10) s_Model_84 rfl rfl (Nat.le_of_ble_eq_true rfl) hl.1 d_Model_canBe_216 (by omega) (by decide) ⟨by omega, by omega⟩ (fun locs hS => ?_)
      refine lv_if_eq (tgt := 236) X.x X.b d_Model_canBe_219 (by decide) (fun c26 => ?_) (fun c26 => ?_)
      · skip
        have c26 := b2i_0.mp c26
        refine lv_iconst (v := 0) X.x X.b d_Model_canBe_236 (by decide) ?_
        exact m_zret X hS (Nat.zero_le _) (Nat.zero_le _) d_Model_canBe_237 rfl (congrArg (fun z => some (Value.int z)) (by rw [b2i, if_neg (fun z => by have z2 := z.2; first | (simp [abOk, k25, c26] at z2; done) | (exfalso; simp_all; done))])) rfl
      · skip
        have c26 := b2i_n0 c26
        refine lv_iload_n X.x X.b d_Model_canBe_222 rfl (lv_at hl 1 rfl) ?_
        refine lv_iconst (v := -1) X.x X.b d_Model_canBe_223 (by decide) ?_
        refine lv_icmp_ne (tgt := 236) X.x X.b d_Model_canBe_224 (by decide) (fun c27 => ?_) (fun c27 => ?_)
        · skip
          refine lv_iconst (v := 0) X.x X.b d_Model_canBe_236 (by decide) ?_
          exact m_zret X hS (Nat.zero_le _) (Nat.zero_le _) d_Model_canBe_237 rfl (congrArg (fun z => some (Value.int z)) (by rw [b2i, if_neg (fun z => by have z2 := z.2; first | (simp [abOk, k25, c26, c27] at z2; done) | (exfalso; simp_all; done))])) rfl
        · skip
          refine lv_iload_n X.x X.b d_Model_canBe_227 rfl (lv_at hl 2 rfl) ?_
          refine lv_iconst (v := -1) X.x X.b d_Model_canBe_228 (by decide) ?_
          refine lv_icmp_ne (tgt := 236) X.x X.b d_Model_canBe_229 (by decide) (fun c28 => ?_) (fun c28 => ?_)
          · skip
            refine lv_iconst (v := 0) X.x X.b d_Model_canBe_236 (by decide) ?_
            exact m_zret X hS (Nat.zero_le _) (Nat.zero_le _) d_Model_canBe_237 rfl (congrArg (fun z => some (Value.int z)) (by rw [b2i, if_neg (fun z => by have z2 := z.2; first | (simp [abOk, k25, c26, c27, c28] at z2; done) | (exfalso; simp_all; done))])) rfl
          · skip
            refine lv_iconst (v := 1) X.x X.b d_Model_canBe_232 (by decide) ?_
            refine lv_goto (tgt := 237) X.x X.b d_Model_canBe_233 (by decide) ?_
            exact m_zret X hS (Nat.zero_le _) (Nat.zero_le _) d_Model_canBe_237 rfl (congrArg (fun z => some (Value.int z)) (by rw [b2i, if_pos ⟨c1, by simp [abOk, k25, c26, c27, c28]⟩])) rfl
    by_cases k29 : k = 8
    · skip
      refine lv_tableIn (off := 153) (tgt := 166) X.x X.b d_Model_canBe_13 (by rw [k29]; decide) (by rw [k29]; decide) (by rw [k29]; decide) (by decide) ?_
      refine lv_iload_n X.x X.b d_Model_canBe_166 rfl (lv_at hl 1 rfl) ?_
      refine lv_iconst (v := -1) X.x X.b d_Model_canBe_167 (by decide) ?_
      refine lv_bipush (v := 7) X.x X.b d_Model_canBe_168 (by decide) ?_
      refine m_callSP X hS (M_Model_isIn l g a (-1) 7) s_Model_84 rfl rfl (Nat.le_of_ble_eq_true rfl) hl.1 d_Model_canBe_170 (by omega) (by decide) ⟨by omega, by omega⟩ (fun locs hS => ?_)
      refine lv_if_eq (tgt := 190) X.x X.b d_Model_canBe_173 (by decide) (fun c30 => ?_) (fun c30 => ?_)
      · skip
        have c30 := b2i_0.mp c30
        refine lv_iconst (v := 0) X.x X.b d_Model_canBe_190 (by decide) ?_
        exact m_zret X hS (Nat.zero_le _) (Nat.zero_le _) d_Model_canBe_191 rfl (congrArg (fun z => some (Value.int z)) (by rw [b2i, if_neg (fun z => by have z2 := z.2; first | (simp [abOk, k29, c30] at z2; done) | (exfalso; simp_all; done))])) rfl
      · skip
        have c30 := b2i_n0 c30
        refine lv_iload_n X.x X.b d_Model_canBe_176 rfl (lv_at hl 2 rfl) ?_
        refine lv_iconst (v := -1) X.x X.b d_Model_canBe_177 (by decide) ?_
        refine lv_bipush (v := 7) X.x X.b d_Model_canBe_178 (by decide) ?_
        refine m_callSP X hS (M_Model_isIn l g b (-1) 7) s_Model_84 rfl rfl (Nat.le_of_ble_eq_true rfl) hl.1 d_Model_canBe_180 (by omega) (by decide) ⟨by omega, by omega⟩ (fun locs hS => ?_)
        refine lv_if_eq (tgt := 190) X.x X.b d_Model_canBe_183 (by decide) (fun c31 => ?_) (fun c31 => ?_)
        · skip
          have c31 := b2i_0.mp c31
          refine lv_iconst (v := 0) X.x X.b d_Model_canBe_190 (by decide) ?_
          exact m_zret X hS (Nat.zero_le _) (Nat.zero_le _) d_Model_canBe_191 rfl (congrArg (fun z => some (Value.int z)) (by rw [b2i, if_neg (fun z => by have z2 := z.2; first | (simp [abOk, k29, c30, c31] at z2; done) | (exfalso; simp_all; done))])) rfl
        · skip
          have c31 := b2i_n0 c31
          refine lv_iconst (v := 1) X.x X.b d_Model_canBe_186 (by decide) ?_
          refine lv_goto (tgt := 191) X.x X.b d_Model_canBe_187 (by decide) ?_
          exact m_zret X hS (Nat.zero_le _) (Nat.zero_le _) d_Model_canBe_191 rfl (congrArg (fun z => some (Value.int z)) (by rw [b2i, if_pos ⟨c1, by simp [abOk, k29, c30, c31]⟩])) rfl
    by_cases k32 : k = 9
    · skip
      refine lv_tableIn (off := 199) (tgt := 212) X.x X.b d_Model_canBe_13 (by rw [k32]; decide) (by rw [k32]; decide) (by rw [k32]; decide) (by decide) ?_
      refine lv_iload_n X.x X.b d_Model_canBe_212 rfl (lv_at hl 0 rfl) ?_
      refine lv_iconst (v := 0) X.x X.b d_Model_canBe_213 (by decide) ?_
      refine lv_bipush (v := 10) X.x X.b d_Model_canBe_214 (by decide) ?_
      refine m_callSP X hS (M_Model_isIn l g k 0 10) s_Model_84 rfl rfl (Nat.le_of_ble_eq_true rfl) hl.1 d_Model_canBe_216 (by omega) (by decide) ⟨by omega, by omega⟩ (fun locs hS => ?_)
      refine lv_if_eq (tgt := 236) X.x X.b d_Model_canBe_219 (by decide) (fun c33 => ?_) (fun c33 => ?_)
      · skip
        have c33 := b2i_0.mp c33
        refine lv_iconst (v := 0) X.x X.b d_Model_canBe_236 (by decide) ?_
        exact m_zret X hS (Nat.zero_le _) (Nat.zero_le _) d_Model_canBe_237 rfl (congrArg (fun z => some (Value.int z)) (by rw [b2i, if_neg (fun z => by have z2 := z.2; first | (simp [abOk, k32, c33] at z2; done) | (exfalso; simp_all; done))])) rfl
      · skip
        have c33 := b2i_n0 c33
        refine lv_iload_n X.x X.b d_Model_canBe_222 rfl (lv_at hl 1 rfl) ?_
        refine lv_iconst (v := -1) X.x X.b d_Model_canBe_223 (by decide) ?_
        refine lv_icmp_ne (tgt := 236) X.x X.b d_Model_canBe_224 (by decide) (fun c34 => ?_) (fun c34 => ?_)
        · skip
          refine lv_iconst (v := 0) X.x X.b d_Model_canBe_236 (by decide) ?_
          exact m_zret X hS (Nat.zero_le _) (Nat.zero_le _) d_Model_canBe_237 rfl (congrArg (fun z => some (Value.int z)) (by rw [b2i, if_neg (fun z => by have z2 := z.2; first | (simp [abOk, k32, c33, c34] at z2; done) | (exfalso; simp_all; done))])) rfl
        · skip
          refine lv_iload_n X.x X.b d_Model_canBe_227 rfl (lv_at hl 2 rfl) ?_
          refine lv_iconst (v := -1) X.x X.b d_Model_canBe_228 (by decide) ?_
          refine lv_icmp_ne (tgt := 236) X.x X.b d_Model_canBe_229 (by decide) (fun c35 => ?_) (fun c35 => ?_)
          · skip
            refine lv_iconst (v := 0) X.x X.b d_Model_canBe_236 (by decide) ?_
            exact m_zret X hS (Nat.zero_le _) (Nat.zero_le _) d_Model_canBe_237 rfl (congrArg (fun z => some (Value.int z)) (by rw [b2i, if_neg (fun z => by have z2 := z.2; first | (simp [abOk, k32, c33, c34, c35] at z2; done) | (exfalso; simp_all; done))])) rfl
          · skip
            refine lv_iconst (v := 1) X.x X.b d_Model_canBe_232 (by decide) ?_
            refine lv_goto (tgt := 237) X.x X.b d_Model_canBe_233 (by decide) ?_
            exact m_zret X hS (Nat.zero_le _) (Nat.zero_le _) d_Model_canBe_237 rfl (congrArg (fun z => some (Value.int z)) (by rw [b2i, if_pos ⟨c1, by simp [abOk, k32, c33, c34, c35]⟩])) rfl
    by_cases k36 : k = 10
    · skip
      refine lv_tableIn (off := 179) (tgt := 192) X.x X.b d_Model_canBe_13 (by rw [k36]; decide) (by rw [k36]; decide) (by rw [k36]; decide) (by decide) ?_
      refine lv_iload_n X.x X.b d_Model_canBe_192 rfl (lv_at hl 1 rfl) ?_
      refine lv_iconst (v := 1) X.x X.b d_Model_canBe_193 (by decide) ?_
      refine lv_iconst (v := 4) X.x X.b d_Model_canBe_194 (by decide) ?_
      refine m_callSP X hS (M_Model_isIn l g a 1 4) s_Model_84 rfl rfl (Nat.le_of_ble_eq_true rfl) hl.1 d_Model_canBe_195 (by omega) (by decide) ⟨by omega, by omega⟩ (fun locs hS => ?_)
      refine lv_if_eq (tgt := 210) X.x X.b d_Model_canBe_198 (by decide) (fun c37 => ?_) (fun c37 => ?_)
      · skip
        have c37 := b2i_0.mp c37
        refine lv_iconst (v := 0) X.x X.b d_Model_canBe_210 (by decide) ?_
        exact m_zret X hS (Nat.zero_le _) (Nat.zero_le _) d_Model_canBe_211 rfl (congrArg (fun z => some (Value.int z)) (by rw [b2i, if_neg (fun z => by have z2 := z.2; first | (simp [abOk, k36, c37] at z2; done) | (exfalso; simp_all; done))])) rfl
      · skip
        have c37 := b2i_n0 c37
        refine lv_iload_n X.x X.b d_Model_canBe_201 rfl (lv_at hl 2 rfl) ?_
        refine lv_iconst (v := -1) X.x X.b d_Model_canBe_202 (by decide) ?_
        refine lv_icmp_ne (tgt := 210) X.x X.b d_Model_canBe_203 (by decide) (fun c38 => ?_) (fun c38 => ?_)
        · skip
          refine lv_iconst (v := 0) X.x X.b d_Model_canBe_210 (by decide) ?_
          exact m_zret X hS (Nat.zero_le _) (Nat.zero_le _) d_Model_canBe_211 rfl (congrArg (fun z => some (Value.int z)) (by rw [b2i, if_neg (fun z => by have z2 := z.2; first | (simp [abOk, k36, c37, c38] at z2; done) | (exfalso; simp_all; done))])) rfl
        · skip
          refine lv_iconst (v := 1) X.x X.b d_Model_canBe_206 (by decide) ?_
          refine lv_goto (tgt := 211) X.x X.b d_Model_canBe_207 (by decide) ?_
          exact m_zret X hS (Nat.zero_le _) (Nat.zero_le _) d_Model_canBe_211 rfl (congrArg (fun z => some (Value.int z)) (by rw [b2i, if_pos ⟨c1, by simp [abOk, k36, c37, c38]⟩])) rfl
    refine lv_tableOut (tgt := 212) X.x X.b d_Model_canBe_13 (by have := ne_toInt (k := 0) 0 (by decide) k2; have := ne_toInt (k := 1) 1 (by decide) k5; have := ne_toInt (k := 2) 2 (by decide) k8; have := ne_toInt (k := 3) 3 (by decide) k11; have := ne_toInt (k := 4) 4 (by decide) k14; have := ne_toInt (k := 5) 5 (by decide) k17; have := ne_toInt (k := 6) 6 (by decide) k21; have := ne_toInt (k := 7) 7 (by decide) k25; have := ne_toInt (k := 8) 8 (by decide) k29; have := ne_toInt (k := 9) 9 (by decide) k32; have := ne_toInt (k := 10) 10 (by decide) k36; omega) (by decide) ?_
    refine lv_iload_n X.x X.b d_Model_canBe_212 rfl (lv_at hl 0 rfl) ?_
    refine lv_iconst (v := 0) X.x X.b d_Model_canBe_213 (by decide) ?_
    refine lv_bipush (v := 10) X.x X.b d_Model_canBe_214 (by decide) ?_
    refine m_callSP X hS (M_Model_isIn l g k 0 10) s_Model_84 rfl rfl (Nat.le_of_ble_eq_true rfl) hl.1 d_Model_canBe_216 (by omega) (by decide) ⟨by omega, by omega⟩ (fun locs hS => ?_)
    refine lv_if_eq (tgt := 236) X.x X.b d_Model_canBe_219 (by decide) (fun c39 => ?_) (fun c39 => ?_)
    · skip
      have c39 := b2i_0.mp c39
      refine lv_iconst (v := 0) X.x X.b d_Model_canBe_236 (by decide) ?_
      exact m_zret X hS (Nat.zero_le _) (Nat.zero_le _) d_Model_canBe_237 rfl (congrArg (fun z => some (Value.int z)) (by rw [b2i, if_neg (fun z => by have z2 := z.2; first | (simp [abOk, k2, k5, k8, k11, k14, k17, k21, k25, k29, k32, k36, c39] at z2; done) | (exfalso; simp_all; done))])) rfl
    · skip
      have c39 := b2i_n0 c39
      refine lv_iload_n X.x X.b d_Model_canBe_222 rfl (lv_at hl 1 rfl) ?_
      refine lv_iconst (v := -1) X.x X.b d_Model_canBe_223 (by decide) ?_
      refine lv_icmp_ne (tgt := 236) X.x X.b d_Model_canBe_224 (by decide) (fun c40 => ?_) (fun c40 => ?_)
      · skip
        refine lv_iconst (v := 0) X.x X.b d_Model_canBe_236 (by decide) ?_
        exact m_zret X hS (Nat.zero_le _) (Nat.zero_le _) d_Model_canBe_237 rfl (congrArg (fun z => some (Value.int z)) (by rw [b2i, if_neg (fun z => by have z2 := z.2; first | (simp [abOk, k2, k5, k8, k11, k14, k17, k21, k25, k29, k32, k36, c39, c40] at z2; done) | (exfalso; simp_all; done))])) rfl
      · skip
        refine lv_iload_n X.x X.b d_Model_canBe_227 rfl (lv_at hl 2 rfl) ?_
        refine lv_iconst (v := -1) X.x X.b d_Model_canBe_228 (by decide) ?_
        refine lv_icmp_ne (tgt := 236) X.x X.b d_Model_canBe_229 (by decide) (fun c41 => ?_) (fun c41 => ?_)
        · skip
          refine lv_iconst (v := 0) X.x X.b d_Model_canBe_236 (by decide) ?_
          exact m_zret X hS (Nat.zero_le _) (Nat.zero_le _) d_Model_canBe_237 rfl (congrArg (fun z => some (Value.int z)) (by rw [b2i, if_neg (fun z => by have z2 := z.2; first | (simp [abOk, k2, k5, k8, k11, k14, k17, k21, k25, k29, k32, k36, c39, c40, c41] at z2; done) | (exfalso; simp_all; done))])) rfl
        · skip
          refine lv_iconst (v := 1) X.x X.b d_Model_canBe_232 (by decide) ?_
          refine lv_goto (tgt := 237) X.x X.b d_Model_canBe_233 (by decide) ?_
          exact m_zret X hS (Nat.zero_le _) (Nat.zero_le _) d_Model_canBe_237 rfl (congrArg (fun z => some (Value.int z)) (by rw [b2i, if_pos ⟨c1, by simp [abOk, k2, k5, k8, k11, k14, k17, k21, k25, k29, k32, k36, c39, c40, c41]⟩])) rfl
  · skip
    have c1 := b2i_0.mp c1
    refine lv_iconst (v := 0) X.x X.b d_Model_canBe_10 (by decide) ?_
    exact m_zret X hS (Nat.zero_le _) (Nat.zero_le _) d_Model_canBe_11 rfl (congrArg (fun z => some (Value.int z)) (by rw [b2i, if_neg (fun z => c1 z.1)])) rfl
set_option maxRecDepth 100000 in
set_option maxHeartbeats 4000000 in
theorem M_Model_isRow (l : Launch) (g : GG) {H0 : Heap} (r : Int32) : MP l y_Model_isRow c_Model_isRow 1 (some .boolean) 1 g H0 [.int r] (some (.int (b2i (0 ≤ r ∧ r ≤ 4)))) := by
  refine MM.of (by decide +kernel) (Nat.le_of_ble_eq_true rfl) ?_
  intro p e s m below meth cd X hH ls hl
  have X : CX g p s m _ meth cd c_Model_isRow 1 (some .boolean) R_Model _ := X
  have hl : lv_has ls 1 [(0, .int r)] := hl
  have hS : va_S (AA (noA) H0) H0 H0 [] := va_S.rf
  refine lv_iload_n X.x X.b d_Model_isRow_0 rfl (lv_at hl 0 rfl) ?_
  refine lv_iconst (v := 0) X.x X.b d_Model_isRow_1 (by decide) ?_
  refine lv_iconst (v := 4) X.x X.b d_Model_isRow_2 (by decide) ?_
  refine m_callSP X hS (M_Model_isIn l g r 0 4) s_Model_84 rfl rfl (Nat.le_of_ble_eq_true rfl) hl.1 d_Model_isRow_3 (by omega) (by decide) ⟨by omega, by omega⟩ (fun locs hS => ?_)
  exact m_zret X hS (Nat.zero_le _) (Nat.zero_le _) d_Model_isRow_6 b2i_nar (congrArg (fun z => some (Value.int z)) (by simp [b2i])) rfl
set_option maxRecDepth 100000 in
set_option maxHeartbeats 4000000 in
theorem M_Model_at (l : Launch) (g : GG) {H0 : Heap} (r t : Int32) : MP l y_Model_at c_Model_at 2 (some .int) 0 g H0 [.int r, .int t] (some (.int ((r * 64 + t) * 5))) := by
  refine MM.of (by decide +kernel) (Nat.le_of_ble_eq_true rfl) ?_
  intro p e s m below meth cd X hH ls hl
  have X : CX g p s m _ meth cd c_Model_at 2 (some .int) R_Model _ := X
  have hl : lv_has ls 2 [(0, .int r), (1, .int t)] := hl
  have hS : va_S (AA (noA) H0) H0 H0 [] := va_S.rf
  refine lv_iload_n X.x X.b d_Model_at_0 rfl (lv_at hl 0 rfl) ?_
  refine lv_bipush (v := 64) X.x X.b d_Model_at_1 (by decide) ?_
  refine lv_imul X.x X.b d_Model_at_3 ?_
  refine lv_iload_n X.x X.b d_Model_at_4 rfl (lv_at hl 1 rfl) ?_
  refine lv_iadd X.x X.b d_Model_at_5 ?_
  refine lv_iconst (v := 5) X.x X.b d_Model_at_6 (by decide) ?_
  refine lv_imul X.x X.b d_Model_at_7 ?_
  exact m_iret X hS (Nat.zero_le _) (Nat.zero_le _) d_Model_at_8 (congrArg (fun z => some (Value.int z)) (by simp [])) rfl
set_option maxRecDepth 100000 in
set_option maxHeartbeats 4000000 in
theorem M_Model_makes (l : Launch) (g : GG) {H0 : Heap} (k : Int32) : MP l y_Model_makes c_Model_makes 1 (some .boolean) 0 g H0 [.int k] (some (.int (b2i (k < 8)))) := by
  refine MM.of (by decide +kernel) (Nat.le_of_ble_eq_true rfl) ?_
  intro p e s m below meth cd X hH ls hl
  have X : CX g p s m _ meth cd c_Model_makes 1 (some .boolean) R_Model _ := X
  have hl : lv_has ls 1 [(0, .int k)] := hl
  have hS : va_S (AA (noA) H0) H0 H0 [] := va_S.rf
  refine lv_iload_n X.x X.b d_Model_makes_0 rfl (lv_at hl 0 rfl) ?_
  refine lv_bipush (v := 8) X.x X.b d_Model_makes_1 (by decide) ?_
  refine lv_icmp_ge (tgt := 10) X.x X.b d_Model_makes_3 (by decide) (fun c1 => ?_) (fun c1 => ?_)
  · skip
    have c1q := Int32.not_lt.mpr c1
    refine lv_iconst (v := 0) X.x X.b d_Model_makes_10 (by decide) ?_
    exact m_zret X hS (Nat.zero_le _) (Nat.zero_le _) d_Model_makes_11 rfl (congrArg (fun z => some (Value.int z)) (by simp [b2i, c1, c1q])) rfl
  · skip
    have c1q := Int32.not_le.mp c1
    refine lv_iconst (v := 1) X.x X.b d_Model_makes_6 (by decide) ?_
    refine lv_goto (tgt := 11) X.x X.b d_Model_makes_7 (by decide) ?_
    exact m_zret X hS (Nat.zero_le _) (Nat.zero_le _) d_Model_makes_11 rfl (congrArg (fun z => some (Value.int z)) (by simp [b2i, c1, c1q])) rfl
set_option maxRecDepth 100000 in
set_option maxHeartbeats 4000000 in
theorem M_Model_no (l : Launch) (g : GG) {mo tq : Nat} {p0 : Nat → Int32} {s0 : Nat → Nat → Int32} {H0 : Heap} (hM : mAt g mo tq p0 s0 H0) (n : Int32) : MM l y_Model_no c_Model_no 2 (some .int) 0 0 0 g H0 [.ref mo, .int n] (fun q => mo ≤ q ∧ q < mo + 23) (some (.int 0)) (fun H1 => mAt g mo tq (upd p0 0 n) s0 H1) := by
  refine MM.of (by decide +kernel) (Nat.le_of_ble_eq_true rfl) ?_
  intro p e s m below meth cd X hH ls hl
  have X : CX g p s m _ meth cd c_Model_no 2 (some .int) R_Model _ := X
  have hl : lv_has ls 2 [(0, .ref mo), (1, .int n)] := hl
  have hS : va_S (AA (fun q => mo ≤ q ∧ q < mo + 23) H0) H0 H0 [] := va_S.rf
  have hlt0 := hM.lt
  have htq0 := hM.tq
  refine lv_aload_n X.x X.b d_Model_no_0 rfl (lv_at hl 0 rfl) ?_
  refine lv_iload_n X.x X.b d_Model_no_1 rfl (lv_at hl 1 rfl) ?_
  refine m_put X ok_Model hS (Or.inl ⟨by omega, by omega⟩) hM.1 0 (by decide) k_Model_80 rfl (ok_Model.2.2.1 _ (by decide)) rfl rfl (Nat.le_of_ble_eq_true rfl) d_Model_no_2 (fun H locs hp hcg hS => ?_)
  have hM := hM.f0 hp hcg
  obtain ⟨p_1, ep_1⟩ : ∃ z, z = upd p0 0 n := ⟨_, rfl⟩
  rw [← ep_1] at hM
  refine lv_iconst (v := 0) X.x X.b d_Model_no_5 (by decide) ?_
  exact m_iret X hS (by omega) (by omega) d_Model_no_6 rfl (by subst ep_1; exact hM)
set_option maxRecDepth 100000 in
set_option maxHeartbeats 4000000 in
theorem M_Model_stop (l : Launch) (g : GG) {mo tq : Nat} {p0 : Nat → Int32} {s0 : Nat → Nat → Int32} {H0 : Heap} (hM : mAt g mo tq p0 s0 H0) (a b : Int32) : MM l y_Model_stop c_Model_stop 3 none 0 0 0 g H0 [.ref mo, .int a, .int b] (fun q => mo ≤ q ∧ q < mo + 23) (none) (fun H1 => mAt g mo tq (upd (upd p0 3 a) 4 b) s0 H1) := by
  refine MM.of (by decide +kernel) (Nat.le_of_ble_eq_true rfl) ?_
  intro p e s m below meth cd X hH ls hl
  have X : CX g p s m _ meth cd c_Model_stop 3 none R_Model _ := X
  have hl : lv_has ls 3 [(0, .ref mo), (1, .int a), (2, .int b)] := hl
  have hS : va_S (AA (fun q => mo ≤ q ∧ q < mo + 23) H0) H0 H0 [] := va_S.rf
  have hlt0 := hM.lt
  have htq0 := hM.tq
  refine lv_aload_n X.x X.b d_Model_stop_0 rfl (lv_at hl 0 rfl) ?_
  refine lv_iload_n X.x X.b d_Model_stop_1 rfl (lv_at hl 1 rfl) ?_
  refine m_put X ok_Model hS (Or.inl ⟨by omega, by omega⟩) hM.1 3 (by decide) k_Model_126 rfl (ok_Model.2.2.1 _ (by decide)) rfl rfl (Nat.le_of_ble_eq_true rfl) d_Model_stop_2 (fun H locs hp hcg hS => ?_)
  have hM := hM.f3 hp hcg
  obtain ⟨p_1, ep_1⟩ : ∃ z, z = upd p0 3 a := ⟨_, rfl⟩
  rw [← ep_1] at hM
  refine lv_aload_n X.x X.b d_Model_stop_5 rfl (lv_at hl 0 rfl) ?_
  refine lv_iload_n X.x X.b d_Model_stop_6 rfl (lv_at hl 2 rfl) ?_
  refine m_put X ok_Model hS (Or.inl ⟨by omega, by omega⟩) hM.1 4 (by decide) k_Model_129 rfl (ok_Model.2.2.1 _ (by decide)) rfl rfl (Nat.le_of_ble_eq_true rfl) d_Model_stop_7 (fun H locs hp hcg hS => ?_)
  have hM := hM.f4 hp hcg
  obtain ⟨p_2, ep_2⟩ : ∃ z, z = upd p_1 4 b := ⟨_, rfl⟩
  rw [← ep_2] at hM
  exact m_vret X hS (by omega) (by omega) d_Model_stop_10 rfl (by subst ep_2; subst ep_1; exact hM)
set_option maxRecDepth 100000 in
set_option maxHeartbeats 4000000 in
theorem M_Model_item (l : Launch) (g : GG) {mo tq : Nat} {p0 : Nat → Int32} {s0 : Nat → Nat → Int32} {H0 : Heap} (hM : mAt g mo tq p0 s0 H0) {c : Nat} (hc5 : p0 5 = nI c) (hc : c < 121) (k a b v fr_ dp : Int32) : MM l y_Model_item c_Model_item 7 none 0 0 0 g H0 [.ref mo, .int k, .int a, .int b, .int v, .int fr_, .int dp] (fun q => mo ≤ q ∧ q < mo + 23) (none) (fun H1 => mAt g mo tq (upd p0 5 (nI (c + 1))) (itR s0 c k a b v fr_ dp) H1) := by
  refine MM.of (by decide +kernel) (Nat.le_of_ble_eq_true rfl) ?_
  intro p e s m below meth cd X hH ls hl
  have X : CX g p s m _ meth cd c_Model_item 7 none R_Model _ := X
  have hl : lv_has ls 7 [(0, .ref mo), (1, .int k), (2, .int a), (3, .int b), (4, .int v), (5, .int fr_), (6, .int dp)] := hl
  have hS : va_S (AA (fun q => mo ≤ q ∧ q < mo + 23) H0) H0 H0 [] := va_S.rf
  have hlt0 := hM.lt
  have htq0 := hM.tq
  refine lv_aload_n X.x X.b d_Model_item_0 rfl (lv_at hl 0 rfl) ?_
  refine m_get (v := .ref (mo + 3)) X ok_Model hM.1 8 (by decide) k_Model_16 rfl d_Model_item_1 ?_
  refine lv_aload_n X.x X.b d_Model_item_4 rfl (lv_at hl 0 rfl) ?_
  refine m_get (v := .int (nI c)) X ok_Model hM.1 5 (by decide) k_Model_132 (congrArg (fun z => some (Value.int z)) (show p0 5 = nI c from (by rw [hc5]))) d_Model_item_5 ?_
  refine lv_iload_n X.x X.b d_Model_item_8 rfl (lv_at hl 1 rfl) ?_
  refine m_ist X hS (Or.inl ⟨by omega, by omega⟩) hM.a8 c rfl (by omega) (by decide) d_Model_item_9 (fun H locs hp hcg hS => ?_)
  have hM := hM.s8 hp hcg
  obtain ⟨s_1, es_1⟩ : ∃ z, z = updR s0 8 (upd (s0 8) c k) := ⟨_, rfl⟩
  rw [← es_1] at hM
  refine lv_aload_n X.x X.b d_Model_item_10 rfl (lv_at hl 0 rfl) ?_
  refine m_get (v := .ref (mo + 4)) X ok_Model hM.1 9 (by decide) k_Model_19 rfl d_Model_item_11 ?_
  refine lv_aload_n X.x X.b d_Model_item_14 rfl (lv_at hl 0 rfl) ?_
  refine m_get (v := .int (nI c)) X ok_Model hM.1 5 (by decide) k_Model_132 (congrArg (fun z => some (Value.int z)) (show p0 5 = nI c from (by rw [hc5]))) d_Model_item_15 ?_
  refine lv_iload_n X.x X.b d_Model_item_18 rfl (lv_at hl 2 rfl) ?_
  refine m_ist X hS (Or.inl ⟨by omega, by omega⟩) hM.a9 c rfl (by omega) (by decide) d_Model_item_19 (fun H locs hp hcg hS => ?_)
  have hM := hM.s9 hp hcg
  obtain ⟨s_2, es_2⟩ : ∃ z, z = updR s_1 9 (upd (s_1 9) c a) := ⟨_, rfl⟩
  rw [← es_2] at hM
  refine lv_aload_n X.x X.b d_Model_item_20 rfl (lv_at hl 0 rfl) ?_
  refine m_get (v := .ref (mo + 5)) X ok_Model hM.1 10 (by decide) k_Model_22 rfl d_Model_item_21 ?_
  refine lv_aload_n X.x X.b d_Model_item_24 rfl (lv_at hl 0 rfl) ?_
  refine m_get (v := .int (nI c)) X ok_Model hM.1 5 (by decide) k_Model_132 (congrArg (fun z => some (Value.int z)) (show p0 5 = nI c from (by rw [hc5]))) d_Model_item_25 ?_
  refine lv_iload_n X.x X.b d_Model_item_28 rfl (lv_at hl 3 rfl) ?_
  refine m_ist X hS (Or.inl ⟨by omega, by omega⟩) hM.a10 c rfl (by omega) (by decide) d_Model_item_29 (fun H locs hp hcg hS => ?_)
  have hM := hM.s10 hp hcg
  obtain ⟨s_3, es_3⟩ : ∃ z, z = updR s_2 10 (upd (s_2 10) c b) := ⟨_, rfl⟩
  rw [← es_3] at hM
  refine lv_aload_n X.x X.b d_Model_item_30 rfl (lv_at hl 0 rfl) ?_
  refine m_get (v := .ref (mo + 6)) X ok_Model hM.1 11 (by decide) k_Model_25 rfl d_Model_item_31 ?_
  refine lv_aload_n X.x X.b d_Model_item_34 rfl (lv_at hl 0 rfl) ?_
  refine m_get (v := .int (nI c)) X ok_Model hM.1 5 (by decide) k_Model_132 (congrArg (fun z => some (Value.int z)) (show p0 5 = nI c from (by rw [hc5]))) d_Model_item_35 ?_
  refine lv_iload X.x X.b d_Model_item_38 (lv_at hl 4 rfl) ?_
  refine m_ist X hS (Or.inl ⟨by omega, by omega⟩) hM.a11 c rfl (by omega) (by decide) d_Model_item_40 (fun H locs hp hcg hS => ?_)
  have hM := hM.s11 hp hcg
  obtain ⟨s_4, es_4⟩ : ∃ z, z = updR s_3 11 (upd (s_3 11) c v) := ⟨_, rfl⟩
  rw [← es_4] at hM
  refine lv_aload_n X.x X.b d_Model_item_41 rfl (lv_at hl 0 rfl) ?_
  refine m_get (v := .ref (mo + 7)) X ok_Model hM.1 12 (by decide) k_Model_28 rfl d_Model_item_42 ?_
  refine lv_aload_n X.x X.b d_Model_item_45 rfl (lv_at hl 0 rfl) ?_
  refine m_get (v := .int (nI c)) X ok_Model hM.1 5 (by decide) k_Model_132 (congrArg (fun z => some (Value.int z)) (show p0 5 = nI c from (by rw [hc5]))) d_Model_item_46 ?_
  refine lv_iload X.x X.b d_Model_item_49 (lv_at hl 5 rfl) ?_
  refine m_ist X hS (Or.inl ⟨by omega, by omega⟩) hM.a12 c rfl (by omega) (by decide) d_Model_item_51 (fun H locs hp hcg hS => ?_)
  have hM := hM.s12 hp hcg
  obtain ⟨s_5, es_5⟩ : ∃ z, z = updR s_4 12 (upd (s_4 12) c fr_) := ⟨_, rfl⟩
  rw [← es_5] at hM
  refine lv_aload_n X.x X.b d_Model_item_52 rfl (lv_at hl 0 rfl) ?_
  refine m_get (v := .ref (mo + 8)) X ok_Model hM.1 13 (by decide) k_Model_31 rfl d_Model_item_53 ?_
  refine lv_aload_n X.x X.b d_Model_item_56 rfl (lv_at hl 0 rfl) ?_
  refine m_get (v := .int (nI c)) X ok_Model hM.1 5 (by decide) k_Model_132 (congrArg (fun z => some (Value.int z)) (show p0 5 = nI c from (by rw [hc5]))) d_Model_item_57 ?_
  refine lv_iload X.x X.b d_Model_item_60 (lv_at hl 6 rfl) ?_
  refine m_ist X hS (Or.inl ⟨by omega, by omega⟩) hM.a13 c rfl (by omega) (by decide) d_Model_item_62 (fun H locs hp hcg hS => ?_)
  have hM := hM.s13 hp hcg
  obtain ⟨s_6, es_6⟩ : ∃ z, z = updR s_5 13 (upd (s_5 13) c dp) := ⟨_, rfl⟩
  rw [← es_6] at hM
  refine lv_aload_n X.x X.b d_Model_item_63 rfl (lv_at hl 0 rfl) ?_
  refine lv_dup X.x X.b d_Model_item_64 rfl ?_
  refine m_get (v := .int (nI c)) X ok_Model hM.1 5 (by decide) k_Model_132 (congrArg (fun z => some (Value.int z)) (show p0 5 = nI c from (by rw [hc5]))) d_Model_item_65 ?_
  refine lv_iconst (v := 1) X.x X.b d_Model_item_68 (by decide) ?_
  refine lv_iadd X.x X.b d_Model_item_69 ?_
  refine lv_topi (fun z ez => ?_)
  rw [nI_1] at ez
  subst ez
  refine m_put X ok_Model hS (Or.inl ⟨by omega, by omega⟩) hM.1 5 (by decide) k_Model_132 rfl (ok_Model.2.2.1 _ (by decide)) rfl rfl (Nat.le_of_ble_eq_true rfl) d_Model_item_70 (fun H locs hp hcg hS => ?_)
  have hM := hM.f5 hp hcg
  obtain ⟨p_7, ep_7⟩ : ∃ z, z = upd p0 5 (nI (c + 1)) := ⟨_, rfl⟩
  rw [← ep_7] at hM
  have hq : mAt g mo tq (upd p0 5 (nI (c + 1))) (itR s0 c k a b v fr_ dp) H := by unfold itR; subst es_6; subst es_5; subst es_4; subst es_3; subst es_2; subst es_1; subst ep_7; exact hM
  exact m_vret X hS (by omega) (by omega) d_Model_item_73 rfl hq
set_option maxRecDepth 100000 in
set_option maxHeartbeats 4000000 in
theorem M_Model_write (l : Launch) (g : GG) {mo tq : Nat} {p0 : Nat → Int32} {s0 : Nat → Nat → Int32} {H0 : Heap} (hM : mAt g mo tq p0 s0 H0) {r t : Nat} (hr : r < 5) (ht : t < 64) (k a b v d : Int32) (hd : d = 0 ∨ d = 1) : MM l y_Model_write c_Model_write 9 none 1 0 0 g H0 [.ref mo, .int (nI r), .int (nI t), .int k, .int a, .int b, .int v, .int d] (fun q => q = tq) (none) (fun H1 => mAt g mo tq p0 (wrR s0 ((r * 64 + t) * 5) k a b v d) H1) := by
  refine MM.of (by decide +kernel) (Nat.le_of_ble_eq_true rfl) ?_
  intro p e s m below meth cd X hH ls hl
  have X : CX g p s m _ meth cd c_Model_write 9 none R_Model _ := X
  have hl : lv_has ls 9 [(0, .ref mo), (1, .int (nI r)), (2, .int (nI t)), (3, .int k), (4, .int a), (5, .int b), (6, .int v), (7, .int d)] := hl
  have hS : va_S (AA (fun q => q = tq) H0) H0 H0 [] := va_S.rf
  have hlt0 := hM.lt
  have htq0 := hM.tq
  refine lv_iload_n X.x X.b d_Model_write_0 rfl (lv_at hl 1 rfl) ?_
  refine lv_iload_n X.x X.b d_Model_write_1 rfl (lv_at hl 2 rfl) ?_
  refine m_callSP X hS (show MP l y_Model_at c_Model_at 2 (some .int) 0 g _ [.int (nI r), .int (nI t)] (some (.int (nI ((r * 64 + t) * 5)))) from (by have z := M_Model_at (H0 := H0) l g (nI r) (nI t); rw [at_nI hr ht] at z; exact z)) s_Model_96 rfl rfl (Nat.le_of_ble_eq_true rfl) hl.1 d_Model_write_2 (by omega) (by decide) ⟨by omega, by omega⟩ (fun locs hS => ?_)
  refine lv_istore (lv' := [(8, .int (nI ((r * 64 + t) * 5))), (0, .ref mo), (1, .int (nI r)), (2, .int (nI t)), (3, .int k), (4, .int a), (5, .int b), (6, .int v), (7, .int d)]) X.x X.b d_Model_write_5 hl (by decide) rfl (fun ls hl => ?_)
  refine lv_aload_n X.x X.b d_Model_write_7 rfl (lv_at hl 1 rfl) ?_
  refine m_get (v := .ref tq) X ok_Model hM.1 1 (by decide) k_Model_9 rfl d_Model_write_8 ?_
  refine lv_iload X.x X.b d_Model_write_11 (lv_at hl 0 rfl) ?_
  refine lv_iload_n X.x X.b d_Model_write_13 rfl (lv_at hl 4 rfl) ?_
  refine m_ist X hS (Or.inl rfl) hM.a1 ((r * 64 + t) * 5) rfl (by omega) (by decide) d_Model_write_14 (fun H locs hp hcg hS => ?_)
  have hM := hM.s1 hp hcg
  obtain ⟨s_1, es_1⟩ : ∃ z, z = updR s0 1 (upd (s0 1) ((r * 64 + t) * 5) k) := ⟨_, rfl⟩
  rw [← es_1] at hM
  refine lv_aload_n X.x X.b d_Model_write_15 rfl (lv_at hl 1 rfl) ?_
  refine m_get (v := .ref tq) X ok_Model hM.1 1 (by decide) k_Model_9 rfl d_Model_write_16 ?_
  refine lv_iload X.x X.b d_Model_write_19 (lv_at hl 0 rfl) ?_
  refine lv_iconst (v := 1) X.x X.b d_Model_write_21 (by decide) ?_
  refine lv_iadd X.x X.b d_Model_write_22 ?_
  refine lv_topi (fun z ez => ?_)
  rw [show nI ((r * 64 + t) * 5) + 1 = nI ((r * 64 + t) * 5 + 1) from nI_ad _ _] at ez
  subst ez
  refine lv_iload X.x X.b d_Model_write_23 (lv_at hl 5 rfl) ?_
  refine m_ist X hS (Or.inl rfl) hM.a1 ((r * 64 + t) * 5 + 1) rfl (by omega) (by decide) d_Model_write_25 (fun H locs hp hcg hS => ?_)
  have hM := hM.s1 hp hcg
  obtain ⟨s_2, es_2⟩ : ∃ z, z = updR s_1 1 (upd (s_1 1) ((r * 64 + t) * 5 + 1) a) := ⟨_, rfl⟩
  rw [← es_2] at hM
  refine lv_aload_n X.x X.b d_Model_write_26 rfl (lv_at hl 1 rfl) ?_
  refine m_get (v := .ref tq) X ok_Model hM.1 1 (by decide) k_Model_9 rfl d_Model_write_27 ?_
  refine lv_iload X.x X.b d_Model_write_30 (lv_at hl 0 rfl) ?_
  refine lv_iconst (v := 2) X.x X.b d_Model_write_32 (by decide) ?_
  refine lv_iadd X.x X.b d_Model_write_33 ?_
  refine lv_topi (fun z ez => ?_)
  rw [show nI ((r * 64 + t) * 5) + 2 = nI ((r * 64 + t) * 5 + 2) from nI_ad _ _] at ez
  subst ez
  refine lv_iload X.x X.b d_Model_write_34 (lv_at hl 6 rfl) ?_
  refine m_ist X hS (Or.inl rfl) hM.a1 ((r * 64 + t) * 5 + 2) rfl (by omega) (by decide) d_Model_write_36 (fun H locs hp hcg hS => ?_)
  have hM := hM.s1 hp hcg
  obtain ⟨s_3, es_3⟩ : ∃ z, z = updR s_2 1 (upd (s_2 1) ((r * 64 + t) * 5 + 2) b) := ⟨_, rfl⟩
  rw [← es_3] at hM
  refine lv_aload_n X.x X.b d_Model_write_37 rfl (lv_at hl 1 rfl) ?_
  refine m_get (v := .ref tq) X ok_Model hM.1 1 (by decide) k_Model_9 rfl d_Model_write_38 ?_
  refine lv_iload X.x X.b d_Model_write_41 (lv_at hl 0 rfl) ?_
  refine lv_iconst (v := 3) X.x X.b d_Model_write_43 (by decide) ?_
  refine lv_iadd X.x X.b d_Model_write_44 ?_
  refine lv_topi (fun z ez => ?_)
  rw [show nI ((r * 64 + t) * 5) + 3 = nI ((r * 64 + t) * 5 + 3) from nI_ad _ _] at ez
  subst ez
  refine lv_iload X.x X.b d_Model_write_45 (lv_at hl 7 rfl) ?_
  refine m_ist X hS (Or.inl rfl) hM.a1 ((r * 64 + t) * 5 + 3) rfl (by omega) (by decide) d_Model_write_47 (fun H locs hp hcg hS => ?_)
  have hM := hM.s1 hp hcg
  obtain ⟨s_4, es_4⟩ : ∃ z, z = updR s_3 1 (upd (s_3 1) ((r * 64 + t) * 5 + 3) v) := ⟨_, rfl⟩
  rw [← es_4] at hM
  refine lv_aload_n X.x X.b d_Model_write_48 rfl (lv_at hl 1 rfl) ?_
  refine m_get (v := .ref tq) X ok_Model hM.1 1 (by decide) k_Model_9 rfl d_Model_write_49 ?_
  refine lv_iload X.x X.b d_Model_write_52 (lv_at hl 0 rfl) ?_
  refine lv_iconst (v := 4) X.x X.b d_Model_write_54 (by decide) ?_
  refine lv_iadd X.x X.b d_Model_write_55 ?_
  refine lv_topi (fun z ez => ?_)
  rw [show nI ((r * 64 + t) * 5) + 4 = nI ((r * 64 + t) * 5 + 4) from nI_ad _ _] at ez
  subst ez
  refine lv_iload X.x X.b d_Model_write_56 (lv_at hl 8 rfl) ?_
  refine lv_if_eq (tgt := 65) X.x X.b d_Model_write_58 (by decide) (fun c1 => ?_) (fun c1 => ?_)
  · skip
    have hdd : d = 0 := c1
    refine lv_iconst (v := 0) X.x X.b d_Model_write_65 (by decide) ?_
    refine m_ist X hS (Or.inl rfl) hM.a1 ((r * 64 + t) * 5 + 4) rfl (by omega) (by decide) d_Model_write_66 (fun H locs hp hcg hS => ?_)
    have hM := hM.s1 hp hcg
    obtain ⟨s_5, es_5⟩ : ∃ z, z = updR s_4 1 (upd (s_4 1) ((r * 64 + t) * 5 + 4) 0) := ⟨_, rfl⟩
    rw [← es_5] at hM
    have hq : mAt g mo tq p0 (wrR s0 ((r * 64 + t) * 5) k a b v 0) H := by
      subst es_5
      subst es_4
      subst es_3
      subst es_2
      subst es_1
      exact hM
    exact m_vret X hS (by omega) (by omega) d_Model_write_67 rfl (by rw [hdd]; exact hq)
  · skip
    have hdd : d = 1 := hd.elim (fun z => absurd z c1) id
    refine lv_iconst (v := 1) X.x X.b d_Model_write_61 (by decide) ?_
    refine lv_goto (tgt := 66) X.x X.b d_Model_write_62 (by decide) ?_
    refine m_ist X hS (Or.inl rfl) hM.a1 ((r * 64 + t) * 5 + 4) rfl (by omega) (by decide) d_Model_write_66 (fun H locs hp hcg hS => ?_)
    have hM := hM.s1 hp hcg
    obtain ⟨s_6, es_6⟩ : ∃ z, z = updR s_4 1 (upd (s_4 1) ((r * 64 + t) * 5 + 4) 1) := ⟨_, rfl⟩
    rw [← es_6] at hM
    have hq : mAt g mo tq p0 (wrR s0 ((r * 64 + t) * 5) k a b v 1) H := by
      subst es_6
      subst es_4
      subst es_3
      subst es_2
      subst es_1
      exact hM
    exact m_vret X hS (by omega) (by omega) d_Model_write_67 rfl (by rw [hdd]; exact hq)
