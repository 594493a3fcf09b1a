set_option maxRecDepth 100000 in
set_option maxHeartbeats 4000000 in
theorem M_BP_fault (l : Launch) (g : GG) {B : Nat} {cnt : Nat → Nat} {f : Nat → Nat → Nat} {D : DT} {y : YS} {H0 : Heap} (hb : bAt g B cnt f D y H0) : MP l y_BP_fault c_BP_fault 1 (some .int) 0 g H0 [.ref B] (some (.int y.2.2.2.1)) := by
  refine MM.of (by decide +kernel) (Nat.le_of_ble_eq_true rfl) ?_
  intro p e s m below meth cd X hH ls hl
  have X : CX g p s m _ meth cd c_BP_fault 1 (some .int) R_BP _ := X
  have hl : lv_has ls 1 [(0, .ref B)] := hl
  have hS : va_S (AA (noA) H0) H0 H0 [] := va_S.rf
  obtain ⟨hB, hy, hqk, cnt2, f2, D2, y2, hO⟩ := hb
  obtain ⟨S, c, qd, fn, fl, rd⟩ := y
  obtain ⟨hA, hP, ⟨Qf, hQ⟩, ⟨ex, ef, em, hE⟩, hI, ⟨N, hN⟩, hs, hcc, hly, hlw, hhw⟩ := hy
  have hA : asAt g (B + 13) qd fn fl rd H0 := hA
  have hI : iAt g (B + 13 + 1) c S H0 := hI
  have hcc : c ≤ 121 := hcc
  refine lv_aload_n X.x X.b d_BP_fault_0 rfl (lv_at hl 0 rfl) ?_
  refine m_get (v := .ref (B + 13)) X ok_BP hB 1 (by decide) k_BP_23 rfl d_BP_fault_1 ?_
  refine m_get (v := .int fn) X ok_Assembly hA 5 (by decide) k_BP_113 rfl d_BP_fault_4 ?_
  exact m_iret X hS (Nat.zero_le _) (Nat.zero_le _) d_BP_fault_7 (congrArg (fun z => some (Value.int z)) (by simp [])) rfl
-- not reached: BP_faultAt
set_option maxRecDepth 100000 in
set_option maxHeartbeats 4000000 in
theorem M_BP_itemThere (l : Launch) (g : GG) {B : Nat} {cnt : Nat → Nat} {f : Nat → Nat → Nat} {D : DT} {y : YS} {H0 : Heap} (hb : bAt g B cnt f D y H0) {it : Int32} {j : Nat} (hk : iaO y.2.1 it = some j) : MP l y_BP_itemThere c_BP_itemThere 3 (some (.object "BranchPress$Item")) 1 g H0 [.ref B, .int it] (some (.ref (B + 13 + 1 + 2 + j))) := by
  refine MM.of (by decide +kernel) (Nat.le_of_ble_eq_true rfl) ?_
  intro p e s m below meth cd X hH ls hl
  have X : CX g p s m _ meth cd c_BP_itemThere 3 (some (.object "BranchPress$Item")) R_BP _ := X
  have hl : lv_has ls 3 [(0, .ref B), (1, .int it)] := hl
  have hS : va_S (AA (noA) H0) H0 H0 [] := va_S.rf
  obtain ⟨hB, hy, hqk, cnt2, f2, D2, y2, hO⟩ := hb
  obtain ⟨S, c, qd, fn, fl, rd⟩ := y
  obtain ⟨hA, hP, ⟨Qf, hQ⟩, ⟨ex, ef, em, hE⟩, hI, ⟨N, hN⟩, hs, hcc, hly, hlw, hhw⟩ := hy
  have hA : asAt g (B + 13) qd fn fl rd H0 := hA
  have hI : iAt g (B + 13 + 1) c S H0 := hI
  have hcc : c ≤ 121 := hcc
  have hk : iaO c it = some j := hk
  have hj : j < 121 := Nat.lt_of_lt_of_le (iaO_lt hk (by omega)) hcc
  refine lv_aload_n X.x X.b d_BP_itemThere_0 rfl (lv_at hl 0 rfl) ?_
  refine m_get (v := .ref (B + 13)) X ok_BP hB 1 (by decide) k_BP_23 rfl d_BP_itemThere_1 ?_
  refine m_get (v := .ref (B + 13 + 1)) X ok_Assembly hA 0 (by decide) k_BP_147 rfl d_BP_itemThere_4 ?_
  refine lv_iload_n X.x X.b d_BP_itemThere_7 rfl (lv_at hl 1 rfl) ?_
  refine m_callP X hS (show MP l y_Items_itemAt c_Items_itemAt 2 (some (.object "BranchPress$Item")) 0 g _ [.ref (B + 13 + 1), .int it] (some (.ref (B + 13 + 1 + 2 + j))) from (by have z := M_Items_itemAt l g hI hcc it; rw [hk] at z; exact z)) v_BP_246 hI.1 rfl rfl rfl (Nat.le_of_ble_eq_true rfl) hl.1 d_BP_itemThere_8 (by omega) (by decide) ⟨Nat.zero_le _, Nat.zero_le _⟩ (fun locs hS => ?_)
  refine lv_astore_n (lv' := [(2, .ref (B + 13 + 1 + 2 + j)), (0, .ref B), (1, .int it)]) X.x X.b d_BP_itemThere_11 rfl hl (by decide) rfl (fun ls hl => ?_)
  refine lv_aload_n X.x X.b d_BP_itemThere_12 rfl (lv_at hl 0 rfl) ?_
  refine lv_ifnonnull (tgt := 26) X.x X.b d_BP_itemThere_13 (by decide) ?_
  refine lv_aload_n X.x X.b d_BP_itemThere_26 rfl (lv_at hl 0 rfl) ?_
  exact m_aret X hS (Nat.zero_le _) (Nat.zero_le _) (Or.inr ⟨_, rfl⟩) d_BP_itemThere_27 rfl rfl
-- not reached: BP_distance
set_option maxRecDepth 100000 in
set_option maxHeartbeats 4000000 in
theorem M_BP_ofItem (l : Launch) (g : GG) {B : Nat} {cnt : Nat → Nat} {f : Nat → Nat → Nat} {D : DT} {y : YS} {H0 : Heap} (hb : bAt g B cnt f D y H0) {it : Int32} {j : Nat} (hk : iaO y.2.1 it = some j) {wt : Int32} (hw : wt = 0 ∨ wt = 1 ∨ wt = 2 ∨ wt = 3 ∨ wt = 4 ∨ wt = 5 ∨ wt = 6 ∨ wt = 7) : MP l y_BP_ofItem c_BP_ofItem 4 (some .int) 2 g H0 [.ref B, .int it, .int wt] (some (.int (ofiF y.1 j wt))) := by
  refine MM.of (by decide +kernel) (Nat.le_of_ble_eq_true rfl) ?_
  intro p e s m below meth cd X hH ls hl
  have X : CX g p s m _ meth cd c_BP_ofItem 4 (some .int) R_BP _ := X
  have hl : lv_has ls 4 [(0, .ref B), (1, .int it), (2, .int wt)] := hl
  have hS : va_S (AA (noA) H0) H0 H0 [] := va_S.rf
  have hb0 := hb
  obtain ⟨hB, hy, hqk, cnt2, f2, D2, y2, hO⟩ := hb
  obtain ⟨S, c, qd, fn, fl, rd⟩ := y
  obtain ⟨hA, hP, ⟨Qf, hQ⟩, ⟨ex, ef, em, hE⟩, hI, ⟨N, hN⟩, hs, hcc, hly, hlw, hhw⟩ := hy
  have hA : asAt g (B + 13) qd fn fl rd H0 := hA
  have hI : iAt g (B + 13 + 1) c S H0 := hI
  have hcc : c ≤ 121 := hcc
  have hk : iaO c it = some j := hk
  have hj : j < 121 := Nat.lt_of_lt_of_le (iaO_lt hk (by omega)) hcc
  refine lv_aload_n X.x X.b d_BP_ofItem_0 rfl (lv_at hl 0 rfl) ?_
  refine lv_iload_n X.x X.b d_BP_ofItem_1 rfl (lv_at hl 1 rfl) ?_
  have hR := M_BP_itemThere (y := (S, c, qd, fn, fl, rd)) (it := it) (j := j) l g hb0 hk
  refine m_callP X hS hR v_BP_119 hB rfl rfl rfl (Nat.le_of_ble_eq_true rfl) hl.1 d_BP_ofItem_2 (by omega) (by decide) ⟨Nat.zero_le _, Nat.zero_le _⟩ (fun locs hS => ?_)
  refine lv_astore_n (lv' := [(3, .ref (B + 13 + 1 + 2 + j)), (0, .ref B), (1, .int it), (2, .int wt)]) X.x X.b d_BP_ofItem_5 rfl hl (by decide) rfl (fun ls hl => ?_)
  refine lv_iload_n X.x X.b d_BP_ofItem_6 rfl (lv_at hl 3 rfl) ?_
  by_cases k1 : wt = 0
  · skip
    refine lv_tableIn (off := 45) (tgt := 52) X.x X.b d_BP_ofItem_7 (by rw [k1]; decide) (by rw [k1]; decide) (by rw [k1]; decide) (by decide) ?_
    refine lv_aload_n X.x X.b d_BP_ofItem_52 rfl (lv_at hl 0 rfl) ?_
    refine m_get (v := .int (S.1 0 j)) X ok_Item (hI.2.2.1 j hj) 0 (by decide) k_BP_123 rfl d_BP_ofItem_53 ?_
    exact m_iret X hS (Nat.zero_le _) (Nat.zero_le _) d_BP_ofItem_56 (congrArg (fun z => some (Value.int z)) (by simp [ofiF, k1])) rfl
  by_cases k2 : wt = 1
  · skip
    refine lv_tableIn (off := 50) (tgt := 57) X.x X.b d_BP_ofItem_7 (by rw [k2]; decide) (by rw [k2]; decide) (by rw [k2]; decide) (by decide) ?_
    refine lv_aload_n X.x X.b d_BP_ofItem_57 rfl (lv_at hl 0 rfl) ?_
    refine m_get (v := .int (S.1 12 j)) X ok_Item (hI.2.2.1 j hj) 12 (by decide) k_BP_126 rfl d_BP_ofItem_58 ?_
    exact m_iret X hS (Nat.zero_le _) (Nat.zero_le _) d_BP_ofItem_61 (congrArg (fun z => some (Value.int z)) (by simp [ofiF, k2])) rfl
  by_cases k3 : wt = 2
  · skip
    refine lv_tableIn (off := 55) (tgt := 62) X.x X.b d_BP_ofItem_7 (by rw [k3]; decide) (by rw [k3]; decide) (by rw [k3]; decide) (by decide) ?_
    refine lv_aload_n X.x X.b d_BP_ofItem_62 rfl (lv_at hl 0 rfl) ?_
    refine m_get (v := .int (S.1 13 j)) X ok_Item (hI.2.2.1 j hj) 13 (by decide) k_BP_129 rfl d_BP_ofItem_63 ?_
    exact m_iret X hS (Nat.zero_le _) (Nat.zero_le _) d_BP_ofItem_66 (congrArg (fun z => some (Value.int z)) (by simp [ofiF, k3])) rfl
  by_cases k4 : wt = 3
  · skip
    refine lv_tableIn (off := 60) (tgt := 67) X.x X.b d_BP_ofItem_7 (by rw [k4]; decide) (by rw [k4]; decide) (by rw [k4]; decide) (by decide) ?_
    refine lv_aload_n X.x X.b d_BP_ofItem_67 rfl (lv_at hl 0 rfl) ?_
    refine m_get (v := .int (S.1 5 j)) X ok_Item (hI.2.2.1 j hj) 5 (by decide) k_BP_132 rfl d_BP_ofItem_68 ?_
    exact m_iret X hS (Nat.zero_le _) (Nat.zero_le _) d_BP_ofItem_71 (congrArg (fun z => some (Value.int z)) (by simp [ofiF, k4])) rfl
  by_cases k5 : wt = 4
  · skip
    refine lv_tableIn (off := 65) (tgt := 72) X.x X.b d_BP_ofItem_7 (by rw [k5]; decide) (by rw [k5]; decide) (by rw [k5]; decide) (by decide) ?_
    refine lv_aload_n X.x X.b d_BP_ofItem_72 rfl (lv_at hl 0 rfl) ?_
    refine m_get (v := .int (S.1 6 j)) X ok_Item (hI.2.2.1 j hj) 6 (by decide) k_BP_135 rfl d_BP_ofItem_73 ?_
    exact m_iret X hS (Nat.zero_le _) (Nat.zero_le _) d_BP_ofItem_76 (congrArg (fun z => some (Value.int z)) (by simp [ofiF, k5])) rfl
  by_cases k6 : wt = 5
  · skip
    refine lv_tableIn (off := 70) (tgt := 77) X.x X.b d_BP_ofItem_7 (by rw [k6]; decide) (by rw [k6]; decide) (by rw [k6]; decide) (by decide) ?_
    refine lv_aload_n X.x X.b d_BP_ofItem_77 rfl (lv_at hl 0 rfl) ?_
    refine m_get (v := .int (S.1 3 j)) X ok_Item (hI.2.2.1 j hj) 3 (by decide) k_BP_138 rfl d_BP_ofItem_78 ?_
    exact m_iret X hS (Nat.zero_le _) (Nat.zero_le _) d_BP_ofItem_81 (congrArg (fun z => some (Value.int z)) (by simp [ofiF, k6])) rfl
  by_cases k7 : wt = 6
  · skip
    refine lv_tableIn (off := 75) (tgt := 82) X.x X.b d_BP_ofItem_7 (by rw [k7]; decide) (by rw [k7]; decide) (by rw [k7]; decide) (by decide) ?_
    refine lv_aload_n X.x X.b d_BP_ofItem_82 rfl (lv_at hl 0 rfl) ?_
    refine m_get (v := .int (S.1 14 j)) X ok_Item (hI.2.2.1 j hj) 14 (by decide) k_BP_139 rfl d_BP_ofItem_83 ?_
    refine lv_if_eq (tgt := 93) X.x X.b d_BP_ofItem_86 (by decide) (fun c8 => ?_) (fun c8 => ?_)
    · skip
      refine lv_iconst (v := 0) X.x X.b d_BP_ofItem_93 (by decide) ?_
      exact m_iret X hS (Nat.zero_le _) (Nat.zero_le _) d_BP_ofItem_94 (congrArg (fun z => some (Value.int z)) (by simp [ofiF, k7, c8])) rfl
    · skip
      refine lv_iconst (v := 1) X.x X.b d_BP_ofItem_89 (by decide) ?_
      refine lv_goto (tgt := 94) X.x X.b d_BP_ofItem_90 (by decide) ?_
      exact m_iret X hS (Nat.zero_le _) (Nat.zero_le _) d_BP_ofItem_94 (congrArg (fun z => some (Value.int z)) (by simp [ofiF, k7, c8])) rfl
  by_cases k9 : wt = 7
  · skip
    refine lv_tableIn (off := 88) (tgt := 95) X.x X.b d_BP_ofItem_7 (by rw [k9]; decide) (by rw [k9]; decide) (by rw [k9]; decide) (by decide) ?_
    refine lv_aload_n X.x X.b d_BP_ofItem_95 rfl (lv_at hl 0 rfl) ?_
    refine m_get (v := .int (S.1 15 j)) X ok_Item (hI.2.2.1 j hj) 15 (by decide) k_BP_142 rfl d_BP_ofItem_96 ?_
    refine lv_if_eq (tgt := 106) X.x X.b d_BP_ofItem_99 (by decide) (fun c10 => ?_) (fun c10 => ?_)
    · skip
      refine lv_iconst (v := 0) X.x X.b d_BP_ofItem_106 (by decide) ?_
      exact m_iret X hS (Nat.zero_le _) (Nat.zero_le _) d_BP_ofItem_107 (congrArg (fun z => some (Value.int z)) (by simp [ofiF, k9, c10])) rfl
    · skip
      refine lv_iconst (v := 1) X.x X.b d_BP_ofItem_102 (by decide) ?_
      refine lv_goto (tgt := 107) X.x X.b d_BP_ofItem_103 (by decide) ?_
      exact m_iret X hS (Nat.zero_le _) (Nat.zero_le _) d_BP_ofItem_107 (congrArg (fun z => some (Value.int z)) (by simp [ofiF, k9, c10])) rfl
  exact absurd hw (by simp [k1, k2, k3, k4, k5, k6, k7, k9])
-- not reached: BP_isCode
set_option maxRecDepth 100000 in
set_option maxHeartbeats 4000000 in
theorem M_BP_word (l : Launch) (g : GG) {B : Nat} {cnt : Nat → Nat} {f : Nat → Nat → Nat} {D : DT} {y : YS} {H0 : Heap} (hb : bAt g B cnt f D y H0) {ad : Int32} {j : Nat} (hk : iaO y.2.1 (hof y.1 ad y.2.1 0) = some j) : MP l y_BP_word c_BP_word 3 (some .int) 4 g H0 [.ref B, .int ad] (some (.int (woF y.1 y.2.1 j (ad - y.1.1 12 j)))) := by
  refine MM.of (by decide +kernel) (Nat.le_of_ble_eq_true rfl) ?_
  intro p e s m below meth cd X hH ls hl
  have X : CX g p s m _ meth cd c_BP_word 3 (some .int) R_BP _ := X
  have hl : lv_has ls 3 [(0, .ref B), (1, .int ad)] := hl
  have hS : va_S (AA (noA) H0) H0 H0 [] := va_S.rf
  have hb0 := hb
  obtain ⟨hB, hy, hqk, cnt2, f2, D2, y2, hO⟩ := hb
  obtain ⟨S, c, qd, fn, fl, rd⟩ := y
  obtain ⟨hA, hP, ⟨Qf, hQ⟩, ⟨ex, ef, em, hE⟩, hI, ⟨N, hN⟩, hs, hcc, hly, hlw, hhw⟩ := hy
  have hA : asAt g (B + 13) qd fn fl rd H0 := hA
  have hI : iAt g (B + 13 + 1) c S H0 := hI
  have hcc : c ≤ 121 := hcc
  have hk : iaO c (hof S ad c 0) = some j := hk
  have hj : j < 121 := Nat.lt_of_lt_of_le (iaO_lt hk (by omega)) hcc
  refine lv_aload_n X.x X.b d_BP_word_0 rfl (lv_at hl 0 rfl) ?_
  refine lv_aload_n X.x X.b d_BP_word_1 rfl (lv_at hl 0 rfl) ?_
  refine m_get (v := .ref (B + 13)) X ok_BP hB 1 (by decide) k_BP_23 rfl d_BP_word_2 ?_
  refine m_get (v := .ref (B + 13 + 1)) X ok_Assembly hA 0 (by decide) k_BP_147 rfl d_BP_word_5 ?_
  refine lv_iload_n X.x X.b d_BP_word_8 rfl (lv_at hl 1 rfl) ?_
  refine m_callP X hS (M_Items_holderOf l g hI hcc ad) v_BP_151 hI.1 rfl rfl rfl (Nat.le_of_ble_eq_true rfl) hl.1 d_BP_word_9 (by omega) (by decide) ⟨Nat.zero_le _, Nat.zero_le _⟩ (fun locs hS => ?_)
  have hR := M_BP_itemThere (y := (S, c, qd, fn, fl, rd)) (it := hof S ad c 0) (j := j) l g hb0 hk
  refine m_callP X hS hR v_BP_119 hB rfl rfl rfl (Nat.le_of_ble_eq_true rfl) hl.1 d_BP_word_12 (by omega) (by decide) ⟨Nat.zero_le _, Nat.zero_le _⟩ (fun locs hS => ?_)
  refine lv_astore_n (lv' := [(2, .ref (B + 13 + 1 + 2 + j)), (0, .ref B), (1, .int ad)]) X.x X.b d_BP_word_15 rfl hl (by decide) rfl (fun ls hl => ?_)
  refine lv_aload_n X.x X.b d_BP_word_16 rfl (lv_at hl 1 rfl) ?_
  refine m_get (v := .ref (B + 13)) X ok_BP hB 1 (by decide) k_BP_23 rfl d_BP_word_17 ?_
  refine m_get (v := .ref (B + 13 + 1)) X ok_Assembly hA 0 (by decide) k_BP_147 rfl d_BP_word_20 ?_
  refine lv_aload_n X.x X.b d_BP_word_23 rfl (lv_at hl 0 rfl) ?_
  refine lv_iload_n X.x X.b d_BP_word_24 rfl (lv_at hl 2 rfl) ?_
  refine lv_aload_n X.x X.b d_BP_word_25 rfl (lv_at hl 0 rfl) ?_
  refine m_get (v := .int (S.1 12 j)) X ok_Item (hI.2.2.1 j hj) 12 (by decide) k_BP_126 rfl d_BP_word_26 ?_
  refine lv_isub X.x X.b d_BP_word_29 ?_
  refine m_callP X hS (M_Items_wordOf l g hI hcc hj (ad - (S.1 12 j))) v_BP_156 hI.1 rfl rfl rfl (Nat.le_of_ble_eq_true rfl) hl.1 d_BP_word_30 (by omega) (by decide) ⟨Nat.zero_le _, Nat.zero_le _⟩ (fun locs hS => ?_)
  exact m_iret X hS (Nat.zero_le _) (Nat.zero_le _) d_BP_word_33 (congrArg (fun z => some (Value.int z)) (by simp [])) rfl
set_option maxRecDepth 100000 in
set_option maxHeartbeats 4000000 in
theorem M_BP_itemOf (l : Launch) (g : GG) {B : Nat} {cnt : Nat → Nat} {f : Nat → Nat → Nat} {D : DT} {y : YS} {H0 : Heap} (hb : bAt g B cnt f D y H0) {ad : Int32} (hk : ¬ hof y.1 ad y.2.1 0 = -1) : MP l y_BP_itemOf c_BP_itemOf 3 (some .int) 1 g H0 [.ref B, .int ad] (some (.int (hof y.1 ad y.2.1 0))) := by
  refine MM.of (by decide +kernel) (Nat.le_of_ble_eq_true rfl) ?_
  intro p e s m below meth cd X hH ls hl
  have X : CX g p s m _ meth cd c_BP_itemOf 3 (some .int) R_BP _ := X
  have hl : lv_has ls 3 [(0, .ref B), (1, .int ad)] := hl
  have hS : va_S (AA (noA) H0) H0 H0 [] := va_S.rf
  have hb0 := hb
  obtain ⟨hB, hy, hqk, cnt2, f2, D2, y2, hO⟩ := hb
  obtain ⟨S, c, qd, fn, fl, rd⟩ := y
  obtain ⟨hA, hP, ⟨Qf, hQ⟩, ⟨ex, ef, em, hE⟩, hI, ⟨N, hN⟩, hs, hcc, hly, hlw, hhw⟩ := hy
  have hA : asAt g (B + 13) qd fn fl rd H0 := hA
  have hI : iAt g (B + 13 + 1) c S H0 := hI
  have hcc : c ≤ 121 := hcc
  have hk : ¬ hof S ad c 0 = -1 := hk
  refine lv_aload_n X.x X.b d_BP_itemOf_0 rfl (lv_at hl 0 rfl) ?_
  refine m_get (v := .ref (B + 13)) X ok_BP hB 1 (by decide) k_BP_23 rfl d_BP_itemOf_1 ?_
  refine m_get (v := .ref (B + 13 + 1)) X ok_Assembly hA 0 (by decide) k_BP_147 rfl d_BP_itemOf_4 ?_
  refine lv_iload_n X.x X.b d_BP_itemOf_7 rfl (lv_at hl 1 rfl) ?_
  refine m_callP X hS (M_Items_holderOf l g hI hcc ad) v_BP_151 hI.1 rfl rfl rfl (Nat.le_of_ble_eq_true rfl) hl.1 d_BP_itemOf_8 (by omega) (by decide) ⟨Nat.zero_le _, Nat.zero_le _⟩ (fun locs hS => ?_)
  refine lv_istore_n (lv' := [(2, .int (hof S ad c 0)), (0, .ref B), (1, .int ad)]) X.x X.b d_BP_itemOf_11 rfl hl (by decide) rfl (fun ls hl => ?_)
  refine lv_iload_n X.x X.b d_BP_itemOf_12 rfl (lv_at hl 0 rfl) ?_
  refine lv_iconst (v := -1) X.x X.b d_BP_itemOf_13 (by decide) ?_
  refine lv_icmp_ne (tgt := 27) X.x X.b d_BP_itemOf_14 (by decide) (fun c1 => ?_) (fun c1 => ?_)
  · skip
    refine lv_iload_n X.x X.b d_BP_itemOf_27 rfl (lv_at hl 0 rfl) ?_
    exact m_iret X hS (Nat.zero_le _) (Nat.zero_le _) d_BP_itemOf_28 (congrArg (fun z => some (Value.int z)) (by simp [c1])) rfl
  · exact absurd c1 hk
set_option maxRecDepth 100000 in
set_option maxHeartbeats 4000000 in
theorem M_BP_wrongly (l : Launch) (g : GG) {B : Nat} {cnt : Nat → Nat} {f : Nat → Nat → Nat} {D : DT} {y : YS} {H0 : Heap} (hb : bAt g B cnt f D y H0) : MM l y_BP_wrongly c_BP_wrongly 1 (some .int) 4 0 0 g H0 [.ref B] (fun q => B + 13 + 1 ≤ q ∧ q < B + 13 + 1 + 123) (some (.int (cnl y.2.1 y.2.1 0 y.1 0).2)) (fun H1 => bAt g B cnt f D ((cnl y.2.1 y.2.1 0 y.1 0).1, y.2) H1) := by
  refine MM.of (by decide +kernel) (Nat.le_of_ble_eq_true rfl) ?_
  intro p e s m below meth cd X hH ls hl
  have X : CX g p s m _ meth cd c_BP_wrongly 1 (some .int) R_BP _ := X
  have hl : lv_has ls 1 [(0, .ref B)] := hl
  have hS : va_S (AA (fun q => B + 13 + 1 ≤ q ∧ q < B + 13 + 1 + 123) H0) H0 H0 [] := va_S.rf
  obtain ⟨hB, hy, hqk, cnt2, f2, D2, y2, hO⟩ := hb
  obtain ⟨S, c, qd, fn, fl, rd⟩ := y
  obtain ⟨hA, hP, ⟨Qf, hQ⟩, ⟨ex, ef, em, hE⟩, hI, ⟨N, hN⟩, hs, hcc, hly, hlw, hhw⟩ := hy
  have hA : asAt g (B + 13) qd fn fl rd H0 := hA
  have hI : iAt g (B + 13 + 1) c S H0 := hI
  have hcc : c ≤ 121 := hcc
  refine lv_aload_n X.x X.b d_BP_wrongly_0 rfl (lv_at hl 0 rfl) ?_
  refine m_get (v := .ref (B + 13)) X ok_BP hB 1 (by decide) k_BP_23 rfl d_BP_wrongly_1 ?_
  refine m_get (v := .ref (B + 13 + 1)) X ok_Assembly hA 0 (by decide) k_BP_147 rfl d_BP_wrongly_4 ?_
  have hR := M_Items_countNeedlesslyLong l g hI hcc
  refine m_callM X hS hR v_BP_208 hI.1 rfl rfl rfl (Nat.le_of_ble_eq_true rfl) hl.1 d_BP_wrongly_7 (by omega) (by decide) ⟨Nat.zero_le _, Nat.zero_le _⟩ (fun q z => z) (fun H locs hI hfr hS => ?_)
  have hB := hB.fr hfr (fun z => by have z : B + 13 + 1 ≤ B ∧ B < B + 13 + 1 + 123 := z; omega)
  have hA := hA.fr hfr (fun z => by have z : B + 13 + 1 ≤ B + 13 ∧ B + 13 < B + 13 + 1 + 123 := z; omega)
  have hP := hP.fr hfr (fun z => by have z : B + 13 + 1 ≤ B + 13 + 129 ∧ B + 13 + 129 < B + 13 + 1 + 123 := z; omega)
  have hQ := hQ.fr hfr (fun z => by have z : B + 13 + 1 ≤ B + 13 + 130 ∧ B + 13 + 130 < B + 13 + 1 + 123 := z; omega)
  have hE := hE.fr hfr (fun z => by have z : B + 13 + 1 ≤ B + 13 + 124 ∧ B + 13 + 124 < B + 13 + 1 + 123 := z; omega)
  have hN := hN.frame hfr (fun q z => by have z : B + 13 + 1 ≤ q ∧ q < B + 13 + 1 + 123 := z; omega)
  have hs := hs.frame hfr (fun q z => by have z : B + 13 + 1 ≤ q ∧ q < B + 13 + 1 + 123 := z; omega)
  have hO := hO.frame hfr (fun q z => by have z : B + 13 + 1 ≤ q ∧ q < B + 13 + 1 + 123 := z; omega)
  exact m_iret X hS (Nat.zero_le _) (Nat.zero_le _) d_BP_wrongly_10 rfl ⟨hB, ⟨hA, hP, ⟨_, hQ⟩, ⟨_, _, _, hE⟩, hI, ⟨_, hN⟩, hs, hcc, hly, hlw, hhw⟩, hqk, _, _, _, _, hO⟩
set_option maxRecDepth 100000 in
set_option maxHeartbeats 4000000 in
theorem M_BP_assembleNow (l : Launch) (g : GG) {B : Nat} {cnt : Nat → Nat} {f : Nat → Nat → Nat} {D : DT} {y : YS} {H0 : Heap} (hb : bAt g B cnt f D y H0) : MM l y_BP_assembleNow c_BP_assembleNow 1 none 21 0 0 g H0 [.ref B] (zF (B + 13)) (none) (fun H1 => bAt g B cnt f D (nowF D cnt y) H1) := by
  refine MM.of (by decide +kernel) (Nat.le_of_ble_eq_true rfl) ?_
  intro p e s m below meth cd X hH ls hl
  have X : CX g p s m _ meth cd c_BP_assembleNow 1 none R_BP _ := X
  have hl : lv_has ls 1 [(0, .ref B)] := hl
  have hS : va_S (AA (zF (B + 13)) H0) H0 H0 [] := va_S.rf
  obtain ⟨hB, hy, hqk, cnt2, f2, D2, y2, hO⟩ := hb
  refine lv_aload_n X.x X.b d_BP_assembleNow_0 rfl (lv_at hl 0 rfl) ?_
  refine m_get (v := .ref (B + 13)) X ok_BP hB 1 (by decide) k_BP_23 rfl d_BP_assembleNow_1 ?_
  have hR := M_Assembly_assemble l g hy
  refine m_callM X hS hR v_BP_191 hy.1 rfl rfl rfl (Nat.le_of_ble_eq_true rfl) hl.1 d_BP_assembleNow_4 (by omega) (by decide) ⟨Nat.zero_le _, Nat.zero_le _⟩ (fun q z => z) (fun H locs hy hfr hS => ?_)
  have hB := hB.fr hfr (fun z => by have z : B + 13 ≤ B ∧ B < B + 13 + 131 := z; omega)
  have hO := hO.frame hfr (fun q z => by have z : B + 13 ≤ q ∧ q < B + 13 + 131 := z; omega)
  obtain ⟨k, hk, hqk⟩ := hqk
  have hq2 := (asmF_q D cnt y).trans hqk
  obtain ⟨Y, hY⟩ : ∃ z, z = asmF D cnt y := ⟨_, rfl⟩
  rw [← hY] at hy hq2
  obtain ⟨S, c, qd, fn, fl, rd⟩ := Y
  have hq2 : qd = nI k := hq2
  subst hq2
  obtain ⟨hA, hP, ⟨Qf, hQ⟩, hE, hI, hN, hs, hcc, hly, hlw, hhw⟩ := hy
  refine lv_aload_n X.x X.b d_BP_assembleNow_7 rfl (lv_at hl 0 rfl) ?_
  refine m_get (v := .ref (B + 13)) X ok_BP hB 1 (by decide) k_BP_23 rfl d_BP_assembleNow_8 ?_
  have hR := M_Assembly_follow (S := S) (c := c) (k := k) (fn := fn) (fl := fl) (rd := rd) (Qf := Qf) l g hk ⟨hA, hP, hQ, hE, hI, hN, hs, hcc, hly, hlw, hhw⟩
  refine m_callM X hS hR v_BP_240 hA rfl rfl rfl (Nat.le_of_ble_eq_true rfl) hl.1 d_BP_assembleNow_11 (by omega) (by decide) ⟨Nat.zero_le _, Nat.zero_le _⟩ (fun q z => z) (fun H locs hy hfr hS => ?_)
  have hB := hB.fr hfr (fun z => by have z : B + 13 ≤ B ∧ B < B + 13 + 131 := z; omega)
  have hO := hO.frame hfr (fun q z => by have z : B + 13 ≤ q ∧ q < B + 13 + 131 := z; omega)
  have hw := flw_any (S, c, nI k, fn, fl, rd) Qf
  have hle := flw_le (S, c, nI k, fn, fl, rd) (fun _ => 0)
  obtain ⟨hA, hP, hQ, hE, hI, hN, hs, hcc, hly, hlw, hhw⟩ := hy
  have hA := hA
  have hI := hI
  dsimp only at hA hI
  rw [hw.2] at hA
  rw [hw.1] at hI
  have hn : nowF D cnt y = ((flw (S, c, nI k, fn, fl, rd)).1, c, nI (flw (S, c, nI k, fn, fl, rd)).2.1, fn, fl, rd) := by unfold nowF; rw [← hY]
  exact m_vret X hS (Nat.zero_le _) (Nat.zero_le _) d_BP_assembleNow_14 rfl (by rw [hn]; exact ⟨hB, ⟨hA, hP, ⟨_, hQ⟩, hE, hI, hN, hs, hcc, hly, hlw, hhw⟩, ⟨_, hle, rfl⟩, _, _, _, _, hO⟩)
