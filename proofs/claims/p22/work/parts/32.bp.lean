-- MORE OF WHAT THE PRESS TELLS
def olF (d : Nat → Int32) (k : Int32) : Int32 := if k = 0 then d 0 else if k = 1 then d 1 else if k = 2 then d 2 else if k = 3 then d 3 else if d 4 = 0 then 0 else 1
def manF (cnt : Nat → Nat) (y : YS) (k : Int32) : Int32 := if k = 0 then ctF cnt 0 else if k = 1 then totF cnt 5 0 0 else if y.2.2.2.1 = 0 then (if k = 6 then y.2.2.2.2.2 else tal y.1 k y.2.1 0 0) else -1
def valN (y : YS) (x : Int32) : Int32 := match gvO y.1 y.2.1 x y.2.1 with | none => -1 | some j => y.1.1 4 j
/-- the press with what lies in its other half -/
def bQt (g : GG) (B : Nat) (cnt : Nat → Nat) (f : Nat → Nat → Nat) (D : DT) (y : YS) (cnt2 : Nat → Nat) (f2 : Nat → Nat → Nat) (D2 : DT) (y2 : YS) (H : Heap) : Prop :=
  obAt g B H ∧ aAt g (B + 13) (B + 1) 40 cnt f D B (B + 287) y H ∧ (∃ k, k ≤ 121 ∧ y.2.2.1 = nI k) ∧ aAt g (B + 156) (B + 144) 60 cnt2 f2 D2 B (B + 287) y2 H
theorem bAt.q {g : GG} {B : Nat} {cnt : Nat → Nat} {f : Nat → Nat → Nat} {D : DT} {y : YS} {H : Heap} : bAt g B cnt f D y H ↔ ∃ cnt2 f2 D2 y2, bQt g B cnt f D y cnt2 f2 D2 y2 H := by
  constructor
  · rintro ⟨h1, h2, h3, cnt2, f2, D2, y2, h4⟩
    exact ⟨cnt2, f2, D2, y2, h1, h2, h3, h4⟩
  · rintro ⟨cnt2, f2, D2, y2, h1, h2, h3, h4⟩
    exact ⟨h1, h2, h3, cnt2, f2, D2, y2, h4⟩
-- not reached: BP_ofLine
set_option maxRecDepth 100000 in
set_option maxHeartbeats 4000000 in
theorem M_BP_many (l : Launch) (g : GG) {B : Nat} {cnt : Nat → Nat} {f : Nat → Nat → Nat} {D : DT} {y : YS} {H0 : Heap} (hb : bAt g B cnt f D y H0) {wt : Int32} (h0 : ¬ wt < 0) (h11 : wt ≤ 11) : MP l y_BP_many c_BP_many 2 (some .int) 3 g H0 [.ref B, .int wt] (some (.int (manF cnt y wt))) := by
  refine MM.of (by decide +kernel) (Nat.le_of_ble_eq_true rfl) ?_
  intro p e s m below meth cd X hH ls hl
  have X : CX g p s m _ meth cd c_BP_many 2 (some .int) R_BP _ := X
  have hl : lv_has ls 2 [(0, .ref B), (1, .int wt)] := hl
  have hS : va_S (AA (noA) H0) H0 H0 [] := va_S.rf
  obtain ⟨hB, hy, hqk, cnt2, f2, D2, y2, hO⟩ := hb
  obtain ⟨S, c, qd, fn, fl, rd⟩ := y
  obtain ⟨hA, hP, ⟨Qf, hQ⟩, ⟨ex, ef, em, hE⟩, hI, ⟨N, hN⟩, hs, hcc, hly, hlw, hhw⟩ := hy
  have hA : asAt g (B + 13) qd fn fl rd H0 := hA
  have hI : iAt g (B + 13 + 1) c S H0 := hI
  have hcc : c ≤ 121 := hcc
  refine lv_iload_n X.x X.b d_BP_many_0 rfl (lv_at hl 1 rfl) ?_
  refine lv_if_lt (tgt := 10) X.x X.b d_BP_many_1 (by decide) (fun c1 => ?_) (fun c1 => ?_)
  · exact absurd c1 h0
  · skip
    have c1q := Int32.not_lt.mp c1
    refine lv_iload_n X.x X.b d_BP_many_4 rfl (lv_at hl 1 rfl) ?_
    refine lv_bipush (v := 11) X.x X.b d_BP_many_5 (by decide) ?_
    refine lv_icmp_le (tgt := 20) X.x X.b d_BP_many_7 (by decide) (fun c2 => ?_) (fun c2 => ?_)
    · skip
      have c2q := Int32.not_lt.mpr c2
      refine lv_iload_n X.x X.b d_BP_many_20 rfl (lv_at hl 1 rfl) ?_
      refine lv_if_ne (tgt := 33) X.x X.b d_BP_many_21 (by decide) (fun c3 => ?_) (fun c3 => ?_)
      · skip
        refine lv_iload_n X.x X.b d_BP_many_33 rfl (lv_at hl 1 rfl) ?_
        refine lv_iconst (v := 1) X.x X.b d_BP_many_34 (by decide) ?_
        refine lv_icmp_ne (tgt := 46) X.x X.b d_BP_many_35 (by decide) (fun c4 => ?_) (fun c4 => ?_)
        · skip
          refine lv_aload_n X.x X.b d_BP_many_46 rfl (lv_at hl 0 rfl) ?_
          refine m_get (v := .ref (B + 13)) X ok_BP hB 1 (by decide) k_BP_23 rfl d_BP_many_47 ?_
          refine m_get (v := .int fn) X ok_Assembly hA 5 (by decide) k_BP_113 rfl d_BP_many_50 ?_
          refine lv_if_eq (tgt := 58) X.x X.b d_BP_many_53 (by decide) (fun c5 => ?_) (fun c5 => ?_)
          · skip
            refine lv_iload_n X.x X.b d_BP_many_58 rfl (lv_at hl 1 rfl) ?_
            refine lv_bipush (v := 6) X.x X.b d_BP_many_59 (by decide) ?_
            refine lv_icmp_ne (tgt := 74) X.x X.b d_BP_many_61 (by decide) (fun c6 => ?_) (fun c6 => ?_)
            · skip
              refine lv_aload_n X.x X.b d_BP_many_74 rfl (lv_at hl 0 rfl) ?_
              refine m_get (v := .ref (B + 13)) X ok_BP hB 1 (by decide) k_BP_23 rfl d_BP_many_75 ?_
              refine m_get (v := .ref (B + 13 + 1)) X ok_Assembly hA 0 (by decide) k_BP_147 rfl d_BP_many_78 ?_
              refine lv_iload_n X.x X.b d_BP_many_81 rfl (lv_at hl 1 rfl) ?_
              refine m_callP X hS (M_Items_tally l g hI hcc wt) v_BP_185 hI.1 rfl rfl rfl (Nat.le_of_ble_eq_true rfl) hl.1 d_BP_many_82 (by omega) (by decide) ⟨Nat.zero_le _, Nat.zero_le _⟩ (fun locs hS => ?_)
              exact m_iret X hS (Nat.zero_le _) (Nat.zero_le _) d_BP_many_85 (congrArg (fun z => some (Value.int z)) (by simp [manF, c1, c1q, c2, c2q, c3, c4, c5, c6])) rfl
            · skip
              refine lv_aload_n X.x X.b d_BP_many_64 rfl (lv_at hl 0 rfl) ?_
              refine m_get (v := .ref (B + 13)) X ok_BP hB 1 (by decide) k_BP_23 rfl d_BP_many_65 ?_
              refine m_get (v := .int rd) X ok_Assembly hA 7 (by decide) k_BP_182 rfl d_BP_many_68 ?_
              refine lv_goto (tgt := 85) X.x X.b d_BP_many_71 (by decide) ?_
              exact m_iret X hS (Nat.zero_le _) (Nat.zero_le _) d_BP_many_85 (congrArg (fun z => some (Value.int z)) (by simp [manF, c1, c1q, c2, c2q, c3, c4, c5, c6])) rfl
          · skip
            refine lv_iconst (v := -1) X.x X.b d_BP_many_56 (by decide) ?_
            exact m_iret X hS (Nat.zero_le _) (Nat.zero_le _) d_BP_many_57 (congrArg (fun z => some (Value.int z)) (by simp [manF, c1, c1q, c2, c2q, c3, c4, c5])) rfl
        · skip
          refine lv_aload_n X.x X.b d_BP_many_38 rfl (lv_at hl 0 rfl) ?_
          refine m_get (v := .ref (B + 1)) X ok_BP hB 0 (by decide) k_BP_14 rfl d_BP_many_39 ?_
          refine m_callP X hS (M_Source_countOfAll l g hs) v_BP_178 hs.1 rfl rfl rfl (Nat.le_of_ble_eq_true rfl) hl.1 d_BP_many_42 (by omega) (by decide) ⟨Nat.zero_le _, Nat.zero_le _⟩ (fun locs hS => ?_)
          exact m_iret X hS (Nat.zero_le _) (Nat.zero_le _) d_BP_many_45 (congrArg (fun z => some (Value.int z)) (by simp [manF, c1, c1q, c2, c2q, c3, c4])) rfl
      · skip
        refine lv_aload_n X.x X.b d_BP_many_24 rfl (lv_at hl 0 rfl) ?_
        refine m_get (v := .ref (B + 1)) X ok_BP hB 0 (by decide) k_BP_14 rfl d_BP_many_25 ?_
        refine lv_iconst (v := 0) X.x X.b d_BP_many_28 (by decide) ?_
        refine m_callP X hS (M_Source_countOf l g hs 0) v_BP_66 hs.1 rfl rfl rfl (Nat.le_of_ble_eq_true rfl) hl.1 d_BP_many_29 (by omega) (by decide) ⟨Nat.zero_le _, Nat.zero_le _⟩ (fun locs hS => ?_)
        exact m_iret X hS (Nat.zero_le _) (Nat.zero_le _) d_BP_many_32 (congrArg (fun z => some (Value.int z)) (by simp [manF, c1, c1q, c2, c2q, c3])) rfl
    · exact absurd h11 c2
set_option maxRecDepth 100000 in
set_option maxHeartbeats 4000000 in
theorem M_BP_value (l : Launch) (g : GG) {B : Nat} {cnt : Nat → Nat} {f : Nat → Nat → Nat} {D : DT} {y : YS} {H0 : Heap} (hb : bAt g B cnt f D y H0) {x : Int32} (hf : y.2.2.2.1 = 0) (h0 : ¬ x < 0) (h8 : x < 8) : MP l y_BP_value c_BP_value 3 (some .int) 3 g H0 [.ref B, .int x] (some (.int (valN y x))) := by
  refine MM.of (by decide +kernel) (Nat.le_of_ble_eq_true rfl) ?_
  intro p e s m below meth cd X hH ls hl
  have X : CX g p s m _ meth cd c_BP_value 3 (some .int) R_BP _ := X
  have hl : lv_has ls 3 [(0, .ref B), (1, .int x)] := hl
  have hS : va_S (AA (noA) H0) H0 H0 [] := va_S.rf
  obtain ⟨hB, hy, hqk, cnt2, f2, D2, y2, hO⟩ := hb
  obtain ⟨S, c, qd, fn, fl, rd⟩ := y
  obtain ⟨hA, hP, ⟨Qf, hQ⟩, ⟨ex, ef, em, hE⟩, hI, ⟨N, hN⟩, hs, hcc, hly, hlw, hhw⟩ := hy
  have hA : asAt g (B + 13) qd fn fl rd H0 := hA
  have hI : iAt g (B + 13 + 1) c S H0 := hI
  have hcc : c ≤ 121 := hcc
  have hf : fn = 0 := hf
  refine lv_aload_n X.x X.b d_BP_value_0 rfl (lv_at hl 0 rfl) ?_
  refine m_get (v := .ref (B + 13)) X ok_BP hB 1 (by decide) k_BP_23 rfl d_BP_value_1 ?_
  refine m_get (v := .int fn) X ok_Assembly hA 5 (by decide) k_BP_113 rfl d_BP_value_4 ?_
  refine lv_if_eq (tgt := 20) X.x X.b d_BP_value_7 (by decide) (fun c1 => ?_) (fun c1 => ?_)
  · skip
    refine lv_iload_n X.x X.b d_BP_value_20 rfl (lv_at hl 1 rfl) ?_
    refine lv_if_lt (tgt := 30) X.x X.b d_BP_value_21 (by decide) (fun c2 => ?_) (fun c2 => ?_)
    · exact absurd c2 h0
    · skip
      have c2q := Int32.not_lt.mp c2
      refine lv_iload_n X.x X.b d_BP_value_24 rfl (lv_at hl 1 rfl) ?_
      refine lv_bipush (v := 8) X.x X.b d_BP_value_25 (by decide) ?_
      refine lv_icmp_lt (tgt := 40) X.x X.b d_BP_value_27 (by decide) (fun c3 => ?_) (fun c3 => ?_)
      · skip
        have c3q := Int32.not_le.mpr c3
        refine lv_aload_n X.x X.b d_BP_value_40 rfl (lv_at hl 0 rfl) ?_
        refine m_get (v := .ref (B + 13)) X ok_BP hB 1 (by decide) k_BP_23 rfl d_BP_value_41 ?_
        refine m_get (v := .ref (B + 13 + 1)) X ok_Assembly hA 0 (by decide) k_BP_147 rfl d_BP_value_44 ?_
        refine lv_iload_n X.x X.b d_BP_value_47 rfl (lv_at hl 1 rfl) ?_
        refine lv_aload_n X.x X.b d_BP_value_48 rfl (lv_at hl 0 rfl) ?_
        refine m_get (v := .ref (B + 13)) X ok_BP hB 1 (by decide) k_BP_23 rfl d_BP_value_49 ?_
        refine m_get (v := .ref (B + 13 + 1)) X ok_Assembly hA 0 (by decide) k_BP_147 rfl d_BP_value_52 ?_
        refine m_get (v := .int (nI c)) X ok_Items hI.1 1 (by decide) k_BP_166 rfl d_BP_value_55 ?_
        refine m_callP X hS (M_Items_giverOf (t := c) l g hI hcc x hcc) v_BP_169 hI.1 rfl rfl rfl (Nat.le_of_ble_eq_true rfl) hl.1 d_BP_value_58 (by omega) (by decide) ⟨Nat.zero_le _, Nat.zero_le _⟩ (fun locs hS => ?_)
        rcases o4 : gvO S c x c with _ | j5
        · skip
          try rw [o4]
          refine lv_astore_nN (lv' := [(2, .null), (0, .ref B), (1, .int x)]) X.x X.b d_BP_value_61 rfl hl (by decide) rfl (fun ls hl => ?_)
          refine lv_aload_nN X.x X.b d_BP_value_62 rfl (lv_at hl 0 rfl) ?_
          refine lv_ifnonnullN X.x X.b d_BP_value_63 ?_
          refine lv_iconst (v := -1) X.x X.b d_BP_value_66 (by decide) ?_
          refine lv_goto (tgt := 74) X.x X.b d_BP_value_67 (by decide) ?_
          exact m_iret X hS (Nat.zero_le _) (Nat.zero_le _) d_BP_value_74 (congrArg (fun z => some (Value.int z)) (by simp [valN, c1, c2, c2q, c3, c3q, o4])) rfl
        · skip
          try rw [o4]
          refine lv_astore_n (lv' := [(2, .ref (B + 13 + 1 + 2 + j5)), (0, .ref B), (1, .int x)]) X.x X.b d_BP_value_61 rfl hl (by decide) rfl (fun ls hl => ?_)
          refine lv_aload_n X.x X.b d_BP_value_62 rfl (lv_at hl 0 rfl) ?_
          refine lv_ifnonnull (tgt := 70) X.x X.b d_BP_value_63 (by decide) ?_
          refine lv_aload_n X.x X.b d_BP_value_70 rfl (lv_at hl 0 rfl) ?_
          refine m_get (v := .int (S.1 4 j5)) X ok_Item (hI.2.2.1 j5 (Nat.lt_of_lt_of_le (gvO_lt o4) hcc)) 4 (by decide) k_BP_173 rfl d_BP_value_71 ?_
          exact m_iret X hS (Nat.zero_le _) (Nat.zero_le _) d_BP_value_74 (congrArg (fun z => some (Value.int z)) (by simp [valN, c1, c2, c2q, c3, c3q, o4])) rfl
      · exact absurd h8 c3
  · exact absurd hf c1
