-- THE REFERENCE ASSEMBLING ONE LINE
def faM (p : Nat → Int32) (s : Nat → Nat → Int32) (v : Int32) : Int32 := if 0 ≤ v ∧ v ≤ p 6 - 1 then (if s 14 0 = v then 0 else if s 14 1 = v then 1 else -1) else -1
theorem faM3 (p : Nat → Int32) (s : Nat → Nat → Int32) (v : Int32) : faM p s v = -1 ∨ faM p s v = 0 ∨ faM p s v = 1 := by
  unfold faM
  repeat' split
  all_goals simp
theorem twoI.s {k : Int32} {p : Nat → Int32} {s t : Nat → Nat → Int32} (h : twoI k p s) (h8 : t 8 = s 8) : twoI k p t := by
  unfold twoI at h ⊢
  rw [h8]
  exact h
theorem twoI.ps {k : Int32} {p q : Nat → Int32} {s t : Nat → Nat → Int32} (h : twoI k p s) (h3 : q 3 = p 3) (h5 : q 5 = p 5) (h8 : t 8 = s 8) : twoI k q t := by
  unfold twoI at h ⊢
  rw [h3, h5, h8]
  exact h
set_option maxRecDepth 100000 in
set_option maxHeartbeats 4000000 in
theorem M_Model_firstAt (l : Launch) (g : GG) {mo tq : Nat} {p0 : Nat → Int32} {s0 : Nat → Nat → Int32} {H0 : Heap} (hM : mAt g mo tq p0 s0 H0) (hw5 : p0 5 = 2) (v_ : Int32) : MP l y_Model_firstAt c_Model_firstAt 3 (some .int) 1 g H0 [.ref mo, .int v_] (some (.int (faM p0 s0 v_))) := by
  refine MM.of (by decide +kernel) (Nat.le_of_ble_eq_true rfl) ?_
  intro p e s m below meth cd X hH ls hl
  have X : CX g p s m _ meth cd c_Model_firstAt 3 (some .int) R_Model _ := X
  have hl : lv_has ls 3 [(0, .ref mo), (1, .int v_)] := hl
  have hS : va_S (AA (noA) H0) H0 H0 [] := va_S.rf
  have hlt0 := hM.lt
  have htq0 := hM.tq
  refine lv_iload_n X.x X.b d_Model_firstAt_0 rfl (lv_at hl 1 rfl) ?_
  refine lv_iconst (v := 0) X.x X.b d_Model_firstAt_1 (by decide) ?_
  refine lv_aload_n X.x X.b d_Model_firstAt_2 rfl (lv_at hl 0 rfl) ?_
  refine m_get (v := .int (p0 6)) X ok_Model hM.1 6 (by decide) k_Model_165 (congrArg (fun z => some (Value.int z)) (show p0 6 = p0 6 from rfl)) d_Model_firstAt_3 ?_
  refine lv_iconst (v := 1) X.x X.b d_Model_firstAt_6 (by decide) ?_
  refine lv_isub X.x X.b d_Model_firstAt_7 ?_
  refine m_callSP X hS (M_Model_isIn l g v_ 0 ((p0 6) - 1)) s_Model_84 rfl rfl (Nat.le_of_ble_eq_true rfl) hl.1 d_Model_firstAt_8 (by omega) (by decide) ⟨by omega, by omega⟩ (fun locs hS => ?_)
  refine lv_if_ne (tgt := 16) X.x X.b d_Model_firstAt_11 (by decide) (fun c1 => ?_) (fun c1 => ?_)
  · skip
    have c1 := b2i_n0 c1
    refine lv_iconst (v := 0) X.x X.b d_Model_firstAt_16 (by decide) ?_
    refine lv_istore_n (lv' := [(2, .int 0), (0, .ref mo), (1, .int v_)]) X.x X.b d_Model_firstAt_17 rfl hl (by decide) rfl (fun ls hl => ?_)
    refine lv_aload_n X.x X.b d_Model_firstAt_18 rfl (lv_at hl 1 rfl) ?_
    refine m_get (v := .ref (mo + 9)) X ok_Model hM.1 14 (by decide) k_Model_34 rfl d_Model_firstAt_19 ?_
    refine lv_iload_n X.x X.b d_Model_firstAt_22 rfl (lv_at hl 0 rfl) ?_
    refine m_ild (v := s0 14 0) X hM.a14 0 rfl (by omega) (by decide) (show s0 14 0 = s0 14 0 from rfl) d_Model_firstAt_23 ?_
    refine lv_iload_n X.x X.b d_Model_firstAt_24 rfl (lv_at hl 2 rfl) ?_
    refine lv_icmp_eq (tgt := 41) X.x X.b d_Model_firstAt_25 (by decide) (fun c2 => ?_) (fun c2 => ?_)
    · skip
      refine lv_iload_n X.x X.b d_Model_firstAt_41 rfl (lv_at hl 0 rfl) ?_
      exact m_iret X hS (by omega) (by omega) d_Model_firstAt_42 (congrArg (fun z => some (Value.int z)) (by simp [faM, c1, c2])) rfl
    · skip
      refine lv_iinc (v := 1) (lv' := [(2, .int 1), (0, .ref mo), (1, .int v_)]) X.x X.b d_Model_firstAt_28 hl (k := 0) rfl (by decide) (by decide) rfl (fun ls hl => ?_)
      refine lv_iload_n X.x X.b d_Model_firstAt_31 rfl (lv_at hl 0 rfl) ?_
      refine lv_aload_n X.x X.b d_Model_firstAt_32 rfl (lv_at hl 1 rfl) ?_
      refine m_get (v := .int 2) X ok_Model hM.1 5 (by decide) k_Model_132 (congrArg (fun z => some (Value.int z)) (show p0 5 = 2 from (by rw [hw5]))) d_Model_firstAt_33 ?_
      refine lv_icmp_ne (tgt := 18) X.x X.b d_Model_firstAt_36 (by decide) (fun c3 => ?_) (fun c3 => ?_)
      · skip
        refine lv_aload_n X.x X.b d_Model_firstAt_18 rfl (lv_at hl 1 rfl) ?_
        refine m_get (v := .ref (mo + 9)) X ok_Model hM.1 14 (by decide) k_Model_34 rfl d_Model_firstAt_19 ?_
        refine lv_iload_n X.x X.b d_Model_firstAt_22 rfl (lv_at hl 0 rfl) ?_
        refine m_ild (v := s0 14 1) X hM.a14 1 rfl (by omega) (by decide) (show s0 14 1 = s0 14 1 from rfl) d_Model_firstAt_23 ?_
        refine lv_iload_n X.x X.b d_Model_firstAt_24 rfl (lv_at hl 2 rfl) ?_
        refine lv_icmp_eq (tgt := 41) X.x X.b d_Model_firstAt_25 (by decide) (fun c4 => ?_) (fun c4 => ?_)
        · skip
          refine lv_iload_n X.x X.b d_Model_firstAt_41 rfl (lv_at hl 0 rfl) ?_
          exact m_iret X hS (by omega) (by omega) d_Model_firstAt_42 (congrArg (fun z => some (Value.int z)) (by simp [faM, c1, c2, c3, c4])) rfl
        · skip
          refine lv_iinc (v := 2) (lv' := [(2, .int 2), (0, .ref mo), (1, .int v_)]) X.x X.b d_Model_firstAt_28 hl (k := 0) rfl (by decide) (by decide) rfl (fun ls hl => ?_)
          refine lv_iload_n X.x X.b d_Model_firstAt_31 rfl (lv_at hl 0 rfl) ?_
          refine lv_aload_n X.x X.b d_Model_firstAt_32 rfl (lv_at hl 1 rfl) ?_
          refine m_get (v := .int 2) X ok_Model hM.1 5 (by decide) k_Model_132 (congrArg (fun z => some (Value.int z)) (show p0 5 = 2 from (by rw [hw5]))) d_Model_firstAt_33 ?_
          refine lv_icmp_ne (tgt := 18) X.x X.b d_Model_firstAt_36 (by decide) (fun c5 => ?_) (fun c5 => ?_)
          · exact absurd c5 (by decide)
          · skip
            refine lv_iconst (v := -1) X.x X.b d_Model_firstAt_39 (by decide) ?_
            exact m_iret X hS (by omega) (by omega) d_Model_firstAt_40 (congrArg (fun z => some (Value.int z)) (by simp [faM, c1, c2, c3, c4, c5])) rfl
      · exact absurd c3 (by decide)
  · skip
    have c1 := b2i_0.mp c1
    refine lv_iconst (v := -1) X.x X.b d_Model_firstAt_14 (by decide) ?_
    exact m_iret X hS (by omega) (by omega) d_Model_firstAt_15 (congrArg (fun z => some (Value.int z)) (by simp [faM, c1])) rfl
set_option maxRecDepth 100000 in
set_option maxHeartbeats 4000000 in
theorem M_Model_follow_L0 (l : Launch) (g : GG) {mo tq : Nat} {p0 : Nat → Int32} {s0 : Nat → Nat → Int32} {H0 : Heap} (hM : mAt g mo tq p0 s0 H0) (hw : twoI 0 p0 s0) : MM l y_Model_follow c_Model_follow 4 none 3 1 244 g H0 [.ref mo] (fun q => mo ≤ q ∧ q < mo + 23) (none) (fun H1 => ∃ s, mAt g mo tq p0 s H1 ∧ same [24] s0 s) := by
  refine MM.of (by decide +kernel) (Nat.le_of_ble_eq_true rfl) ?_
  intro p e s m below meth cd X hH ls hl
  have X : CX g p s m _ meth cd c_Model_follow 4 none R_Model _ := X
  have hl : lv_has ls 4 [(0, .ref mo)] := hl
  have hS : va_S (AA (fun q => mo ≤ q ∧ q < mo + 23) H0) H0 H0 [] := va_S.rf
  have hlt0 := hM.lt
  have htq0 := hM.tq
  obtain ⟨⟨hw3, hw5⟩, hw8, hw81⟩ := hw
  refine lv_iconst (v := 0) X.x X.b d_Model_follow_0 (by decide) ?_
  refine lv_istore_n (lv' := [(1, .int 0), (0, .ref mo)]) X.x X.b d_Model_follow_1 rfl hl (by decide) rfl (fun ls hl => ?_)
  refine lv_iload_n X.x X.b d_Model_follow_2 rfl (lv_at hl 0 rfl) ?_
  refine lv_aload_n X.x X.b d_Model_follow_3 rfl (lv_at hl 1 rfl) ?_
  refine m_get (v := .int 2) X ok_Model hM.1 5 (by decide) k_Model_132 (congrArg (fun z => some (Value.int z)) (show p0 5 = 2 from (by rw [hw5]))) d_Model_follow_4 ?_
  refine lv_icmp_ge (tgt := 23) X.x X.b d_Model_follow_7 (by decide) (fun c1 => ?_) (fun c1 => ?_)
  · exact absurd c1 (by decide)
  · skip
    have c1q := Int32.not_le.mp c1
    refine lv_aload_n X.x X.b d_Model_follow_10 rfl (lv_at hl 1 rfl) ?_
    refine m_get (v := .ref (mo + 19)) X ok_Model hM.1 24 (by decide) k_Model_65 rfl d_Model_follow_11 ?_
    refine lv_iload_n X.x X.b d_Model_follow_14 rfl (lv_at hl 0 rfl) ?_
    refine lv_iconst (v := 0) X.x X.b d_Model_follow_15 (by decide) ?_
    refine m_zst X hS (Or.inl ⟨by omega, by omega⟩) hM.a24 0 rfl (by omega) (by decide) rfl d_Model_follow_16 (fun H locs hp hcg hS => ?_)
    have hM := hM.s24 hp hcg
    obtain ⟨s_1, es_1⟩ : ∃ z, z = updR s0 24 (upd (s0 24) 0 0) := ⟨_, rfl⟩
    rw [← es_1] at hM
    refine lv_iinc (v := 1) (lv' := [(1, .int 1), (0, .ref mo)]) X.x X.b d_Model_follow_17 hl (k := 0) rfl (by decide) (by decide) rfl (fun ls hl => ?_)
    refine lv_goto (tgt := 2) X.x X.b d_Model_follow_20 (by decide) ?_
    refine lv_iload_n X.x X.b d_Model_follow_2 rfl (lv_at hl 0 rfl) ?_
    refine lv_aload_n X.x X.b d_Model_follow_3 rfl (lv_at hl 1 rfl) ?_
    refine m_get (v := .int 2) X ok_Model hM.1 5 (by decide) k_Model_132 (congrArg (fun z => some (Value.int z)) (show p0 5 = 2 from (by rw [hw5]))) d_Model_follow_4 ?_
    refine lv_icmp_ge (tgt := 23) X.x X.b d_Model_follow_7 (by decide) (fun c2 => ?_) (fun c2 => ?_)
    · exact absurd c2 (by decide)
    · skip
      have c2q := Int32.not_le.mp c2
      refine lv_aload_n X.x X.b d_Model_follow_10 rfl (lv_at hl 1 rfl) ?_
      refine m_get (v := .ref (mo + 19)) X ok_Model hM.1 24 (by decide) k_Model_65 rfl d_Model_follow_11 ?_
      refine lv_iload_n X.x X.b d_Model_follow_14 rfl (lv_at hl 0 rfl) ?_
      refine lv_iconst (v := 0) X.x X.b d_Model_follow_15 (by decide) ?_
      refine m_zst X hS (Or.inl ⟨by omega, by omega⟩) hM.a24 1 rfl (by omega) (by decide) rfl d_Model_follow_16 (fun H locs hp hcg hS => ?_)
      have hM := hM.s24 hp hcg
      obtain ⟨s_2, es_2⟩ : ∃ z, z = updR s_1 24 (upd (s_1 24) 1 0) := ⟨_, rfl⟩
      rw [← es_2] at hM
      refine lv_iinc (v := 2) (lv' := [(1, .int 2), (0, .ref mo)]) X.x X.b d_Model_follow_17 hl (k := 0) rfl (by decide) (by decide) rfl (fun ls hl => ?_)
      refine lv_goto (tgt := 2) X.x X.b d_Model_follow_20 (by decide) ?_
      refine lv_iload_n X.x X.b d_Model_follow_2 rfl (lv_at hl 0 rfl) ?_
      refine lv_aload_n X.x X.b d_Model_follow_3 rfl (lv_at hl 1 rfl) ?_
      refine m_get (v := .int 2) X ok_Model hM.1 5 (by decide) k_Model_132 (congrArg (fun z => some (Value.int z)) (show p0 5 = 2 from (by rw [hw5]))) d_Model_follow_4 ?_
      refine lv_icmp_ge (tgt := 23) X.x X.b d_Model_follow_7 (by decide) (fun c3 => ?_) (fun c3 => ?_)
      · skip
        have c3q := Int32.not_lt.mpr c3
        refine lv_sipush (v := 244) X.x X.b d_Model_follow_23 (by decide) ?_
        obtain ⟨q26, hq26⟩ := sz_of hS
        have hlt26 := hM.lt
        have hsz26 := hS.1
        refine m_newI X hS hq26 244 (by decide) (by decide) (by decide) (by omega) (by omega) d_Model_follow_26 (fun H hL26 hgr hS hz2 => ?_)
        have hfr := fr.of_grow (A := noA) hgr
        have hM := hM.frame hfr (fun q z => z.elim)
        refine lv_astore_n (lv' := [(1, .ref q26), (0, .ref mo)]) X.x X.b d_Model_follow_28 rfl hl (by decide) rfl (fun ls hl => ?_)
        refine lv_iconst (v := 0) X.x X.b d_Model_follow_29 (by decide) ?_
        refine lv_istore_n (lv' := [(2, .int 0), (1, .ref q26), (0, .ref mo)]) X.x X.b d_Model_follow_30 rfl hl (by decide) rfl (fun ls hl => ?_)
        refine lv_aload_n X.x X.b d_Model_follow_31 rfl (lv_at hl 1 rfl) ?_
        refine lv_iload_n X.x X.b d_Model_follow_32 rfl (lv_at hl 0 rfl) ?_
        refine lv_iinc (v := 1) (lv' := [(2, .int 1), (1, .ref q26), (0, .ref mo)]) X.x X.b d_Model_follow_33 hl (k := 0) rfl (by decide) (by decide) rfl (fun ls hl => ?_)
        refine lv_iconst (v := 0) X.x X.b d_Model_follow_36 (by decide) ?_
        refine m_ist X hS (Or.inr (by omega)) hL26 0 rfl (by omega) (by decide) d_Model_follow_37 (fun H locs hp hcg hS => ?_)
        have hL26 := hp
        obtain ⟨r_3, er_3⟩ : ∃ z, z = upd (fun _ => 0) 0 0 := ⟨_, rfl⟩
        rw [← er_3] at hL26
        have hM := hM.frame (fr.of_chg (A := fun q => q = q26) hcg rfl) (fun q z => by have z : q = q26 := z; have := hM.tq; omega)
        refine lv_iload_n X.x X.b d_Model_follow_38 rfl (lv_at hl 0 rfl) ?_
        refine lv_if_le (tgt := 143) X.x X.b d_Model_follow_39 (by decide) (fun c4 => ?_) (fun c4 => ?_)
        · exact absurd c4 (by decide)
        · skip
          have c4q := Int32.not_le.mp c4
          refine lv_aload_n X.x X.b d_Model_follow_42 rfl (lv_at hl 1 rfl) ?_
          refine lv_iinc (v := 0) (lv' := [(2, .int 0), (1, .ref q26), (0, .ref mo)]) X.x X.b d_Model_follow_43 hl (k := 0) rfl (by decide) (by decide) rfl (fun ls hl => ?_)
          refine lv_iload_n X.x X.b d_Model_follow_46 rfl (lv_at hl 0 rfl) ?_
          refine m_ild (v := 0) X hL26 0 rfl (by omega) (by decide) (show r_3 0 = 0 from (by rw [er_3, upd_hit])) d_Model_follow_47 ?_
          refine lv_istore_n (lv' := [(3, .int 0), (2, .int 0), (1, .ref q26), (0, .ref mo)]) X.x X.b d_Model_follow_48 rfl hl (by decide) rfl (fun ls hl => ?_)
          refine lv_iload_n X.x X.b d_Model_follow_49 rfl (lv_at hl 0 rfl) ?_
          refine lv_iconst (v := 0) X.x X.b d_Model_follow_50 (by decide) ?_
          refine lv_aload_n X.x X.b d_Model_follow_51 rfl (lv_at hl 3 rfl) ?_
          refine m_get (v := .int 2) X ok_Model hM.1 5 (by decide) k_Model_132 (congrArg (fun z => some (Value.int z)) (show p0 5 = 2 from (by rw [hw5]))) d_Model_follow_52 ?_
          refine lv_iconst (v := 1) X.x X.b d_Model_follow_55 (by decide) ?_
          refine lv_isub X.x X.b d_Model_follow_56 ?_
          rw [show (2 - 1 : Int32) = 1 from by decide]
          refine m_callSP X hS (MP_ans (M_Model_isIn l g 0 0 1) (show b2i (0 ≤ 0 ∧ 0 ≤ 1) = 1 from by decide)) s_Model_84 rfl rfl (Nat.le_of_ble_eq_true rfl) hl.1 d_Model_follow_57 (by omega) (by decide) ⟨by omega, by omega⟩ (fun locs hS => ?_)
          refine lv_if_eq (tgt := 38) X.x X.b d_Model_follow_60 (by decide) (fun c5 => ?_) (fun c5 => ?_)
          · exact absurd c5 (by decide)
          · skip
            refine lv_aload_n X.x X.b d_Model_follow_63 rfl (lv_at hl 3 rfl) ?_
            refine m_get (v := .ref (mo + 19)) X ok_Model hM.1 24 (by decide) k_Model_65 rfl d_Model_follow_64 ?_
            refine lv_iload_n X.x X.b d_Model_follow_67 rfl (lv_at hl 0 rfl) ?_
            refine m_zld (v := 0) X hM.a24 0 rfl (by omega) (by decide) (show s_2 24 0 = 0 from (by rw [es_2, updR_mi _ _ _ _ (show (0 : Nat) ≠ 1 by omega), es_1, updR_hit])) d_Model_follow_68 ?_
            refine lv_if_ne (tgt := 38) X.x X.b d_Model_follow_69 (by decide) (fun c6 => ?_) (fun c6 => ?_)
            · exact absurd c6 (by decide)
            · skip
              refine lv_aload_n X.x X.b d_Model_follow_72 rfl (lv_at hl 3 rfl) ?_
              refine lv_iload_n X.x X.b d_Model_follow_73 rfl (lv_at hl 0 rfl) ?_
              have hR := M_Model_goesOn (k := 0) l g hM (by omega)
              rw [show b2i (goM s_2 0) = 1 from b2i_t (by unfold goM; rw [show s_2 8 0 = 0 from (by rw [es_2, updR_mf _ _ _ (show 8 ≠ 24 by decide), es_1, updR_mf _ _ _ (show 8 ≠ 24 by decide), hw8])]; first | decide | simp)] at hR
              refine m_callP X hS hR v_Model_201 hM.1 rfl rfl rfl (Nat.le_of_ble_eq_true rfl) hl.1 d_Model_follow_74 (by omega) (by decide) ⟨by omega, by omega⟩ (fun locs hS => ?_)
              refine lv_if_ne (tgt := 93) X.x X.b d_Model_follow_77 (by decide) (fun c7 => ?_) (fun c7 => ?_)
              · skip
                refine lv_aload_n X.x X.b d_Model_follow_93 rfl (lv_at hl 3 rfl) ?_
                refine m_get (v := .ref (mo + 19)) X ok_Model hM.1 24 (by decide) k_Model_65 rfl d_Model_follow_94 ?_
                refine lv_iload_n X.x X.b d_Model_follow_97 rfl (lv_at hl 0 rfl) ?_
                refine lv_iconst (v := 1) X.x X.b d_Model_follow_98 (by decide) ?_
                refine m_zst X hS (Or.inl ⟨by omega, by omega⟩) hM.a24 0 rfl (by omega) (by decide) rfl d_Model_follow_99 (fun H locs hp hcg hS => ?_)
                have hM := hM.s24 hp hcg
                obtain ⟨s_4, es_4⟩ : ∃ z, z = updR s_2 24 (upd (s_2 24) 0 1) := ⟨_, rfl⟩
                rw [← es_4] at hM
                have hL26 := hL26.off hcg (by omega)
                refine lv_aload_n X.x X.b d_Model_follow_100 rfl (lv_at hl 3 rfl) ?_
                refine lv_iload_n X.x X.b d_Model_follow_101 rfl (lv_at hl 0 rfl) ?_
                have hR := M_Model_goesOn (k := 0) l g hM (by omega)
                rw [show b2i (goM s_4 0) = 1 from b2i_t (by unfold goM; rw [show s_4 8 0 = 0 from (by rw [es_4, updR_mf _ _ _ (show 8 ≠ 24 by decide), es_2, updR_mf _ _ _ (show 8 ≠ 24 by decide), es_1, updR_mf _ _ _ (show 8 ≠ 24 by decide), hw8])]; first | decide | simp)] at hR
                refine m_callP X hS hR v_Model_201 hM.1 rfl rfl rfl (Nat.le_of_ble_eq_true rfl) hl.1 d_Model_follow_102 (by omega) (by decide) ⟨by omega, by omega⟩ (fun locs hS => ?_)
                refine lv_if_eq (tgt := 117) X.x X.b d_Model_follow_105 (by decide) (fun c8 => ?_) (fun c8 => ?_)
                · exact absurd c8 c7
                · skip
                  refine lv_aload_n X.x X.b d_Model_follow_108 rfl (lv_at hl 2 rfl) ?_
                  refine lv_iload_n X.x X.b d_Model_follow_109 rfl (lv_at hl 1 rfl) ?_
                  refine lv_iinc (v := 1) (lv' := [(2, .int 1), (3, .int 0), (1, .ref q26), (0, .ref mo)]) X.x X.b d_Model_follow_110 hl (k := 1) rfl (by decide) (by decide) rfl (fun ls hl => ?_)
                  refine lv_iload_n X.x X.b d_Model_follow_113 rfl (lv_at hl 1 rfl) ?_
                  refine lv_iconst (v := 1) X.x X.b d_Model_follow_114 (by decide) ?_
                  refine lv_iadd X.x X.b d_Model_follow_115 ?_
                  rw [show (0 + 1 : Int32) = 1 from by decide]
                  refine m_ist X hS (Or.inr (by omega)) hL26 0 rfl (by omega) (by decide) d_Model_follow_116 (fun H locs hp hcg hS => ?_)
                  have hL26 := hp
                  obtain ⟨r_5, er_5⟩ : ∃ z, z = upd r_3 0 1 := ⟨_, rfl⟩
                  rw [← er_5] at hL26
                  have hM := hM.frame (fr.of_chg (A := fun q => q = q26) hcg rfl) (fun q z => by have z : q = q26 := z; have := hM.tq; omega)
                  refine lv_aload_n X.x X.b d_Model_follow_117 rfl (lv_at hl 3 rfl) ?_
                  refine lv_iload_n X.x X.b d_Model_follow_118 rfl (lv_at hl 1 rfl) ?_
                  have hR := M_Model_isBranch (k := 0) l g hM (by omega)
                  rw [show b2i (s_4 8 0 = 3 ∨ s_4 8 0 = 4) = 0 from b2i_f (by rw [show s_4 8 0 = 0 from (by rw [es_4, updR_mf _ _ _ (show 8 ≠ 24 by decide), es_2, updR_mf _ _ _ (show 8 ≠ 24 by decide), es_1, updR_mf _ _ _ (show 8 ≠ 24 by decide), hw8])]; first | decide | simp)] at hR
                  refine m_callP X hS hR v_Model_177 hM.1 rfl rfl rfl (Nat.le_of_ble_eq_true rfl) hl.1 d_Model_follow_119 (by omega) (by decide) ⟨by omega, by omega⟩ (fun locs hS => ?_)
                  refine lv_if_eq (tgt := 140) X.x X.b d_Model_follow_122 (by decide) (fun c9 => ?_) (fun c9 => ?_)
                  · skip
                    refine lv_goto (tgt := 38) X.x X.b d_Model_follow_140 (by decide) ?_
                    refine lv_iload_n X.x X.b d_Model_follow_38 rfl (lv_at hl 0 rfl) ?_
                    refine lv_if_le (tgt := 143) X.x X.b d_Model_follow_39 (by decide) (fun c10 => ?_) (fun c10 => ?_)
                    · exact absurd c10 c4
                    · skip
                      have c10q := Int32.not_le.mp c10
                      refine lv_aload_n X.x X.b d_Model_follow_42 rfl (lv_at hl 2 rfl) ?_
                      refine lv_iinc (v := 0) (lv' := [(2, .int 0), (3, .int 0), (1, .ref q26), (0, .ref mo)]) X.x X.b d_Model_follow_43 hl (k := 0) rfl (by decide) (by decide) rfl (fun ls hl => ?_)
                      refine lv_iload_n X.x X.b d_Model_follow_46 rfl (lv_at hl 0 rfl) ?_
                      refine m_ild (v := 1) X hL26 0 rfl (by omega) (by decide) (show r_5 0 = 1 from (by rw [er_5, upd_hit])) d_Model_follow_47 ?_
                      refine lv_istore_n (lv' := [(3, .int 1), (2, .int 0), (1, .ref q26), (0, .ref mo)]) X.x X.b d_Model_follow_48 rfl hl (by decide) rfl (fun ls hl => ?_)
                      refine lv_iload_n X.x X.b d_Model_follow_49 rfl (lv_at hl 0 rfl) ?_
                      refine lv_iconst (v := 0) X.x X.b d_Model_follow_50 (by decide) ?_
                      refine lv_aload_n X.x X.b d_Model_follow_51 rfl (lv_at hl 3 rfl) ?_
                      refine m_get (v := .int 2) X ok_Model hM.1 5 (by decide) k_Model_132 (congrArg (fun z => some (Value.int z)) (show p0 5 = 2 from (by rw [hw5]))) d_Model_follow_52 ?_
                      refine lv_iconst (v := 1) X.x X.b d_Model_follow_55 (by decide) ?_
                      refine lv_isub X.x X.b d_Model_follow_56 ?_
                      rw [show (2 - 1 : Int32) = 1 from by decide]
                      refine m_callSP X hS (MP_ans (M_Model_isIn l g 1 0 1) (show b2i (0 ≤ 1 ∧ 1 ≤ 1) = 1 from by decide)) s_Model_84 rfl rfl (Nat.le_of_ble_eq_true rfl) hl.1 d_Model_follow_57 (by omega) (by decide) ⟨by omega, by omega⟩ (fun locs hS => ?_)
                      refine lv_if_eq (tgt := 38) X.x X.b d_Model_follow_60 (by decide) (fun c11 => ?_) (fun c11 => ?_)
                      · exact absurd c11 c8
                      · skip
                        refine lv_aload_n X.x X.b d_Model_follow_63 rfl (lv_at hl 3 rfl) ?_
                        refine m_get (v := .ref (mo + 19)) X ok_Model hM.1 24 (by decide) k_Model_65 rfl d_Model_follow_64 ?_
                        refine lv_iload_n X.x X.b d_Model_follow_67 rfl (lv_at hl 0 rfl) ?_
                        refine m_zld (v := 0) X hM.a24 1 rfl (by omega) (by decide) (show s_4 24 1 = 0 from (by rw [es_4, updR_mi _ _ _ _ (show (1 : Nat) ≠ 0 by omega), es_2, updR_hit])) d_Model_follow_68 ?_
                        refine lv_if_ne (tgt := 38) X.x X.b d_Model_follow_69 (by decide) (fun c12 => ?_) (fun c12 => ?_)
                        · exact absurd c9 c12
                        · skip
                          refine lv_aload_n X.x X.b d_Model_follow_72 rfl (lv_at hl 3 rfl) ?_
                          refine lv_iload_n X.x X.b d_Model_follow_73 rfl (lv_at hl 0 rfl) ?_
                          have hR := M_Model_goesOn (k := 1) l g hM (by omega)
                          refine m_callP X hS hR v_Model_201 hM.1 rfl rfl rfl (Nat.le_of_ble_eq_true rfl) hl.1 d_Model_follow_74 (by omega) (by decide) ⟨by omega, by omega⟩ (fun locs hS => ?_)
                          refine lv_if_ne (tgt := 93) X.x X.b d_Model_follow_77 (by decide) (fun c13 => ?_) (fun c13 => ?_)
                          · skip
                            have c13 := b2i_n0 c13
                            refine lv_aload_n X.x X.b d_Model_follow_93 rfl (lv_at hl 3 rfl) ?_
                            refine m_get (v := .ref (mo + 19)) X ok_Model hM.1 24 (by decide) k_Model_65 rfl d_Model_follow_94 ?_
                            refine lv_iload_n X.x X.b d_Model_follow_97 rfl (lv_at hl 0 rfl) ?_
                            refine lv_iconst (v := 1) X.x X.b d_Model_follow_98 (by decide) ?_
                            refine m_zst X hS (Or.inl ⟨by omega, by omega⟩) hM.a24 1 rfl (by omega) (by decide) rfl d_Model_follow_99 (fun H locs hp hcg hS => ?_)
                            have hM := hM.s24 hp hcg
                            obtain ⟨s_6, es_6⟩ : ∃ z, z = updR s_4 24 (upd (s_4 24) 1 1) := ⟨_, rfl⟩
                            rw [← es_6] at hM
                            have hL26 := hL26.off hcg (by omega)
                            refine lv_aload_n X.x X.b d_Model_follow_100 rfl (lv_at hl 3 rfl) ?_
                            refine lv_iload_n X.x X.b d_Model_follow_101 rfl (lv_at hl 0 rfl) ?_
                            have hR := M_Model_goesOn (k := 1) l g hM (by omega)
                            refine m_callP X hS hR v_Model_201 hM.1 rfl rfl rfl (Nat.le_of_ble_eq_true rfl) hl.1 d_Model_follow_102 (by omega) (by decide) ⟨by omega, by omega⟩ (fun locs hS => ?_)
                            refine lv_if_eq (tgt := 117) X.x X.b d_Model_follow_105 (by decide) (fun c14 => ?_) (fun c14 => ?_)
                            · skip
                              have c14 := b2i_0.mp c14
                              refine lv_aload_n X.x X.b d_Model_follow_117 rfl (lv_at hl 3 rfl) ?_
                              refine lv_iload_n X.x X.b d_Model_follow_118 rfl (lv_at hl 0 rfl) ?_
                              have hR := M_Model_isBranch (k := 1) l g hM (by omega)
                              rw [show b2i (s_6 8 1 = 3 ∨ s_6 8 1 = 4) = 0 from b2i_f (by rw [show s_6 8 1 = 6 from (by rw [es_6, updR_mf _ _ _ (show 8 ≠ 24 by decide), es_4, updR_mf _ _ _ (show 8 ≠ 24 by decide), es_2, updR_mf _ _ _ (show 8 ≠ 24 by decide), es_1, updR_mf _ _ _ (show 8 ≠ 24 by decide), hw81])]; first | decide | simp)] at hR
                              refine m_callP X hS hR v_Model_177 hM.1 rfl rfl rfl (Nat.le_of_ble_eq_true rfl) hl.1 d_Model_follow_119 (by omega) (by decide) ⟨by omega, by omega⟩ (fun locs hS => ?_)
                              refine lv_if_eq (tgt := 140) X.x X.b d_Model_follow_122 (by decide) (fun c15 => ?_) (fun c15 => ?_)
                              · skip
                                refine lv_goto (tgt := 38) X.x X.b d_Model_follow_140 (by decide) ?_
                                refine lv_iload_n X.x X.b d_Model_follow_38 rfl (lv_at hl 1 rfl) ?_
                                refine lv_if_le (tgt := 143) X.x X.b d_Model_follow_39 (by decide) (fun c16 => ?_) (fun c16 => ?_)
                                · skip
                                  have c16q := Int32.not_lt.mpr c16
                                  exact m_vret X hS (by omega) (by omega) d_Model_follow_143 rfl ⟨_, hM, (show same [24] s0 s_6 from (by rw [es_6]; exact (show same [24] s0 s_4 from (by rw [es_4]; exact (show same [24] s0 s_2 from (by rw [es_2]; exact (show same [24] s0 s_1 from (by rw [es_1]; exact (same.rf [24] s0).up _ _ (by decide))).up _ _ (by decide))).up _ _ (by decide))).up _ _ (by decide)))⟩
                                · exact absurd c16 (by decide)
                              · exact absurd c12 c15
                            · skip
                              have c14 := b2i_n0 c14
                              refine lv_aload_n X.x X.b d_Model_follow_108 rfl (lv_at hl 2 rfl) ?_
                              refine lv_iload_n X.x X.b d_Model_follow_109 rfl (lv_at hl 1 rfl) ?_
                              refine lv_iinc (v := 1) (lv' := [(2, .int 1), (3, .int 1), (1, .ref q26), (0, .ref mo)]) X.x X.b d_Model_follow_110 hl (k := 1) rfl (by decide) (by decide) rfl (fun ls hl => ?_)
                              refine lv_iload_n X.x X.b d_Model_follow_113 rfl (lv_at hl 1 rfl) ?_
                              refine lv_iconst (v := 1) X.x X.b d_Model_follow_114 (by decide) ?_
                              refine lv_iadd X.x X.b d_Model_follow_115 ?_
                              rw [show (1 + 1 : Int32) = 2 from by decide]
                              refine m_ist X hS (Or.inr (by omega)) hL26 0 rfl (by omega) (by decide) d_Model_follow_116 (fun H locs hp hcg hS => ?_)
                              have hL26 := hp
                              obtain ⟨r_7, er_7⟩ : ∃ z, z = upd r_5 0 2 := ⟨_, rfl⟩
                              rw [← er_7] at hL26
                              have hM := hM.frame (fr.of_chg (A := fun q => q = q26) hcg rfl) (fun q z => by have z : q = q26 := z; have := hM.tq; omega)
                              refine lv_aload_n X.x X.b d_Model_follow_117 rfl (lv_at hl 3 rfl) ?_
                              refine lv_iload_n X.x X.b d_Model_follow_118 rfl (lv_at hl 1 rfl) ?_
                              have hR := M_Model_isBranch (k := 1) l g hM (by omega)
                              rw [show b2i (s_6 8 1 = 3 ∨ s_6 8 1 = 4) = 0 from b2i_f (by rw [show s_6 8 1 = 6 from (by rw [es_6, updR_mf _ _ _ (show 8 ≠ 24 by decide), es_4, updR_mf _ _ _ (show 8 ≠ 24 by decide), es_2, updR_mf _ _ _ (show 8 ≠ 24 by decide), es_1, updR_mf _ _ _ (show 8 ≠ 24 by decide), hw81])]; first | decide | simp)] at hR
                              refine m_callP X hS hR v_Model_177 hM.1 rfl rfl rfl (Nat.le_of_ble_eq_true rfl) hl.1 d_Model_follow_119 (by omega) (by decide) ⟨by omega, by omega⟩ (fun locs hS => ?_)
                              refine lv_if_eq (tgt := 140) X.x X.b d_Model_follow_122 (by decide) (fun c17 => ?_) (fun c17 => ?_)
                              · skip
                                refine lv_goto (tgt := 38) X.x X.b d_Model_follow_140 (by decide) ?_
                                refine lv_iload_n X.x X.b d_Model_follow_38 rfl (lv_at hl 0 rfl) ?_
                                refine lv_if_le (tgt := 143) X.x X.b d_Model_follow_39 (by decide) (fun c18 => ?_) (fun c18 => ?_)
                                · exact absurd c18 c10
                                · skip
                                  have c18q := Int32.not_le.mp c18
                                  refine lv_aload_n X.x X.b d_Model_follow_42 rfl (lv_at hl 2 rfl) ?_
                                  refine lv_iinc (v := 0) (lv' := [(2, .int 0), (3, .int 1), (1, .ref q26), (0, .ref mo)]) X.x X.b d_Model_follow_43 hl (k := 0) rfl (by decide) (by decide) rfl (fun ls hl => ?_)
                                  refine lv_iload_n X.x X.b d_Model_follow_46 rfl (lv_at hl 0 rfl) ?_
                                  refine m_ild (v := 2) X hL26 0 rfl (by omega) (by decide) (show r_7 0 = 2 from (by rw [er_7, upd_hit])) d_Model_follow_47 ?_
                                  refine lv_istore_n (lv' := [(3, .int 2), (2, .int 0), (1, .ref q26), (0, .ref mo)]) X.x X.b d_Model_follow_48 rfl hl (by decide) rfl (fun ls hl => ?_)
                                  refine lv_iload_n X.x X.b d_Model_follow_49 rfl (lv_at hl 0 rfl) ?_
                                  refine lv_iconst (v := 0) X.x X.b d_Model_follow_50 (by decide) ?_
                                  refine lv_aload_n X.x X.b d_Model_follow_51 rfl (lv_at hl 3 rfl) ?_
                                  refine m_get (v := .int 2) X ok_Model hM.1 5 (by decide) k_Model_132 (congrArg (fun z => some (Value.int z)) (show p0 5 = 2 from (by rw [hw5]))) d_Model_follow_52 ?_
                                  refine lv_iconst (v := 1) X.x X.b d_Model_follow_55 (by decide) ?_
                                  refine lv_isub X.x X.b d_Model_follow_56 ?_
                                  rw [show (2 - 1 : Int32) = 1 from by decide]
                                  refine m_callSP X hS (MP_ans (M_Model_isIn l g 2 0 1) (show b2i (0 ≤ 2 ∧ 2 ≤ 1) = 0 from by decide)) s_Model_84 rfl rfl (Nat.le_of_ble_eq_true rfl) hl.1 d_Model_follow_57 (by omega) (by decide) ⟨by omega, by omega⟩ (fun locs hS => ?_)
                                  refine lv_if_eq (tgt := 38) X.x X.b d_Model_follow_60 (by decide) (fun c19 => ?_) (fun c19 => ?_)
                                  · skip
                                    refine lv_iload_n X.x X.b d_Model_follow_38 rfl (lv_at hl 1 rfl) ?_
                                    refine lv_if_le (tgt := 143) X.x X.b d_Model_follow_39 (by decide) (fun c20 => ?_) (fun c20 => ?_)
                                    · skip
                                      have c20q := Int32.not_lt.mpr c20
                                      exact m_vret X hS (by omega) (by omega) d_Model_follow_143 rfl ⟨_, hM, (show same [24] s0 s_6 from (by rw [es_6]; exact (show same [24] s0 s_4 from (by rw [es_4]; exact (show same [24] s0 s_2 from (by rw [es_2]; exact (show same [24] s0 s_1 from (by rw [es_1]; exact (same.rf [24] s0).up _ _ (by decide))).up _ _ (by decide))).up _ _ (by decide))).up _ _ (by decide)))⟩
                                    · exact absurd c20 (by decide)
                                  · exact absurd c17 c19
                              · exact absurd c12 c17
                          · skip
                            have c13 := b2i_0.mp c13
                            refine lv_aload_n X.x X.b d_Model_follow_80 rfl (lv_at hl 3 rfl) ?_
                            refine m_get (v := .ref (mo + 3)) X ok_Model hM.1 8 (by decide) k_Model_16 rfl d_Model_follow_81 ?_
                            refine lv_iload_n X.x X.b d_Model_follow_84 rfl (lv_at hl 0 rfl) ?_
                            refine m_ild (v := 6) X hM.a8 1 rfl (by omega) (by decide) (show s_4 8 1 = 6 from (by rw [es_4, updR_mf _ _ _ (show 8 ≠ 24 by decide), es_2, updR_mf _ _ _ (show 8 ≠ 24 by decide), es_1, updR_mf _ _ _ (show 8 ≠ 24 by decide), hw81])) d_Model_follow_85 ?_
                            refine lv_iconst (v := 3) X.x X.b d_Model_follow_86 (by decide) ?_
                            refine lv_icmp_eq (tgt := 93) X.x X.b d_Model_follow_87 (by decide) (fun c21 => ?_) (fun c21 => ?_)
                            · exact absurd c21 (by decide)
                            · skip
                              refine lv_goto (tgt := 38) X.x X.b d_Model_follow_90 (by decide) ?_
                              refine lv_iload_n X.x X.b d_Model_follow_38 rfl (lv_at hl 1 rfl) ?_
                              refine lv_if_le (tgt := 143) X.x X.b d_Model_follow_39 (by decide) (fun c22 => ?_) (fun c22 => ?_)
                              · skip
                                have c22q := Int32.not_lt.mpr c22
                                exact m_vret X hS (by omega) (by omega) d_Model_follow_143 rfl ⟨_, hM, (show same [24] s0 s_4 from (by rw [es_4]; exact (show same [24] s0 s_2 from (by rw [es_2]; exact (show same [24] s0 s_1 from (by rw [es_1]; exact (same.rf [24] s0).up _ _ (by decide))).up _ _ (by decide))).up _ _ (by decide)))⟩
                              · exact absurd c22 (by decide)
                  · exact absurd c6 c9
              · exact absurd c7 c5
      · exact absurd c3 (by decide)
set_option maxRecDepth 100000 in
set_option maxHeartbeats 4000000 in
theorem M_Model_follow_L1 (l : Launch) (g : GG) {mo tq : Nat} {p0 : Nat → Int32} {s0 : Nat → Nat → Int32} {H0 : Heap} (hM : mAt g mo tq p0 s0 H0) (hw : twoI 1 p0 s0) : MM l y_Model_follow c_Model_follow 4 none 3 1 244 g H0 [.ref mo] (fun q => mo ≤ q ∧ q < mo + 23) (none) (fun H1 => ∃ s, mAt g mo tq p0 s H1 ∧ same [24] s0 s) := by
  refine MM.of (by decide +kernel) (Nat.le_of_ble_eq_true rfl) ?_
  intro p e s m below meth cd X hH ls hl
  have X : CX g p s m _ meth cd c_Model_follow 4 none R_Model _ := X
  have hl : lv_has ls 4 [(0, .ref mo)] := hl
  have hS : va_S (AA (fun q => mo ≤ q ∧ q < mo + 23) H0) H0 H0 [] := va_S.rf
  have hlt0 := hM.lt
  have htq0 := hM.tq
  obtain ⟨⟨hw3, hw5⟩, hw8, hw81⟩ := hw
  refine lv_iconst (v := 0) X.x X.b d_Model_follow_0 (by decide) ?_
  refine lv_istore_n (lv' := [(1, .int 0), (0, .ref mo)]) X.x X.b d_Model_follow_1 rfl hl (by decide) rfl (fun ls hl => ?_)
  refine lv_iload_n X.x X.b d_Model_follow_2 rfl (lv_at hl 0 rfl) ?_
  refine lv_aload_n X.x X.b d_Model_follow_3 rfl (lv_at hl 1 rfl) ?_
  refine m_get (v := .int 2) X ok_Model hM.1 5 (by decide) k_Model_132 (congrArg (fun z => some (Value.int z)) (show p0 5 = 2 from (by rw [hw5]))) d_Model_follow_4 ?_
  refine lv_icmp_ge (tgt := 23) X.x X.b d_Model_follow_7 (by decide) (fun c1 => ?_) (fun c1 => ?_)
  · exact absurd c1 (by decide)
  · skip
    have c1q := Int32.not_le.mp c1
    refine lv_aload_n X.x X.b d_Model_follow_10 rfl (lv_at hl 1 rfl) ?_
    refine m_get (v := .ref (mo + 19)) X ok_Model hM.1 24 (by decide) k_Model_65 rfl d_Model_follow_11 ?_
    refine lv_iload_n X.x X.b d_Model_follow_14 rfl (lv_at hl 0 rfl) ?_
    refine lv_iconst (v := 0) X.x X.b d_Model_follow_15 (by decide) ?_
    refine m_zst X hS (Or.inl ⟨by omega, by omega⟩) hM.a24 0 rfl (by omega) (by decide) rfl d_Model_follow_16 (fun H locs hp hcg hS => ?_)
    have hM := hM.s24 hp hcg
    obtain ⟨s_1, es_1⟩ : ∃ z, z = updR s0 24 (upd (s0 24) 0 0) := ⟨_, rfl⟩
    rw [← es_1] at hM
    refine lv_iinc (v := 1) (lv' := [(1, .int 1), (0, .ref mo)]) X.x X.b d_Model_follow_17 hl (k := 0) rfl (by decide) (by decide) rfl (fun ls hl => ?_)
    refine lv_goto (tgt := 2) X.x X.b d_Model_follow_20 (by decide) ?_
    refine lv_iload_n X.x X.b d_Model_follow_2 rfl (lv_at hl 0 rfl) ?_
    refine lv_aload_n X.x X.b d_Model_follow_3 rfl (lv_at hl 1 rfl) ?_
    refine m_get (v := .int 2) X ok_Model hM.1 5 (by decide) k_Model_132 (congrArg (fun z => some (Value.int z)) (show p0 5 = 2 from (by rw [hw5]))) d_Model_follow_4 ?_
    refine lv_icmp_ge (tgt := 23) X.x X.b d_Model_follow_7 (by decide) (fun c2 => ?_) (fun c2 => ?_)
    · exact absurd c2 (by decide)
    · skip
      have c2q := Int32.not_le.mp c2
      refine lv_aload_n X.x X.b d_Model_follow_10 rfl (lv_at hl 1 rfl) ?_
      refine m_get (v := .ref (mo + 19)) X ok_Model hM.1 24 (by decide) k_Model_65 rfl d_Model_follow_11 ?_
      refine lv_iload_n X.x X.b d_Model_follow_14 rfl (lv_at hl 0 rfl) ?_
      refine lv_iconst (v := 0) X.x X.b d_Model_follow_15 (by decide) ?_
      refine m_zst X hS (Or.inl ⟨by omega, by omega⟩) hM.a24 1 rfl (by omega) (by decide) rfl d_Model_follow_16 (fun H locs hp hcg hS => ?_)
      have hM := hM.s24 hp hcg
      obtain ⟨s_2, es_2⟩ : ∃ z, z = updR s_1 24 (upd (s_1 24) 1 0) := ⟨_, rfl⟩
      rw [← es_2] at hM
      refine lv_iinc (v := 2) (lv' := [(1, .int 2), (0, .ref mo)]) X.x X.b d_Model_follow_17 hl (k := 0) rfl (by decide) (by decide) rfl (fun ls hl => ?_)
      refine lv_goto (tgt := 2) X.x X.b d_Model_follow_20 (by decide) ?_
      refine lv_iload_n X.x X.b d_Model_follow_2 rfl (lv_at hl 0 rfl) ?_
      refine lv_aload_n X.x X.b d_Model_follow_3 rfl (lv_at hl 1 rfl) ?_
      refine m_get (v := .int 2) X ok_Model hM.1 5 (by decide) k_Model_132 (congrArg (fun z => some (Value.int z)) (show p0 5 = 2 from (by rw [hw5]))) d_Model_follow_4 ?_
      refine lv_icmp_ge (tgt := 23) X.x X.b d_Model_follow_7 (by decide) (fun c3 => ?_) (fun c3 => ?_)
      · skip
        have c3q := Int32.not_lt.mpr c3
        refine lv_sipush (v := 244) X.x X.b d_Model_follow_23 (by decide) ?_
        obtain ⟨q26, hq26⟩ := sz_of hS
        have hlt26 := hM.lt
        have hsz26 := hS.1
        refine m_newI X hS hq26 244 (by decide) (by decide) (by decide) (by omega) (by omega) d_Model_follow_26 (fun H hL26 hgr hS hz2 => ?_)
        have hfr := fr.of_grow (A := noA) hgr
        have hM := hM.frame hfr (fun q z => z.elim)
        refine lv_astore_n (lv' := [(1, .ref q26), (0, .ref mo)]) X.x X.b d_Model_follow_28 rfl hl (by decide) rfl (fun ls hl => ?_)
        refine lv_iconst (v := 0) X.x X.b d_Model_follow_29 (by decide) ?_
        refine lv_istore_n (lv' := [(2, .int 0), (1, .ref q26), (0, .ref mo)]) X.x X.b d_Model_follow_30 rfl hl (by decide) rfl (fun ls hl => ?_)
        refine lv_aload_n X.x X.b d_Model_follow_31 rfl (lv_at hl 1 rfl) ?_
        refine lv_iload_n X.x X.b d_Model_follow_32 rfl (lv_at hl 0 rfl) ?_
        refine lv_iinc (v := 1) (lv' := [(2, .int 1), (1, .ref q26), (0, .ref mo)]) X.x X.b d_Model_follow_33 hl (k := 0) rfl (by decide) (by decide) rfl (fun ls hl => ?_)
        refine lv_iconst (v := 0) X.x X.b d_Model_follow_36 (by decide) ?_
        refine m_ist X hS (Or.inr (by omega)) hL26 0 rfl (by omega) (by decide) d_Model_follow_37 (fun H locs hp hcg hS => ?_)
        have hL26 := hp
        obtain ⟨r_3, er_3⟩ : ∃ z, z = upd (fun _ => 0) 0 0 := ⟨_, rfl⟩
        rw [← er_3] at hL26
        have hM := hM.frame (fr.of_chg (A := fun q => q = q26) hcg rfl) (fun q z => by have z : q = q26 := z; have := hM.tq; omega)
        refine lv_iload_n X.x X.b d_Model_follow_38 rfl (lv_at hl 0 rfl) ?_
        refine lv_if_le (tgt := 143) X.x X.b d_Model_follow_39 (by decide) (fun c4 => ?_) (fun c4 => ?_)
        · exact absurd c4 (by decide)
        · skip
          have c4q := Int32.not_le.mp c4
          refine lv_aload_n X.x X.b d_Model_follow_42 rfl (lv_at hl 1 rfl) ?_
          refine lv_iinc (v := 0) (lv' := [(2, .int 0), (1, .ref q26), (0, .ref mo)]) X.x X.b d_Model_follow_43 hl (k := 0) rfl (by decide) (by decide) rfl (fun ls hl => ?_)
          refine lv_iload_n X.x X.b d_Model_follow_46 rfl (lv_at hl 0 rfl) ?_
          refine m_ild (v := 0) X hL26 0 rfl (by omega) (by decide) (show r_3 0 = 0 from (by rw [er_3, upd_hit])) d_Model_follow_47 ?_
          refine lv_istore_n (lv' := [(3, .int 0), (2, .int 0), (1, .ref q26), (0, .ref mo)]) X.x X.b d_Model_follow_48 rfl hl (by decide) rfl (fun ls hl => ?_)
          refine lv_iload_n X.x X.b d_Model_follow_49 rfl (lv_at hl 0 rfl) ?_
          refine lv_iconst (v := 0) X.x X.b d_Model_follow_50 (by decide) ?_
          refine lv_aload_n X.x X.b d_Model_follow_51 rfl (lv_at hl 3 rfl) ?_
          refine m_get (v := .int 2) X ok_Model hM.1 5 (by decide) k_Model_132 (congrArg (fun z => some (Value.int z)) (show p0 5 = 2 from (by rw [hw5]))) d_Model_follow_52 ?_
          refine lv_iconst (v := 1) X.x X.b d_Model_follow_55 (by decide) ?_
          refine lv_isub X.x X.b d_Model_follow_56 ?_
          rw [show (2 - 1 : Int32) = 1 from by decide]
          refine m_callSP X hS (MP_ans (M_Model_isIn l g 0 0 1) (show b2i (0 ≤ 0 ∧ 0 ≤ 1) = 1 from by decide)) s_Model_84 rfl rfl (Nat.le_of_ble_eq_true rfl) hl.1 d_Model_follow_57 (by omega) (by decide) ⟨by omega, by omega⟩ (fun locs hS => ?_)
          refine lv_if_eq (tgt := 38) X.x X.b d_Model_follow_60 (by decide) (fun c5 => ?_) (fun c5 => ?_)
          · exact absurd c5 (by decide)
          · skip
            refine lv_aload_n X.x X.b d_Model_follow_63 rfl (lv_at hl 3 rfl) ?_
            refine m_get (v := .ref (mo + 19)) X ok_Model hM.1 24 (by decide) k_Model_65 rfl d_Model_follow_64 ?_
            refine lv_iload_n X.x X.b d_Model_follow_67 rfl (lv_at hl 0 rfl) ?_
            refine m_zld (v := 0) X hM.a24 0 rfl (by omega) (by decide) (show s_2 24 0 = 0 from (by rw [es_2, updR_mi _ _ _ _ (show (0 : Nat) ≠ 1 by omega), es_1, updR_hit])) d_Model_follow_68 ?_
            refine lv_if_ne (tgt := 38) X.x X.b d_Model_follow_69 (by decide) (fun c6 => ?_) (fun c6 => ?_)
            · exact absurd c6 (by decide)
            · skip
              refine lv_aload_n X.x X.b d_Model_follow_72 rfl (lv_at hl 3 rfl) ?_
              refine lv_iload_n X.x X.b d_Model_follow_73 rfl (lv_at hl 0 rfl) ?_
              have hR := M_Model_goesOn (k := 0) l g hM (by omega)
              rw [show b2i (goM s_2 0) = 1 from b2i_t (by unfold goM; rw [show s_2 8 0 = 1 from (by rw [es_2, updR_mf _ _ _ (show 8 ≠ 24 by decide), es_1, updR_mf _ _ _ (show 8 ≠ 24 by decide), hw8])]; first | decide | simp)] at hR
              refine m_callP X hS hR v_Model_201 hM.1 rfl rfl rfl (Nat.le_of_ble_eq_true rfl) hl.1 d_Model_follow_74 (by omega) (by decide) ⟨by omega, by omega⟩ (fun locs hS => ?_)
              refine lv_if_ne (tgt := 93) X.x X.b d_Model_follow_77 (by decide) (fun c7 => ?_) (fun c7 => ?_)
              · skip
                refine lv_aload_n X.x X.b d_Model_follow_93 rfl (lv_at hl 3 rfl) ?_
                refine m_get (v := .ref (mo + 19)) X ok_Model hM.1 24 (by decide) k_Model_65 rfl d_Model_follow_94 ?_
                refine lv_iload_n X.x X.b d_Model_follow_97 rfl (lv_at hl 0 rfl) ?_
                refine lv_iconst (v := 1) X.x X.b d_Model_follow_98 (by decide) ?_
                refine m_zst X hS (Or.inl ⟨by omega, by omega⟩) hM.a24 0 rfl (by omega) (by decide) rfl d_Model_follow_99 (fun H locs hp hcg hS => ?_)
                have hM := hM.s24 hp hcg
                obtain ⟨s_4, es_4⟩ : ∃ z, z = updR s_2 24 (upd (s_2 24) 0 1) := ⟨_, rfl⟩
                rw [← es_4] at hM
                have hL26 := hL26.off hcg (by omega)
                refine lv_aload_n X.x X.b d_Model_follow_100 rfl (lv_at hl 3 rfl) ?_
                refine lv_iload_n X.x X.b d_Model_follow_101 rfl (lv_at hl 0 rfl) ?_
                have hR := M_Model_goesOn (k := 0) l g hM (by omega)
                rw [show b2i (goM s_4 0) = 1 from b2i_t (by unfold goM; rw [show s_4 8 0 = 1 from (by rw [es_4, updR_mf _ _ _ (show 8 ≠ 24 by decide), es_2, updR_mf _ _ _ (show 8 ≠ 24 by decide), es_1, updR_mf _ _ _ (show 8 ≠ 24 by decide), hw8])]; first | decide | simp)] at hR
                refine m_callP X hS hR v_Model_201 hM.1 rfl rfl rfl (Nat.le_of_ble_eq_true rfl) hl.1 d_Model_follow_102 (by omega) (by decide) ⟨by omega, by omega⟩ (fun locs hS => ?_)
                refine lv_if_eq (tgt := 117) X.x X.b d_Model_follow_105 (by decide) (fun c8 => ?_) (fun c8 => ?_)
                · exact absurd c8 c7
                · skip
                  refine lv_aload_n X.x X.b d_Model_follow_108 rfl (lv_at hl 2 rfl) ?_
                  refine lv_iload_n X.x X.b d_Model_follow_109 rfl (lv_at hl 1 rfl) ?_
                  refine lv_iinc (v := 1) (lv' := [(2, .int 1), (3, .int 0), (1, .ref q26), (0, .ref mo)]) X.x X.b d_Model_follow_110 hl (k := 1) rfl (by decide) (by decide) rfl (fun ls hl => ?_)
                  refine lv_iload_n X.x X.b d_Model_follow_113 rfl (lv_at hl 1 rfl) ?_
                  refine lv_iconst (v := 1) X.x X.b d_Model_follow_114 (by decide) ?_
                  refine lv_iadd X.x X.b d_Model_follow_115 ?_
                  rw [show (0 + 1 : Int32) = 1 from by decide]
                  refine m_ist X hS (Or.inr (by omega)) hL26 0 rfl (by omega) (by decide) d_Model_follow_116 (fun H locs hp hcg hS => ?_)
                  have hL26 := hp
                  obtain ⟨r_5, er_5⟩ : ∃ z, z = upd r_3 0 1 := ⟨_, rfl⟩
                  rw [← er_5] at hL26
                  have hM := hM.frame (fr.of_chg (A := fun q => q = q26) hcg rfl) (fun q z => by have z : q = q26 := z; have := hM.tq; omega)
                  refine lv_aload_n X.x X.b d_Model_follow_117 rfl (lv_at hl 3 rfl) ?_
                  refine lv_iload_n X.x X.b d_Model_follow_118 rfl (lv_at hl 1 rfl) ?_
                  have hR := M_Model_isBranch (k := 0) l g hM (by omega)
                  rw [show b2i (s_4 8 0 = 3 ∨ s_4 8 0 = 4) = 0 from b2i_f (by rw [show s_4 8 0 = 1 from (by rw [es_4, updR_mf _ _ _ (show 8 ≠ 24 by decide), es_2, updR_mf _ _ _ (show 8 ≠ 24 by decide), es_1, updR_mf _ _ _ (show 8 ≠ 24 by decide), hw8])]; first | decide | simp)] at hR
                  refine m_callP X hS hR v_Model_177 hM.1 rfl rfl rfl (Nat.le_of_ble_eq_true rfl) hl.1 d_Model_follow_119 (by omega) (by decide) ⟨by omega, by omega⟩ (fun locs hS => ?_)
                  refine lv_if_eq (tgt := 140) X.x X.b d_Model_follow_122 (by decide) (fun c9 => ?_) (fun c9 => ?_)
                  · skip
                    refine lv_goto (tgt := 38) X.x X.b d_Model_follow_140 (by decide) ?_
                    refine lv_iload_n X.x X.b d_Model_follow_38 rfl (lv_at hl 0 rfl) ?_
                    refine lv_if_le (tgt := 143) X.x X.b d_Model_follow_39 (by decide) (fun c10 => ?_) (fun c10 => ?_)
                    · exact absurd c10 c4
                    · skip
                      have c10q := Int32.not_le.mp c10
                      refine lv_aload_n X.x X.b d_Model_follow_42 rfl (lv_at hl 2 rfl) ?_
                      refine lv_iinc (v := 0) (lv' := [(2, .int 0), (3, .int 0), (1, .ref q26), (0, .ref mo)]) X.x X.b d_Model_follow_43 hl (k := 0) rfl (by decide) (by decide) rfl (fun ls hl => ?_)
                      refine lv_iload_n X.x X.b d_Model_follow_46 rfl (lv_at hl 0 rfl) ?_
                      refine m_ild (v := 1) X hL26 0 rfl (by omega) (by decide) (show r_5 0 = 1 from (by rw [er_5, upd_hit])) d_Model_follow_47 ?_
                      refine lv_istore_n (lv' := [(3, .int 1), (2, .int 0), (1, .ref q26), (0, .ref mo)]) X.x X.b d_Model_follow_48 rfl hl (by decide) rfl (fun ls hl => ?_)
                      refine lv_iload_n X.x X.b d_Model_follow_49 rfl (lv_at hl 0 rfl) ?_
                      refine lv_iconst (v := 0) X.x X.b d_Model_follow_50 (by decide) ?_
                      refine lv_aload_n X.x X.b d_Model_follow_51 rfl (lv_at hl 3 rfl) ?_
                      refine m_get (v := .int 2) X ok_Model hM.1 5 (by decide) k_Model_132 (congrArg (fun z => some (Value.int z)) (show p0 5 = 2 from (by rw [hw5]))) d_Model_follow_52 ?_
                      refine lv_iconst (v := 1) X.x X.b d_Model_follow_55 (by decide) ?_
                      refine lv_isub X.x X.b d_Model_follow_56 ?_
                      rw [show (2 - 1 : Int32) = 1 from by decide]
                      refine m_callSP X hS (MP_ans (M_Model_isIn l g 1 0 1) (show b2i (0 ≤ 1 ∧ 1 ≤ 1) = 1 from by decide)) s_Model_84 rfl rfl (Nat.le_of_ble_eq_true rfl) hl.1 d_Model_follow_57 (by omega) (by decide) ⟨by omega, by omega⟩ (fun locs hS => ?_)
                      refine lv_if_eq (tgt := 38) X.x X.b d_Model_follow_60 (by decide) (fun c11 => ?_) (fun c11 => ?_)
                      · exact absurd c11 c8
                      · skip
                        refine lv_aload_n X.x X.b d_Model_follow_63 rfl (lv_at hl 3 rfl) ?_
                        refine m_get (v := .ref (mo + 19)) X ok_Model hM.1 24 (by decide) k_Model_65 rfl d_Model_follow_64 ?_
                        refine lv_iload_n X.x X.b d_Model_follow_67 rfl (lv_at hl 0 rfl) ?_
                        refine m_zld (v := 0) X hM.a24 1 rfl (by omega) (by decide) (show s_4 24 1 = 0 from (by rw [es_4, updR_mi _ _ _ _ (show (1 : Nat) ≠ 0 by omega), es_2, updR_hit])) d_Model_follow_68 ?_
                        refine lv_if_ne (tgt := 38) X.x X.b d_Model_follow_69 (by decide) (fun c12 => ?_) (fun c12 => ?_)
                        · exact absurd c9 c12
                        · skip
                          refine lv_aload_n X.x X.b d_Model_follow_72 rfl (lv_at hl 3 rfl) ?_
                          refine lv_iload_n X.x X.b d_Model_follow_73 rfl (lv_at hl 0 rfl) ?_
                          have hR := M_Model_goesOn (k := 1) l g hM (by omega)
                          refine m_callP X hS hR v_Model_201 hM.1 rfl rfl rfl (Nat.le_of_ble_eq_true rfl) hl.1 d_Model_follow_74 (by omega) (by decide) ⟨by omega, by omega⟩ (fun locs hS => ?_)
                          refine lv_if_ne (tgt := 93) X.x X.b d_Model_follow_77 (by decide) (fun c13 => ?_) (fun c13 => ?_)
                          · skip
                            have c13 := b2i_n0 c13
                            refine lv_aload_n X.x X.b d_Model_follow_93 rfl (lv_at hl 3 rfl) ?_
                            refine m_get (v := .ref (mo + 19)) X ok_Model hM.1 24 (by decide) k_Model_65 rfl d_Model_follow_94 ?_
                            refine lv_iload_n X.x X.b d_Model_follow_97 rfl (lv_at hl 0 rfl) ?_
                            refine lv_iconst (v := 1) X.x X.b d_Model_follow_98 (by decide) ?_
                            refine m_zst X hS (Or.inl ⟨by omega, by omega⟩) hM.a24 1 rfl (by omega) (by decide) rfl d_Model_follow_99 (fun H locs hp hcg hS => ?_)
                            have hM := hM.s24 hp hcg
                            obtain ⟨s_6, es_6⟩ : ∃ z, z = updR s_4 24 (upd (s_4 24) 1 1) := ⟨_, rfl⟩
                            rw [← es_6] at hM
                            have hL26 := hL26.off hcg (by omega)
                            refine lv_aload_n X.x X.b d_Model_follow_100 rfl (lv_at hl 3 rfl) ?_
                            refine lv_iload_n X.x X.b d_Model_follow_101 rfl (lv_at hl 0 rfl) ?_
                            have hR := M_Model_goesOn (k := 1) l g hM (by omega)
                            refine m_callP X hS hR v_Model_201 hM.1 rfl rfl rfl (Nat.le_of_ble_eq_true rfl) hl.1 d_Model_follow_102 (by omega) (by decide) ⟨by omega, by omega⟩ (fun locs hS => ?_)
                            refine lv_if_eq (tgt := 117) X.x X.b d_Model_follow_105 (by decide) (fun c14 => ?_) (fun c14 => ?_)
                            · skip
                              have c14 := b2i_0.mp c14
                              refine lv_aload_n X.x X.b d_Model_follow_117 rfl (lv_at hl 3 rfl) ?_
                              refine lv_iload_n X.x X.b d_Model_follow_118 rfl (lv_at hl 0 rfl) ?_
                              have hR := M_Model_isBranch (k := 1) l g hM (by omega)
                              rw [show b2i (s_6 8 1 = 3 ∨ s_6 8 1 = 4) = 0 from b2i_f (by rw [show s_6 8 1 = 6 from (by rw [es_6, updR_mf _ _ _ (show 8 ≠ 24 by decide), es_4, updR_mf _ _ _ (show 8 ≠ 24 by decide), es_2, updR_mf _ _ _ (show 8 ≠ 24 by decide), es_1, updR_mf _ _ _ (show 8 ≠ 24 by decide), hw81])]; first | decide | simp)] at hR
                              refine m_callP X hS hR v_Model_177 hM.1 rfl rfl rfl (Nat.le_of_ble_eq_true rfl) hl.1 d_Model_follow_119 (by omega) (by decide) ⟨by omega, by omega⟩ (fun locs hS => ?_)
                              refine lv_if_eq (tgt := 140) X.x X.b d_Model_follow_122 (by decide) (fun c15 => ?_) (fun c15 => ?_)
                              · skip
                                refine lv_goto (tgt := 38) X.x X.b d_Model_follow_140 (by decide) ?_
                                refine lv_iload_n X.x X.b d_Model_follow_38 rfl (lv_at hl 1 rfl) ?_
                                refine lv_if_le (tgt := 143) X.x X.b d_Model_follow_39 (by decide) (fun c16 => ?_) (fun c16 => ?_)
                                · skip
                                  have c16q := Int32.not_lt.mpr c16
                                  exact m_vret X hS (by omega) (by omega) d_Model_follow_143 rfl ⟨_, hM, (show same [24] s0 s_6 from (by rw [es_6]; exact (show same [24] s0 s_4 from (by rw [es_4]; exact (show same [24] s0 s_2 from (by rw [es_2]; exact (show same [24] s0 s_1 from (by rw [es_1]; exact (same.rf [24] s0).up _ _ (by decide))).up _ _ (by decide))).up _ _ (by decide))).up _ _ (by decide)))⟩
                                · exact absurd c16 (by decide)
                              · exact absurd c12 c15
                            · skip
                              have c14 := b2i_n0 c14
                              refine lv_aload_n X.x X.b d_Model_follow_108 rfl (lv_at hl 2 rfl) ?_
                              refine lv_iload_n X.x X.b d_Model_follow_109 rfl (lv_at hl 1 rfl) ?_
                              refine lv_iinc (v := 1) (lv' := [(2, .int 1), (3, .int 1), (1, .ref q26), (0, .ref mo)]) X.x X.b d_Model_follow_110 hl (k := 1) rfl (by decide) (by decide) rfl (fun ls hl => ?_)
                              refine lv_iload_n X.x X.b d_Model_follow_113 rfl (lv_at hl 1 rfl) ?_
                              refine lv_iconst (v := 1) X.x X.b d_Model_follow_114 (by decide) ?_
                              refine lv_iadd X.x X.b d_Model_follow_115 ?_
                              rw [show (1 + 1 : Int32) = 2 from by decide]
                              refine m_ist X hS (Or.inr (by omega)) hL26 0 rfl (by omega) (by decide) d_Model_follow_116 (fun H locs hp hcg hS => ?_)
                              have hL26 := hp
                              obtain ⟨r_7, er_7⟩ : ∃ z, z = upd r_5 0 2 := ⟨_, rfl⟩
                              rw [← er_7] at hL26
                              have hM := hM.frame (fr.of_chg (A := fun q => q = q26) hcg rfl) (fun q z => by have z : q = q26 := z; have := hM.tq; omega)
                              refine lv_aload_n X.x X.b d_Model_follow_117 rfl (lv_at hl 3 rfl) ?_
                              refine lv_iload_n X.x X.b d_Model_follow_118 rfl (lv_at hl 1 rfl) ?_
                              have hR := M_Model_isBranch (k := 1) l g hM (by omega)
                              rw [show b2i (s_6 8 1 = 3 ∨ s_6 8 1 = 4) = 0 from b2i_f (by rw [show s_6 8 1 = 6 from (by rw [es_6, updR_mf _ _ _ (show 8 ≠ 24 by decide), es_4, updR_mf _ _ _ (show 8 ≠ 24 by decide), es_2, updR_mf _ _ _ (show 8 ≠ 24 by decide), es_1, updR_mf _ _ _ (show 8 ≠ 24 by decide), hw81])]; first | decide | simp)] at hR
                              refine m_callP X hS hR v_Model_177 hM.1 rfl rfl rfl (Nat.le_of_ble_eq_true rfl) hl.1 d_Model_follow_119 (by omega) (by decide) ⟨by omega, by omega⟩ (fun locs hS => ?_)
                              refine lv_if_eq (tgt := 140) X.x X.b d_Model_follow_122 (by decide) (fun c17 => ?_) (fun c17 => ?_)
                              · skip
                                refine lv_goto (tgt := 38) X.x X.b d_Model_follow_140 (by decide) ?_
                                refine lv_iload_n X.x X.b d_Model_follow_38 rfl (lv_at hl 0 rfl) ?_
                                refine lv_if_le (tgt := 143) X.x X.b d_Model_follow_39 (by decide) (fun c18 => ?_) (fun c18 => ?_)
                                · exact absurd c18 c10
                                · skip
                                  have c18q := Int32.not_le.mp c18
                                  refine lv_aload_n X.x X.b d_Model_follow_42 rfl (lv_at hl 2 rfl) ?_
                                  refine lv_iinc (v := 0) (lv' := [(2, .int 0), (3, .int 1), (1, .ref q26), (0, .ref mo)]) X.x X.b d_Model_follow_43 hl (k := 0) rfl (by decide) (by decide) rfl (fun ls hl => ?_)
                                  refine lv_iload_n X.x X.b d_Model_follow_46 rfl (lv_at hl 0 rfl) ?_
                                  refine m_ild (v := 2) X hL26 0 rfl (by omega) (by decide) (show r_7 0 = 2 from (by rw [er_7, upd_hit])) d_Model_follow_47 ?_
                                  refine lv_istore_n (lv' := [(3, .int 2), (2, .int 0), (1, .ref q26), (0, .ref mo)]) X.x X.b d_Model_follow_48 rfl hl (by decide) rfl (fun ls hl => ?_)
                                  refine lv_iload_n X.x X.b d_Model_follow_49 rfl (lv_at hl 0 rfl) ?_
                                  refine lv_iconst (v := 0) X.x X.b d_Model_follow_50 (by decide) ?_
                                  refine lv_aload_n X.x X.b d_Model_follow_51 rfl (lv_at hl 3 rfl) ?_
                                  refine m_get (v := .int 2) X ok_Model hM.1 5 (by decide) k_Model_132 (congrArg (fun z => some (Value.int z)) (show p0 5 = 2 from (by rw [hw5]))) d_Model_follow_52 ?_
                                  refine lv_iconst (v := 1) X.x X.b d_Model_follow_55 (by decide) ?_
                                  refine lv_isub X.x X.b d_Model_follow_56 ?_
                                  rw [show (2 - 1 : Int32) = 1 from by decide]
                                  refine m_callSP X hS (MP_ans (M_Model_isIn l g 2 0 1) (show b2i (0 ≤ 2 ∧ 2 ≤ 1) = 0 from by decide)) s_Model_84 rfl rfl (Nat.le_of_ble_eq_true rfl) hl.1 d_Model_follow_57 (by omega) (by decide) ⟨by omega, by omega⟩ (fun locs hS => ?_)
                                  refine lv_if_eq (tgt := 38) X.x X.b d_Model_follow_60 (by decide) (fun c19 => ?_) (fun c19 => ?_)
                                  · skip
                                    refine lv_iload_n X.x X.b d_Model_follow_38 rfl (lv_at hl 1 rfl) ?_
                                    refine lv_if_le (tgt := 143) X.x X.b d_Model_follow_39 (by decide) (fun c20 => ?_) (fun c20 => ?_)
                                    · skip
                                      have c20q := Int32.not_lt.mpr c20
                                      exact m_vret X hS (by omega) (by omega) d_Model_follow_143 rfl ⟨_, hM, (show same [24] s0 s_6 from (by rw [es_6]; exact (show same [24] s0 s_4 from (by rw [es_4]; exact (show same [24] s0 s_2 from (by rw [es_2]; exact (show same [24] s0 s_1 from (by rw [es_1]; exact (same.rf [24] s0).up _ _ (by decide))).up _ _ (by decide))).up _ _ (by decide))).up _ _ (by decide)))⟩
                                    · exact absurd c20 (by decide)
                                  · exact absurd c17 c19
                              · exact absurd c12 c17
                          · skip
                            have c13 := b2i_0.mp c13
                            refine lv_aload_n X.x X.b d_Model_follow_80 rfl (lv_at hl 3 rfl) ?_
                            refine m_get (v := .ref (mo + 3)) X ok_Model hM.1 8 (by decide) k_Model_16 rfl d_Model_follow_81 ?_
                            refine lv_iload_n X.x X.b d_Model_follow_84 rfl (lv_at hl 0 rfl) ?_
                            refine m_ild (v := 6) X hM.a8 1 rfl (by omega) (by decide) (show s_4 8 1 = 6 from (by rw [es_4, updR_mf _ _ _ (show 8 ≠ 24 by decide), es_2, updR_mf _ _ _ (show 8 ≠ 24 by decide), es_1, updR_mf _ _ _ (show 8 ≠ 24 by decide), hw81])) d_Model_follow_85 ?_
                            refine lv_iconst (v := 3) X.x X.b d_Model_follow_86 (by decide) ?_
                            refine lv_icmp_eq (tgt := 93) X.x X.b d_Model_follow_87 (by decide) (fun c21 => ?_) (fun c21 => ?_)
                            · exact absurd c21 (by decide)
                            · skip
                              refine lv_goto (tgt := 38) X.x X.b d_Model_follow_90 (by decide) ?_
                              refine lv_iload_n X.x X.b d_Model_follow_38 rfl (lv_at hl 1 rfl) ?_
                              refine lv_if_le (tgt := 143) X.x X.b d_Model_follow_39 (by decide) (fun c22 => ?_) (fun c22 => ?_)
                              · skip
                                have c22q := Int32.not_lt.mpr c22
                                exact m_vret X hS (by omega) (by omega) d_Model_follow_143 rfl ⟨_, hM, (show same [24] s0 s_4 from (by rw [es_4]; exact (show same [24] s0 s_2 from (by rw [es_2]; exact (show same [24] s0 s_1 from (by rw [es_1]; exact (same.rf [24] s0).up _ _ (by decide))).up _ _ (by decide))).up _ _ (by decide)))⟩
                              · exact absurd c22 (by decide)
                  · exact absurd c6 c9
              · exact absurd c7 c5
      · exact absurd c3 (by decide)
set_option maxRecDepth 100000 in
set_option maxHeartbeats 4000000 in
theorem M_Model_follow_L3 (l : Launch) (g : GG) {mo tq : Nat} {p0 : Nat → Int32} {s0 : Nat → Nat → Int32} {H0 : Heap} (hM : mAt g mo tq p0 s0 H0) (hw : twoI 3 p0 s0) (h16 : s0 16 0 = -1) (h17 : s0 17 0 = -1) : MM l y_Model_follow c_Model_follow 4 none 3 1 244 g H0 [.ref mo] (fun q => mo ≤ q ∧ q < mo + 23) (none) (fun H1 => ∃ s, mAt g mo tq p0 s H1 ∧ same [24] s0 s) := by
  refine MM.of (by decide +kernel) (Nat.le_of_ble_eq_true rfl) ?_
  intro p e s m below meth cd X hH ls hl
  have X : CX g p s m _ meth cd c_Model_follow 4 none R_Model _ := X
  have hl : lv_has ls 4 [(0, .ref mo)] := hl
  have hS : va_S (AA (fun q => mo ≤ q ∧ q < mo + 23) H0) H0 H0 [] := va_S.rf
  have hlt0 := hM.lt
  have htq0 := hM.tq
  obtain ⟨⟨hw3, hw5⟩, hw8, hw81⟩ := hw
  refine lv_iconst (v := 0) X.x X.b d_Model_follow_0 (by decide) ?_
  refine lv_istore_n (lv' := [(1, .int 0), (0, .ref mo)]) X.x X.b d_Model_follow_1 rfl hl (by decide) rfl (fun ls hl => ?_)
  refine lv_iload_n X.x X.b d_Model_follow_2 rfl (lv_at hl 0 rfl) ?_
  refine lv_aload_n X.x X.b d_Model_follow_3 rfl (lv_at hl 1 rfl) ?_
  refine m_get (v := .int 2) X ok_Model hM.1 5 (by decide) k_Model_132 (congrArg (fun z => some (Value.int z)) (show p0 5 = 2 from (by rw [hw5]))) d_Model_follow_4 ?_
  refine lv_icmp_ge (tgt := 23) X.x X.b d_Model_follow_7 (by decide) (fun c1 => ?_) (fun c1 => ?_)
  · exact absurd c1 (by decide)
  · skip
    have c1q := Int32.not_le.mp c1
    refine lv_aload_n X.x X.b d_Model_follow_10 rfl (lv_at hl 1 rfl) ?_
    refine m_get (v := .ref (mo + 19)) X ok_Model hM.1 24 (by decide) k_Model_65 rfl d_Model_follow_11 ?_
    refine lv_iload_n X.x X.b d_Model_follow_14 rfl (lv_at hl 0 rfl) ?_
    refine lv_iconst (v := 0) X.x X.b d_Model_follow_15 (by decide) ?_
    refine m_zst X hS (Or.inl ⟨by omega, by omega⟩) hM.a24 0 rfl (by omega) (by decide) rfl d_Model_follow_16 (fun H locs hp hcg hS => ?_)
    have hM := hM.s24 hp hcg
    obtain ⟨s_1, es_1⟩ : ∃ z, z = updR s0 24 (upd (s0 24) 0 0) := ⟨_, rfl⟩
    rw [← es_1] at hM
    refine lv_iinc (v := 1) (lv' := [(1, .int 1), (0, .ref mo)]) X.x X.b d_Model_follow_17 hl (k := 0) rfl (by decide) (by decide) rfl (fun ls hl => ?_)
    refine lv_goto (tgt := 2) X.x X.b d_Model_follow_20 (by decide) ?_
    refine lv_iload_n X.x X.b d_Model_follow_2 rfl (lv_at hl 0 rfl) ?_
    refine lv_aload_n X.x X.b d_Model_follow_3 rfl (lv_at hl 1 rfl) ?_
    refine m_get (v := .int 2) X ok_Model hM.1 5 (by decide) k_Model_132 (congrArg (fun z => some (Value.int z)) (show p0 5 = 2 from (by rw [hw5]))) d_Model_follow_4 ?_
    refine lv_icmp_ge (tgt := 23) X.x X.b d_Model_follow_7 (by decide) (fun c2 => ?_) (fun c2 => ?_)
    · exact absurd c2 (by decide)
    · skip
      have c2q := Int32.not_le.mp c2
      refine lv_aload_n X.x X.b d_Model_follow_10 rfl (lv_at hl 1 rfl) ?_
      refine m_get (v := .ref (mo + 19)) X ok_Model hM.1 24 (by decide) k_Model_65 rfl d_Model_follow_11 ?_
      refine lv_iload_n X.x X.b d_Model_follow_14 rfl (lv_at hl 0 rfl) ?_
      refine lv_iconst (v := 0) X.x X.b d_Model_follow_15 (by decide) ?_
      refine m_zst X hS (Or.inl ⟨by omega, by omega⟩) hM.a24 1 rfl (by omega) (by decide) rfl d_Model_follow_16 (fun H locs hp hcg hS => ?_)
      have hM := hM.s24 hp hcg
      obtain ⟨s_2, es_2⟩ : ∃ z, z = updR s_1 24 (upd (s_1 24) 1 0) := ⟨_, rfl⟩
      rw [← es_2] at hM
      refine lv_iinc (v := 2) (lv' := [(1, .int 2), (0, .ref mo)]) X.x X.b d_Model_follow_17 hl (k := 0) rfl (by decide) (by decide) rfl (fun ls hl => ?_)
      refine lv_goto (tgt := 2) X.x X.b d_Model_follow_20 (by decide) ?_
      refine lv_iload_n X.x X.b d_Model_follow_2 rfl (lv_at hl 0 rfl) ?_
      refine lv_aload_n X.x X.b d_Model_follow_3 rfl (lv_at hl 1 rfl) ?_
      refine m_get (v := .int 2) X ok_Model hM.1 5 (by decide) k_Model_132 (congrArg (fun z => some (Value.int z)) (show p0 5 = 2 from (by rw [hw5]))) d_Model_follow_4 ?_
      refine lv_icmp_ge (tgt := 23) X.x X.b d_Model_follow_7 (by decide) (fun c3 => ?_) (fun c3 => ?_)
      · skip
        have c3q := Int32.not_lt.mpr c3
        refine lv_sipush (v := 244) X.x X.b d_Model_follow_23 (by decide) ?_
        obtain ⟨q26, hq26⟩ := sz_of hS
        have hlt26 := hM.lt
        have hsz26 := hS.1
        refine m_newI X hS hq26 244 (by decide) (by decide) (by decide) (by omega) (by omega) d_Model_follow_26 (fun H hL26 hgr hS hz2 => ?_)
        have hfr := fr.of_grow (A := noA) hgr
        have hM := hM.frame hfr (fun q z => z.elim)
        refine lv_astore_n (lv' := [(1, .ref q26), (0, .ref mo)]) X.x X.b d_Model_follow_28 rfl hl (by decide) rfl (fun ls hl => ?_)
        refine lv_iconst (v := 0) X.x X.b d_Model_follow_29 (by decide) ?_
        refine lv_istore_n (lv' := [(2, .int 0), (1, .ref q26), (0, .ref mo)]) X.x X.b d_Model_follow_30 rfl hl (by decide) rfl (fun ls hl => ?_)
        refine lv_aload_n X.x X.b d_Model_follow_31 rfl (lv_at hl 1 rfl) ?_
        refine lv_iload_n X.x X.b d_Model_follow_32 rfl (lv_at hl 0 rfl) ?_
        refine lv_iinc (v := 1) (lv' := [(2, .int 1), (1, .ref q26), (0, .ref mo)]) X.x X.b d_Model_follow_33 hl (k := 0) rfl (by decide) (by decide) rfl (fun ls hl => ?_)
        refine lv_iconst (v := 0) X.x X.b d_Model_follow_36 (by decide) ?_
        refine m_ist X hS (Or.inr (by omega)) hL26 0 rfl (by omega) (by decide) d_Model_follow_37 (fun H locs hp hcg hS => ?_)
        have hL26 := hp
        obtain ⟨r_3, er_3⟩ : ∃ z, z = upd (fun _ => 0) 0 0 := ⟨_, rfl⟩
        rw [← er_3] at hL26
        have hM := hM.frame (fr.of_chg (A := fun q => q = q26) hcg rfl) (fun q z => by have z : q = q26 := z; have := hM.tq; omega)
        refine lv_iload_n X.x X.b d_Model_follow_38 rfl (lv_at hl 0 rfl) ?_
        refine lv_if_le (tgt := 143) X.x X.b d_Model_follow_39 (by decide) (fun c4 => ?_) (fun c4 => ?_)
        · exact absurd c4 (by decide)
        · skip
          have c4q := Int32.not_le.mp c4
          refine lv_aload_n X.x X.b d_Model_follow_42 rfl (lv_at hl 1 rfl) ?_
          refine lv_iinc (v := 0) (lv' := [(2, .int 0), (1, .ref q26), (0, .ref mo)]) X.x X.b d_Model_follow_43 hl (k := 0) rfl (by decide) (by decide) rfl (fun ls hl => ?_)
          refine lv_iload_n X.x X.b d_Model_follow_46 rfl (lv_at hl 0 rfl) ?_
          refine m_ild (v := 0) X hL26 0 rfl (by omega) (by decide) (show r_3 0 = 0 from (by rw [er_3, upd_hit])) d_Model_follow_47 ?_
          refine lv_istore_n (lv' := [(3, .int 0), (2, .int 0), (1, .ref q26), (0, .ref mo)]) X.x X.b d_Model_follow_48 rfl hl (by decide) rfl (fun ls hl => ?_)
          refine lv_iload_n X.x X.b d_Model_follow_49 rfl (lv_at hl 0 rfl) ?_
          refine lv_iconst (v := 0) X.x X.b d_Model_follow_50 (by decide) ?_
          refine lv_aload_n X.x X.b d_Model_follow_51 rfl (lv_at hl 3 rfl) ?_
          refine m_get (v := .int 2) X ok_Model hM.1 5 (by decide) k_Model_132 (congrArg (fun z => some (Value.int z)) (show p0 5 = 2 from (by rw [hw5]))) d_Model_follow_52 ?_
          refine lv_iconst (v := 1) X.x X.b d_Model_follow_55 (by decide) ?_
          refine lv_isub X.x X.b d_Model_follow_56 ?_
          rw [show (2 - 1 : Int32) = 1 from by decide]
          refine m_callSP X hS (MP_ans (M_Model_isIn l g 0 0 1) (show b2i (0 ≤ 0 ∧ 0 ≤ 1) = 1 from by decide)) s_Model_84 rfl rfl (Nat.le_of_ble_eq_true rfl) hl.1 d_Model_follow_57 (by omega) (by decide) ⟨by omega, by omega⟩ (fun locs hS => ?_)
          refine lv_if_eq (tgt := 38) X.x X.b d_Model_follow_60 (by decide) (fun c5 => ?_) (fun c5 => ?_)
          · exact absurd c5 (by decide)
          · skip
            refine lv_aload_n X.x X.b d_Model_follow_63 rfl (lv_at hl 3 rfl) ?_
            refine m_get (v := .ref (mo + 19)) X ok_Model hM.1 24 (by decide) k_Model_65 rfl d_Model_follow_64 ?_
            refine lv_iload_n X.x X.b d_Model_follow_67 rfl (lv_at hl 0 rfl) ?_
            refine m_zld (v := 0) X hM.a24 0 rfl (by omega) (by decide) (show s_2 24 0 = 0 from (by rw [es_2, updR_mi _ _ _ _ (show (0 : Nat) ≠ 1 by omega), es_1, updR_hit])) d_Model_follow_68 ?_
            refine lv_if_ne (tgt := 38) X.x X.b d_Model_follow_69 (by decide) (fun c6 => ?_) (fun c6 => ?_)
            · exact absurd c6 (by decide)
            · skip
              refine lv_aload_n X.x X.b d_Model_follow_72 rfl (lv_at hl 3 rfl) ?_
              refine lv_iload_n X.x X.b d_Model_follow_73 rfl (lv_at hl 0 rfl) ?_
              have hR := M_Model_goesOn (k := 0) l g hM (by omega)
              rw [show b2i (goM s_2 0) = 0 from b2i_f (by unfold goM; rw [show s_2 8 0 = 3 from (by rw [es_2, updR_mf _ _ _ (show 8 ≠ 24 by decide), es_1, updR_mf _ _ _ (show 8 ≠ 24 by decide), hw8])]; first | decide | simp)] at hR
              refine m_callP X hS hR v_Model_201 hM.1 rfl rfl rfl (Nat.le_of_ble_eq_true rfl) hl.1 d_Model_follow_74 (by omega) (by decide) ⟨by omega, by omega⟩ (fun locs hS => ?_)
              refine lv_if_ne (tgt := 93) X.x X.b d_Model_follow_77 (by decide) (fun c7 => ?_) (fun c7 => ?_)
              · exact absurd c6 c7
              · skip
                refine lv_aload_n X.x X.b d_Model_follow_80 rfl (lv_at hl 3 rfl) ?_
                refine m_get (v := .ref (mo + 3)) X ok_Model hM.1 8 (by decide) k_Model_16 rfl d_Model_follow_81 ?_
                refine lv_iload_n X.x X.b d_Model_follow_84 rfl (lv_at hl 0 rfl) ?_
                refine m_ild (v := 3) X hM.a8 0 rfl (by omega) (by decide) (show s_2 8 0 = 3 from (by rw [es_2, updR_mf _ _ _ (show 8 ≠ 24 by decide), es_1, updR_mf _ _ _ (show 8 ≠ 24 by decide), hw8])) d_Model_follow_85 ?_
                refine lv_iconst (v := 3) X.x X.b d_Model_follow_86 (by decide) ?_
                refine lv_icmp_eq (tgt := 93) X.x X.b d_Model_follow_87 (by decide) (fun c8 => ?_) (fun c8 => ?_)
                · skip
                  refine lv_aload_n X.x X.b d_Model_follow_93 rfl (lv_at hl 3 rfl) ?_
                  refine m_get (v := .ref (mo + 19)) X ok_Model hM.1 24 (by decide) k_Model_65 rfl d_Model_follow_94 ?_
                  refine lv_iload_n X.x X.b d_Model_follow_97 rfl (lv_at hl 0 rfl) ?_
                  refine lv_iconst (v := 1) X.x X.b d_Model_follow_98 (by decide) ?_
                  refine m_zst X hS (Or.inl ⟨by omega, by omega⟩) hM.a24 0 rfl (by omega) (by decide) rfl d_Model_follow_99 (fun H locs hp hcg hS => ?_)
                  have hM := hM.s24 hp hcg
                  obtain ⟨s_4, es_4⟩ : ∃ z, z = updR s_2 24 (upd (s_2 24) 0 1) := ⟨_, rfl⟩
                  rw [← es_4] at hM
                  have hL26 := hL26.off hcg (by omega)
                  refine lv_aload_n X.x X.b d_Model_follow_100 rfl (lv_at hl 3 rfl) ?_
                  refine lv_iload_n X.x X.b d_Model_follow_101 rfl (lv_at hl 0 rfl) ?_
                  have hR := M_Model_goesOn (k := 0) l g hM (by omega)
                  rw [show b2i (goM s_4 0) = 0 from b2i_f (by unfold goM; rw [show s_4 8 0 = 3 from (by rw [es_4, updR_mf _ _ _ (show 8 ≠ 24 by decide), es_2, updR_mf _ _ _ (show 8 ≠ 24 by decide), es_1, updR_mf _ _ _ (show 8 ≠ 24 by decide), hw8])]; first | decide | simp)] at hR
                  refine m_callP X hS hR v_Model_201 hM.1 rfl rfl rfl (Nat.le_of_ble_eq_true rfl) hl.1 d_Model_follow_102 (by omega) (by decide) ⟨by omega, by omega⟩ (fun locs hS => ?_)
                  refine lv_if_eq (tgt := 117) X.x X.b d_Model_follow_105 (by decide) (fun c9 => ?_) (fun c9 => ?_)
                  · skip
                    refine lv_aload_n X.x X.b d_Model_follow_117 rfl (lv_at hl 3 rfl) ?_
                    refine lv_iload_n X.x X.b d_Model_follow_118 rfl (lv_at hl 0 rfl) ?_
                    have hR := M_Model_isBranch (k := 0) l g hM (by omega)
                    rw [show b2i (s_4 8 0 = 3 ∨ s_4 8 0 = 4) = 1 from b2i_t (by rw [show s_4 8 0 = 3 from (by rw [es_4, updR_mf _ _ _ (show 8 ≠ 24 by decide), es_2, updR_mf _ _ _ (show 8 ≠ 24 by decide), es_1, updR_mf _ _ _ (show 8 ≠ 24 by decide), hw8])]; first | decide | simp)] at hR
                    refine m_callP X hS hR v_Model_177 hM.1 rfl rfl rfl (Nat.le_of_ble_eq_true rfl) hl.1 d_Model_follow_119 (by omega) (by decide) ⟨by omega, by omega⟩ (fun locs hS => ?_)
                    refine lv_if_eq (tgt := 140) X.x X.b d_Model_follow_122 (by decide) (fun c10 => ?_) (fun c10 => ?_)
                    · exact absurd c10 c5
                    · skip
                      refine lv_aload_n X.x X.b d_Model_follow_125 rfl (lv_at hl 2 rfl) ?_
                      refine lv_iload_n X.x X.b d_Model_follow_126 rfl (lv_at hl 1 rfl) ?_
                      refine lv_iinc (v := 1) (lv' := [(2, .int 1), (3, .int 0), (1, .ref q26), (0, .ref mo)]) X.x X.b d_Model_follow_127 hl (k := 1) rfl (by decide) (by decide) rfl (fun ls hl => ?_)
                      refine lv_aload_n X.x X.b d_Model_follow_130 rfl (lv_at hl 3 rfl) ?_
                      refine lv_aload_n X.x X.b d_Model_follow_131 rfl (lv_at hl 3 rfl) ?_
                      refine lv_iload_n X.x X.b d_Model_follow_132 rfl (lv_at hl 1 rfl) ?_
                      refine m_callP X hS (M_Model_valueOf l g hM (show s_4 16 0 = -1 from (by rw [es_4, updR_mf _ _ _ (show 16 ≠ 24 by decide), es_2, updR_mf _ _ _ (show 16 ≠ 24 by decide), es_1, updR_mf _ _ _ (show 16 ≠ 24 by decide), h16])) (show s_4 17 0 = -1 from (by rw [es_4, updR_mf _ _ _ (show 17 ≠ 24 by decide), es_2, updR_mf _ _ _ (show 17 ≠ 24 by decide), es_1, updR_mf _ _ _ (show 17 ≠ 24 by decide), h17]))) v_Model_168 hM.1 rfl rfl rfl (Nat.le_of_ble_eq_true rfl) hl.1 d_Model_follow_133 (by omega) (by decide) ⟨by omega, by omega⟩ (fun locs hS => ?_)
                      have hR := M_Model_firstAt l g hM (show p0 5 = 2 from (by rw [hw5])) (s_4 11 0 + s_4 18 0 - s_4 19 0)
                      rcases faM3 p0 s_4 (s_4 11 0 + s_4 18 0 - s_4 19 0) with fa5 | fa5 | fa5
                      · skip
                        rw [fa5] at hR
                        refine m_callP X hS hR v_Model_204 hM.1 rfl rfl rfl (Nat.le_of_ble_eq_true rfl) hl.1 d_Model_follow_136 (by omega) (by decide) ⟨by omega, by omega⟩ (fun locs hS => ?_)
                        refine m_ist X hS (Or.inr (by omega)) hL26 0 rfl (by omega) (by decide) d_Model_follow_139 (fun H locs hp hcg hS => ?_)
                        have hL26 := hp
                        obtain ⟨r_6, er_6⟩ : ∃ z, z = upd r_3 0 (-1) := ⟨_, rfl⟩
                        rw [← er_6] at hL26
                        have hM := hM.frame (fr.of_chg (A := fun q => q = q26) hcg rfl) (fun q z => by have z : q = q26 := z; have := hM.tq; omega)
                        refine lv_goto (tgt := 38) X.x X.b d_Model_follow_140 (by decide) ?_
                        refine lv_iload_n X.x X.b d_Model_follow_38 rfl (lv_at hl 0 rfl) ?_
                        refine lv_if_le (tgt := 143) X.x X.b d_Model_follow_39 (by decide) (fun c11 => ?_) (fun c11 => ?_)
                        · exact absurd c11 c4
                        · skip
                          have c11q := Int32.not_le.mp c11
                          refine lv_aload_n X.x X.b d_Model_follow_42 rfl (lv_at hl 2 rfl) ?_
                          refine lv_iinc (v := 0) (lv' := [(2, .int 0), (3, .int 0), (1, .ref q26), (0, .ref mo)]) X.x X.b d_Model_follow_43 hl (k := 0) rfl (by decide) (by decide) rfl (fun ls hl => ?_)
                          refine lv_iload_n X.x X.b d_Model_follow_46 rfl (lv_at hl 0 rfl) ?_
                          refine m_ild (v := (-1)) X hL26 0 rfl (by omega) (by decide) (show r_6 0 = (-1) from (by rw [er_6, upd_hit])) d_Model_follow_47 ?_
                          refine lv_istore_n (lv' := [(3, .int (-1)), (2, .int 0), (1, .ref q26), (0, .ref mo)]) X.x X.b d_Model_follow_48 rfl hl (by decide) rfl (fun ls hl => ?_)
                          refine lv_iload_n X.x X.b d_Model_follow_49 rfl (lv_at hl 0 rfl) ?_
                          refine lv_iconst (v := 0) X.x X.b d_Model_follow_50 (by decide) ?_
                          refine lv_aload_n X.x X.b d_Model_follow_51 rfl (lv_at hl 3 rfl) ?_
                          refine m_get (v := .int 2) X ok_Model hM.1 5 (by decide) k_Model_132 (congrArg (fun z => some (Value.int z)) (show p0 5 = 2 from (by rw [hw5]))) d_Model_follow_52 ?_
                          refine lv_iconst (v := 1) X.x X.b d_Model_follow_55 (by decide) ?_
                          refine lv_isub X.x X.b d_Model_follow_56 ?_
                          rw [show (2 - 1 : Int32) = 1 from by decide]
                          refine m_callSP X hS (MP_ans (M_Model_isIn l g (-1) 0 1) (show b2i (0 ≤ (-1) ∧ (-1) ≤ 1) = 0 from by decide)) s_Model_84 rfl rfl (Nat.le_of_ble_eq_true rfl) hl.1 d_Model_follow_57 (by omega) (by decide) ⟨by omega, by omega⟩ (fun locs hS => ?_)
                          refine lv_if_eq (tgt := 38) X.x X.b d_Model_follow_60 (by decide) (fun c12 => ?_) (fun c12 => ?_)
                          · skip
                            refine lv_iload_n X.x X.b d_Model_follow_38 rfl (lv_at hl 1 rfl) ?_
                            refine lv_if_le (tgt := 143) X.x X.b d_Model_follow_39 (by decide) (fun c13 => ?_) (fun c13 => ?_)
                            · skip
                              have c13q := Int32.not_lt.mpr c13
                              exact m_vret X hS (by omega) (by omega) d_Model_follow_143 rfl ⟨_, hM, (show same [24] s0 s_4 from (by rw [es_4]; exact (show same [24] s0 s_2 from (by rw [es_2]; exact (show same [24] s0 s_1 from (by rw [es_1]; exact (same.rf [24] s0).up _ _ (by decide))).up _ _ (by decide))).up _ _ (by decide)))⟩
                            · exact absurd c13 (by decide)
                          · exact absurd c9 c12
                      · skip
                        rw [fa5] at hR
                        refine m_callP X hS hR v_Model_204 hM.1 rfl rfl rfl (Nat.le_of_ble_eq_true rfl) hl.1 d_Model_follow_136 (by omega) (by decide) ⟨by omega, by omega⟩ (fun locs hS => ?_)
                        refine m_ist X hS (Or.inr (by omega)) hL26 0 rfl (by omega) (by decide) d_Model_follow_139 (fun H locs hp hcg hS => ?_)
                        have hL26 := hp
                        obtain ⟨r_7, er_7⟩ : ∃ z, z = upd r_3 0 0 := ⟨_, rfl⟩
                        rw [← er_7] at hL26
                        have hM := hM.frame (fr.of_chg (A := fun q => q = q26) hcg rfl) (fun q z => by have z : q = q26 := z; have := hM.tq; omega)
                        refine lv_goto (tgt := 38) X.x X.b d_Model_follow_140 (by decide) ?_
                        refine lv_iload_n X.x X.b d_Model_follow_38 rfl (lv_at hl 0 rfl) ?_
                        refine lv_if_le (tgt := 143) X.x X.b d_Model_follow_39 (by decide) (fun c14 => ?_) (fun c14 => ?_)
                        · exact absurd c14 c4
                        · skip
                          have c14q := Int32.not_le.mp c14
                          refine lv_aload_n X.x X.b d_Model_follow_42 rfl (lv_at hl 2 rfl) ?_
                          refine lv_iinc (v := 0) (lv' := [(2, .int 0), (3, .int 0), (1, .ref q26), (0, .ref mo)]) X.x X.b d_Model_follow_43 hl (k := 0) rfl (by decide) (by decide) rfl (fun ls hl => ?_)
                          refine lv_iload_n X.x X.b d_Model_follow_46 rfl (lv_at hl 0 rfl) ?_
                          refine m_ild (v := 0) X hL26 0 rfl (by omega) (by decide) (show r_7 0 = 0 from (by rw [er_7, upd_hit])) d_Model_follow_47 ?_
                          refine lv_istore_n (lv' := [(3, .int 0), (2, .int 0), (1, .ref q26), (0, .ref mo)]) X.x X.b d_Model_follow_48 rfl hl (by decide) rfl (fun ls hl => ?_)
                          refine lv_iload_n X.x X.b d_Model_follow_49 rfl (lv_at hl 0 rfl) ?_
                          refine lv_iconst (v := 0) X.x X.b d_Model_follow_50 (by decide) ?_
                          refine lv_aload_n X.x X.b d_Model_follow_51 rfl (lv_at hl 3 rfl) ?_
                          refine m_get (v := .int 2) X ok_Model hM.1 5 (by decide) k_Model_132 (congrArg (fun z => some (Value.int z)) (show p0 5 = 2 from (by rw [hw5]))) d_Model_follow_52 ?_
                          refine lv_iconst (v := 1) X.x X.b d_Model_follow_55 (by decide) ?_
                          refine lv_isub X.x X.b d_Model_follow_56 ?_
                          rw [show (2 - 1 : Int32) = 1 from by decide]
                          refine m_callSP X hS (MP_ans (M_Model_isIn l g 0 0 1) (show b2i (0 ≤ 0 ∧ 0 ≤ 1) = 1 from by decide)) s_Model_84 rfl rfl (Nat.le_of_ble_eq_true rfl) hl.1 d_Model_follow_57 (by omega) (by decide) ⟨by omega, by omega⟩ (fun locs hS => ?_)
                          refine lv_if_eq (tgt := 38) X.x X.b d_Model_follow_60 (by decide) (fun c15 => ?_) (fun c15 => ?_)
                          · exact absurd c15 c10
                          · skip
                            refine lv_aload_n X.x X.b d_Model_follow_63 rfl (lv_at hl 3 rfl) ?_
                            refine m_get (v := .ref (mo + 19)) X ok_Model hM.1 24 (by decide) k_Model_65 rfl d_Model_follow_64 ?_
                            refine lv_iload_n X.x X.b d_Model_follow_67 rfl (lv_at hl 0 rfl) ?_
                            refine m_zld (v := 1) X hM.a24 0 rfl (by omega) (by decide) (show s_4 24 0 = 1 from (by rw [es_4, updR_hit])) d_Model_follow_68 ?_
                            refine lv_if_ne (tgt := 38) X.x X.b d_Model_follow_69 (by decide) (fun c16 => ?_) (fun c16 => ?_)
                            · skip
                              refine lv_iload_n X.x X.b d_Model_follow_38 rfl (lv_at hl 1 rfl) ?_
                              refine lv_if_le (tgt := 143) X.x X.b d_Model_follow_39 (by decide) (fun c17 => ?_) (fun c17 => ?_)
                              · skip
                                have c17q := Int32.not_lt.mpr c17
                                exact m_vret X hS (by omega) (by omega) d_Model_follow_143 rfl ⟨_, hM, (show same [24] s0 s_4 from (by rw [es_4]; exact (show same [24] s0 s_2 from (by rw [es_2]; exact (show same [24] s0 s_1 from (by rw [es_1]; exact (same.rf [24] s0).up _ _ (by decide))).up _ _ (by decide))).up _ _ (by decide)))⟩
                              · exact absurd c17 (by decide)
                            · exact absurd c16 c15
                      · skip
                        rw [fa5] at hR
                        refine m_callP X hS hR v_Model_204 hM.1 rfl rfl rfl (Nat.le_of_ble_eq_true rfl) hl.1 d_Model_follow_136 (by omega) (by decide) ⟨by omega, by omega⟩ (fun locs hS => ?_)
                        refine m_ist X hS (Or.inr (by omega)) hL26 0 rfl (by omega) (by decide) d_Model_follow_139 (fun H locs hp hcg hS => ?_)
                        have hL26 := hp
                        obtain ⟨r_8, er_8⟩ : ∃ z, z = upd r_3 0 1 := ⟨_, rfl⟩
                        rw [← er_8] at hL26
                        have hM := hM.frame (fr.of_chg (A := fun q => q = q26) hcg rfl) (fun q z => by have z : q = q26 := z; have := hM.tq; omega)
                        refine lv_goto (tgt := 38) X.x X.b d_Model_follow_140 (by decide) ?_
                        refine lv_iload_n X.x X.b d_Model_follow_38 rfl (lv_at hl 0 rfl) ?_
                        refine lv_if_le (tgt := 143) X.x X.b d_Model_follow_39 (by decide) (fun c18 => ?_) (fun c18 => ?_)
                        · exact absurd c18 c4
                        · skip
                          have c18q := Int32.not_le.mp c18
                          refine lv_aload_n X.x X.b d_Model_follow_42 rfl (lv_at hl 2 rfl) ?_
                          refine lv_iinc (v := 0) (lv' := [(2, .int 0), (3, .int 0), (1, .ref q26), (0, .ref mo)]) X.x X.b d_Model_follow_43 hl (k := 0) rfl (by decide) (by decide) rfl (fun ls hl => ?_)
                          refine lv_iload_n X.x X.b d_Model_follow_46 rfl (lv_at hl 0 rfl) ?_
                          refine m_ild (v := 1) X hL26 0 rfl (by omega) (by decide) (show r_8 0 = 1 from (by rw [er_8, upd_hit])) d_Model_follow_47 ?_
                          refine lv_istore_n (lv' := [(3, .int 1), (2, .int 0), (1, .ref q26), (0, .ref mo)]) X.x X.b d_Model_follow_48 rfl hl (by decide) rfl (fun ls hl => ?_)
                          refine lv_iload_n X.x X.b d_Model_follow_49 rfl (lv_at hl 0 rfl) ?_
                          refine lv_iconst (v := 0) X.x X.b d_Model_follow_50 (by decide) ?_
                          refine lv_aload_n X.x X.b d_Model_follow_51 rfl (lv_at hl 3 rfl) ?_
                          refine m_get (v := .int 2) X ok_Model hM.1 5 (by decide) k_Model_132 (congrArg (fun z => some (Value.int z)) (show p0 5 = 2 from (by rw [hw5]))) d_Model_follow_52 ?_
                          refine lv_iconst (v := 1) X.x X.b d_Model_follow_55 (by decide) ?_
                          refine lv_isub X.x X.b d_Model_follow_56 ?_
                          rw [show (2 - 1 : Int32) = 1 from by decide]
                          refine m_callSP X hS (MP_ans (M_Model_isIn l g 1 0 1) (show b2i (0 ≤ 1 ∧ 1 ≤ 1) = 1 from by decide)) s_Model_84 rfl rfl (Nat.le_of_ble_eq_true rfl) hl.1 d_Model_follow_57 (by omega) (by decide) ⟨by omega, by omega⟩ (fun locs hS => ?_)
                          refine lv_if_eq (tgt := 38) X.x X.b d_Model_follow_60 (by decide) (fun c19 => ?_) (fun c19 => ?_)
                          · exact absurd c19 c10
                          · skip
                            refine lv_aload_n X.x X.b d_Model_follow_63 rfl (lv_at hl 3 rfl) ?_
                            refine m_get (v := .ref (mo + 19)) X ok_Model hM.1 24 (by decide) k_Model_65 rfl d_Model_follow_64 ?_
                            refine lv_iload_n X.x X.b d_Model_follow_67 rfl (lv_at hl 0 rfl) ?_
                            refine m_zld (v := 0) X hM.a24 1 rfl (by omega) (by decide) (show s_4 24 1 = 0 from (by rw [es_4, updR_mi _ _ _ _ (show (1 : Nat) ≠ 0 by omega), es_2, updR_hit])) d_Model_follow_68 ?_
                            refine lv_if_ne (tgt := 38) X.x X.b d_Model_follow_69 (by decide) (fun c20 => ?_) (fun c20 => ?_)
                            · exact absurd c9 c20
                            · skip
                              refine lv_aload_n X.x X.b d_Model_follow_72 rfl (lv_at hl 3 rfl) ?_
                              refine lv_iload_n X.x X.b d_Model_follow_73 rfl (lv_at hl 0 rfl) ?_
                              have hR := M_Model_goesOn (k := 1) l g hM (by omega)
                              refine m_callP X hS hR v_Model_201 hM.1 rfl rfl rfl (Nat.le_of_ble_eq_true rfl) hl.1 d_Model_follow_74 (by omega) (by decide) ⟨by omega, by omega⟩ (fun locs hS => ?_)
                              refine lv_if_ne (tgt := 93) X.x X.b d_Model_follow_77 (by decide) (fun c21 => ?_) (fun c21 => ?_)
                              · skip
                                have c21 := b2i_n0 c21
                                refine lv_aload_n X.x X.b d_Model_follow_93 rfl (lv_at hl 3 rfl) ?_
                                refine m_get (v := .ref (mo + 19)) X ok_Model hM.1 24 (by decide) k_Model_65 rfl d_Model_follow_94 ?_
                                refine lv_iload_n X.x X.b d_Model_follow_97 rfl (lv_at hl 0 rfl) ?_
                                refine lv_iconst (v := 1) X.x X.b d_Model_follow_98 (by decide) ?_
                                refine m_zst X hS (Or.inl ⟨by omega, by omega⟩) hM.a24 1 rfl (by omega) (by decide) rfl d_Model_follow_99 (fun H locs hp hcg hS => ?_)
                                have hM := hM.s24 hp hcg
                                obtain ⟨s_9, es_9⟩ : ∃ z, z = updR s_4 24 (upd (s_4 24) 1 1) := ⟨_, rfl⟩
                                rw [← es_9] at hM
                                have hL26 := hL26.off hcg (by omega)
                                refine lv_aload_n X.x X.b d_Model_follow_100 rfl (lv_at hl 3 rfl) ?_
                                refine lv_iload_n X.x X.b d_Model_follow_101 rfl (lv_at hl 0 rfl) ?_
                                have hR := M_Model_goesOn (k := 1) l g hM (by omega)
                                refine m_callP X hS hR v_Model_201 hM.1 rfl rfl rfl (Nat.le_of_ble_eq_true rfl) hl.1 d_Model_follow_102 (by omega) (by decide) ⟨by omega, by omega⟩ (fun locs hS => ?_)
                                refine lv_if_eq (tgt := 117) X.x X.b d_Model_follow_105 (by decide) (fun c22 => ?_) (fun c22 => ?_)
                                · skip
                                  have c22 := b2i_0.mp c22
                                  refine lv_aload_n X.x X.b d_Model_follow_117 rfl (lv_at hl 3 rfl) ?_
                                  refine lv_iload_n X.x X.b d_Model_follow_118 rfl (lv_at hl 0 rfl) ?_
                                  have hR := M_Model_isBranch (k := 1) l g hM (by omega)
                                  rw [show b2i (s_9 8 1 = 3 ∨ s_9 8 1 = 4) = 0 from b2i_f (by rw [show s_9 8 1 = 6 from (by rw [es_9, updR_mf _ _ _ (show 8 ≠ 24 by decide), es_4, updR_mf _ _ _ (show 8 ≠ 24 by decide), es_2, updR_mf _ _ _ (show 8 ≠ 24 by decide), es_1, updR_mf _ _ _ (show 8 ≠ 24 by decide), hw81])]; first | decide | simp)] at hR
                                  refine m_callP X hS hR v_Model_177 hM.1 rfl rfl rfl (Nat.le_of_ble_eq_true rfl) hl.1 d_Model_follow_119 (by omega) (by decide) ⟨by omega, by omega⟩ (fun locs hS => ?_)
                                  refine lv_if_eq (tgt := 140) X.x X.b d_Model_follow_122 (by decide) (fun c23 => ?_) (fun c23 => ?_)
                                  · skip
                                    refine lv_goto (tgt := 38) X.x X.b d_Model_follow_140 (by decide) ?_
                                    refine lv_iload_n X.x X.b d_Model_follow_38 rfl (lv_at hl 1 rfl) ?_
                                    refine lv_if_le (tgt := 143) X.x X.b d_Model_follow_39 (by decide) (fun c24 => ?_) (fun c24 => ?_)
                                    · skip
                                      have c24q := Int32.not_lt.mpr c24
                                      exact m_vret X hS (by omega) (by omega) d_Model_follow_143 rfl ⟨_, hM, (show same [24] s0 s_9 from (by rw [es_9]; exact (show same [24] s0 s_4 from (by rw [es_4]; exact (show same [24] s0 s_2 from (by rw [es_2]; exact (show same [24] s0 s_1 from (by rw [es_1]; exact (same.rf [24] s0).up _ _ (by decide))).up _ _ (by decide))).up _ _ (by decide))).up _ _ (by decide)))⟩
                                    · exact absurd c24 (by decide)
                                  · exact absurd c20 c23
                                · skip
                                  have c22 := b2i_n0 c22
                                  refine lv_aload_n X.x X.b d_Model_follow_108 rfl (lv_at hl 2 rfl) ?_
                                  refine lv_iload_n X.x X.b d_Model_follow_109 rfl (lv_at hl 1 rfl) ?_
                                  refine lv_iinc (v := 1) (lv' := [(2, .int 1), (3, .int 1), (1, .ref q26), (0, .ref mo)]) X.x X.b d_Model_follow_110 hl (k := 1) rfl (by decide) (by decide) rfl (fun ls hl => ?_)
                                  refine lv_iload_n X.x X.b d_Model_follow_113 rfl (lv_at hl 1 rfl) ?_
                                  refine lv_iconst (v := 1) X.x X.b d_Model_follow_114 (by decide) ?_
                                  refine lv_iadd X.x X.b d_Model_follow_115 ?_
                                  rw [show (1 + 1 : Int32) = 2 from by decide]
                                  refine m_ist X hS (Or.inr (by omega)) hL26 0 rfl (by omega) (by decide) d_Model_follow_116 (fun H locs hp hcg hS => ?_)
                                  have hL26 := hp
                                  obtain ⟨r_10, er_10⟩ : ∃ z, z = upd r_8 0 2 := ⟨_, rfl⟩
                                  rw [← er_10] at hL26
                                  have hM := hM.frame (fr.of_chg (A := fun q => q = q26) hcg rfl) (fun q z => by have z : q = q26 := z; have := hM.tq; omega)
                                  refine lv_aload_n X.x X.b d_Model_follow_117 rfl (lv_at hl 3 rfl) ?_
                                  refine lv_iload_n X.x X.b d_Model_follow_118 rfl (lv_at hl 1 rfl) ?_
                                  have hR := M_Model_isBranch (k := 1) l g hM (by omega)
                                  rw [show b2i (s_9 8 1 = 3 ∨ s_9 8 1 = 4) = 0 from b2i_f (by rw [show s_9 8 1 = 6 from (by rw [es_9, updR_mf _ _ _ (show 8 ≠ 24 by decide), es_4, updR_mf _ _ _ (show 8 ≠ 24 by decide), es_2, updR_mf _ _ _ (show 8 ≠ 24 by decide), es_1, updR_mf _ _ _ (show 8 ≠ 24 by decide), hw81])]; first | decide | simp)] at hR
                                  refine m_callP X hS hR v_Model_177 hM.1 rfl rfl rfl (Nat.le_of_ble_eq_true rfl) hl.1 d_Model_follow_119 (by omega) (by decide) ⟨by omega, by omega⟩ (fun locs hS => ?_)
                                  refine lv_if_eq (tgt := 140) X.x X.b d_Model_follow_122 (by decide) (fun c25 => ?_) (fun c25 => ?_)
                                  · skip
                                    refine lv_goto (tgt := 38) X.x X.b d_Model_follow_140 (by decide) ?_
                                    refine lv_iload_n X.x X.b d_Model_follow_38 rfl (lv_at hl 0 rfl) ?_
                                    refine lv_if_le (tgt := 143) X.x X.b d_Model_follow_39 (by decide) (fun c26 => ?_) (fun c26 => ?_)
                                    · exact absurd c26 c18
                                    · skip
                                      have c26q := Int32.not_le.mp c26
                                      refine lv_aload_n X.x X.b d_Model_follow_42 rfl (lv_at hl 2 rfl) ?_
                                      refine lv_iinc (v := 0) (lv' := [(2, .int 0), (3, .int 1), (1, .ref q26), (0, .ref mo)]) X.x X.b d_Model_follow_43 hl (k := 0) rfl (by decide) (by decide) rfl (fun ls hl => ?_)
                                      refine lv_iload_n X.x X.b d_Model_follow_46 rfl (lv_at hl 0 rfl) ?_
                                      refine m_ild (v := 2) X hL26 0 rfl (by omega) (by decide) (show r_10 0 = 2 from (by rw [er_10, upd_hit])) d_Model_follow_47 ?_
                                      refine lv_istore_n (lv' := [(3, .int 2), (2, .int 0), (1, .ref q26), (0, .ref mo)]) X.x X.b d_Model_follow_48 rfl hl (by decide) rfl (fun ls hl => ?_)
                                      refine lv_iload_n X.x X.b d_Model_follow_49 rfl (lv_at hl 0 rfl) ?_
                                      refine lv_iconst (v := 0) X.x X.b d_Model_follow_50 (by decide) ?_
                                      refine lv_aload_n X.x X.b d_Model_follow_51 rfl (lv_at hl 3 rfl) ?_
                                      refine m_get (v := .int 2) X ok_Model hM.1 5 (by decide) k_Model_132 (congrArg (fun z => some (Value.int z)) (show p0 5 = 2 from (by rw [hw5]))) d_Model_follow_52 ?_
                                      refine lv_iconst (v := 1) X.x X.b d_Model_follow_55 (by decide) ?_
                                      refine lv_isub X.x X.b d_Model_follow_56 ?_
                                      rw [show (2 - 1 : Int32) = 1 from by decide]
                                      refine m_callSP X hS (MP_ans (M_Model_isIn l g 2 0 1) (show b2i (0 ≤ 2 ∧ 2 ≤ 1) = 0 from by decide)) s_Model_84 rfl rfl (Nat.le_of_ble_eq_true rfl) hl.1 d_Model_follow_57 (by omega) (by decide) ⟨by omega, by omega⟩ (fun locs hS => ?_)
                                      refine lv_if_eq (tgt := 38) X.x X.b d_Model_follow_60 (by decide) (fun c27 => ?_) (fun c27 => ?_)
                                      · skip
                                        refine lv_iload_n X.x X.b d_Model_follow_38 rfl (lv_at hl 1 rfl) ?_
                                        refine lv_if_le (tgt := 143) X.x X.b d_Model_follow_39 (by decide) (fun c28 => ?_) (fun c28 => ?_)
                                        · skip
                                          have c28q := Int32.not_lt.mpr c28
                                          exact m_vret X hS (by omega) (by omega) d_Model_follow_143 rfl ⟨_, hM, (show same [24] s0 s_9 from (by rw [es_9]; exact (show same [24] s0 s_4 from (by rw [es_4]; exact (show same [24] s0 s_2 from (by rw [es_2]; exact (show same [24] s0 s_1 from (by rw [es_1]; exact (same.rf [24] s0).up _ _ (by decide))).up _ _ (by decide))).up _ _ (by decide))).up _ _ (by decide)))⟩
                                        · exact absurd c28 (by decide)
                                      · exact absurd c25 c27
                                  · exact absurd c20 c25
                              · skip
                                have c21 := b2i_0.mp c21
                                refine lv_aload_n X.x X.b d_Model_follow_80 rfl (lv_at hl 3 rfl) ?_
                                refine m_get (v := .ref (mo + 3)) X ok_Model hM.1 8 (by decide) k_Model_16 rfl d_Model_follow_81 ?_
                                refine lv_iload_n X.x X.b d_Model_follow_84 rfl (lv_at hl 0 rfl) ?_
                                refine m_ild (v := 6) X hM.a8 1 rfl (by omega) (by decide) (show s_4 8 1 = 6 from (by rw [es_4, updR_mf _ _ _ (show 8 ≠ 24 by decide), es_2, updR_mf _ _ _ (show 8 ≠ 24 by decide), es_1, updR_mf _ _ _ (show 8 ≠ 24 by decide), hw81])) d_Model_follow_85 ?_
                                refine lv_iconst (v := 3) X.x X.b d_Model_follow_86 (by decide) ?_
                                refine lv_icmp_eq (tgt := 93) X.x X.b d_Model_follow_87 (by decide) (fun c29 => ?_) (fun c29 => ?_)
                                · exact absurd c29 (by decide)
                                · skip
                                  refine lv_goto (tgt := 38) X.x X.b d_Model_follow_90 (by decide) ?_
                                  refine lv_iload_n X.x X.b d_Model_follow_38 rfl (lv_at hl 1 rfl) ?_
                                  refine lv_if_le (tgt := 143) X.x X.b d_Model_follow_39 (by decide) (fun c30 => ?_) (fun c30 => ?_)
                                  · skip
                                    have c30q := Int32.not_lt.mpr c30
                                    exact m_vret X hS (by omega) (by omega) d_Model_follow_143 rfl ⟨_, hM, (show same [24] s0 s_4 from (by rw [es_4]; exact (show same [24] s0 s_2 from (by rw [es_2]; exact (show same [24] s0 s_1 from (by rw [es_1]; exact (same.rf [24] s0).up _ _ (by decide))).up _ _ (by decide))).up _ _ (by decide)))⟩
                                  · exact absurd c30 (by decide)
                  · exact absurd c7 c9
                · exact absurd c8 (by decide)
      · exact absurd c3 (by decide)
set_option maxRecDepth 100000 in
set_option maxHeartbeats 4000000 in
theorem M_Model_follow_L4 (l : Launch) (g : GG) {mo tq : Nat} {p0 : Nat → Int32} {s0 : Nat → Nat → Int32} {H0 : Heap} (hM : mAt g mo tq p0 s0 H0) (hw : twoI 4 p0 s0) (h16 : s0 16 0 = -1) (h17 : s0 17 0 = -1) : MM l y_Model_follow c_Model_follow 4 none 3 1 244 g H0 [.ref mo] (fun q => mo ≤ q ∧ q < mo + 23) (none) (fun H1 => ∃ s, mAt g mo tq p0 s H1 ∧ same [24] s0 s) := by
  refine MM.of (by decide +kernel) (Nat.le_of_ble_eq_true rfl) ?_
  intro p e s m below meth cd X hH ls hl
  have X : CX g p s m _ meth cd c_Model_follow 4 none R_Model _ := X
  have hl : lv_has ls 4 [(0, .ref mo)] := hl
  have hS : va_S (AA (fun q => mo ≤ q ∧ q < mo + 23) H0) H0 H0 [] := va_S.rf
  have hlt0 := hM.lt
  have htq0 := hM.tq
  obtain ⟨⟨hw3, hw5⟩, hw8, hw81⟩ := hw
  refine lv_iconst (v := 0) X.x X.b d_Model_follow_0 (by decide) ?_
  refine lv_istore_n (lv' := [(1, .int 0), (0, .ref mo)]) X.x X.b d_Model_follow_1 rfl hl (by decide) rfl (fun ls hl => ?_)
  refine lv_iload_n X.x X.b d_Model_follow_2 rfl (lv_at hl 0 rfl) ?_
  refine lv_aload_n X.x X.b d_Model_follow_3 rfl (lv_at hl 1 rfl) ?_
  refine m_get (v := .int 2) X ok_Model hM.1 5 (by decide) k_Model_132 (congrArg (fun z => some (Value.int z)) (show p0 5 = 2 from (by rw [hw5]))) d_Model_follow_4 ?_
  refine lv_icmp_ge (tgt := 23) X.x X.b d_Model_follow_7 (by decide) (fun c1 => ?_) (fun c1 => ?_)
  · exact absurd c1 (by decide)
  · skip
    have c1q := Int32.not_le.mp c1
    refine lv_aload_n X.x X.b d_Model_follow_10 rfl (lv_at hl 1 rfl) ?_
    refine m_get (v := .ref (mo + 19)) X ok_Model hM.1 24 (by decide) k_Model_65 rfl d_Model_follow_11 ?_
    refine lv_iload_n X.x X.b d_Model_follow_14 rfl (lv_at hl 0 rfl) ?_
    refine lv_iconst (v := 0) X.x X.b d_Model_follow_15 (by decide) ?_
    refine m_zst X hS (Or.inl ⟨by omega, by omega⟩) hM.a24 0 rfl (by omega) (by decide) rfl d_Model_follow_16 (fun H locs hp hcg hS => ?_)
    have hM := hM.s24 hp hcg
    obtain ⟨s_1, es_1⟩ : ∃ z, z = updR s0 24 (upd (s0 24) 0 0) := ⟨_, rfl⟩
    rw [← es_1] at hM
    refine lv_iinc (v := 1) (lv' := [(1, .int 1), (0, .ref mo)]) X.x X.b d_Model_follow_17 hl (k := 0) rfl (by decide) (by decide) rfl (fun ls hl => ?_)
    refine lv_goto (tgt := 2) X.x X.b d_Model_follow_20 (by decide) ?_
    refine lv_iload_n X.x X.b d_Model_follow_2 rfl (lv_at hl 0 rfl) ?_
    refine lv_aload_n X.x X.b d_Model_follow_3 rfl (lv_at hl 1 rfl) ?_
    refine m_get (v := .int 2) X ok_Model hM.1 5 (by decide) k_Model_132 (congrArg (fun z => some (Value.int z)) (show p0 5 = 2 from (by rw [hw5]))) d_Model_follow_4 ?_
    refine lv_icmp_ge (tgt := 23) X.x X.b d_Model_follow_7 (by decide) (fun c2 => ?_) (fun c2 => ?_)
    · exact absurd c2 (by decide)
    · skip
      have c2q := Int32.not_le.mp c2
      refine lv_aload_n X.x X.b d_Model_follow_10 rfl (lv_at hl 1 rfl) ?_
      refine m_get (v := .ref (mo + 19)) X ok_Model hM.1 24 (by decide) k_Model_65 rfl d_Model_follow_11 ?_
      refine lv_iload_n X.x X.b d_Model_follow_14 rfl (lv_at hl 0 rfl) ?_
      refine lv_iconst (v := 0) X.x X.b d_Model_follow_15 (by decide) ?_
      refine m_zst X hS (Or.inl ⟨by omega, by omega⟩) hM.a24 1 rfl (by omega) (by decide) rfl d_Model_follow_16 (fun H locs hp hcg hS => ?_)
      have hM := hM.s24 hp hcg
      obtain ⟨s_2, es_2⟩ : ∃ z, z = updR s_1 24 (upd (s_1 24) 1 0) := ⟨_, rfl⟩
      rw [← es_2] at hM
      refine lv_iinc (v := 2) (lv' := [(1, .int 2), (0, .ref mo)]) X.x X.b d_Model_follow_17 hl (k := 0) rfl (by decide) (by decide) rfl (fun ls hl => ?_)
      refine lv_goto (tgt := 2) X.x X.b d_Model_follow_20 (by decide) ?_
      refine lv_iload_n X.x X.b d_Model_follow_2 rfl (lv_at hl 0 rfl) ?_
      refine lv_aload_n X.x X.b d_Model_follow_3 rfl (lv_at hl 1 rfl) ?_
      refine m_get (v := .int 2) X ok_Model hM.1 5 (by decide) k_Model_132 (congrArg (fun z => some (Value.int z)) (show p0 5 = 2 from (by rw [hw5]))) d_Model_follow_4 ?_
      refine lv_icmp_ge (tgt := 23) X.x X.b d_Model_follow_7 (by decide) (fun c3 => ?_) (fun c3 => ?_)
      · skip
        have c3q := Int32.not_lt.mpr c3
        refine lv_sipush (v := 244) X.x X.b d_Model_follow_23 (by decide) ?_
        obtain ⟨q26, hq26⟩ := sz_of hS
        have hlt26 := hM.lt
        have hsz26 := hS.1
        refine m_newI X hS hq26 244 (by decide) (by decide) (by decide) (by omega) (by omega) d_Model_follow_26 (fun H hL26 hgr hS hz2 => ?_)
        have hfr := fr.of_grow (A := noA) hgr
        have hM := hM.frame hfr (fun q z => z.elim)
        refine lv_astore_n (lv' := [(1, .ref q26), (0, .ref mo)]) X.x X.b d_Model_follow_28 rfl hl (by decide) rfl (fun ls hl => ?_)
        refine lv_iconst (v := 0) X.x X.b d_Model_follow_29 (by decide) ?_
        refine lv_istore_n (lv' := [(2, .int 0), (1, .ref q26), (0, .ref mo)]) X.x X.b d_Model_follow_30 rfl hl (by decide) rfl (fun ls hl => ?_)
        refine lv_aload_n X.x X.b d_Model_follow_31 rfl (lv_at hl 1 rfl) ?_
        refine lv_iload_n X.x X.b d_Model_follow_32 rfl (lv_at hl 0 rfl) ?_
        refine lv_iinc (v := 1) (lv' := [(2, .int 1), (1, .ref q26), (0, .ref mo)]) X.x X.b d_Model_follow_33 hl (k := 0) rfl (by decide) (by decide) rfl (fun ls hl => ?_)
        refine lv_iconst (v := 0) X.x X.b d_Model_follow_36 (by decide) ?_
        refine m_ist X hS (Or.inr (by omega)) hL26 0 rfl (by omega) (by decide) d_Model_follow_37 (fun H locs hp hcg hS => ?_)
        have hL26 := hp
        obtain ⟨r_3, er_3⟩ : ∃ z, z = upd (fun _ => 0) 0 0 := ⟨_, rfl⟩
        rw [← er_3] at hL26
        have hM := hM.frame (fr.of_chg (A := fun q => q = q26) hcg rfl) (fun q z => by have z : q = q26 := z; have := hM.tq; omega)
        refine lv_iload_n X.x X.b d_Model_follow_38 rfl (lv_at hl 0 rfl) ?_
        refine lv_if_le (tgt := 143) X.x X.b d_Model_follow_39 (by decide) (fun c4 => ?_) (fun c4 => ?_)
        · exact absurd c4 (by decide)
        · skip
          have c4q := Int32.not_le.mp c4
          refine lv_aload_n X.x X.b d_Model_follow_42 rfl (lv_at hl 1 rfl) ?_
          refine lv_iinc (v := 0) (lv' := [(2, .int 0), (1, .ref q26), (0, .ref mo)]) X.x X.b d_Model_follow_43 hl (k := 0) rfl (by decide) (by decide) rfl (fun ls hl => ?_)
          refine lv_iload_n X.x X.b d_Model_follow_46 rfl (lv_at hl 0 rfl) ?_
          refine m_ild (v := 0) X hL26 0 rfl (by omega) (by decide) (show r_3 0 = 0 from (by rw [er_3, upd_hit])) d_Model_follow_47 ?_
          refine lv_istore_n (lv' := [(3, .int 0), (2, .int 0), (1, .ref q26), (0, .ref mo)]) X.x X.b d_Model_follow_48 rfl hl (by decide) rfl (fun ls hl => ?_)
          refine lv_iload_n X.x X.b d_Model_follow_49 rfl (lv_at hl 0 rfl) ?_
          refine lv_iconst (v := 0) X.x X.b d_Model_follow_50 (by decide) ?_
          refine lv_aload_n X.x X.b d_Model_follow_51 rfl (lv_at hl 3 rfl) ?_
          refine m_get (v := .int 2) X ok_Model hM.1 5 (by decide) k_Model_132 (congrArg (fun z => some (Value.int z)) (show p0 5 = 2 from (by rw [hw5]))) d_Model_follow_52 ?_
          refine lv_iconst (v := 1) X.x X.b d_Model_follow_55 (by decide) ?_
          refine lv_isub X.x X.b d_Model_follow_56 ?_
          rw [show (2 - 1 : Int32) = 1 from by decide]
          refine m_callSP X hS (MP_ans (M_Model_isIn l g 0 0 1) (show b2i (0 ≤ 0 ∧ 0 ≤ 1) = 1 from by decide)) s_Model_84 rfl rfl (Nat.le_of_ble_eq_true rfl) hl.1 d_Model_follow_57 (by omega) (by decide) ⟨by omega, by omega⟩ (fun locs hS => ?_)
          refine lv_if_eq (tgt := 38) X.x X.b d_Model_follow_60 (by decide) (fun c5 => ?_) (fun c5 => ?_)
          · exact absurd c5 (by decide)
          · skip
            refine lv_aload_n X.x X.b d_Model_follow_63 rfl (lv_at hl 3 rfl) ?_
            refine m_get (v := .ref (mo + 19)) X ok_Model hM.1 24 (by decide) k_Model_65 rfl d_Model_follow_64 ?_
            refine lv_iload_n X.x X.b d_Model_follow_67 rfl (lv_at hl 0 rfl) ?_
            refine m_zld (v := 0) X hM.a24 0 rfl (by omega) (by decide) (show s_2 24 0 = 0 from (by rw [es_2, updR_mi _ _ _ _ (show (0 : Nat) ≠ 1 by omega), es_1, updR_hit])) d_Model_follow_68 ?_
            refine lv_if_ne (tgt := 38) X.x X.b d_Model_follow_69 (by decide) (fun c6 => ?_) (fun c6 => ?_)
            · exact absurd c6 (by decide)
            · skip
              refine lv_aload_n X.x X.b d_Model_follow_72 rfl (lv_at hl 3 rfl) ?_
              refine lv_iload_n X.x X.b d_Model_follow_73 rfl (lv_at hl 0 rfl) ?_
              have hR := M_Model_goesOn (k := 0) l g hM (by omega)
              rw [show b2i (goM s_2 0) = 1 from b2i_t (by unfold goM; rw [show s_2 8 0 = 4 from (by rw [es_2, updR_mf _ _ _ (show 8 ≠ 24 by decide), es_1, updR_mf _ _ _ (show 8 ≠ 24 by decide), hw8])]; first | decide | simp)] at hR
              refine m_callP X hS hR v_Model_201 hM.1 rfl rfl rfl (Nat.le_of_ble_eq_true rfl) hl.1 d_Model_follow_74 (by omega) (by decide) ⟨by omega, by omega⟩ (fun locs hS => ?_)
              refine lv_if_ne (tgt := 93) X.x X.b d_Model_follow_77 (by decide) (fun c7 => ?_) (fun c7 => ?_)
              · skip
                refine lv_aload_n X.x X.b d_Model_follow_93 rfl (lv_at hl 3 rfl) ?_
                refine m_get (v := .ref (mo + 19)) X ok_Model hM.1 24 (by decide) k_Model_65 rfl d_Model_follow_94 ?_
                refine lv_iload_n X.x X.b d_Model_follow_97 rfl (lv_at hl 0 rfl) ?_
                refine lv_iconst (v := 1) X.x X.b d_Model_follow_98 (by decide) ?_
                refine m_zst X hS (Or.inl ⟨by omega, by omega⟩) hM.a24 0 rfl (by omega) (by decide) rfl d_Model_follow_99 (fun H locs hp hcg hS => ?_)
                have hM := hM.s24 hp hcg
                obtain ⟨s_4, es_4⟩ : ∃ z, z = updR s_2 24 (upd (s_2 24) 0 1) := ⟨_, rfl⟩
                rw [← es_4] at hM
                have hL26 := hL26.off hcg (by omega)
                refine lv_aload_n X.x X.b d_Model_follow_100 rfl (lv_at hl 3 rfl) ?_
                refine lv_iload_n X.x X.b d_Model_follow_101 rfl (lv_at hl 0 rfl) ?_
                have hR := M_Model_goesOn (k := 0) l g hM (by omega)
                rw [show b2i (goM s_4 0) = 1 from b2i_t (by unfold goM; rw [show s_4 8 0 = 4 from (by rw [es_4, updR_mf _ _ _ (show 8 ≠ 24 by decide), es_2, updR_mf _ _ _ (show 8 ≠ 24 by decide), es_1, updR_mf _ _ _ (show 8 ≠ 24 by decide), hw8])]; first | decide | simp)] at hR
                refine m_callP X hS hR v_Model_201 hM.1 rfl rfl rfl (Nat.le_of_ble_eq_true rfl) hl.1 d_Model_follow_102 (by omega) (by decide) ⟨by omega, by omega⟩ (fun locs hS => ?_)
                refine lv_if_eq (tgt := 117) X.x X.b d_Model_follow_105 (by decide) (fun c8 => ?_) (fun c8 => ?_)
                · exact absurd c8 c7
                · skip
                  refine lv_aload_n X.x X.b d_Model_follow_108 rfl (lv_at hl 2 rfl) ?_
                  refine lv_iload_n X.x X.b d_Model_follow_109 rfl (lv_at hl 1 rfl) ?_
                  refine lv_iinc (v := 1) (lv' := [(2, .int 1), (3, .int 0), (1, .ref q26), (0, .ref mo)]) X.x X.b d_Model_follow_110 hl (k := 1) rfl (by decide) (by decide) rfl (fun ls hl => ?_)
                  refine lv_iload_n X.x X.b d_Model_follow_113 rfl (lv_at hl 1 rfl) ?_
                  refine lv_iconst (v := 1) X.x X.b d_Model_follow_114 (by decide) ?_
                  refine lv_iadd X.x X.b d_Model_follow_115 ?_
                  rw [show (0 + 1 : Int32) = 1 from by decide]
                  refine m_ist X hS (Or.inr (by omega)) hL26 0 rfl (by omega) (by decide) d_Model_follow_116 (fun H locs hp hcg hS => ?_)
                  have hL26 := hp
                  obtain ⟨r_5, er_5⟩ : ∃ z, z = upd r_3 0 1 := ⟨_, rfl⟩
                  rw [← er_5] at hL26
                  have hM := hM.frame (fr.of_chg (A := fun q => q = q26) hcg rfl) (fun q z => by have z : q = q26 := z; have := hM.tq; omega)
                  refine lv_aload_n X.x X.b d_Model_follow_117 rfl (lv_at hl 3 rfl) ?_
                  refine lv_iload_n X.x X.b d_Model_follow_118 rfl (lv_at hl 1 rfl) ?_
                  have hR := M_Model_isBranch (k := 0) l g hM (by omega)
                  rw [show b2i (s_4 8 0 = 3 ∨ s_4 8 0 = 4) = 1 from b2i_t (by rw [show s_4 8 0 = 4 from (by rw [es_4, updR_mf _ _ _ (show 8 ≠ 24 by decide), es_2, updR_mf _ _ _ (show 8 ≠ 24 by decide), es_1, updR_mf _ _ _ (show 8 ≠ 24 by decide), hw8])]; first | decide | simp)] at hR
                  refine m_callP X hS hR v_Model_177 hM.1 rfl rfl rfl (Nat.le_of_ble_eq_true rfl) hl.1 d_Model_follow_119 (by omega) (by decide) ⟨by omega, by omega⟩ (fun locs hS => ?_)
                  refine lv_if_eq (tgt := 140) X.x X.b d_Model_follow_122 (by decide) (fun c9 => ?_) (fun c9 => ?_)
                  · exact absurd c9 c8
                  · skip
                    refine lv_aload_n X.x X.b d_Model_follow_125 rfl (lv_at hl 2 rfl) ?_
                    refine lv_iload_n X.x X.b d_Model_follow_126 rfl (lv_at hl 0 rfl) ?_
                    refine lv_iinc (v := 2) (lv' := [(2, .int 2), (3, .int 0), (1, .ref q26), (0, .ref mo)]) X.x X.b d_Model_follow_127 hl (k := 0) rfl (by decide) (by decide) rfl (fun ls hl => ?_)
                    refine lv_aload_n X.x X.b d_Model_follow_130 rfl (lv_at hl 3 rfl) ?_
                    refine lv_aload_n X.x X.b d_Model_follow_131 rfl (lv_at hl 3 rfl) ?_
                    refine lv_iload_n X.x X.b d_Model_follow_132 rfl (lv_at hl 1 rfl) ?_
                    refine m_callP X hS (M_Model_valueOf l g hM (show s_4 16 0 = -1 from (by rw [es_4, updR_mf _ _ _ (show 16 ≠ 24 by decide), es_2, updR_mf _ _ _ (show 16 ≠ 24 by decide), es_1, updR_mf _ _ _ (show 16 ≠ 24 by decide), h16])) (show s_4 17 0 = -1 from (by rw [es_4, updR_mf _ _ _ (show 17 ≠ 24 by decide), es_2, updR_mf _ _ _ (show 17 ≠ 24 by decide), es_1, updR_mf _ _ _ (show 17 ≠ 24 by decide), h17]))) v_Model_168 hM.1 rfl rfl rfl (Nat.le_of_ble_eq_true rfl) hl.1 d_Model_follow_133 (by omega) (by decide) ⟨by omega, by omega⟩ (fun locs hS => ?_)
                    have hR := M_Model_firstAt l g hM (show p0 5 = 2 from (by rw [hw5])) (s_4 11 0 + s_4 18 0 - s_4 19 0)
                    rcases faM3 p0 s_4 (s_4 11 0 + s_4 18 0 - s_4 19 0) with fa6 | fa6 | fa6
                    · skip
                      rw [fa6] at hR
                      refine m_callP X hS hR v_Model_204 hM.1 rfl rfl rfl (Nat.le_of_ble_eq_true rfl) hl.1 d_Model_follow_136 (by omega) (by decide) ⟨by omega, by omega⟩ (fun locs hS => ?_)
                      refine m_ist X hS (Or.inr (by omega)) hL26 1 rfl (by omega) (by decide) d_Model_follow_139 (fun H locs hp hcg hS => ?_)
                      have hL26 := hp
                      obtain ⟨r_7, er_7⟩ : ∃ z, z = upd r_5 1 (-1) := ⟨_, rfl⟩
                      rw [← er_7] at hL26
                      have hM := hM.frame (fr.of_chg (A := fun q => q = q26) hcg rfl) (fun q z => by have z : q = q26 := z; have := hM.tq; omega)
                      refine lv_goto (tgt := 38) X.x X.b d_Model_follow_140 (by decide) ?_
                      refine lv_iload_n X.x X.b d_Model_follow_38 rfl (lv_at hl 0 rfl) ?_
                      refine lv_if_le (tgt := 143) X.x X.b d_Model_follow_39 (by decide) (fun c10 => ?_) (fun c10 => ?_)
                      · exact absurd c10 c1
                      · skip
                        have c10q := Int32.not_le.mp c10
                        refine lv_aload_n X.x X.b d_Model_follow_42 rfl (lv_at hl 2 rfl) ?_
                        refine lv_iinc (v := 1) (lv' := [(2, .int 1), (3, .int 0), (1, .ref q26), (0, .ref mo)]) X.x X.b d_Model_follow_43 hl (k := 0) rfl (by decide) (by decide) rfl (fun ls hl => ?_)
                        refine lv_iload_n X.x X.b d_Model_follow_46 rfl (lv_at hl 0 rfl) ?_
                        refine m_ild (v := (-1)) X hL26 1 rfl (by omega) (by decide) (show r_7 1 = (-1) from (by rw [er_7, upd_hit])) d_Model_follow_47 ?_
                        refine lv_istore_n (lv' := [(3, .int (-1)), (2, .int 1), (1, .ref q26), (0, .ref mo)]) X.x X.b d_Model_follow_48 rfl hl (by decide) rfl (fun ls hl => ?_)
                        refine lv_iload_n X.x X.b d_Model_follow_49 rfl (lv_at hl 0 rfl) ?_
                        refine lv_iconst (v := 0) X.x X.b d_Model_follow_50 (by decide) ?_
                        refine lv_aload_n X.x X.b d_Model_follow_51 rfl (lv_at hl 3 rfl) ?_
                        refine m_get (v := .int 2) X ok_Model hM.1 5 (by decide) k_Model_132 (congrArg (fun z => some (Value.int z)) (show p0 5 = 2 from (by rw [hw5]))) d_Model_follow_52 ?_
                        refine lv_iconst (v := 1) X.x X.b d_Model_follow_55 (by decide) ?_
                        refine lv_isub X.x X.b d_Model_follow_56 ?_
                        rw [show (2 - 1 : Int32) = 1 from by decide]
                        refine m_callSP X hS (MP_ans (M_Model_isIn l g (-1) 0 1) (show b2i (0 ≤ (-1) ∧ (-1) ≤ 1) = 0 from by decide)) s_Model_84 rfl rfl (Nat.le_of_ble_eq_true rfl) hl.1 d_Model_follow_57 (by omega) (by decide) ⟨by omega, by omega⟩ (fun locs hS => ?_)
                        refine lv_if_eq (tgt := 38) X.x X.b d_Model_follow_60 (by decide) (fun c11 => ?_) (fun c11 => ?_)
                        · skip
                          refine lv_iload_n X.x X.b d_Model_follow_38 rfl (lv_at hl 1 rfl) ?_
                          refine lv_if_le (tgt := 143) X.x X.b d_Model_follow_39 (by decide) (fun c12 => ?_) (fun c12 => ?_)
                          · exact absurd c12 c4
                          · skip
                            have c12q := Int32.not_le.mp c12
                            refine lv_aload_n X.x X.b d_Model_follow_42 rfl (lv_at hl 2 rfl) ?_
                            refine lv_iinc (v := 0) (lv' := [(2, .int 0), (3, .int (-1)), (1, .ref q26), (0, .ref mo)]) X.x X.b d_Model_follow_43 hl (k := 1) rfl (by decide) (by decide) rfl (fun ls hl => ?_)
                            refine lv_iload_n X.x X.b d_Model_follow_46 rfl (lv_at hl 0 rfl) ?_
                            refine m_ild (v := 1) X hL26 0 rfl (by omega) (by decide) (show r_7 0 = 1 from (by rw [er_7, upd_mi _ _ _ (show (0 : Nat) ≠ 1 by omega), er_5, upd_hit])) d_Model_follow_47 ?_
                            refine lv_istore_n (lv' := [(3, .int 1), (2, .int 0), (1, .ref q26), (0, .ref mo)]) X.x X.b d_Model_follow_48 rfl hl (by decide) rfl (fun ls hl => ?_)
                            refine lv_iload_n X.x X.b d_Model_follow_49 rfl (lv_at hl 0 rfl) ?_
                            refine lv_iconst (v := 0) X.x X.b d_Model_follow_50 (by decide) ?_
                            refine lv_aload_n X.x X.b d_Model_follow_51 rfl (lv_at hl 3 rfl) ?_
                            refine m_get (v := .int 2) X ok_Model hM.1 5 (by decide) k_Model_132 (congrArg (fun z => some (Value.int z)) (show p0 5 = 2 from (by rw [hw5]))) d_Model_follow_52 ?_
                            refine lv_iconst (v := 1) X.x X.b d_Model_follow_55 (by decide) ?_
                            refine lv_isub X.x X.b d_Model_follow_56 ?_
                            rw [show (2 - 1 : Int32) = 1 from by decide]
                            refine m_callSP X hS (MP_ans (M_Model_isIn l g 1 0 1) (show b2i (0 ≤ 1 ∧ 1 ≤ 1) = 1 from by decide)) s_Model_84 rfl rfl (Nat.le_of_ble_eq_true rfl) hl.1 d_Model_follow_57 (by omega) (by decide) ⟨by omega, by omega⟩ (fun locs hS => ?_)
                            refine lv_if_eq (tgt := 38) X.x X.b d_Model_follow_60 (by decide) (fun c13 => ?_) (fun c13 => ?_)
                            · exact absurd c13 c9
                            · skip
                              refine lv_aload_n X.x X.b d_Model_follow_63 rfl (lv_at hl 3 rfl) ?_
                              refine m_get (v := .ref (mo + 19)) X ok_Model hM.1 24 (by decide) k_Model_65 rfl d_Model_follow_64 ?_
                              refine lv_iload_n X.x X.b d_Model_follow_67 rfl (lv_at hl 0 rfl) ?_
                              refine m_zld (v := 0) X hM.a24 1 rfl (by omega) (by decide) (show s_4 24 1 = 0 from (by rw [es_4, updR_mi _ _ _ _ (show (1 : Nat) ≠ 0 by omega), es_2, updR_hit])) d_Model_follow_68 ?_
                              refine lv_if_ne (tgt := 38) X.x X.b d_Model_follow_69 (by decide) (fun c14 => ?_) (fun c14 => ?_)
                              · exact absurd c11 c14
                              · skip
                                refine lv_aload_n X.x X.b d_Model_follow_72 rfl (lv_at hl 3 rfl) ?_
                                refine lv_iload_n X.x X.b d_Model_follow_73 rfl (lv_at hl 0 rfl) ?_
                                have hR := M_Model_goesOn (k := 1) l g hM (by omega)
                                refine m_callP X hS hR v_Model_201 hM.1 rfl rfl rfl (Nat.le_of_ble_eq_true rfl) hl.1 d_Model_follow_74 (by omega) (by decide) ⟨by omega, by omega⟩ (fun locs hS => ?_)
                                refine lv_if_ne (tgt := 93) X.x X.b d_Model_follow_77 (by decide) (fun c15 => ?_) (fun c15 => ?_)
                                · skip
                                  have c15 := b2i_n0 c15
                                  refine lv_aload_n X.x X.b d_Model_follow_93 rfl (lv_at hl 3 rfl) ?_
                                  refine m_get (v := .ref (mo + 19)) X ok_Model hM.1 24 (by decide) k_Model_65 rfl d_Model_follow_94 ?_
                                  refine lv_iload_n X.x X.b d_Model_follow_97 rfl (lv_at hl 0 rfl) ?_
                                  refine lv_iconst (v := 1) X.x X.b d_Model_follow_98 (by decide) ?_
                                  refine m_zst X hS (Or.inl ⟨by omega, by omega⟩) hM.a24 1 rfl (by omega) (by decide) rfl d_Model_follow_99 (fun H locs hp hcg hS => ?_)
                                  have hM := hM.s24 hp hcg
                                  obtain ⟨s_8, es_8⟩ : ∃ z, z = updR s_4 24 (upd (s_4 24) 1 1) := ⟨_, rfl⟩
                                  rw [← es_8] at hM
                                  have hL26 := hL26.off hcg (by omega)
                                  refine lv_aload_n X.x X.b d_Model_follow_100 rfl (lv_at hl 3 rfl) ?_
                                  refine lv_iload_n X.x X.b d_Model_follow_101 rfl (lv_at hl 0 rfl) ?_
                                  have hR := M_Model_goesOn (k := 1) l g hM (by omega)
                                  refine m_callP X hS hR v_Model_201 hM.1 rfl rfl rfl (Nat.le_of_ble_eq_true rfl) hl.1 d_Model_follow_102 (by omega) (by decide) ⟨by omega, by omega⟩ (fun locs hS => ?_)
                                  refine lv_if_eq (tgt := 117) X.x X.b d_Model_follow_105 (by decide) (fun c16 => ?_) (fun c16 => ?_)
                                  · skip
                                    have c16 := b2i_0.mp c16
                                    refine lv_aload_n X.x X.b d_Model_follow_117 rfl (lv_at hl 3 rfl) ?_
                                    refine lv_iload_n X.x X.b d_Model_follow_118 rfl (lv_at hl 0 rfl) ?_
                                    have hR := M_Model_isBranch (k := 1) l g hM (by omega)
                                    rw [show b2i (s_8 8 1 = 3 ∨ s_8 8 1 = 4) = 0 from b2i_f (by rw [show s_8 8 1 = 6 from (by rw [es_8, updR_mf _ _ _ (show 8 ≠ 24 by decide), es_4, updR_mf _ _ _ (show 8 ≠ 24 by decide), es_2, updR_mf _ _ _ (show 8 ≠ 24 by decide), es_1, updR_mf _ _ _ (show 8 ≠ 24 by decide), hw81])]; first | decide | simp)] at hR
                                    refine m_callP X hS hR v_Model_177 hM.1 rfl rfl rfl (Nat.le_of_ble_eq_true rfl) hl.1 d_Model_follow_119 (by omega) (by decide) ⟨by omega, by omega⟩ (fun locs hS => ?_)
                                    refine lv_if_eq (tgt := 140) X.x X.b d_Model_follow_122 (by decide) (fun c17 => ?_) (fun c17 => ?_)
                                    · skip
                                      refine lv_goto (tgt := 38) X.x X.b d_Model_follow_140 (by decide) ?_
                                      refine lv_iload_n X.x X.b d_Model_follow_38 rfl (lv_at hl 1 rfl) ?_
                                      refine lv_if_le (tgt := 143) X.x X.b d_Model_follow_39 (by decide) (fun c18 => ?_) (fun c18 => ?_)
                                      · skip
                                        have c18q := Int32.not_lt.mpr c18
                                        exact m_vret X hS (by omega) (by omega) d_Model_follow_143 rfl ⟨_, hM, (show same [24] s0 s_8 from (by rw [es_8]; exact (show same [24] s0 s_4 from (by rw [es_4]; exact (show same [24] s0 s_2 from (by rw [es_2]; exact (show same [24] s0 s_1 from (by rw [es_1]; exact (same.rf [24] s0).up _ _ (by decide))).up _ _ (by decide))).up _ _ (by decide))).up _ _ (by decide)))⟩
                                      · exact absurd c18 (by decide)
                                    · exact absurd c14 c17
                                  · skip
                                    have c16 := b2i_n0 c16
                                    refine lv_aload_n X.x X.b d_Model_follow_108 rfl (lv_at hl 2 rfl) ?_
                                    refine lv_iload_n X.x X.b d_Model_follow_109 rfl (lv_at hl 1 rfl) ?_
                                    refine lv_iinc (v := 1) (lv' := [(2, .int 1), (3, .int 1), (1, .ref q26), (0, .ref mo)]) X.x X.b d_Model_follow_110 hl (k := 1) rfl (by decide) (by decide) rfl (fun ls hl => ?_)
                                    refine lv_iload_n X.x X.b d_Model_follow_113 rfl (lv_at hl 1 rfl) ?_
                                    refine lv_iconst (v := 1) X.x X.b d_Model_follow_114 (by decide) ?_
                                    refine lv_iadd X.x X.b d_Model_follow_115 ?_
                                    rw [show (1 + 1 : Int32) = 2 from by decide]
                                    refine m_ist X hS (Or.inr (by omega)) hL26 0 rfl (by omega) (by decide) d_Model_follow_116 (fun H locs hp hcg hS => ?_)
                                    have hL26 := hp
                                    obtain ⟨r_9, er_9⟩ : ∃ z, z = upd r_7 0 2 := ⟨_, rfl⟩
                                    rw [← er_9] at hL26
                                    have hM := hM.frame (fr.of_chg (A := fun q => q = q26) hcg rfl) (fun q z => by have z : q = q26 := z; have := hM.tq; omega)
                                    refine lv_aload_n X.x X.b d_Model_follow_117 rfl (lv_at hl 3 rfl) ?_
                                    refine lv_iload_n X.x X.b d_Model_follow_118 rfl (lv_at hl 1 rfl) ?_
                                    have hR := M_Model_isBranch (k := 1) l g hM (by omega)
                                    rw [show b2i (s_8 8 1 = 3 ∨ s_8 8 1 = 4) = 0 from b2i_f (by rw [show s_8 8 1 = 6 from (by rw [es_8, updR_mf _ _ _ (show 8 ≠ 24 by decide), es_4, updR_mf _ _ _ (show 8 ≠ 24 by decide), es_2, updR_mf _ _ _ (show 8 ≠ 24 by decide), es_1, updR_mf _ _ _ (show 8 ≠ 24 by decide), hw81])]; first | decide | simp)] at hR
                                    refine m_callP X hS hR v_Model_177 hM.1 rfl rfl rfl (Nat.le_of_ble_eq_true rfl) hl.1 d_Model_follow_119 (by omega) (by decide) ⟨by omega, by omega⟩ (fun locs hS => ?_)
                                    refine lv_if_eq (tgt := 140) X.x X.b d_Model_follow_122 (by decide) (fun c19 => ?_) (fun c19 => ?_)
                                    · skip
                                      refine lv_goto (tgt := 38) X.x X.b d_Model_follow_140 (by decide) ?_
                                      refine lv_iload_n X.x X.b d_Model_follow_38 rfl (lv_at hl 0 rfl) ?_
                                      refine lv_if_le (tgt := 143) X.x X.b d_Model_follow_39 (by decide) (fun c20 => ?_) (fun c20 => ?_)
                                      · exact absurd c20 c12
                                      · skip
                                        have c20q := Int32.not_le.mp c20
                                        refine lv_aload_n X.x X.b d_Model_follow_42 rfl (lv_at hl 2 rfl) ?_
                                        refine lv_iinc (v := 0) (lv' := [(2, .int 0), (3, .int 1), (1, .ref q26), (0, .ref mo)]) X.x X.b d_Model_follow_43 hl (k := 0) rfl (by decide) (by decide) rfl (fun ls hl => ?_)
                                        refine lv_iload_n X.x X.b d_Model_follow_46 rfl (lv_at hl 0 rfl) ?_
                                        refine m_ild (v := 2) X hL26 0 rfl (by omega) (by decide) (show r_9 0 = 2 from (by rw [er_9, upd_hit])) d_Model_follow_47 ?_
                                        refine lv_istore_n (lv' := [(3, .int 2), (2, .int 0), (1, .ref q26), (0, .ref mo)]) X.x X.b d_Model_follow_48 rfl hl (by decide) rfl (fun ls hl => ?_)
                                        refine lv_iload_n X.x X.b d_Model_follow_49 rfl (lv_at hl 0 rfl) ?_
                                        refine lv_iconst (v := 0) X.x X.b d_Model_follow_50 (by decide) ?_
                                        refine lv_aload_n X.x X.b d_Model_follow_51 rfl (lv_at hl 3 rfl) ?_
                                        refine m_get (v := .int 2) X ok_Model hM.1 5 (by decide) k_Model_132 (congrArg (fun z => some (Value.int z)) (show p0 5 = 2 from (by rw [hw5]))) d_Model_follow_52 ?_
                                        refine lv_iconst (v := 1) X.x X.b d_Model_follow_55 (by decide) ?_
                                        refine lv_isub X.x X.b d_Model_follow_56 ?_
                                        rw [show (2 - 1 : Int32) = 1 from by decide]
                                        refine m_callSP X hS (MP_ans (M_Model_isIn l g 2 0 1) (show b2i (0 ≤ 2 ∧ 2 ≤ 1) = 0 from by decide)) s_Model_84 rfl rfl (Nat.le_of_ble_eq_true rfl) hl.1 d_Model_follow_57 (by omega) (by decide) ⟨by omega, by omega⟩ (fun locs hS => ?_)
                                        refine lv_if_eq (tgt := 38) X.x X.b d_Model_follow_60 (by decide) (fun c21 => ?_) (fun c21 => ?_)
                                        · skip
                                          refine lv_iload_n X.x X.b d_Model_follow_38 rfl (lv_at hl 1 rfl) ?_
                                          refine lv_if_le (tgt := 143) X.x X.b d_Model_follow_39 (by decide) (fun c22 => ?_) (fun c22 => ?_)
                                          · skip
                                            have c22q := Int32.not_lt.mpr c22
                                            exact m_vret X hS (by omega) (by omega) d_Model_follow_143 rfl ⟨_, hM, (show same [24] s0 s_8 from (by rw [es_8]; exact (show same [24] s0 s_4 from (by rw [es_4]; exact (show same [24] s0 s_2 from (by rw [es_2]; exact (show same [24] s0 s_1 from (by rw [es_1]; exact (same.rf [24] s0).up _ _ (by decide))).up _ _ (by decide))).up _ _ (by decide))).up _ _ (by decide)))⟩
                                          · exact absurd c22 (by decide)
                                        · exact absurd c19 c21
                                    · exact absurd c14 c19
                                · skip
                                  have c15 := b2i_0.mp c15
                                  refine lv_aload_n X.x X.b d_Model_follow_80 rfl (lv_at hl 3 rfl) ?_
                                  refine m_get (v := .ref (mo + 3)) X ok_Model hM.1 8 (by decide) k_Model_16 rfl d_Model_follow_81 ?_
                                  refine lv_iload_n X.x X.b d_Model_follow_84 rfl (lv_at hl 0 rfl) ?_
                                  refine m_ild (v := 6) X hM.a8 1 rfl (by omega) (by decide) (show s_4 8 1 = 6 from (by rw [es_4, updR_mf _ _ _ (show 8 ≠ 24 by decide), es_2, updR_mf _ _ _ (show 8 ≠ 24 by decide), es_1, updR_mf _ _ _ (show 8 ≠ 24 by decide), hw81])) d_Model_follow_85 ?_
                                  refine lv_iconst (v := 3) X.x X.b d_Model_follow_86 (by decide) ?_
                                  refine lv_icmp_eq (tgt := 93) X.x X.b d_Model_follow_87 (by decide) (fun c23 => ?_) (fun c23 => ?_)
                                  · exact absurd c23 (by decide)
                                  · skip
                                    refine lv_goto (tgt := 38) X.x X.b d_Model_follow_90 (by decide) ?_
                                    refine lv_iload_n X.x X.b d_Model_follow_38 rfl (lv_at hl 1 rfl) ?_
                                    refine lv_if_le (tgt := 143) X.x X.b d_Model_follow_39 (by decide) (fun c24 => ?_) (fun c24 => ?_)
                                    · skip
                                      have c24q := Int32.not_lt.mpr c24
                                      exact m_vret X hS (by omega) (by omega) d_Model_follow_143 rfl ⟨_, hM, (show same [24] s0 s_4 from (by rw [es_4]; exact (show same [24] s0 s_2 from (by rw [es_2]; exact (show same [24] s0 s_1 from (by rw [es_1]; exact (same.rf [24] s0).up _ _ (by decide))).up _ _ (by decide))).up _ _ (by decide)))⟩
                                    · exact absurd c24 (by decide)
                        · exact absurd c6 c11
                    · skip
                      rw [fa6] at hR
                      refine m_callP X hS hR v_Model_204 hM.1 rfl rfl rfl (Nat.le_of_ble_eq_true rfl) hl.1 d_Model_follow_136 (by omega) (by decide) ⟨by omega, by omega⟩ (fun locs hS => ?_)
                      refine m_ist X hS (Or.inr (by omega)) hL26 1 rfl (by omega) (by decide) d_Model_follow_139 (fun H locs hp hcg hS => ?_)
                      have hL26 := hp
                      obtain ⟨r_10, er_10⟩ : ∃ z, z = upd r_5 1 0 := ⟨_, rfl⟩
                      rw [← er_10] at hL26
                      have hM := hM.frame (fr.of_chg (A := fun q => q = q26) hcg rfl) (fun q z => by have z : q = q26 := z; have := hM.tq; omega)
                      refine lv_goto (tgt := 38) X.x X.b d_Model_follow_140 (by decide) ?_
                      refine lv_iload_n X.x X.b d_Model_follow_38 rfl (lv_at hl 0 rfl) ?_
                      refine lv_if_le (tgt := 143) X.x X.b d_Model_follow_39 (by decide) (fun c25 => ?_) (fun c25 => ?_)
                      · exact absurd c25 c1
                      · skip
                        have c25q := Int32.not_le.mp c25
                        refine lv_aload_n X.x X.b d_Model_follow_42 rfl (lv_at hl 2 rfl) ?_
                        refine lv_iinc (v := 1) (lv' := [(2, .int 1), (3, .int 0), (1, .ref q26), (0, .ref mo)]) X.x X.b d_Model_follow_43 hl (k := 0) rfl (by decide) (by decide) rfl (fun ls hl => ?_)
                        refine lv_iload_n X.x X.b d_Model_follow_46 rfl (lv_at hl 0 rfl) ?_
                        refine m_ild (v := 0) X hL26 1 rfl (by omega) (by decide) (show r_10 1 = 0 from (by rw [er_10, upd_hit])) d_Model_follow_47 ?_
                        refine lv_istore_n (lv' := [(3, .int 0), (2, .int 1), (1, .ref q26), (0, .ref mo)]) X.x X.b d_Model_follow_48 rfl hl (by decide) rfl (fun ls hl => ?_)
                        refine lv_iload_n X.x X.b d_Model_follow_49 rfl (lv_at hl 0 rfl) ?_
                        refine lv_iconst (v := 0) X.x X.b d_Model_follow_50 (by decide) ?_
                        refine lv_aload_n X.x X.b d_Model_follow_51 rfl (lv_at hl 3 rfl) ?_
                        refine m_get (v := .int 2) X ok_Model hM.1 5 (by decide) k_Model_132 (congrArg (fun z => some (Value.int z)) (show p0 5 = 2 from (by rw [hw5]))) d_Model_follow_52 ?_
                        refine lv_iconst (v := 1) X.x X.b d_Model_follow_55 (by decide) ?_
                        refine lv_isub X.x X.b d_Model_follow_56 ?_
                        rw [show (2 - 1 : Int32) = 1 from by decide]
                        refine m_callSP X hS (MP_ans (M_Model_isIn l g 0 0 1) (show b2i (0 ≤ 0 ∧ 0 ≤ 1) = 1 from by decide)) s_Model_84 rfl rfl (Nat.le_of_ble_eq_true rfl) hl.1 d_Model_follow_57 (by omega) (by decide) ⟨by omega, by omega⟩ (fun locs hS => ?_)
                        refine lv_if_eq (tgt := 38) X.x X.b d_Model_follow_60 (by decide) (fun c26 => ?_) (fun c26 => ?_)
                        · exact absurd c26 c9
                        · skip
                          refine lv_aload_n X.x X.b d_Model_follow_63 rfl (lv_at hl 3 rfl) ?_
                          refine m_get (v := .ref (mo + 19)) X ok_Model hM.1 24 (by decide) k_Model_65 rfl d_Model_follow_64 ?_
                          refine lv_iload_n X.x X.b d_Model_follow_67 rfl (lv_at hl 0 rfl) ?_
                          refine m_zld (v := 1) X hM.a24 0 rfl (by omega) (by decide) (show s_4 24 0 = 1 from (by rw [es_4, updR_hit])) d_Model_follow_68 ?_
                          refine lv_if_ne (tgt := 38) X.x X.b d_Model_follow_69 (by decide) (fun c27 => ?_) (fun c27 => ?_)
                          · skip
                            refine lv_iload_n X.x X.b d_Model_follow_38 rfl (lv_at hl 1 rfl) ?_
                            refine lv_if_le (tgt := 143) X.x X.b d_Model_follow_39 (by decide) (fun c28 => ?_) (fun c28 => ?_)
                            · exact absurd c28 c4
                            · skip
                              have c28q := Int32.not_le.mp c28
                              refine lv_aload_n X.x X.b d_Model_follow_42 rfl (lv_at hl 2 rfl) ?_
                              refine lv_iinc (v := 0) (lv' := [(2, .int 0), (3, .int 0), (1, .ref q26), (0, .ref mo)]) X.x X.b d_Model_follow_43 hl (k := 1) rfl (by decide) (by decide) rfl (fun ls hl => ?_)
                              refine lv_iload_n X.x X.b d_Model_follow_46 rfl (lv_at hl 0 rfl) ?_
                              refine m_ild (v := 1) X hL26 0 rfl (by omega) (by decide) (show r_10 0 = 1 from (by rw [er_10, upd_mi _ _ _ (show (0 : Nat) ≠ 1 by omega), er_5, upd_hit])) d_Model_follow_47 ?_
                              refine lv_istore_n (lv' := [(3, .int 1), (2, .int 0), (1, .ref q26), (0, .ref mo)]) X.x X.b d_Model_follow_48 rfl hl (by decide) rfl (fun ls hl => ?_)
                              refine lv_iload_n X.x X.b d_Model_follow_49 rfl (lv_at hl 0 rfl) ?_
                              refine lv_iconst (v := 0) X.x X.b d_Model_follow_50 (by decide) ?_
                              refine lv_aload_n X.x X.b d_Model_follow_51 rfl (lv_at hl 3 rfl) ?_
                              refine m_get (v := .int 2) X ok_Model hM.1 5 (by decide) k_Model_132 (congrArg (fun z => some (Value.int z)) (show p0 5 = 2 from (by rw [hw5]))) d_Model_follow_52 ?_
                              refine lv_iconst (v := 1) X.x X.b d_Model_follow_55 (by decide) ?_
                              refine lv_isub X.x X.b d_Model_follow_56 ?_
                              rw [show (2 - 1 : Int32) = 1 from by decide]
                              refine m_callSP X hS (MP_ans (M_Model_isIn l g 1 0 1) (show b2i (0 ≤ 1 ∧ 1 ≤ 1) = 1 from by decide)) s_Model_84 rfl rfl (Nat.le_of_ble_eq_true rfl) hl.1 d_Model_follow_57 (by omega) (by decide) ⟨by omega, by omega⟩ (fun locs hS => ?_)
                              refine lv_if_eq (tgt := 38) X.x X.b d_Model_follow_60 (by decide) (fun c29 => ?_) (fun c29 => ?_)
                              · exact absurd c29 c27
                              · skip
                                refine lv_aload_n X.x X.b d_Model_follow_63 rfl (lv_at hl 3 rfl) ?_
                                refine m_get (v := .ref (mo + 19)) X ok_Model hM.1 24 (by decide) k_Model_65 rfl d_Model_follow_64 ?_
                                refine lv_iload_n X.x X.b d_Model_follow_67 rfl (lv_at hl 0 rfl) ?_
                                refine m_zld (v := 0) X hM.a24 1 rfl (by omega) (by decide) (show s_4 24 1 = 0 from (by rw [es_4, updR_mi _ _ _ _ (show (1 : Nat) ≠ 0 by omega), es_2, updR_hit])) d_Model_follow_68 ?_
                                refine lv_if_ne (tgt := 38) X.x X.b d_Model_follow_69 (by decide) (fun c30 => ?_) (fun c30 => ?_)
                                · exact absurd c6 c30
                                · skip
                                  refine lv_aload_n X.x X.b d_Model_follow_72 rfl (lv_at hl 3 rfl) ?_
                                  refine lv_iload_n X.x X.b d_Model_follow_73 rfl (lv_at hl 0 rfl) ?_
                                  have hR := M_Model_goesOn (k := 1) l g hM (by omega)
                                  refine m_callP X hS hR v_Model_201 hM.1 rfl rfl rfl (Nat.le_of_ble_eq_true rfl) hl.1 d_Model_follow_74 (by omega) (by decide) ⟨by omega, by omega⟩ (fun locs hS => ?_)
                                  refine lv_if_ne (tgt := 93) X.x X.b d_Model_follow_77 (by decide) (fun c31 => ?_) (fun c31 => ?_)
                                  · skip
                                    have c31 := b2i_n0 c31
                                    refine lv_aload_n X.x X.b d_Model_follow_93 rfl (lv_at hl 3 rfl) ?_
                                    refine m_get (v := .ref (mo + 19)) X ok_Model hM.1 24 (by decide) k_Model_65 rfl d_Model_follow_94 ?_
                                    refine lv_iload_n X.x X.b d_Model_follow_97 rfl (lv_at hl 0 rfl) ?_
                                    refine lv_iconst (v := 1) X.x X.b d_Model_follow_98 (by decide) ?_
                                    refine m_zst X hS (Or.inl ⟨by omega, by omega⟩) hM.a24 1 rfl (by omega) (by decide) rfl d_Model_follow_99 (fun H locs hp hcg hS => ?_)
                                    have hM := hM.s24 hp hcg
                                    obtain ⟨s_11, es_11⟩ : ∃ z, z = updR s_4 24 (upd (s_4 24) 1 1) := ⟨_, rfl⟩
                                    rw [← es_11] at hM
                                    have hL26 := hL26.off hcg (by omega)
                                    refine lv_aload_n X.x X.b d_Model_follow_100 rfl (lv_at hl 3 rfl) ?_
                                    refine lv_iload_n X.x X.b d_Model_follow_101 rfl (lv_at hl 0 rfl) ?_
                                    have hR := M_Model_goesOn (k := 1) l g hM (by omega)
                                    refine m_callP X hS hR v_Model_201 hM.1 rfl rfl rfl (Nat.le_of_ble_eq_true rfl) hl.1 d_Model_follow_102 (by omega) (by decide) ⟨by omega, by omega⟩ (fun locs hS => ?_)
                                    refine lv_if_eq (tgt := 117) X.x X.b d_Model_follow_105 (by decide) (fun c32 => ?_) (fun c32 => ?_)
                                    · skip
                                      have c32 := b2i_0.mp c32
                                      refine lv_aload_n X.x X.b d_Model_follow_117 rfl (lv_at hl 3 rfl) ?_
                                      refine lv_iload_n X.x X.b d_Model_follow_118 rfl (lv_at hl 0 rfl) ?_
                                      have hR := M_Model_isBranch (k := 1) l g hM (by omega)
                                      rw [show b2i (s_11 8 1 = 3 ∨ s_11 8 1 = 4) = 0 from b2i_f (by rw [show s_11 8 1 = 6 from (by rw [es_11, updR_mf _ _ _ (show 8 ≠ 24 by decide), es_4, updR_mf _ _ _ (show 8 ≠ 24 by decide), es_2, updR_mf _ _ _ (show 8 ≠ 24 by decide), es_1, updR_mf _ _ _ (show 8 ≠ 24 by decide), hw81])]; first | decide | simp)] at hR
                                      refine m_callP X hS hR v_Model_177 hM.1 rfl rfl rfl (Nat.le_of_ble_eq_true rfl) hl.1 d_Model_follow_119 (by omega) (by decide) ⟨by omega, by omega⟩ (fun locs hS => ?_)
                                      refine lv_if_eq (tgt := 140) X.x X.b d_Model_follow_122 (by decide) (fun c33 => ?_) (fun c33 => ?_)
                                      · skip
                                        refine lv_goto (tgt := 38) X.x X.b d_Model_follow_140 (by decide) ?_
                                        refine lv_iload_n X.x X.b d_Model_follow_38 rfl (lv_at hl 1 rfl) ?_
                                        refine lv_if_le (tgt := 143) X.x X.b d_Model_follow_39 (by decide) (fun c34 => ?_) (fun c34 => ?_)
                                        · skip
                                          have c34q := Int32.not_lt.mpr c34
                                          exact m_vret X hS (by omega) (by omega) d_Model_follow_143 rfl ⟨_, hM, (show same [24] s0 s_11 from (by rw [es_11]; exact (show same [24] s0 s_4 from (by rw [es_4]; exact (show same [24] s0 s_2 from (by rw [es_2]; exact (show same [24] s0 s_1 from (by rw [es_1]; exact (same.rf [24] s0).up _ _ (by decide))).up _ _ (by decide))).up _ _ (by decide))).up _ _ (by decide)))⟩
                                        · exact absurd c34 (by decide)
                                      · exact absurd c30 c33
                                    · skip
                                      have c32 := b2i_n0 c32
                                      refine lv_aload_n X.x X.b d_Model_follow_108 rfl (lv_at hl 2 rfl) ?_
                                      refine lv_iload_n X.x X.b d_Model_follow_109 rfl (lv_at hl 1 rfl) ?_
                                      refine lv_iinc (v := 1) (lv' := [(2, .int 1), (3, .int 1), (1, .ref q26), (0, .ref mo)]) X.x X.b d_Model_follow_110 hl (k := 1) rfl (by decide) (by decide) rfl (fun ls hl => ?_)
                                      refine lv_iload_n X.x X.b d_Model_follow_113 rfl (lv_at hl 1 rfl) ?_
                                      refine lv_iconst (v := 1) X.x X.b d_Model_follow_114 (by decide) ?_
                                      refine lv_iadd X.x X.b d_Model_follow_115 ?_
                                      rw [show (1 + 1 : Int32) = 2 from by decide]
                                      refine m_ist X hS (Or.inr (by omega)) hL26 0 rfl (by omega) (by decide) d_Model_follow_116 (fun H locs hp hcg hS => ?_)
                                      have hL26 := hp
                                      obtain ⟨r_12, er_12⟩ : ∃ z, z = upd r_10 0 2 := ⟨_, rfl⟩
                                      rw [← er_12] at hL26
                                      have hM := hM.frame (fr.of_chg (A := fun q => q = q26) hcg rfl) (fun q z => by have z : q = q26 := z; have := hM.tq; omega)
                                      refine lv_aload_n X.x X.b d_Model_follow_117 rfl (lv_at hl 3 rfl) ?_
                                      refine lv_iload_n X.x X.b d_Model_follow_118 rfl (lv_at hl 1 rfl) ?_
                                      have hR := M_Model_isBranch (k := 1) l g hM (by omega)
                                      rw [show b2i (s_11 8 1 = 3 ∨ s_11 8 1 = 4) = 0 from b2i_f (by rw [show s_11 8 1 = 6 from (by rw [es_11, updR_mf _ _ _ (show 8 ≠ 24 by decide), es_4, updR_mf _ _ _ (show 8 ≠ 24 by decide), es_2, updR_mf _ _ _ (show 8 ≠ 24 by decide), es_1, updR_mf _ _ _ (show 8 ≠ 24 by decide), hw81])]; first | decide | simp)] at hR
                                      refine m_callP X hS hR v_Model_177 hM.1 rfl rfl rfl (Nat.le_of_ble_eq_true rfl) hl.1 d_Model_follow_119 (by omega) (by decide) ⟨by omega, by omega⟩ (fun locs hS => ?_)
                                      refine lv_if_eq (tgt := 140) X.x X.b d_Model_follow_122 (by decide) (fun c35 => ?_) (fun c35 => ?_)
                                      · skip
                                        refine lv_goto (tgt := 38) X.x X.b d_Model_follow_140 (by decide) ?_
                                        refine lv_iload_n X.x X.b d_Model_follow_38 rfl (lv_at hl 0 rfl) ?_
                                        refine lv_if_le (tgt := 143) X.x X.b d_Model_follow_39 (by decide) (fun c36 => ?_) (fun c36 => ?_)
                                        · exact absurd c36 c28
                                        · skip
                                          have c36q := Int32.not_le.mp c36
                                          refine lv_aload_n X.x X.b d_Model_follow_42 rfl (lv_at hl 2 rfl) ?_
                                          refine lv_iinc (v := 0) (lv' := [(2, .int 0), (3, .int 1), (1, .ref q26), (0, .ref mo)]) X.x X.b d_Model_follow_43 hl (k := 0) rfl (by decide) (by decide) rfl (fun ls hl => ?_)
                                          refine lv_iload_n X.x X.b d_Model_follow_46 rfl (lv_at hl 0 rfl) ?_
                                          refine m_ild (v := 2) X hL26 0 rfl (by omega) (by decide) (show r_12 0 = 2 from (by rw [er_12, upd_hit])) d_Model_follow_47 ?_
                                          refine lv_istore_n (lv' := [(3, .int 2), (2, .int 0), (1, .ref q26), (0, .ref mo)]) X.x X.b d_Model_follow_48 rfl hl (by decide) rfl (fun ls hl => ?_)
                                          refine lv_iload_n X.x X.b d_Model_follow_49 rfl (lv_at hl 0 rfl) ?_
                                          refine lv_iconst (v := 0) X.x X.b d_Model_follow_50 (by decide) ?_
                                          refine lv_aload_n X.x X.b d_Model_follow_51 rfl (lv_at hl 3 rfl) ?_
                                          refine m_get (v := .int 2) X ok_Model hM.1 5 (by decide) k_Model_132 (congrArg (fun z => some (Value.int z)) (show p0 5 = 2 from (by rw [hw5]))) d_Model_follow_52 ?_
                                          refine lv_iconst (v := 1) X.x X.b d_Model_follow_55 (by decide) ?_
                                          refine lv_isub X.x X.b d_Model_follow_56 ?_
                                          rw [show (2 - 1 : Int32) = 1 from by decide]
                                          refine m_callSP X hS (MP_ans (M_Model_isIn l g 2 0 1) (show b2i (0 ≤ 2 ∧ 2 ≤ 1) = 0 from by decide)) s_Model_84 rfl rfl (Nat.le_of_ble_eq_true rfl) hl.1 d_Model_follow_57 (by omega) (by decide) ⟨by omega, by omega⟩ (fun locs hS => ?_)
                                          refine lv_if_eq (tgt := 38) X.x X.b d_Model_follow_60 (by decide) (fun c37 => ?_) (fun c37 => ?_)
                                          · skip
                                            refine lv_iload_n X.x X.b d_Model_follow_38 rfl (lv_at hl 1 rfl) ?_
                                            refine lv_if_le (tgt := 143) X.x X.b d_Model_follow_39 (by decide) (fun c38 => ?_) (fun c38 => ?_)
                                            · skip
                                              have c38q := Int32.not_lt.mpr c38
                                              exact m_vret X hS (by omega) (by omega) d_Model_follow_143 rfl ⟨_, hM, (show same [24] s0 s_11 from (by rw [es_11]; exact (show same [24] s0 s_4 from (by rw [es_4]; exact (show same [24] s0 s_2 from (by rw [es_2]; exact (show same [24] s0 s_1 from (by rw [es_1]; exact (same.rf [24] s0).up _ _ (by decide))).up _ _ (by decide))).up _ _ (by decide))).up _ _ (by decide)))⟩
                                            · exact absurd c38 (by decide)
                                          · exact absurd c35 c37
                                      · exact absurd c30 c35
                                  · skip
                                    have c31 := b2i_0.mp c31
                                    refine lv_aload_n X.x X.b d_Model_follow_80 rfl (lv_at hl 3 rfl) ?_
                                    refine m_get (v := .ref (mo + 3)) X ok_Model hM.1 8 (by decide) k_Model_16 rfl d_Model_follow_81 ?_
                                    refine lv_iload_n X.x X.b d_Model_follow_84 rfl (lv_at hl 0 rfl) ?_
                                    refine m_ild (v := 6) X hM.a8 1 rfl (by omega) (by decide) (show s_4 8 1 = 6 from (by rw [es_4, updR_mf _ _ _ (show 8 ≠ 24 by decide), es_2, updR_mf _ _ _ (show 8 ≠ 24 by decide), es_1, updR_mf _ _ _ (show 8 ≠ 24 by decide), hw81])) d_Model_follow_85 ?_
                                    refine lv_iconst (v := 3) X.x X.b d_Model_follow_86 (by decide) ?_
                                    refine lv_icmp_eq (tgt := 93) X.x X.b d_Model_follow_87 (by decide) (fun c39 => ?_) (fun c39 => ?_)
                                    · exact absurd c39 (by decide)
                                    · skip
                                      refine lv_goto (tgt := 38) X.x X.b d_Model_follow_90 (by decide) ?_
                                      refine lv_iload_n X.x X.b d_Model_follow_38 rfl (lv_at hl 1 rfl) ?_
                                      refine lv_if_le (tgt := 143) X.x X.b d_Model_follow_39 (by decide) (fun c40 => ?_) (fun c40 => ?_)
                                      · skip
                                        have c40q := Int32.not_lt.mpr c40
                                        exact m_vret X hS (by omega) (by omega) d_Model_follow_143 rfl ⟨_, hM, (show same [24] s0 s_4 from (by rw [es_4]; exact (show same [24] s0 s_2 from (by rw [es_2]; exact (show same [24] s0 s_1 from (by rw [es_1]; exact (same.rf [24] s0).up _ _ (by decide))).up _ _ (by decide))).up _ _ (by decide)))⟩
                                      · exact absurd c40 (by decide)
                          · exact absurd c27 c26
                    · skip
                      rw [fa6] at hR
                      refine m_callP X hS hR v_Model_204 hM.1 rfl rfl rfl (Nat.le_of_ble_eq_true rfl) hl.1 d_Model_follow_136 (by omega) (by decide) ⟨by omega, by omega⟩ (fun locs hS => ?_)
                      refine m_ist X hS (Or.inr (by omega)) hL26 1 rfl (by omega) (by decide) d_Model_follow_139 (fun H locs hp hcg hS => ?_)
                      have hL26 := hp
                      obtain ⟨r_13, er_13⟩ : ∃ z, z = upd r_5 1 1 := ⟨_, rfl⟩
                      rw [← er_13] at hL26
                      have hM := hM.frame (fr.of_chg (A := fun q => q = q26) hcg rfl) (fun q z => by have z : q = q26 := z; have := hM.tq; omega)
                      refine lv_goto (tgt := 38) X.x X.b d_Model_follow_140 (by decide) ?_
                      refine lv_iload_n X.x X.b d_Model_follow_38 rfl (lv_at hl 0 rfl) ?_
                      refine lv_if_le (tgt := 143) X.x X.b d_Model_follow_39 (by decide) (fun c41 => ?_) (fun c41 => ?_)
                      · exact absurd c41 c1
                      · skip
                        have c41q := Int32.not_le.mp c41
                        refine lv_aload_n X.x X.b d_Model_follow_42 rfl (lv_at hl 2 rfl) ?_
                        refine lv_iinc (v := 1) (lv' := [(2, .int 1), (3, .int 0), (1, .ref q26), (0, .ref mo)]) X.x X.b d_Model_follow_43 hl (k := 0) rfl (by decide) (by decide) rfl (fun ls hl => ?_)
                        refine lv_iload_n X.x X.b d_Model_follow_46 rfl (lv_at hl 0 rfl) ?_
                        refine m_ild (v := 1) X hL26 1 rfl (by omega) (by decide) (show r_13 1 = 1 from (by rw [er_13, upd_hit])) d_Model_follow_47 ?_
                        refine lv_istore_n (lv' := [(3, .int 1), (2, .int 1), (1, .ref q26), (0, .ref mo)]) X.x X.b d_Model_follow_48 rfl hl (by decide) rfl (fun ls hl => ?_)
                        refine lv_iload_n X.x X.b d_Model_follow_49 rfl (lv_at hl 0 rfl) ?_
                        refine lv_iconst (v := 0) X.x X.b d_Model_follow_50 (by decide) ?_
                        refine lv_aload_n X.x X.b d_Model_follow_51 rfl (lv_at hl 3 rfl) ?_
                        refine m_get (v := .int 2) X ok_Model hM.1 5 (by decide) k_Model_132 (congrArg (fun z => some (Value.int z)) (show p0 5 = 2 from (by rw [hw5]))) d_Model_follow_52 ?_
                        refine lv_iconst (v := 1) X.x X.b d_Model_follow_55 (by decide) ?_
                        refine lv_isub X.x X.b d_Model_follow_56 ?_
                        rw [show (2 - 1 : Int32) = 1 from by decide]
                        refine m_callSP X hS (MP_ans (M_Model_isIn l g 1 0 1) (show b2i (0 ≤ 1 ∧ 1 ≤ 1) = 1 from by decide)) s_Model_84 rfl rfl (Nat.le_of_ble_eq_true rfl) hl.1 d_Model_follow_57 (by omega) (by decide) ⟨by omega, by omega⟩ (fun locs hS => ?_)
                        refine lv_if_eq (tgt := 38) X.x X.b d_Model_follow_60 (by decide) (fun c42 => ?_) (fun c42 => ?_)
                        · exact absurd c42 c9
                        · skip
                          refine lv_aload_n X.x X.b d_Model_follow_63 rfl (lv_at hl 3 rfl) ?_
                          refine m_get (v := .ref (mo + 19)) X ok_Model hM.1 24 (by decide) k_Model_65 rfl d_Model_follow_64 ?_
                          refine lv_iload_n X.x X.b d_Model_follow_67 rfl (lv_at hl 0 rfl) ?_
                          refine m_zld (v := 0) X hM.a24 1 rfl (by omega) (by decide) (show s_4 24 1 = 0 from (by rw [es_4, updR_mi _ _ _ _ (show (1 : Nat) ≠ 0 by omega), es_2, updR_hit])) d_Model_follow_68 ?_
                          refine lv_if_ne (tgt := 38) X.x X.b d_Model_follow_69 (by decide) (fun c43 => ?_) (fun c43 => ?_)
                          · exact absurd c6 c43
                          · skip
                            refine lv_aload_n X.x X.b d_Model_follow_72 rfl (lv_at hl 3 rfl) ?_
                            refine lv_iload_n X.x X.b d_Model_follow_73 rfl (lv_at hl 0 rfl) ?_
                            have hR := M_Model_goesOn (k := 1) l g hM (by omega)
                            refine m_callP X hS hR v_Model_201 hM.1 rfl rfl rfl (Nat.le_of_ble_eq_true rfl) hl.1 d_Model_follow_74 (by omega) (by decide) ⟨by omega, by omega⟩ (fun locs hS => ?_)
                            refine lv_if_ne (tgt := 93) X.x X.b d_Model_follow_77 (by decide) (fun c44 => ?_) (fun c44 => ?_)
                            · skip
                              have c44 := b2i_n0 c44
                              refine lv_aload_n X.x X.b d_Model_follow_93 rfl (lv_at hl 3 rfl) ?_
                              refine m_get (v := .ref (mo + 19)) X ok_Model hM.1 24 (by decide) k_Model_65 rfl d_Model_follow_94 ?_
                              refine lv_iload_n X.x X.b d_Model_follow_97 rfl (lv_at hl 0 rfl) ?_
                              refine lv_iconst (v := 1) X.x X.b d_Model_follow_98 (by decide) ?_
                              refine m_zst X hS (Or.inl ⟨by omega, by omega⟩) hM.a24 1 rfl (by omega) (by decide) rfl d_Model_follow_99 (fun H locs hp hcg hS => ?_)
                              have hM := hM.s24 hp hcg
                              obtain ⟨s_14, es_14⟩ : ∃ z, z = updR s_4 24 (upd (s_4 24) 1 1) := ⟨_, rfl⟩
                              rw [← es_14] at hM
                              have hL26 := hL26.off hcg (by omega)
                              refine lv_aload_n X.x X.b d_Model_follow_100 rfl (lv_at hl 3 rfl) ?_
                              refine lv_iload_n X.x X.b d_Model_follow_101 rfl (lv_at hl 0 rfl) ?_
                              have hR := M_Model_goesOn (k := 1) l g hM (by omega)
                              refine m_callP X hS hR v_Model_201 hM.1 rfl rfl rfl (Nat.le_of_ble_eq_true rfl) hl.1 d_Model_follow_102 (by omega) (by decide) ⟨by omega, by omega⟩ (fun locs hS => ?_)
                              refine lv_if_eq (tgt := 117) X.x X.b d_Model_follow_105 (by decide) (fun c45 => ?_) (fun c45 => ?_)
                              · skip
                                have c45 := b2i_0.mp c45
                                refine lv_aload_n X.x X.b d_Model_follow_117 rfl (lv_at hl 3 rfl) ?_
                                refine lv_iload_n X.x X.b d_Model_follow_118 rfl (lv_at hl 0 rfl) ?_
                                have hR := M_Model_isBranch (k := 1) l g hM (by omega)
                                rw [show b2i (s_14 8 1 = 3 ∨ s_14 8 1 = 4) = 0 from b2i_f (by rw [show s_14 8 1 = 6 from (by rw [es_14, updR_mf _ _ _ (show 8 ≠ 24 by decide), es_4, updR_mf _ _ _ (show 8 ≠ 24 by decide), es_2, updR_mf _ _ _ (show 8 ≠ 24 by decide), es_1, updR_mf _ _ _ (show 8 ≠ 24 by decide), hw81])]; first | decide | simp)] at hR
                                refine m_callP X hS hR v_Model_177 hM.1 rfl rfl rfl (Nat.le_of_ble_eq_true rfl) hl.1 d_Model_follow_119 (by omega) (by decide) ⟨by omega, by omega⟩ (fun locs hS => ?_)
                                refine lv_if_eq (tgt := 140) X.x X.b d_Model_follow_122 (by decide) (fun c46 => ?_) (fun c46 => ?_)
                                · skip
                                  refine lv_goto (tgt := 38) X.x X.b d_Model_follow_140 (by decide) ?_
                                  refine lv_iload_n X.x X.b d_Model_follow_38 rfl (lv_at hl 1 rfl) ?_
                                  refine lv_if_le (tgt := 143) X.x X.b d_Model_follow_39 (by decide) (fun c47 => ?_) (fun c47 => ?_)
                                  · exact absurd c47 c4
                                  · skip
                                    have c47q := Int32.not_le.mp c47
                                    refine lv_aload_n X.x X.b d_Model_follow_42 rfl (lv_at hl 2 rfl) ?_
                                    refine lv_iinc (v := 0) (lv' := [(2, .int 0), (3, .int 1), (1, .ref q26), (0, .ref mo)]) X.x X.b d_Model_follow_43 hl (k := 1) rfl (by decide) (by decide) rfl (fun ls hl => ?_)
                                    refine lv_iload_n X.x X.b d_Model_follow_46 rfl (lv_at hl 0 rfl) ?_
                                    refine m_ild (v := 1) X hL26 0 rfl (by omega) (by decide) (show r_13 0 = 1 from (by rw [er_13, upd_mi _ _ _ (show (0 : Nat) ≠ 1 by omega), er_5, upd_hit])) d_Model_follow_47 ?_
                                    refine lv_istore_n (lv' := [(3, .int 1), (2, .int 0), (1, .ref q26), (0, .ref mo)]) X.x X.b d_Model_follow_48 rfl hl (by decide) rfl (fun ls hl => ?_)
                                    refine lv_iload_n X.x X.b d_Model_follow_49 rfl (lv_at hl 0 rfl) ?_
                                    refine lv_iconst (v := 0) X.x X.b d_Model_follow_50 (by decide) ?_
                                    refine lv_aload_n X.x X.b d_Model_follow_51 rfl (lv_at hl 3 rfl) ?_
                                    refine m_get (v := .int 2) X ok_Model hM.1 5 (by decide) k_Model_132 (congrArg (fun z => some (Value.int z)) (show p0 5 = 2 from (by rw [hw5]))) d_Model_follow_52 ?_
                                    refine lv_iconst (v := 1) X.x X.b d_Model_follow_55 (by decide) ?_
                                    refine lv_isub X.x X.b d_Model_follow_56 ?_
                                    rw [show (2 - 1 : Int32) = 1 from by decide]
                                    refine m_callSP X hS (MP_ans (M_Model_isIn l g 1 0 1) (show b2i (0 ≤ 1 ∧ 1 ≤ 1) = 1 from by decide)) s_Model_84 rfl rfl (Nat.le_of_ble_eq_true rfl) hl.1 d_Model_follow_57 (by omega) (by decide) ⟨by omega, by omega⟩ (fun locs hS => ?_)
                                    refine lv_if_eq (tgt := 38) X.x X.b d_Model_follow_60 (by decide) (fun c48 => ?_) (fun c48 => ?_)
                                    · exact absurd c48 c42
                                    · skip
                                      refine lv_aload_n X.x X.b d_Model_follow_63 rfl (lv_at hl 3 rfl) ?_
                                      refine m_get (v := .ref (mo + 19)) X ok_Model hM.1 24 (by decide) k_Model_65 rfl d_Model_follow_64 ?_
                                      refine lv_iload_n X.x X.b d_Model_follow_67 rfl (lv_at hl 0 rfl) ?_
                                      refine m_zld (v := 1) X hM.a24 1 rfl (by omega) (by decide) (show s_14 24 1 = 1 from (by rw [es_14, updR_hit])) d_Model_follow_68 ?_
                                      refine lv_if_ne (tgt := 38) X.x X.b d_Model_follow_69 (by decide) (fun c49 => ?_) (fun c49 => ?_)
                                      · skip
                                        refine lv_iload_n X.x X.b d_Model_follow_38 rfl (lv_at hl 1 rfl) ?_
                                        refine lv_if_le (tgt := 143) X.x X.b d_Model_follow_39 (by decide) (fun c50 => ?_) (fun c50 => ?_)
                                        · skip
                                          have c50q := Int32.not_lt.mpr c50
                                          exact m_vret X hS (by omega) (by omega) d_Model_follow_143 rfl ⟨_, hM, (show same [24] s0 s_14 from (by rw [es_14]; exact (show same [24] s0 s_4 from (by rw [es_4]; exact (show same [24] s0 s_2 from (by rw [es_2]; exact (show same [24] s0 s_1 from (by rw [es_1]; exact (same.rf [24] s0).up _ _ (by decide))).up _ _ (by decide))).up _ _ (by decide))).up _ _ (by decide)))⟩
                                        · exact absurd c50 (by decide)
                                      · exact absurd c49 c48
                                · exact absurd c43 c46
                              · skip
                                have c45 := b2i_n0 c45
                                refine lv_aload_n X.x X.b d_Model_follow_108 rfl (lv_at hl 2 rfl) ?_
                                refine lv_iload_n X.x X.b d_Model_follow_109 rfl (lv_at hl 1 rfl) ?_
                                refine lv_iinc (v := 2) (lv' := [(2, .int 2), (3, .int 1), (1, .ref q26), (0, .ref mo)]) X.x X.b d_Model_follow_110 hl (k := 1) rfl (by decide) (by decide) rfl (fun ls hl => ?_)
                                refine lv_iload_n X.x X.b d_Model_follow_113 rfl (lv_at hl 1 rfl) ?_
                                refine lv_iconst (v := 1) X.x X.b d_Model_follow_114 (by decide) ?_
                                refine lv_iadd X.x X.b d_Model_follow_115 ?_
                                rw [show (1 + 1 : Int32) = 2 from by decide]
                                refine m_ist X hS (Or.inr (by omega)) hL26 1 rfl (by omega) (by decide) d_Model_follow_116 (fun H locs hp hcg hS => ?_)
                                have hL26 := hp
                                obtain ⟨r_15, er_15⟩ : ∃ z, z = upd r_13 1 2 := ⟨_, rfl⟩
                                rw [← er_15] at hL26
                                have hM := hM.frame (fr.of_chg (A := fun q => q = q26) hcg rfl) (fun q z => by have z : q = q26 := z; have := hM.tq; omega)
                                refine lv_aload_n X.x X.b d_Model_follow_117 rfl (lv_at hl 3 rfl) ?_
                                refine lv_iload_n X.x X.b d_Model_follow_118 rfl (lv_at hl 1 rfl) ?_
                                have hR := M_Model_isBranch (k := 1) l g hM (by omega)
                                rw [show b2i (s_14 8 1 = 3 ∨ s_14 8 1 = 4) = 0 from b2i_f (by rw [show s_14 8 1 = 6 from (by rw [es_14, updR_mf _ _ _ (show 8 ≠ 24 by decide), es_4, updR_mf _ _ _ (show 8 ≠ 24 by decide), es_2, updR_mf _ _ _ (show 8 ≠ 24 by decide), es_1, updR_mf _ _ _ (show 8 ≠ 24 by decide), hw81])]; first | decide | simp)] at hR
                                refine m_callP X hS hR v_Model_177 hM.1 rfl rfl rfl (Nat.le_of_ble_eq_true rfl) hl.1 d_Model_follow_119 (by omega) (by decide) ⟨by omega, by omega⟩ (fun locs hS => ?_)
                                refine lv_if_eq (tgt := 140) X.x X.b d_Model_follow_122 (by decide) (fun c51 => ?_) (fun c51 => ?_)
                                · skip
                                  refine lv_goto (tgt := 38) X.x X.b d_Model_follow_140 (by decide) ?_
                                  refine lv_iload_n X.x X.b d_Model_follow_38 rfl (lv_at hl 0 rfl) ?_
                                  refine lv_if_le (tgt := 143) X.x X.b d_Model_follow_39 (by decide) (fun c52 => ?_) (fun c52 => ?_)
                                  · exact absurd c52 c41
                                  · skip
                                    have c52q := Int32.not_le.mp c52
                                    refine lv_aload_n X.x X.b d_Model_follow_42 rfl (lv_at hl 2 rfl) ?_
                                    refine lv_iinc (v := 1) (lv' := [(2, .int 1), (3, .int 1), (1, .ref q26), (0, .ref mo)]) X.x X.b d_Model_follow_43 hl (k := 0) rfl (by decide) (by decide) rfl (fun ls hl => ?_)
                                    refine lv_iload_n X.x X.b d_Model_follow_46 rfl (lv_at hl 0 rfl) ?_
                                    refine m_ild (v := 2) X hL26 1 rfl (by omega) (by decide) (show r_15 1 = 2 from (by rw [er_15, upd_hit])) d_Model_follow_47 ?_
                                    refine lv_istore_n (lv' := [(3, .int 2), (2, .int 1), (1, .ref q26), (0, .ref mo)]) X.x X.b d_Model_follow_48 rfl hl (by decide) rfl (fun ls hl => ?_)
                                    refine lv_iload_n X.x X.b d_Model_follow_49 rfl (lv_at hl 0 rfl) ?_
                                    refine lv_iconst (v := 0) X.x X.b d_Model_follow_50 (by decide) ?_
                                    refine lv_aload_n X.x X.b d_Model_follow_51 rfl (lv_at hl 3 rfl) ?_
                                    refine m_get (v := .int 2) X ok_Model hM.1 5 (by decide) k_Model_132 (congrArg (fun z => some (Value.int z)) (show p0 5 = 2 from (by rw [hw5]))) d_Model_follow_52 ?_
                                    refine lv_iconst (v := 1) X.x X.b d_Model_follow_55 (by decide) ?_
                                    refine lv_isub X.x X.b d_Model_follow_56 ?_
                                    rw [show (2 - 1 : Int32) = 1 from by decide]
                                    refine m_callSP X hS (MP_ans (M_Model_isIn l g 2 0 1) (show b2i (0 ≤ 2 ∧ 2 ≤ 1) = 0 from by decide)) s_Model_84 rfl rfl (Nat.le_of_ble_eq_true rfl) hl.1 d_Model_follow_57 (by omega) (by decide) ⟨by omega, by omega⟩ (fun locs hS => ?_)
                                    refine lv_if_eq (tgt := 38) X.x X.b d_Model_follow_60 (by decide) (fun c53 => ?_) (fun c53 => ?_)
                                    · skip
                                      refine lv_iload_n X.x X.b d_Model_follow_38 rfl (lv_at hl 1 rfl) ?_
                                      refine lv_if_le (tgt := 143) X.x X.b d_Model_follow_39 (by decide) (fun c54 => ?_) (fun c54 => ?_)
                                      · exact absurd c54 c4
                                      · skip
                                        have c54q := Int32.not_le.mp c54
                                        refine lv_aload_n X.x X.b d_Model_follow_42 rfl (lv_at hl 2 rfl) ?_
                                        refine lv_iinc (v := 0) (lv' := [(2, .int 0), (3, .int 2), (1, .ref q26), (0, .ref mo)]) X.x X.b d_Model_follow_43 hl (k := 1) rfl (by decide) (by decide) rfl (fun ls hl => ?_)
                                        refine lv_iload_n X.x X.b d_Model_follow_46 rfl (lv_at hl 0 rfl) ?_
                                        refine m_ild (v := 1) X hL26 0 rfl (by omega) (by decide) (show r_15 0 = 1 from (by rw [er_15, upd_mi _ _ _ (show (0 : Nat) ≠ 1 by omega), er_13, upd_mi _ _ _ (show (0 : Nat) ≠ 1 by omega), er_5, upd_hit])) d_Model_follow_47 ?_
                                        refine lv_istore_n (lv' := [(3, .int 1), (2, .int 0), (1, .ref q26), (0, .ref mo)]) X.x X.b d_Model_follow_48 rfl hl (by decide) rfl (fun ls hl => ?_)
                                        refine lv_iload_n X.x X.b d_Model_follow_49 rfl (lv_at hl 0 rfl) ?_
                                        refine lv_iconst (v := 0) X.x X.b d_Model_follow_50 (by decide) ?_
                                        refine lv_aload_n X.x X.b d_Model_follow_51 rfl (lv_at hl 3 rfl) ?_
                                        refine m_get (v := .int 2) X ok_Model hM.1 5 (by decide) k_Model_132 (congrArg (fun z => some (Value.int z)) (show p0 5 = 2 from (by rw [hw5]))) d_Model_follow_52 ?_
                                        refine lv_iconst (v := 1) X.x X.b d_Model_follow_55 (by decide) ?_
                                        refine lv_isub X.x X.b d_Model_follow_56 ?_
                                        rw [show (2 - 1 : Int32) = 1 from by decide]
                                        refine m_callSP X hS (MP_ans (M_Model_isIn l g 1 0 1) (show b2i (0 ≤ 1 ∧ 1 ≤ 1) = 1 from by decide)) s_Model_84 rfl rfl (Nat.le_of_ble_eq_true rfl) hl.1 d_Model_follow_57 (by omega) (by decide) ⟨by omega, by omega⟩ (fun locs hS => ?_)
                                        refine lv_if_eq (tgt := 38) X.x X.b d_Model_follow_60 (by decide) (fun c55 => ?_) (fun c55 => ?_)
                                        · exact absurd c55 c42
                                        · skip
                                          refine lv_aload_n X.x X.b d_Model_follow_63 rfl (lv_at hl 3 rfl) ?_
                                          refine m_get (v := .ref (mo + 19)) X ok_Model hM.1 24 (by decide) k_Model_65 rfl d_Model_follow_64 ?_
                                          refine lv_iload_n X.x X.b d_Model_follow_67 rfl (lv_at hl 0 rfl) ?_
                                          refine m_zld (v := 1) X hM.a24 1 rfl (by omega) (by decide) (show s_14 24 1 = 1 from (by rw [es_14, updR_hit])) d_Model_follow_68 ?_
                                          refine lv_if_ne (tgt := 38) X.x X.b d_Model_follow_69 (by decide) (fun c56 => ?_) (fun c56 => ?_)
                                          · skip
                                            refine lv_iload_n X.x X.b d_Model_follow_38 rfl (lv_at hl 1 rfl) ?_
                                            refine lv_if_le (tgt := 143) X.x X.b d_Model_follow_39 (by decide) (fun c57 => ?_) (fun c57 => ?_)
                                            · skip
                                              have c57q := Int32.not_lt.mpr c57
                                              exact m_vret X hS (by omega) (by omega) d_Model_follow_143 rfl ⟨_, hM, (show same [24] s0 s_14 from (by rw [es_14]; exact (show same [24] s0 s_4 from (by rw [es_4]; exact (show same [24] s0 s_2 from (by rw [es_2]; exact (show same [24] s0 s_1 from (by rw [es_1]; exact (same.rf [24] s0).up _ _ (by decide))).up _ _ (by decide))).up _ _ (by decide))).up _ _ (by decide)))⟩
                                            · exact absurd c57 (by decide)
                                          · exact absurd c56 c55
                                    · exact absurd c51 c53
                                · exact absurd c43 c51
                            · skip
                              have c44 := b2i_0.mp c44
                              refine lv_aload_n X.x X.b d_Model_follow_80 rfl (lv_at hl 3 rfl) ?_
                              refine m_get (v := .ref (mo + 3)) X ok_Model hM.1 8 (by decide) k_Model_16 rfl d_Model_follow_81 ?_
                              refine lv_iload_n X.x X.b d_Model_follow_84 rfl (lv_at hl 0 rfl) ?_
                              refine m_ild (v := 6) X hM.a8 1 rfl (by omega) (by decide) (show s_4 8 1 = 6 from (by rw [es_4, updR_mf _ _ _ (show 8 ≠ 24 by decide), es_2, updR_mf _ _ _ (show 8 ≠ 24 by decide), es_1, updR_mf _ _ _ (show 8 ≠ 24 by decide), hw81])) d_Model_follow_85 ?_
                              refine lv_iconst (v := 3) X.x X.b d_Model_follow_86 (by decide) ?_
                              refine lv_icmp_eq (tgt := 93) X.x X.b d_Model_follow_87 (by decide) (fun c58 => ?_) (fun c58 => ?_)
                              · exact absurd c58 (by decide)
                              · skip
                                refine lv_goto (tgt := 38) X.x X.b d_Model_follow_90 (by decide) ?_
                                refine lv_iload_n X.x X.b d_Model_follow_38 rfl (lv_at hl 1 rfl) ?_
                                refine lv_if_le (tgt := 143) X.x X.b d_Model_follow_39 (by decide) (fun c59 => ?_) (fun c59 => ?_)
                                · exact absurd c59 c4
                                · skip
                                  have c59q := Int32.not_le.mp c59
                                  refine lv_aload_n X.x X.b d_Model_follow_42 rfl (lv_at hl 2 rfl) ?_
                                  refine lv_iinc (v := 0) (lv' := [(2, .int 0), (3, .int 1), (1, .ref q26), (0, .ref mo)]) X.x X.b d_Model_follow_43 hl (k := 1) rfl (by decide) (by decide) rfl (fun ls hl => ?_)
                                  refine lv_iload_n X.x X.b d_Model_follow_46 rfl (lv_at hl 0 rfl) ?_
                                  refine m_ild (v := 1) X hL26 0 rfl (by omega) (by decide) (show r_13 0 = 1 from (by rw [er_13, upd_mi _ _ _ (show (0 : Nat) ≠ 1 by omega), er_5, upd_hit])) d_Model_follow_47 ?_
                                  refine lv_istore_n (lv' := [(3, .int 1), (2, .int 0), (1, .ref q26), (0, .ref mo)]) X.x X.b d_Model_follow_48 rfl hl (by decide) rfl (fun ls hl => ?_)
                                  refine lv_iload_n X.x X.b d_Model_follow_49 rfl (lv_at hl 0 rfl) ?_
                                  refine lv_iconst (v := 0) X.x X.b d_Model_follow_50 (by decide) ?_
                                  refine lv_aload_n X.x X.b d_Model_follow_51 rfl (lv_at hl 3 rfl) ?_
                                  refine m_get (v := .int 2) X ok_Model hM.1 5 (by decide) k_Model_132 (congrArg (fun z => some (Value.int z)) (show p0 5 = 2 from (by rw [hw5]))) d_Model_follow_52 ?_
                                  refine lv_iconst (v := 1) X.x X.b d_Model_follow_55 (by decide) ?_
                                  refine lv_isub X.x X.b d_Model_follow_56 ?_
                                  rw [show (2 - 1 : Int32) = 1 from by decide]
                                  refine m_callSP X hS (MP_ans (M_Model_isIn l g 1 0 1) (show b2i (0 ≤ 1 ∧ 1 ≤ 1) = 1 from by decide)) s_Model_84 rfl rfl (Nat.le_of_ble_eq_true rfl) hl.1 d_Model_follow_57 (by omega) (by decide) ⟨by omega, by omega⟩ (fun locs hS => ?_)
                                  refine lv_if_eq (tgt := 38) X.x X.b d_Model_follow_60 (by decide) (fun c60 => ?_) (fun c60 => ?_)
                                  · exact absurd c60 c42
                                  · skip
                                    refine lv_aload_n X.x X.b d_Model_follow_63 rfl (lv_at hl 3 rfl) ?_
                                    refine m_get (v := .ref (mo + 19)) X ok_Model hM.1 24 (by decide) k_Model_65 rfl d_Model_follow_64 ?_
                                    refine lv_iload_n X.x X.b d_Model_follow_67 rfl (lv_at hl 0 rfl) ?_
                                    refine m_zld (v := 0) X hM.a24 1 rfl (by omega) (by decide) (show s_4 24 1 = 0 from (by rw [es_4, updR_mi _ _ _ _ (show (1 : Nat) ≠ 0 by omega), es_2, updR_hit])) d_Model_follow_68 ?_
                                    refine lv_if_ne (tgt := 38) X.x X.b d_Model_follow_69 (by decide) (fun c61 => ?_) (fun c61 => ?_)
                                    · exact absurd c43 c61
                                    · skip
                                      refine lv_aload_n X.x X.b d_Model_follow_72 rfl (lv_at hl 3 rfl) ?_
                                      refine lv_iload_n X.x X.b d_Model_follow_73 rfl (lv_at hl 0 rfl) ?_
                                      have hR := M_Model_goesOn (k := 1) l g hM (by omega)
                                      refine m_callP X hS hR v_Model_201 hM.1 rfl rfl rfl (Nat.le_of_ble_eq_true rfl) hl.1 d_Model_follow_74 (by omega) (by decide) ⟨by omega, by omega⟩ (fun locs hS => ?_)
                                      refine lv_if_ne (tgt := 93) X.x X.b d_Model_follow_77 (by decide) (fun c62 => ?_) (fun c62 => ?_)
                                      · skip
                                        have c62 := b2i_n0 c62
                                        refine lv_aload_n X.x X.b d_Model_follow_93 rfl (lv_at hl 3 rfl) ?_
                                        refine m_get (v := .ref (mo + 19)) X ok_Model hM.1 24 (by decide) k_Model_65 rfl d_Model_follow_94 ?_
                                        refine lv_iload_n X.x X.b d_Model_follow_97 rfl (lv_at hl 0 rfl) ?_
                                        refine lv_iconst (v := 1) X.x X.b d_Model_follow_98 (by decide) ?_
                                        refine m_zst X hS (Or.inl ⟨by omega, by omega⟩) hM.a24 1 rfl (by omega) (by decide) rfl d_Model_follow_99 (fun H locs hp hcg hS => ?_)
                                        have hM := hM.s24 hp hcg
                                        obtain ⟨s_16, es_16⟩ : ∃ z, z = updR s_4 24 (upd (s_4 24) 1 1) := ⟨_, rfl⟩
                                        rw [← es_16] at hM
                                        have hL26 := hL26.off hcg (by omega)
                                        refine lv_aload_n X.x X.b d_Model_follow_100 rfl (lv_at hl 3 rfl) ?_
                                        refine lv_iload_n X.x X.b d_Model_follow_101 rfl (lv_at hl 0 rfl) ?_
                                        have hR := M_Model_goesOn (k := 1) l g hM (by omega)
                                        refine m_callP X hS hR v_Model_201 hM.1 rfl rfl rfl (Nat.le_of_ble_eq_true rfl) hl.1 d_Model_follow_102 (by omega) (by decide) ⟨by omega, by omega⟩ (fun locs hS => ?_)
                                        refine lv_if_eq (tgt := 117) X.x X.b d_Model_follow_105 (by decide) (fun c63 => ?_) (fun c63 => ?_)
                                        · skip
                                          have c63 := b2i_0.mp c63
                                          refine lv_aload_n X.x X.b d_Model_follow_117 rfl (lv_at hl 3 rfl) ?_
                                          refine lv_iload_n X.x X.b d_Model_follow_118 rfl (lv_at hl 0 rfl) ?_
                                          have hR := M_Model_isBranch (k := 1) l g hM (by omega)
                                          rw [show b2i (s_16 8 1 = 3 ∨ s_16 8 1 = 4) = 0 from b2i_f (by rw [show s_16 8 1 = 6 from (by rw [es_16, updR_mf _ _ _ (show 8 ≠ 24 by decide), es_4, updR_mf _ _ _ (show 8 ≠ 24 by decide), es_2, updR_mf _ _ _ (show 8 ≠ 24 by decide), es_1, updR_mf _ _ _ (show 8 ≠ 24 by decide), hw81])]; first | decide | simp)] at hR
                                          refine m_callP X hS hR v_Model_177 hM.1 rfl rfl rfl (Nat.le_of_ble_eq_true rfl) hl.1 d_Model_follow_119 (by omega) (by decide) ⟨by omega, by omega⟩ (fun locs hS => ?_)
                                          refine lv_if_eq (tgt := 140) X.x X.b d_Model_follow_122 (by decide) (fun c64 => ?_) (fun c64 => ?_)
                                          · skip
                                            refine lv_goto (tgt := 38) X.x X.b d_Model_follow_140 (by decide) ?_
                                            refine lv_iload_n X.x X.b d_Model_follow_38 rfl (lv_at hl 1 rfl) ?_
                                            refine lv_if_le (tgt := 143) X.x X.b d_Model_follow_39 (by decide) (fun c65 => ?_) (fun c65 => ?_)
                                            · skip
                                              have c65q := Int32.not_lt.mpr c65
                                              exact m_vret X hS (by omega) (by omega) d_Model_follow_143 rfl ⟨_, hM, (show same [24] s0 s_16 from (by rw [es_16]; exact (show same [24] s0 s_4 from (by rw [es_4]; exact (show same [24] s0 s_2 from (by rw [es_2]; exact (show same [24] s0 s_1 from (by rw [es_1]; exact (same.rf [24] s0).up _ _ (by decide))).up _ _ (by decide))).up _ _ (by decide))).up _ _ (by decide)))⟩
                                            · exact absurd c65 (by decide)
                                          · exact absurd c61 c64
                                        · skip
                                          have c63 := b2i_n0 c63
                                          refine lv_aload_n X.x X.b d_Model_follow_108 rfl (lv_at hl 2 rfl) ?_
                                          refine lv_iload_n X.x X.b d_Model_follow_109 rfl (lv_at hl 1 rfl) ?_
                                          refine lv_iinc (v := 1) (lv' := [(2, .int 1), (3, .int 1), (1, .ref q26), (0, .ref mo)]) X.x X.b d_Model_follow_110 hl (k := 1) rfl (by decide) (by decide) rfl (fun ls hl => ?_)
                                          refine lv_iload_n X.x X.b d_Model_follow_113 rfl (lv_at hl 1 rfl) ?_
                                          refine lv_iconst (v := 1) X.x X.b d_Model_follow_114 (by decide) ?_
                                          refine lv_iadd X.x X.b d_Model_follow_115 ?_
                                          rw [show (1 + 1 : Int32) = 2 from by decide]
                                          refine m_ist X hS (Or.inr (by omega)) hL26 0 rfl (by omega) (by decide) d_Model_follow_116 (fun H locs hp hcg hS => ?_)
                                          have hL26 := hp
                                          obtain ⟨r_17, er_17⟩ : ∃ z, z = upd r_13 0 2 := ⟨_, rfl⟩
                                          rw [← er_17] at hL26
                                          have hM := hM.frame (fr.of_chg (A := fun q => q = q26) hcg rfl) (fun q z => by have z : q = q26 := z; have := hM.tq; omega)
                                          refine lv_aload_n X.x X.b d_Model_follow_117 rfl (lv_at hl 3 rfl) ?_
                                          refine lv_iload_n X.x X.b d_Model_follow_118 rfl (lv_at hl 1 rfl) ?_
                                          have hR := M_Model_isBranch (k := 1) l g hM (by omega)
                                          rw [show b2i (s_16 8 1 = 3 ∨ s_16 8 1 = 4) = 0 from b2i_f (by rw [show s_16 8 1 = 6 from (by rw [es_16, updR_mf _ _ _ (show 8 ≠ 24 by decide), es_4, updR_mf _ _ _ (show 8 ≠ 24 by decide), es_2, updR_mf _ _ _ (show 8 ≠ 24 by decide), es_1, updR_mf _ _ _ (show 8 ≠ 24 by decide), hw81])]; first | decide | simp)] at hR
                                          refine m_callP X hS hR v_Model_177 hM.1 rfl rfl rfl (Nat.le_of_ble_eq_true rfl) hl.1 d_Model_follow_119 (by omega) (by decide) ⟨by omega, by omega⟩ (fun locs hS => ?_)
                                          refine lv_if_eq (tgt := 140) X.x X.b d_Model_follow_122 (by decide) (fun c66 => ?_) (fun c66 => ?_)
                                          · skip
                                            refine lv_goto (tgt := 38) X.x X.b d_Model_follow_140 (by decide) ?_
                                            refine lv_iload_n X.x X.b d_Model_follow_38 rfl (lv_at hl 0 rfl) ?_
                                            refine lv_if_le (tgt := 143) X.x X.b d_Model_follow_39 (by decide) (fun c67 => ?_) (fun c67 => ?_)
                                            · exact absurd c67 c59
                                            · skip
                                              have c67q := Int32.not_le.mp c67
                                              refine lv_aload_n X.x X.b d_Model_follow_42 rfl (lv_at hl 2 rfl) ?_
                                              refine lv_iinc (v := 0) (lv' := [(2, .int 0), (3, .int 1), (1, .ref q26), (0, .ref mo)]) X.x X.b d_Model_follow_43 hl (k := 0) rfl (by decide) (by decide) rfl (fun ls hl => ?_)
                                              refine lv_iload_n X.x X.b d_Model_follow_46 rfl (lv_at hl 0 rfl) ?_
                                              refine m_ild (v := 2) X hL26 0 rfl (by omega) (by decide) (show r_17 0 = 2 from (by rw [er_17, upd_hit])) d_Model_follow_47 ?_
                                              refine lv_istore_n (lv' := [(3, .int 2), (2, .int 0), (1, .ref q26), (0, .ref mo)]) X.x X.b d_Model_follow_48 rfl hl (by decide) rfl (fun ls hl => ?_)
                                              refine lv_iload_n X.x X.b d_Model_follow_49 rfl (lv_at hl 0 rfl) ?_
                                              refine lv_iconst (v := 0) X.x X.b d_Model_follow_50 (by decide) ?_
                                              refine lv_aload_n X.x X.b d_Model_follow_51 rfl (lv_at hl 3 rfl) ?_
                                              refine m_get (v := .int 2) X ok_Model hM.1 5 (by decide) k_Model_132 (congrArg (fun z => some (Value.int z)) (show p0 5 = 2 from (by rw [hw5]))) d_Model_follow_52 ?_
                                              refine lv_iconst (v := 1) X.x X.b d_Model_follow_55 (by decide) ?_
                                              refine lv_isub X.x X.b d_Model_follow_56 ?_
                                              rw [show (2 - 1 : Int32) = 1 from by decide]
                                              refine m_callSP X hS (MP_ans (M_Model_isIn l g 2 0 1) (show b2i (0 ≤ 2 ∧ 2 ≤ 1) = 0 from by decide)) s_Model_84 rfl rfl (Nat.le_of_ble_eq_true rfl) hl.1 d_Model_follow_57 (by omega) (by decide) ⟨by omega, by omega⟩ (fun locs hS => ?_)
                                              refine lv_if_eq (tgt := 38) X.x X.b d_Model_follow_60 (by decide) (fun c68 => ?_) (fun c68 => ?_)
                                              · skip
                                                refine lv_iload_n X.x X.b d_Model_follow_38 rfl (lv_at hl 1 rfl) ?_
                                                refine lv_if_le (tgt := 143) X.x X.b d_Model_follow_39 (by decide) (fun c69 => ?_) (fun c69 => ?_)
                                                · skip
                                                  have c69q := Int32.not_lt.mpr c69
                                                  exact m_vret X hS (by omega) (by omega) d_Model_follow_143 rfl ⟨_, hM, (show same [24] s0 s_16 from (by rw [es_16]; exact (show same [24] s0 s_4 from (by rw [es_4]; exact (show same [24] s0 s_2 from (by rw [es_2]; exact (show same [24] s0 s_1 from (by rw [es_1]; exact (same.rf [24] s0).up _ _ (by decide))).up _ _ (by decide))).up _ _ (by decide))).up _ _ (by decide)))⟩
                                                · exact absurd c69 (by decide)
                                              · exact absurd c66 c68
                                          · exact absurd c61 c66
                                      · skip
                                        have c62 := b2i_0.mp c62
                                        refine lv_aload_n X.x X.b d_Model_follow_80 rfl (lv_at hl 3 rfl) ?_
                                        refine m_get (v := .ref (mo + 3)) X ok_Model hM.1 8 (by decide) k_Model_16 rfl d_Model_follow_81 ?_
                                        refine lv_iload_n X.x X.b d_Model_follow_84 rfl (lv_at hl 0 rfl) ?_
                                        refine m_ild (v := 6) X hM.a8 1 rfl (by omega) (by decide) (show s_4 8 1 = 6 from (by rw [es_4, updR_mf _ _ _ (show 8 ≠ 24 by decide), es_2, updR_mf _ _ _ (show 8 ≠ 24 by decide), es_1, updR_mf _ _ _ (show 8 ≠ 24 by decide), hw81])) d_Model_follow_85 ?_
                                        refine lv_iconst (v := 3) X.x X.b d_Model_follow_86 (by decide) ?_
                                        refine lv_icmp_eq (tgt := 93) X.x X.b d_Model_follow_87 (by decide) (fun c70 => ?_) (fun c70 => ?_)
                                        · exact absurd c70 c58
                                        · skip
                                          refine lv_goto (tgt := 38) X.x X.b d_Model_follow_90 (by decide) ?_
                                          refine lv_iload_n X.x X.b d_Model_follow_38 rfl (lv_at hl 1 rfl) ?_
                                          refine lv_if_le (tgt := 143) X.x X.b d_Model_follow_39 (by decide) (fun c71 => ?_) (fun c71 => ?_)
                                          · skip
                                            have c71q := Int32.not_lt.mpr c71
                                            exact m_vret X hS (by omega) (by omega) d_Model_follow_143 rfl ⟨_, hM, (show same [24] s0 s_4 from (by rw [es_4]; exact (show same [24] s0 s_2 from (by rw [es_2]; exact (show same [24] s0 s_1 from (by rw [es_1]; exact (same.rf [24] s0).up _ _ (by decide))).up _ _ (by decide))).up _ _ (by decide)))⟩
                                          · exact absurd c71 (by decide)
              · exact absurd c7 c5
      · exact absurd c3 (by decide)
set_option maxRecDepth 100000 in
set_option maxHeartbeats 4000000 in
theorem M_Model_follow_L5 (l : Launch) (g : GG) {mo tq : Nat} {p0 : Nat → Int32} {s0 : Nat → Nat → Int32} {H0 : Heap} (hM : mAt g mo tq p0 s0 H0) (hw : twoI 5 p0 s0) : MM l y_Model_follow c_Model_follow 4 none 3 1 244 g H0 [.ref mo] (fun q => mo ≤ q ∧ q < mo + 23) (none) (fun H1 => ∃ s, mAt g mo tq p0 s H1 ∧ same [24] s0 s) := by
  refine MM.of (by decide +kernel) (Nat.le_of_ble_eq_true rfl) ?_
  intro p e s m below meth cd X hH ls hl
  have X : CX g p s m _ meth cd c_Model_follow 4 none R_Model _ := X
  have hl : lv_has ls 4 [(0, .ref mo)] := hl
  have hS : va_S (AA (fun q => mo ≤ q ∧ q < mo + 23) H0) H0 H0 [] := va_S.rf
  have hlt0 := hM.lt
  have htq0 := hM.tq
  obtain ⟨⟨hw3, hw5⟩, hw8, hw81⟩ := hw
  refine lv_iconst (v := 0) X.x X.b d_Model_follow_0 (by decide) ?_
  refine lv_istore_n (lv' := [(1, .int 0), (0, .ref mo)]) X.x X.b d_Model_follow_1 rfl hl (by decide) rfl (fun ls hl => ?_)
  refine lv_iload_n X.x X.b d_Model_follow_2 rfl (lv_at hl 0 rfl) ?_
  refine lv_aload_n X.x X.b d_Model_follow_3 rfl (lv_at hl 1 rfl) ?_
  refine m_get (v := .int 2) X ok_Model hM.1 5 (by decide) k_Model_132 (congrArg (fun z => some (Value.int z)) (show p0 5 = 2 from (by rw [hw5]))) d_Model_follow_4 ?_
  refine lv_icmp_ge (tgt := 23) X.x X.b d_Model_follow_7 (by decide) (fun c1 => ?_) (fun c1 => ?_)
  · exact absurd c1 (by decide)
  · skip
    have c1q := Int32.not_le.mp c1
    refine lv_aload_n X.x X.b d_Model_follow_10 rfl (lv_at hl 1 rfl) ?_
    refine m_get (v := .ref (mo + 19)) X ok_Model hM.1 24 (by decide) k_Model_65 rfl d_Model_follow_11 ?_
    refine lv_iload_n X.x X.b d_Model_follow_14 rfl (lv_at hl 0 rfl) ?_
    refine lv_iconst (v := 0) X.x X.b d_Model_follow_15 (by decide) ?_
    refine m_zst X hS (Or.inl ⟨by omega, by omega⟩) hM.a24 0 rfl (by omega) (by decide) rfl d_Model_follow_16 (fun H locs hp hcg hS => ?_)
    have hM := hM.s24 hp hcg
    obtain ⟨s_1, es_1⟩ : ∃ z, z = updR s0 24 (upd (s0 24) 0 0) := ⟨_, rfl⟩
    rw [← es_1] at hM
    refine lv_iinc (v := 1) (lv' := [(1, .int 1), (0, .ref mo)]) X.x X.b d_Model_follow_17 hl (k := 0) rfl (by decide) (by decide) rfl (fun ls hl => ?_)
    refine lv_goto (tgt := 2) X.x X.b d_Model_follow_20 (by decide) ?_
    refine lv_iload_n X.x X.b d_Model_follow_2 rfl (lv_at hl 0 rfl) ?_
    refine lv_aload_n X.x X.b d_Model_follow_3 rfl (lv_at hl 1 rfl) ?_
    refine m_get (v := .int 2) X ok_Model hM.1 5 (by decide) k_Model_132 (congrArg (fun z => some (Value.int z)) (show p0 5 = 2 from (by rw [hw5]))) d_Model_follow_4 ?_
    refine lv_icmp_ge (tgt := 23) X.x X.b d_Model_follow_7 (by decide) (fun c2 => ?_) (fun c2 => ?_)
    · exact absurd c2 (by decide)
    · skip
      have c2q := Int32.not_le.mp c2
      refine lv_aload_n X.x X.b d_Model_follow_10 rfl (lv_at hl 1 rfl) ?_
      refine m_get (v := .ref (mo + 19)) X ok_Model hM.1 24 (by decide) k_Model_65 rfl d_Model_follow_11 ?_
      refine lv_iload_n X.x X.b d_Model_follow_14 rfl (lv_at hl 0 rfl) ?_
      refine lv_iconst (v := 0) X.x X.b d_Model_follow_15 (by decide) ?_
      refine m_zst X hS (Or.inl ⟨by omega, by omega⟩) hM.a24 1 rfl (by omega) (by decide) rfl d_Model_follow_16 (fun H locs hp hcg hS => ?_)
      have hM := hM.s24 hp hcg
      obtain ⟨s_2, es_2⟩ : ∃ z, z = updR s_1 24 (upd (s_1 24) 1 0) := ⟨_, rfl⟩
      rw [← es_2] at hM
      refine lv_iinc (v := 2) (lv' := [(1, .int 2), (0, .ref mo)]) X.x X.b d_Model_follow_17 hl (k := 0) rfl (by decide) (by decide) rfl (fun ls hl => ?_)
      refine lv_goto (tgt := 2) X.x X.b d_Model_follow_20 (by decide) ?_
      refine lv_iload_n X.x X.b d_Model_follow_2 rfl (lv_at hl 0 rfl) ?_
      refine lv_aload_n X.x X.b d_Model_follow_3 rfl (lv_at hl 1 rfl) ?_
      refine m_get (v := .int 2) X ok_Model hM.1 5 (by decide) k_Model_132 (congrArg (fun z => some (Value.int z)) (show p0 5 = 2 from (by rw [hw5]))) d_Model_follow_4 ?_
      refine lv_icmp_ge (tgt := 23) X.x X.b d_Model_follow_7 (by decide) (fun c3 => ?_) (fun c3 => ?_)
      · skip
        have c3q := Int32.not_lt.mpr c3
        refine lv_sipush (v := 244) X.x X.b d_Model_follow_23 (by decide) ?_
        obtain ⟨q26, hq26⟩ := sz_of hS
        have hlt26 := hM.lt
        have hsz26 := hS.1
        refine m_newI X hS hq26 244 (by decide) (by decide) (by decide) (by omega) (by omega) d_Model_follow_26 (fun H hL26 hgr hS hz2 => ?_)
        have hfr := fr.of_grow (A := noA) hgr
        have hM := hM.frame hfr (fun q z => z.elim)
        refine lv_astore_n (lv' := [(1, .ref q26), (0, .ref mo)]) X.x X.b d_Model_follow_28 rfl hl (by decide) rfl (fun ls hl => ?_)
        refine lv_iconst (v := 0) X.x X.b d_Model_follow_29 (by decide) ?_
        refine lv_istore_n (lv' := [(2, .int 0), (1, .ref q26), (0, .ref mo)]) X.x X.b d_Model_follow_30 rfl hl (by decide) rfl (fun ls hl => ?_)
        refine lv_aload_n X.x X.b d_Model_follow_31 rfl (lv_at hl 1 rfl) ?_
        refine lv_iload_n X.x X.b d_Model_follow_32 rfl (lv_at hl 0 rfl) ?_
        refine lv_iinc (v := 1) (lv' := [(2, .int 1), (1, .ref q26), (0, .ref mo)]) X.x X.b d_Model_follow_33 hl (k := 0) rfl (by decide) (by decide) rfl (fun ls hl => ?_)
        refine lv_iconst (v := 0) X.x X.b d_Model_follow_36 (by decide) ?_
        refine m_ist X hS (Or.inr (by omega)) hL26 0 rfl (by omega) (by decide) d_Model_follow_37 (fun H locs hp hcg hS => ?_)
        have hL26 := hp
        obtain ⟨r_3, er_3⟩ : ∃ z, z = upd (fun _ => 0) 0 0 := ⟨_, rfl⟩
        rw [← er_3] at hL26
        have hM := hM.frame (fr.of_chg (A := fun q => q = q26) hcg rfl) (fun q z => by have z : q = q26 := z; have := hM.tq; omega)
        refine lv_iload_n X.x X.b d_Model_follow_38 rfl (lv_at hl 0 rfl) ?_
        refine lv_if_le (tgt := 143) X.x X.b d_Model_follow_39 (by decide) (fun c4 => ?_) (fun c4 => ?_)
        · exact absurd c4 (by decide)
        · skip
          have c4q := Int32.not_le.mp c4
          refine lv_aload_n X.x X.b d_Model_follow_42 rfl (lv_at hl 1 rfl) ?_
          refine lv_iinc (v := 0) (lv' := [(2, .int 0), (1, .ref q26), (0, .ref mo)]) X.x X.b d_Model_follow_43 hl (k := 0) rfl (by decide) (by decide) rfl (fun ls hl => ?_)
          refine lv_iload_n X.x X.b d_Model_follow_46 rfl (lv_at hl 0 rfl) ?_
          refine m_ild (v := 0) X hL26 0 rfl (by omega) (by decide) (show r_3 0 = 0 from (by rw [er_3, upd_hit])) d_Model_follow_47 ?_
          refine lv_istore_n (lv' := [(3, .int 0), (2, .int 0), (1, .ref q26), (0, .ref mo)]) X.x X.b d_Model_follow_48 rfl hl (by decide) rfl (fun ls hl => ?_)
          refine lv_iload_n X.x X.b d_Model_follow_49 rfl (lv_at hl 0 rfl) ?_
          refine lv_iconst (v := 0) X.x X.b d_Model_follow_50 (by decide) ?_
          refine lv_aload_n X.x X.b d_Model_follow_51 rfl (lv_at hl 3 rfl) ?_
          refine m_get (v := .int 2) X ok_Model hM.1 5 (by decide) k_Model_132 (congrArg (fun z => some (Value.int z)) (show p0 5 = 2 from (by rw [hw5]))) d_Model_follow_52 ?_
          refine lv_iconst (v := 1) X.x X.b d_Model_follow_55 (by decide) ?_
          refine lv_isub X.x X.b d_Model_follow_56 ?_
          rw [show (2 - 1 : Int32) = 1 from by decide]
          refine m_callSP X hS (MP_ans (M_Model_isIn l g 0 0 1) (show b2i (0 ≤ 0 ∧ 0 ≤ 1) = 1 from by decide)) s_Model_84 rfl rfl (Nat.le_of_ble_eq_true rfl) hl.1 d_Model_follow_57 (by omega) (by decide) ⟨by omega, by omega⟩ (fun locs hS => ?_)
          refine lv_if_eq (tgt := 38) X.x X.b d_Model_follow_60 (by decide) (fun c5 => ?_) (fun c5 => ?_)
          · exact absurd c5 (by decide)
          · skip
            refine lv_aload_n X.x X.b d_Model_follow_63 rfl (lv_at hl 3 rfl) ?_
            refine m_get (v := .ref (mo + 19)) X ok_Model hM.1 24 (by decide) k_Model_65 rfl d_Model_follow_64 ?_
            refine lv_iload_n X.x X.b d_Model_follow_67 rfl (lv_at hl 0 rfl) ?_
            refine m_zld (v := 0) X hM.a24 0 rfl (by omega) (by decide) (show s_2 24 0 = 0 from (by rw [es_2, updR_mi _ _ _ _ (show (0 : Nat) ≠ 1 by omega), es_1, updR_hit])) d_Model_follow_68 ?_
            refine lv_if_ne (tgt := 38) X.x X.b d_Model_follow_69 (by decide) (fun c6 => ?_) (fun c6 => ?_)
            · exact absurd c6 (by decide)
            · skip
              refine lv_aload_n X.x X.b d_Model_follow_72 rfl (lv_at hl 3 rfl) ?_
              refine lv_iload_n X.x X.b d_Model_follow_73 rfl (lv_at hl 0 rfl) ?_
              have hR := M_Model_goesOn (k := 0) l g hM (by omega)
              rw [show b2i (goM s_2 0) = 1 from b2i_t (by unfold goM; rw [show s_2 8 0 = 5 from (by rw [es_2, updR_mf _ _ _ (show 8 ≠ 24 by decide), es_1, updR_mf _ _ _ (show 8 ≠ 24 by decide), hw8])]; first | decide | simp)] at hR
              refine m_callP X hS hR v_Model_201 hM.1 rfl rfl rfl (Nat.le_of_ble_eq_true rfl) hl.1 d_Model_follow_74 (by omega) (by decide) ⟨by omega, by omega⟩ (fun locs hS => ?_)
              refine lv_if_ne (tgt := 93) X.x X.b d_Model_follow_77 (by decide) (fun c7 => ?_) (fun c7 => ?_)
              · skip
                refine lv_aload_n X.x X.b d_Model_follow_93 rfl (lv_at hl 3 rfl) ?_
                refine m_get (v := .ref (mo + 19)) X ok_Model hM.1 24 (by decide) k_Model_65 rfl d_Model_follow_94 ?_
                refine lv_iload_n X.x X.b d_Model_follow_97 rfl (lv_at hl 0 rfl) ?_
                refine lv_iconst (v := 1) X.x X.b d_Model_follow_98 (by decide) ?_
                refine m_zst X hS (Or.inl ⟨by omega, by omega⟩) hM.a24 0 rfl (by omega) (by decide) rfl d_Model_follow_99 (fun H locs hp hcg hS => ?_)
                have hM := hM.s24 hp hcg
                obtain ⟨s_4, es_4⟩ : ∃ z, z = updR s_2 24 (upd (s_2 24) 0 1) := ⟨_, rfl⟩
                rw [← es_4] at hM
                have hL26 := hL26.off hcg (by omega)
                refine lv_aload_n X.x X.b d_Model_follow_100 rfl (lv_at hl 3 rfl) ?_
                refine lv_iload_n X.x X.b d_Model_follow_101 rfl (lv_at hl 0 rfl) ?_
                have hR := M_Model_goesOn (k := 0) l g hM (by omega)
                rw [show b2i (goM s_4 0) = 1 from b2i_t (by unfold goM; rw [show s_4 8 0 = 5 from (by rw [es_4, updR_mf _ _ _ (show 8 ≠ 24 by decide), es_2, updR_mf _ _ _ (show 8 ≠ 24 by decide), es_1, updR_mf _ _ _ (show 8 ≠ 24 by decide), hw8])]; first | decide | simp)] at hR
                refine m_callP X hS hR v_Model_201 hM.1 rfl rfl rfl (Nat.le_of_ble_eq_true rfl) hl.1 d_Model_follow_102 (by omega) (by decide) ⟨by omega, by omega⟩ (fun locs hS => ?_)
                refine lv_if_eq (tgt := 117) X.x X.b d_Model_follow_105 (by decide) (fun c8 => ?_) (fun c8 => ?_)
                · exact absurd c8 c7
                · skip
                  refine lv_aload_n X.x X.b d_Model_follow_108 rfl (lv_at hl 2 rfl) ?_
                  refine lv_iload_n X.x X.b d_Model_follow_109 rfl (lv_at hl 1 rfl) ?_
                  refine lv_iinc (v := 1) (lv' := [(2, .int 1), (3, .int 0), (1, .ref q26), (0, .ref mo)]) X.x X.b d_Model_follow_110 hl (k := 1) rfl (by decide) (by decide) rfl (fun ls hl => ?_)
                  refine lv_iload_n X.x X.b d_Model_follow_113 rfl (lv_at hl 1 rfl) ?_
                  refine lv_iconst (v := 1) X.x X.b d_Model_follow_114 (by decide) ?_
                  refine lv_iadd X.x X.b d_Model_follow_115 ?_
                  rw [show (0 + 1 : Int32) = 1 from by decide]
                  refine m_ist X hS (Or.inr (by omega)) hL26 0 rfl (by omega) (by decide) d_Model_follow_116 (fun H locs hp hcg hS => ?_)
                  have hL26 := hp
                  obtain ⟨r_5, er_5⟩ : ∃ z, z = upd r_3 0 1 := ⟨_, rfl⟩
                  rw [← er_5] at hL26
                  have hM := hM.frame (fr.of_chg (A := fun q => q = q26) hcg rfl) (fun q z => by have z : q = q26 := z; have := hM.tq; omega)
                  refine lv_aload_n X.x X.b d_Model_follow_117 rfl (lv_at hl 3 rfl) ?_
                  refine lv_iload_n X.x X.b d_Model_follow_118 rfl (lv_at hl 1 rfl) ?_
                  have hR := M_Model_isBranch (k := 0) l g hM (by omega)
                  rw [show b2i (s_4 8 0 = 3 ∨ s_4 8 0 = 4) = 0 from b2i_f (by rw [show s_4 8 0 = 5 from (by rw [es_4, updR_mf _ _ _ (show 8 ≠ 24 by decide), es_2, updR_mf _ _ _ (show 8 ≠ 24 by decide), es_1, updR_mf _ _ _ (show 8 ≠ 24 by decide), hw8])]; first | decide | simp)] at hR
                  refine m_callP X hS hR v_Model_177 hM.1 rfl rfl rfl (Nat.le_of_ble_eq_true rfl) hl.1 d_Model_follow_119 (by omega) (by decide) ⟨by omega, by omega⟩ (fun locs hS => ?_)
                  refine lv_if_eq (tgt := 140) X.x X.b d_Model_follow_122 (by decide) (fun c9 => ?_) (fun c9 => ?_)
                  · skip
                    refine lv_goto (tgt := 38) X.x X.b d_Model_follow_140 (by decide) ?_
                    refine lv_iload_n X.x X.b d_Model_follow_38 rfl (lv_at hl 0 rfl) ?_
                    refine lv_if_le (tgt := 143) X.x X.b d_Model_follow_39 (by decide) (fun c10 => ?_) (fun c10 => ?_)
                    · exact absurd c10 c4
                    · skip
                      have c10q := Int32.not_le.mp c10
                      refine lv_aload_n X.x X.b d_Model_follow_42 rfl (lv_at hl 2 rfl) ?_
                      refine lv_iinc (v := 0) (lv' := [(2, .int 0), (3, .int 0), (1, .ref q26), (0, .ref mo)]) X.x X.b d_Model_follow_43 hl (k := 0) rfl (by decide) (by decide) rfl (fun ls hl => ?_)
                      refine lv_iload_n X.x X.b d_Model_follow_46 rfl (lv_at hl 0 rfl) ?_
                      refine m_ild (v := 1) X hL26 0 rfl (by omega) (by decide) (show r_5 0 = 1 from (by rw [er_5, upd_hit])) d_Model_follow_47 ?_
                      refine lv_istore_n (lv' := [(3, .int 1), (2, .int 0), (1, .ref q26), (0, .ref mo)]) X.x X.b d_Model_follow_48 rfl hl (by decide) rfl (fun ls hl => ?_)
                      refine lv_iload_n X.x X.b d_Model_follow_49 rfl (lv_at hl 0 rfl) ?_
                      refine lv_iconst (v := 0) X.x X.b d_Model_follow_50 (by decide) ?_
                      refine lv_aload_n X.x X.b d_Model_follow_51 rfl (lv_at hl 3 rfl) ?_
                      refine m_get (v := .int 2) X ok_Model hM.1 5 (by decide) k_Model_132 (congrArg (fun z => some (Value.int z)) (show p0 5 = 2 from (by rw [hw5]))) d_Model_follow_52 ?_
                      refine lv_iconst (v := 1) X.x X.b d_Model_follow_55 (by decide) ?_
                      refine lv_isub X.x X.b d_Model_follow_56 ?_
                      rw [show (2 - 1 : Int32) = 1 from by decide]
                      refine m_callSP X hS (MP_ans (M_Model_isIn l g 1 0 1) (show b2i (0 ≤ 1 ∧ 1 ≤ 1) = 1 from by decide)) s_Model_84 rfl rfl (Nat.le_of_ble_eq_true rfl) hl.1 d_Model_follow_57 (by omega) (by decide) ⟨by omega, by omega⟩ (fun locs hS => ?_)
                      refine lv_if_eq (tgt := 38) X.x X.b d_Model_follow_60 (by decide) (fun c11 => ?_) (fun c11 => ?_)
                      · exact absurd c11 c8
                      · skip
                        refine lv_aload_n X.x X.b d_Model_follow_63 rfl (lv_at hl 3 rfl) ?_
                        refine m_get (v := .ref (mo + 19)) X ok_Model hM.1 24 (by decide) k_Model_65 rfl d_Model_follow_64 ?_
                        refine lv_iload_n X.x X.b d_Model_follow_67 rfl (lv_at hl 0 rfl) ?_
                        refine m_zld (v := 0) X hM.a24 1 rfl (by omega) (by decide) (show s_4 24 1 = 0 from (by rw [es_4, updR_mi _ _ _ _ (show (1 : Nat) ≠ 0 by omega), es_2, updR_hit])) d_Model_follow_68 ?_
                        refine lv_if_ne (tgt := 38) X.x X.b d_Model_follow_69 (by decide) (fun c12 => ?_) (fun c12 => ?_)
                        · exact absurd c9 c12
                        · skip
                          refine lv_aload_n X.x X.b d_Model_follow_72 rfl (lv_at hl 3 rfl) ?_
                          refine lv_iload_n X.x X.b d_Model_follow_73 rfl (lv_at hl 0 rfl) ?_
                          have hR := M_Model_goesOn (k := 1) l g hM (by omega)
                          refine m_callP X hS hR v_Model_201 hM.1 rfl rfl rfl (Nat.le_of_ble_eq_true rfl) hl.1 d_Model_follow_74 (by omega) (by decide) ⟨by omega, by omega⟩ (fun locs hS => ?_)
                          refine lv_if_ne (tgt := 93) X.x X.b d_Model_follow_77 (by decide) (fun c13 => ?_) (fun c13 => ?_)
                          · skip
                            have c13 := b2i_n0 c13
                            refine lv_aload_n X.x X.b d_Model_follow_93 rfl (lv_at hl 3 rfl) ?_
                            refine m_get (v := .ref (mo + 19)) X ok_Model hM.1 24 (by decide) k_Model_65 rfl d_Model_follow_94 ?_
                            refine lv_iload_n X.x X.b d_Model_follow_97 rfl (lv_at hl 0 rfl) ?_
                            refine lv_iconst (v := 1) X.x X.b d_Model_follow_98 (by decide) ?_
                            refine m_zst X hS (Or.inl ⟨by omega, by omega⟩) hM.a24 1 rfl (by omega) (by decide) rfl d_Model_follow_99 (fun H locs hp hcg hS => ?_)
                            have hM := hM.s24 hp hcg
                            obtain ⟨s_6, es_6⟩ : ∃ z, z = updR s_4 24 (upd (s_4 24) 1 1) := ⟨_, rfl⟩
                            rw [← es_6] at hM
                            have hL26 := hL26.off hcg (by omega)
                            refine lv_aload_n X.x X.b d_Model_follow_100 rfl (lv_at hl 3 rfl) ?_
                            refine lv_iload_n X.x X.b d_Model_follow_101 rfl (lv_at hl 0 rfl) ?_
                            have hR := M_Model_goesOn (k := 1) l g hM (by omega)
                            refine m_callP X hS hR v_Model_201 hM.1 rfl rfl rfl (Nat.le_of_ble_eq_true rfl) hl.1 d_Model_follow_102 (by omega) (by decide) ⟨by omega, by omega⟩ (fun locs hS => ?_)
                            refine lv_if_eq (tgt := 117) X.x X.b d_Model_follow_105 (by decide) (fun c14 => ?_) (fun c14 => ?_)
                            · skip
                              have c14 := b2i_0.mp c14
                              refine lv_aload_n X.x X.b d_Model_follow_117 rfl (lv_at hl 3 rfl) ?_
                              refine lv_iload_n X.x X.b d_Model_follow_118 rfl (lv_at hl 0 rfl) ?_
                              have hR := M_Model_isBranch (k := 1) l g hM (by omega)
                              rw [show b2i (s_6 8 1 = 3 ∨ s_6 8 1 = 4) = 0 from b2i_f (by rw [show s_6 8 1 = 6 from (by rw [es_6, updR_mf _ _ _ (show 8 ≠ 24 by decide), es_4, updR_mf _ _ _ (show 8 ≠ 24 by decide), es_2, updR_mf _ _ _ (show 8 ≠ 24 by decide), es_1, updR_mf _ _ _ (show 8 ≠ 24 by decide), hw81])]; first | decide | simp)] at hR
                              refine m_callP X hS hR v_Model_177 hM.1 rfl rfl rfl (Nat.le_of_ble_eq_true rfl) hl.1 d_Model_follow_119 (by omega) (by decide) ⟨by omega, by omega⟩ (fun locs hS => ?_)
                              refine lv_if_eq (tgt := 140) X.x X.b d_Model_follow_122 (by decide) (fun c15 => ?_) (fun c15 => ?_)
                              · skip
                                refine lv_goto (tgt := 38) X.x X.b d_Model_follow_140 (by decide) ?_
                                refine lv_iload_n X.x X.b d_Model_follow_38 rfl (lv_at hl 1 rfl) ?_
                                refine lv_if_le (tgt := 143) X.x X.b d_Model_follow_39 (by decide) (fun c16 => ?_) (fun c16 => ?_)
                                · skip
                                  have c16q := Int32.not_lt.mpr c16
                                  exact m_vret X hS (by omega) (by omega) d_Model_follow_143 rfl ⟨_, hM, (show same [24] s0 s_6 from (by rw [es_6]; exact (show same [24] s0 s_4 from (by rw [es_4]; exact (show same [24] s0 s_2 from (by rw [es_2]; exact (show same [24] s0 s_1 from (by rw [es_1]; exact (same.rf [24] s0).up _ _ (by decide))).up _ _ (by decide))).up _ _ (by decide))).up _ _ (by decide)))⟩
                                · exact absurd c16 (by decide)
                              · exact absurd c12 c15
                            · skip
                              have c14 := b2i_n0 c14
                              refine lv_aload_n X.x X.b d_Model_follow_108 rfl (lv_at hl 2 rfl) ?_
                              refine lv_iload_n X.x X.b d_Model_follow_109 rfl (lv_at hl 1 rfl) ?_
                              refine lv_iinc (v := 1) (lv' := [(2, .int 1), (3, .int 1), (1, .ref q26), (0, .ref mo)]) X.x X.b d_Model_follow_110 hl (k := 1) rfl (by decide) (by decide) rfl (fun ls hl => ?_)
                              refine lv_iload_n X.x X.b d_Model_follow_113 rfl (lv_at hl 1 rfl) ?_
                              refine lv_iconst (v := 1) X.x X.b d_Model_follow_114 (by decide) ?_
                              refine lv_iadd X.x X.b d_Model_follow_115 ?_
                              rw [show (1 + 1 : Int32) = 2 from by decide]
                              refine m_ist X hS (Or.inr (by omega)) hL26 0 rfl (by omega) (by decide) d_Model_follow_116 (fun H locs hp hcg hS => ?_)
                              have hL26 := hp
                              obtain ⟨r_7, er_7⟩ : ∃ z, z = upd r_5 0 2 := ⟨_, rfl⟩
                              rw [← er_7] at hL26
                              have hM := hM.frame (fr.of_chg (A := fun q => q = q26) hcg rfl) (fun q z => by have z : q = q26 := z; have := hM.tq; omega)
                              refine lv_aload_n X.x X.b d_Model_follow_117 rfl (lv_at hl 3 rfl) ?_
                              refine lv_iload_n X.x X.b d_Model_follow_118 rfl (lv_at hl 1 rfl) ?_
                              have hR := M_Model_isBranch (k := 1) l g hM (by omega)
                              rw [show b2i (s_6 8 1 = 3 ∨ s_6 8 1 = 4) = 0 from b2i_f (by rw [show s_6 8 1 = 6 from (by rw [es_6, updR_mf _ _ _ (show 8 ≠ 24 by decide), es_4, updR_mf _ _ _ (show 8 ≠ 24 by decide), es_2, updR_mf _ _ _ (show 8 ≠ 24 by decide), es_1, updR_mf _ _ _ (show 8 ≠ 24 by decide), hw81])]; first | decide | simp)] at hR
                              refine m_callP X hS hR v_Model_177 hM.1 rfl rfl rfl (Nat.le_of_ble_eq_true rfl) hl.1 d_Model_follow_119 (by omega) (by decide) ⟨by omega, by omega⟩ (fun locs hS => ?_)
                              refine lv_if_eq (tgt := 140) X.x X.b d_Model_follow_122 (by decide) (fun c17 => ?_) (fun c17 => ?_)
                              · skip
                                refine lv_goto (tgt := 38) X.x X.b d_Model_follow_140 (by decide) ?_
                                refine lv_iload_n X.x X.b d_Model_follow_38 rfl (lv_at hl 0 rfl) ?_
                                refine lv_if_le (tgt := 143) X.x X.b d_Model_follow_39 (by decide) (fun c18 => ?_) (fun c18 => ?_)
                                · exact absurd c18 c10
                                · skip
                                  have c18q := Int32.not_le.mp c18
                                  refine lv_aload_n X.x X.b d_Model_follow_42 rfl (lv_at hl 2 rfl) ?_
                                  refine lv_iinc (v := 0) (lv' := [(2, .int 0), (3, .int 1), (1, .ref q26), (0, .ref mo)]) X.x X.b d_Model_follow_43 hl (k := 0) rfl (by decide) (by decide) rfl (fun ls hl => ?_)
                                  refine lv_iload_n X.x X.b d_Model_follow_46 rfl (lv_at hl 0 rfl) ?_
                                  refine m_ild (v := 2) X hL26 0 rfl (by omega) (by decide) (show r_7 0 = 2 from (by rw [er_7, upd_hit])) d_Model_follow_47 ?_
                                  refine lv_istore_n (lv' := [(3, .int 2), (2, .int 0), (1, .ref q26), (0, .ref mo)]) X.x X.b d_Model_follow_48 rfl hl (by decide) rfl (fun ls hl => ?_)
                                  refine lv_iload_n X.x X.b d_Model_follow_49 rfl (lv_at hl 0 rfl) ?_
                                  refine lv_iconst (v := 0) X.x X.b d_Model_follow_50 (by decide) ?_
                                  refine lv_aload_n X.x X.b d_Model_follow_51 rfl (lv_at hl 3 rfl) ?_
                                  refine m_get (v := .int 2) X ok_Model hM.1 5 (by decide) k_Model_132 (congrArg (fun z => some (Value.int z)) (show p0 5 = 2 from (by rw [hw5]))) d_Model_follow_52 ?_
                                  refine lv_iconst (v := 1) X.x X.b d_Model_follow_55 (by decide) ?_
                                  refine lv_isub X.x X.b d_Model_follow_56 ?_
                                  rw [show (2 - 1 : Int32) = 1 from by decide]
                                  refine m_callSP X hS (MP_ans (M_Model_isIn l g 2 0 1) (show b2i (0 ≤ 2 ∧ 2 ≤ 1) = 0 from by decide)) s_Model_84 rfl rfl (Nat.le_of_ble_eq_true rfl) hl.1 d_Model_follow_57 (by omega) (by decide) ⟨by omega, by omega⟩ (fun locs hS => ?_)
                                  refine lv_if_eq (tgt := 38) X.x X.b d_Model_follow_60 (by decide) (fun c19 => ?_) (fun c19 => ?_)
                                  · skip
                                    refine lv_iload_n X.x X.b d_Model_follow_38 rfl (lv_at hl 1 rfl) ?_
                                    refine lv_if_le (tgt := 143) X.x X.b d_Model_follow_39 (by decide) (fun c20 => ?_) (fun c20 => ?_)
                                    · skip
                                      have c20q := Int32.not_lt.mpr c20
                                      exact m_vret X hS (by omega) (by omega) d_Model_follow_143 rfl ⟨_, hM, (show same [24] s0 s_6 from (by rw [es_6]; exact (show same [24] s0 s_4 from (by rw [es_4]; exact (show same [24] s0 s_2 from (by rw [es_2]; exact (show same [24] s0 s_1 from (by rw [es_1]; exact (same.rf [24] s0).up _ _ (by decide))).up _ _ (by decide))).up _ _ (by decide))).up _ _ (by decide)))⟩
                                    · exact absurd c20 (by decide)
                                  · exact absurd c17 c19
                              · exact absurd c12 c17
                          · skip
                            have c13 := b2i_0.mp c13
                            refine lv_aload_n X.x X.b d_Model_follow_80 rfl (lv_at hl 3 rfl) ?_
                            refine m_get (v := .ref (mo + 3)) X ok_Model hM.1 8 (by decide) k_Model_16 rfl d_Model_follow_81 ?_
                            refine lv_iload_n X.x X.b d_Model_follow_84 rfl (lv_at hl 0 rfl) ?_
                            refine m_ild (v := 6) X hM.a8 1 rfl (by omega) (by decide) (show s_4 8 1 = 6 from (by rw [es_4, updR_mf _ _ _ (show 8 ≠ 24 by decide), es_2, updR_mf _ _ _ (show 8 ≠ 24 by decide), es_1, updR_mf _ _ _ (show 8 ≠ 24 by decide), hw81])) d_Model_follow_85 ?_
                            refine lv_iconst (v := 3) X.x X.b d_Model_follow_86 (by decide) ?_
                            refine lv_icmp_eq (tgt := 93) X.x X.b d_Model_follow_87 (by decide) (fun c21 => ?_) (fun c21 => ?_)
                            · exact absurd c21 (by decide)
                            · skip
                              refine lv_goto (tgt := 38) X.x X.b d_Model_follow_90 (by decide) ?_
                              refine lv_iload_n X.x X.b d_Model_follow_38 rfl (lv_at hl 1 rfl) ?_
                              refine lv_if_le (tgt := 143) X.x X.b d_Model_follow_39 (by decide) (fun c22 => ?_) (fun c22 => ?_)
                              · skip
                                have c22q := Int32.not_lt.mpr c22
                                exact m_vret X hS (by omega) (by omega) d_Model_follow_143 rfl ⟨_, hM, (show same [24] s0 s_4 from (by rw [es_4]; exact (show same [24] s0 s_2 from (by rw [es_2]; exact (show same [24] s0 s_1 from (by rw [es_1]; exact (same.rf [24] s0).up _ _ (by decide))).up _ _ (by decide))).up _ _ (by decide)))⟩
                              · exact absurd c22 (by decide)
                  · exact absurd c6 c9
              · exact absurd c7 c5
      · exact absurd c3 (by decide)
set_option maxRecDepth 100000 in
set_option maxHeartbeats 4000000 in
theorem M_Model_follow_L6 (l : Launch) (g : GG) {mo tq : Nat} {p0 : Nat → Int32} {s0 : Nat → Nat → Int32} {H0 : Heap} (hM : mAt g mo tq p0 s0 H0) (hw : twoI 6 p0 s0) : MM l y_Model_follow c_Model_follow 4 none 3 1 244 g H0 [.ref mo] (fun q => mo ≤ q ∧ q < mo + 23) (none) (fun H1 => ∃ s, mAt g mo tq p0 s H1 ∧ same [24] s0 s) := by
  refine MM.of (by decide +kernel) (Nat.le_of_ble_eq_true rfl) ?_
  intro p e s m below meth cd X hH ls hl
  have X : CX g p s m _ meth cd c_Model_follow 4 none R_Model _ := X
  have hl : lv_has ls 4 [(0, .ref mo)] := hl
  have hS : va_S (AA (fun q => mo ≤ q ∧ q < mo + 23) H0) H0 H0 [] := va_S.rf
  have hlt0 := hM.lt
  have htq0 := hM.tq
  obtain ⟨⟨hw3, hw5⟩, hw8, hw81⟩ := hw
  refine lv_iconst (v := 0) X.x X.b d_Model_follow_0 (by decide) ?_
  refine lv_istore_n (lv' := [(1, .int 0), (0, .ref mo)]) X.x X.b d_Model_follow_1 rfl hl (by decide) rfl (fun ls hl => ?_)
  refine lv_iload_n X.x X.b d_Model_follow_2 rfl (lv_at hl 0 rfl) ?_
  refine lv_aload_n X.x X.b d_Model_follow_3 rfl (lv_at hl 1 rfl) ?_
  refine m_get (v := .int 2) X ok_Model hM.1 5 (by decide) k_Model_132 (congrArg (fun z => some (Value.int z)) (show p0 5 = 2 from (by rw [hw5]))) d_Model_follow_4 ?_
  refine lv_icmp_ge (tgt := 23) X.x X.b d_Model_follow_7 (by decide) (fun c1 => ?_) (fun c1 => ?_)
  · exact absurd c1 (by decide)
  · skip
    have c1q := Int32.not_le.mp c1
    refine lv_aload_n X.x X.b d_Model_follow_10 rfl (lv_at hl 1 rfl) ?_
    refine m_get (v := .ref (mo + 19)) X ok_Model hM.1 24 (by decide) k_Model_65 rfl d_Model_follow_11 ?_
    refine lv_iload_n X.x X.b d_Model_follow_14 rfl (lv_at hl 0 rfl) ?_
    refine lv_iconst (v := 0) X.x X.b d_Model_follow_15 (by decide) ?_
    refine m_zst X hS (Or.inl ⟨by omega, by omega⟩) hM.a24 0 rfl (by omega) (by decide) rfl d_Model_follow_16 (fun H locs hp hcg hS => ?_)
    have hM := hM.s24 hp hcg
    obtain ⟨s_1, es_1⟩ : ∃ z, z = updR s0 24 (upd (s0 24) 0 0) := ⟨_, rfl⟩
    rw [← es_1] at hM
    refine lv_iinc (v := 1) (lv' := [(1, .int 1), (0, .ref mo)]) X.x X.b d_Model_follow_17 hl (k := 0) rfl (by decide) (by decide) rfl (fun ls hl => ?_)
    refine lv_goto (tgt := 2) X.x X.b d_Model_follow_20 (by decide) ?_
    refine lv_iload_n X.x X.b d_Model_follow_2 rfl (lv_at hl 0 rfl) ?_
    refine lv_aload_n X.x X.b d_Model_follow_3 rfl (lv_at hl 1 rfl) ?_
    refine m_get (v := .int 2) X ok_Model hM.1 5 (by decide) k_Model_132 (congrArg (fun z => some (Value.int z)) (show p0 5 = 2 from (by rw [hw5]))) d_Model_follow_4 ?_
    refine lv_icmp_ge (tgt := 23) X.x X.b d_Model_follow_7 (by decide) (fun c2 => ?_) (fun c2 => ?_)
    · exact absurd c2 (by decide)
    · skip
      have c2q := Int32.not_le.mp c2
      refine lv_aload_n X.x X.b d_Model_follow_10 rfl (lv_at hl 1 rfl) ?_
      refine m_get (v := .ref (mo + 19)) X ok_Model hM.1 24 (by decide) k_Model_65 rfl d_Model_follow_11 ?_
      refine lv_iload_n X.x X.b d_Model_follow_14 rfl (lv_at hl 0 rfl) ?_
      refine lv_iconst (v := 0) X.x X.b d_Model_follow_15 (by decide) ?_
      refine m_zst X hS (Or.inl ⟨by omega, by omega⟩) hM.a24 1 rfl (by omega) (by decide) rfl d_Model_follow_16 (fun H locs hp hcg hS => ?_)
      have hM := hM.s24 hp hcg
      obtain ⟨s_2, es_2⟩ : ∃ z, z = updR s_1 24 (upd (s_1 24) 1 0) := ⟨_, rfl⟩
      rw [← es_2] at hM
      refine lv_iinc (v := 2) (lv' := [(1, .int 2), (0, .ref mo)]) X.x X.b d_Model_follow_17 hl (k := 0) rfl (by decide) (by decide) rfl (fun ls hl => ?_)
      refine lv_goto (tgt := 2) X.x X.b d_Model_follow_20 (by decide) ?_
      refine lv_iload_n X.x X.b d_Model_follow_2 rfl (lv_at hl 0 rfl) ?_
      refine lv_aload_n X.x X.b d_Model_follow_3 rfl (lv_at hl 1 rfl) ?_
      refine m_get (v := .int 2) X ok_Model hM.1 5 (by decide) k_Model_132 (congrArg (fun z => some (Value.int z)) (show p0 5 = 2 from (by rw [hw5]))) d_Model_follow_4 ?_
      refine lv_icmp_ge (tgt := 23) X.x X.b d_Model_follow_7 (by decide) (fun c3 => ?_) (fun c3 => ?_)
      · skip
        have c3q := Int32.not_lt.mpr c3
        refine lv_sipush (v := 244) X.x X.b d_Model_follow_23 (by decide) ?_
        obtain ⟨q26, hq26⟩ := sz_of hS
        have hlt26 := hM.lt
        have hsz26 := hS.1
        refine m_newI X hS hq26 244 (by decide) (by decide) (by decide) (by omega) (by omega) d_Model_follow_26 (fun H hL26 hgr hS hz2 => ?_)
        have hfr := fr.of_grow (A := noA) hgr
        have hM := hM.frame hfr (fun q z => z.elim)
        refine lv_astore_n (lv' := [(1, .ref q26), (0, .ref mo)]) X.x X.b d_Model_follow_28 rfl hl (by decide) rfl (fun ls hl => ?_)
        refine lv_iconst (v := 0) X.x X.b d_Model_follow_29 (by decide) ?_
        refine lv_istore_n (lv' := [(2, .int 0), (1, .ref q26), (0, .ref mo)]) X.x X.b d_Model_follow_30 rfl hl (by decide) rfl (fun ls hl => ?_)
        refine lv_aload_n X.x X.b d_Model_follow_31 rfl (lv_at hl 1 rfl) ?_
        refine lv_iload_n X.x X.b d_Model_follow_32 rfl (lv_at hl 0 rfl) ?_
        refine lv_iinc (v := 1) (lv' := [(2, .int 1), (1, .ref q26), (0, .ref mo)]) X.x X.b d_Model_follow_33 hl (k := 0) rfl (by decide) (by decide) rfl (fun ls hl => ?_)
        refine lv_iconst (v := 0) X.x X.b d_Model_follow_36 (by decide) ?_
        refine m_ist X hS (Or.inr (by omega)) hL26 0 rfl (by omega) (by decide) d_Model_follow_37 (fun H locs hp hcg hS => ?_)
        have hL26 := hp
        obtain ⟨r_3, er_3⟩ : ∃ z, z = upd (fun _ => 0) 0 0 := ⟨_, rfl⟩
        rw [← er_3] at hL26
        have hM := hM.frame (fr.of_chg (A := fun q => q = q26) hcg rfl) (fun q z => by have z : q = q26 := z; have := hM.tq; omega)
        refine lv_iload_n X.x X.b d_Model_follow_38 rfl (lv_at hl 0 rfl) ?_
        refine lv_if_le (tgt := 143) X.x X.b d_Model_follow_39 (by decide) (fun c4 => ?_) (fun c4 => ?_)
        · exact absurd c4 (by decide)
        · skip
          have c4q := Int32.not_le.mp c4
          refine lv_aload_n X.x X.b d_Model_follow_42 rfl (lv_at hl 1 rfl) ?_
          refine lv_iinc (v := 0) (lv' := [(2, .int 0), (1, .ref q26), (0, .ref mo)]) X.x X.b d_Model_follow_43 hl (k := 0) rfl (by decide) (by decide) rfl (fun ls hl => ?_)
          refine lv_iload_n X.x X.b d_Model_follow_46 rfl (lv_at hl 0 rfl) ?_
          refine m_ild (v := 0) X hL26 0 rfl (by omega) (by decide) (show r_3 0 = 0 from (by rw [er_3, upd_hit])) d_Model_follow_47 ?_
          refine lv_istore_n (lv' := [(3, .int 0), (2, .int 0), (1, .ref q26), (0, .ref mo)]) X.x X.b d_Model_follow_48 rfl hl (by decide) rfl (fun ls hl => ?_)
          refine lv_iload_n X.x X.b d_Model_follow_49 rfl (lv_at hl 0 rfl) ?_
          refine lv_iconst (v := 0) X.x X.b d_Model_follow_50 (by decide) ?_
          refine lv_aload_n X.x X.b d_Model_follow_51 rfl (lv_at hl 3 rfl) ?_
          refine m_get (v := .int 2) X ok_Model hM.1 5 (by decide) k_Model_132 (congrArg (fun z => some (Value.int z)) (show p0 5 = 2 from (by rw [hw5]))) d_Model_follow_52 ?_
          refine lv_iconst (v := 1) X.x X.b d_Model_follow_55 (by decide) ?_
          refine lv_isub X.x X.b d_Model_follow_56 ?_
          rw [show (2 - 1 : Int32) = 1 from by decide]
          refine m_callSP X hS (MP_ans (M_Model_isIn l g 0 0 1) (show b2i (0 ≤ 0 ∧ 0 ≤ 1) = 1 from by decide)) s_Model_84 rfl rfl (Nat.le_of_ble_eq_true rfl) hl.1 d_Model_follow_57 (by omega) (by decide) ⟨by omega, by omega⟩ (fun locs hS => ?_)
          refine lv_if_eq (tgt := 38) X.x X.b d_Model_follow_60 (by decide) (fun c5 => ?_) (fun c5 => ?_)
          · exact absurd c5 (by decide)
          · skip
            refine lv_aload_n X.x X.b d_Model_follow_63 rfl (lv_at hl 3 rfl) ?_
            refine m_get (v := .ref (mo + 19)) X ok_Model hM.1 24 (by decide) k_Model_65 rfl d_Model_follow_64 ?_
            refine lv_iload_n X.x X.b d_Model_follow_67 rfl (lv_at hl 0 rfl) ?_
            refine m_zld (v := 0) X hM.a24 0 rfl (by omega) (by decide) (show s_2 24 0 = 0 from (by rw [es_2, updR_mi _ _ _ _ (show (0 : Nat) ≠ 1 by omega), es_1, updR_hit])) d_Model_follow_68 ?_
            refine lv_if_ne (tgt := 38) X.x X.b d_Model_follow_69 (by decide) (fun c6 => ?_) (fun c6 => ?_)
            · exact absurd c6 (by decide)
            · skip
              refine lv_aload_n X.x X.b d_Model_follow_72 rfl (lv_at hl 3 rfl) ?_
              refine lv_iload_n X.x X.b d_Model_follow_73 rfl (lv_at hl 0 rfl) ?_
              have hR := M_Model_goesOn (k := 0) l g hM (by omega)
              refine m_callP X hS hR v_Model_201 hM.1 rfl rfl rfl (Nat.le_of_ble_eq_true rfl) hl.1 d_Model_follow_74 (by omega) (by decide) ⟨by omega, by omega⟩ (fun locs hS => ?_)
              refine lv_if_ne (tgt := 93) X.x X.b d_Model_follow_77 (by decide) (fun c7 => ?_) (fun c7 => ?_)
              · skip
                have c7 := b2i_n0 c7
                refine lv_aload_n X.x X.b d_Model_follow_93 rfl (lv_at hl 3 rfl) ?_
                refine m_get (v := .ref (mo + 19)) X ok_Model hM.1 24 (by decide) k_Model_65 rfl d_Model_follow_94 ?_
                refine lv_iload_n X.x X.b d_Model_follow_97 rfl (lv_at hl 0 rfl) ?_
                refine lv_iconst (v := 1) X.x X.b d_Model_follow_98 (by decide) ?_
                refine m_zst X hS (Or.inl ⟨by omega, by omega⟩) hM.a24 0 rfl (by omega) (by decide) rfl d_Model_follow_99 (fun H locs hp hcg hS => ?_)
                have hM := hM.s24 hp hcg
                obtain ⟨s_4, es_4⟩ : ∃ z, z = updR s_2 24 (upd (s_2 24) 0 1) := ⟨_, rfl⟩
                rw [← es_4] at hM
                have hL26 := hL26.off hcg (by omega)
                refine lv_aload_n X.x X.b d_Model_follow_100 rfl (lv_at hl 3 rfl) ?_
                refine lv_iload_n X.x X.b d_Model_follow_101 rfl (lv_at hl 0 rfl) ?_
                have hR := M_Model_goesOn (k := 0) l g hM (by omega)
                refine m_callP X hS hR v_Model_201 hM.1 rfl rfl rfl (Nat.le_of_ble_eq_true rfl) hl.1 d_Model_follow_102 (by omega) (by decide) ⟨by omega, by omega⟩ (fun locs hS => ?_)
                refine lv_if_eq (tgt := 117) X.x X.b d_Model_follow_105 (by decide) (fun c8 => ?_) (fun c8 => ?_)
                · skip
                  have c8 := b2i_0.mp c8
                  refine lv_aload_n X.x X.b d_Model_follow_117 rfl (lv_at hl 3 rfl) ?_
                  refine lv_iload_n X.x X.b d_Model_follow_118 rfl (lv_at hl 0 rfl) ?_
                  have hR := M_Model_isBranch (k := 0) l g hM (by omega)
                  rw [show b2i (s_4 8 0 = 3 ∨ s_4 8 0 = 4) = 0 from b2i_f (by rw [show s_4 8 0 = 6 from (by rw [es_4, updR_mf _ _ _ (show 8 ≠ 24 by decide), es_2, updR_mf _ _ _ (show 8 ≠ 24 by decide), es_1, updR_mf _ _ _ (show 8 ≠ 24 by decide), hw8])]; first | decide | simp)] at hR
                  refine m_callP X hS hR v_Model_177 hM.1 rfl rfl rfl (Nat.le_of_ble_eq_true rfl) hl.1 d_Model_follow_119 (by omega) (by decide) ⟨by omega, by omega⟩ (fun locs hS => ?_)
                  refine lv_if_eq (tgt := 140) X.x X.b d_Model_follow_122 (by decide) (fun c9 => ?_) (fun c9 => ?_)
                  · skip
                    refine lv_goto (tgt := 38) X.x X.b d_Model_follow_140 (by decide) ?_
                    refine lv_iload_n X.x X.b d_Model_follow_38 rfl (lv_at hl 1 rfl) ?_
                    refine lv_if_le (tgt := 143) X.x X.b d_Model_follow_39 (by decide) (fun c10 => ?_) (fun c10 => ?_)
                    · skip
                      have c10q := Int32.not_lt.mpr c10
                      exact m_vret X hS (by omega) (by omega) d_Model_follow_143 rfl ⟨_, hM, (show same [24] s0 s_4 from (by rw [es_4]; exact (show same [24] s0 s_2 from (by rw [es_2]; exact (show same [24] s0 s_1 from (by rw [es_1]; exact (same.rf [24] s0).up _ _ (by decide))).up _ _ (by decide))).up _ _ (by decide)))⟩
                    · exact absurd c10 (by decide)
                  · exact absurd c6 c9
                · skip
                  have c8 := b2i_n0 c8
                  refine lv_aload_n X.x X.b d_Model_follow_108 rfl (lv_at hl 2 rfl) ?_
                  refine lv_iload_n X.x X.b d_Model_follow_109 rfl (lv_at hl 1 rfl) ?_
                  refine lv_iinc (v := 1) (lv' := [(2, .int 1), (3, .int 0), (1, .ref q26), (0, .ref mo)]) X.x X.b d_Model_follow_110 hl (k := 1) rfl (by decide) (by decide) rfl (fun ls hl => ?_)
                  refine lv_iload_n X.x X.b d_Model_follow_113 rfl (lv_at hl 1 rfl) ?_
                  refine lv_iconst (v := 1) X.x X.b d_Model_follow_114 (by decide) ?_
                  refine lv_iadd X.x X.b d_Model_follow_115 ?_
                  rw [show (0 + 1 : Int32) = 1 from by decide]
                  refine m_ist X hS (Or.inr (by omega)) hL26 0 rfl (by omega) (by decide) d_Model_follow_116 (fun H locs hp hcg hS => ?_)
                  have hL26 := hp
                  obtain ⟨r_5, er_5⟩ : ∃ z, z = upd r_3 0 1 := ⟨_, rfl⟩
                  rw [← er_5] at hL26
                  have hM := hM.frame (fr.of_chg (A := fun q => q = q26) hcg rfl) (fun q z => by have z : q = q26 := z; have := hM.tq; omega)
                  refine lv_aload_n X.x X.b d_Model_follow_117 rfl (lv_at hl 3 rfl) ?_
                  refine lv_iload_n X.x X.b d_Model_follow_118 rfl (lv_at hl 1 rfl) ?_
                  have hR := M_Model_isBranch (k := 0) l g hM (by omega)
                  rw [show b2i (s_4 8 0 = 3 ∨ s_4 8 0 = 4) = 0 from b2i_f (by rw [show s_4 8 0 = 6 from (by rw [es_4, updR_mf _ _ _ (show 8 ≠ 24 by decide), es_2, updR_mf _ _ _ (show 8 ≠ 24 by decide), es_1, updR_mf _ _ _ (show 8 ≠ 24 by decide), hw8])]; first | decide | simp)] at hR
                  refine m_callP X hS hR v_Model_177 hM.1 rfl rfl rfl (Nat.le_of_ble_eq_true rfl) hl.1 d_Model_follow_119 (by omega) (by decide) ⟨by omega, by omega⟩ (fun locs hS => ?_)
                  refine lv_if_eq (tgt := 140) X.x X.b d_Model_follow_122 (by decide) (fun c11 => ?_) (fun c11 => ?_)
                  · skip
                    refine lv_goto (tgt := 38) X.x X.b d_Model_follow_140 (by decide) ?_
                    refine lv_iload_n X.x X.b d_Model_follow_38 rfl (lv_at hl 0 rfl) ?_
                    refine lv_if_le (tgt := 143) X.x X.b d_Model_follow_39 (by decide) (fun c12 => ?_) (fun c12 => ?_)
                    · exact absurd c12 c4
                    · skip
                      have c12q := Int32.not_le.mp c12
                      refine lv_aload_n X.x X.b d_Model_follow_42 rfl (lv_at hl 2 rfl) ?_
                      refine lv_iinc (v := 0) (lv' := [(2, .int 0), (3, .int 0), (1, .ref q26), (0, .ref mo)]) X.x X.b d_Model_follow_43 hl (k := 0) rfl (by decide) (by decide) rfl (fun ls hl => ?_)
                      refine lv_iload_n X.x X.b d_Model_follow_46 rfl (lv_at hl 0 rfl) ?_
                      refine m_ild (v := 1) X hL26 0 rfl (by omega) (by decide) (show r_5 0 = 1 from (by rw [er_5, upd_hit])) d_Model_follow_47 ?_
                      refine lv_istore_n (lv' := [(3, .int 1), (2, .int 0), (1, .ref q26), (0, .ref mo)]) X.x X.b d_Model_follow_48 rfl hl (by decide) rfl (fun ls hl => ?_)
                      refine lv_iload_n X.x X.b d_Model_follow_49 rfl (lv_at hl 0 rfl) ?_
                      refine lv_iconst (v := 0) X.x X.b d_Model_follow_50 (by decide) ?_
                      refine lv_aload_n X.x X.b d_Model_follow_51 rfl (lv_at hl 3 rfl) ?_
                      refine m_get (v := .int 2) X ok_Model hM.1 5 (by decide) k_Model_132 (congrArg (fun z => some (Value.int z)) (show p0 5 = 2 from (by rw [hw5]))) d_Model_follow_52 ?_
                      refine lv_iconst (v := 1) X.x X.b d_Model_follow_55 (by decide) ?_
                      refine lv_isub X.x X.b d_Model_follow_56 ?_
                      rw [show (2 - 1 : Int32) = 1 from by decide]
                      refine m_callSP X hS (MP_ans (M_Model_isIn l g 1 0 1) (show b2i (0 ≤ 1 ∧ 1 ≤ 1) = 1 from by decide)) s_Model_84 rfl rfl (Nat.le_of_ble_eq_true rfl) hl.1 d_Model_follow_57 (by omega) (by decide) ⟨by omega, by omega⟩ (fun locs hS => ?_)
                      refine lv_if_eq (tgt := 38) X.x X.b d_Model_follow_60 (by decide) (fun c13 => ?_) (fun c13 => ?_)
                      · exact absurd c13 c5
                      · skip
                        refine lv_aload_n X.x X.b d_Model_follow_63 rfl (lv_at hl 3 rfl) ?_
                        refine m_get (v := .ref (mo + 19)) X ok_Model hM.1 24 (by decide) k_Model_65 rfl d_Model_follow_64 ?_
                        refine lv_iload_n X.x X.b d_Model_follow_67 rfl (lv_at hl 0 rfl) ?_
                        refine m_zld (v := 0) X hM.a24 1 rfl (by omega) (by decide) (show s_4 24 1 = 0 from (by rw [es_4, updR_mi _ _ _ _ (show (1 : Nat) ≠ 0 by omega), es_2, updR_hit])) d_Model_follow_68 ?_
                        refine lv_if_ne (tgt := 38) X.x X.b d_Model_follow_69 (by decide) (fun c14 => ?_) (fun c14 => ?_)
                        · exact absurd c11 c14
                        · skip
                          refine lv_aload_n X.x X.b d_Model_follow_72 rfl (lv_at hl 3 rfl) ?_
                          refine lv_iload_n X.x X.b d_Model_follow_73 rfl (lv_at hl 0 rfl) ?_
                          have hR := M_Model_goesOn (k := 1) l g hM (by omega)
                          refine m_callP X hS hR v_Model_201 hM.1 rfl rfl rfl (Nat.le_of_ble_eq_true rfl) hl.1 d_Model_follow_74 (by omega) (by decide) ⟨by omega, by omega⟩ (fun locs hS => ?_)
                          refine lv_if_ne (tgt := 93) X.x X.b d_Model_follow_77 (by decide) (fun c15 => ?_) (fun c15 => ?_)
                          · skip
                            have c15 := b2i_n0 c15
                            refine lv_aload_n X.x X.b d_Model_follow_93 rfl (lv_at hl 3 rfl) ?_
                            refine m_get (v := .ref (mo + 19)) X ok_Model hM.1 24 (by decide) k_Model_65 rfl d_Model_follow_94 ?_
                            refine lv_iload_n X.x X.b d_Model_follow_97 rfl (lv_at hl 0 rfl) ?_
                            refine lv_iconst (v := 1) X.x X.b d_Model_follow_98 (by decide) ?_
                            refine m_zst X hS (Or.inl ⟨by omega, by omega⟩) hM.a24 1 rfl (by omega) (by decide) rfl d_Model_follow_99 (fun H locs hp hcg hS => ?_)
                            have hM := hM.s24 hp hcg
                            obtain ⟨s_6, es_6⟩ : ∃ z, z = updR s_4 24 (upd (s_4 24) 1 1) := ⟨_, rfl⟩
                            rw [← es_6] at hM
                            have hL26 := hL26.off hcg (by omega)
                            refine lv_aload_n X.x X.b d_Model_follow_100 rfl (lv_at hl 3 rfl) ?_
                            refine lv_iload_n X.x X.b d_Model_follow_101 rfl (lv_at hl 0 rfl) ?_
                            have hR := M_Model_goesOn (k := 1) l g hM (by omega)
                            refine m_callP X hS hR v_Model_201 hM.1 rfl rfl rfl (Nat.le_of_ble_eq_true rfl) hl.1 d_Model_follow_102 (by omega) (by decide) ⟨by omega, by omega⟩ (fun locs hS => ?_)
                            refine lv_if_eq (tgt := 117) X.x X.b d_Model_follow_105 (by decide) (fun c16 => ?_) (fun c16 => ?_)
                            · skip
                              have c16 := b2i_0.mp c16
                              refine lv_aload_n X.x X.b d_Model_follow_117 rfl (lv_at hl 3 rfl) ?_
                              refine lv_iload_n X.x X.b d_Model_follow_118 rfl (lv_at hl 0 rfl) ?_
                              have hR := M_Model_isBranch (k := 1) l g hM (by omega)
                              rw [show b2i (s_6 8 1 = 3 ∨ s_6 8 1 = 4) = 0 from b2i_f (by rw [show s_6 8 1 = 6 from (by rw [es_6, updR_mf _ _ _ (show 8 ≠ 24 by decide), es_4, updR_mf _ _ _ (show 8 ≠ 24 by decide), es_2, updR_mf _ _ _ (show 8 ≠ 24 by decide), es_1, updR_mf _ _ _ (show 8 ≠ 24 by decide), hw81])]; first | decide | simp)] at hR
                              refine m_callP X hS hR v_Model_177 hM.1 rfl rfl rfl (Nat.le_of_ble_eq_true rfl) hl.1 d_Model_follow_119 (by omega) (by decide) ⟨by omega, by omega⟩ (fun locs hS => ?_)
                              refine lv_if_eq (tgt := 140) X.x X.b d_Model_follow_122 (by decide) (fun c17 => ?_) (fun c17 => ?_)
                              · skip
                                refine lv_goto (tgt := 38) X.x X.b d_Model_follow_140 (by decide) ?_
                                refine lv_iload_n X.x X.b d_Model_follow_38 rfl (lv_at hl 1 rfl) ?_
                                refine lv_if_le (tgt := 143) X.x X.b d_Model_follow_39 (by decide) (fun c18 => ?_) (fun c18 => ?_)
                                · skip
                                  have c18q := Int32.not_lt.mpr c18
                                  exact m_vret X hS (by omega) (by omega) d_Model_follow_143 rfl ⟨_, hM, (show same [24] s0 s_6 from (by rw [es_6]; exact (show same [24] s0 s_4 from (by rw [es_4]; exact (show same [24] s0 s_2 from (by rw [es_2]; exact (show same [24] s0 s_1 from (by rw [es_1]; exact (same.rf [24] s0).up _ _ (by decide))).up _ _ (by decide))).up _ _ (by decide))).up _ _ (by decide)))⟩
                                · exact absurd c18 (by decide)
                              · exact absurd c14 c17
                            · skip
                              have c16 := b2i_n0 c16
                              refine lv_aload_n X.x X.b d_Model_follow_108 rfl (lv_at hl 2 rfl) ?_
                              refine lv_iload_n X.x X.b d_Model_follow_109 rfl (lv_at hl 1 rfl) ?_
                              refine lv_iinc (v := 1) (lv' := [(2, .int 1), (3, .int 1), (1, .ref q26), (0, .ref mo)]) X.x X.b d_Model_follow_110 hl (k := 1) rfl (by decide) (by decide) rfl (fun ls hl => ?_)
                              refine lv_iload_n X.x X.b d_Model_follow_113 rfl (lv_at hl 1 rfl) ?_
                              refine lv_iconst (v := 1) X.x X.b d_Model_follow_114 (by decide) ?_
                              refine lv_iadd X.x X.b d_Model_follow_115 ?_
                              rw [show (1 + 1 : Int32) = 2 from by decide]
                              refine m_ist X hS (Or.inr (by omega)) hL26 0 rfl (by omega) (by decide) d_Model_follow_116 (fun H locs hp hcg hS => ?_)
                              have hL26 := hp
                              obtain ⟨r_7, er_7⟩ : ∃ z, z = upd r_5 0 2 := ⟨_, rfl⟩
                              rw [← er_7] at hL26
                              have hM := hM.frame (fr.of_chg (A := fun q => q = q26) hcg rfl) (fun q z => by have z : q = q26 := z; have := hM.tq; omega)
                              refine lv_aload_n X.x X.b d_Model_follow_117 rfl (lv_at hl 3 rfl) ?_
                              refine lv_iload_n X.x X.b d_Model_follow_118 rfl (lv_at hl 1 rfl) ?_
                              have hR := M_Model_isBranch (k := 1) l g hM (by omega)
                              rw [show b2i (s_6 8 1 = 3 ∨ s_6 8 1 = 4) = 0 from b2i_f (by rw [show s_6 8 1 = 6 from (by rw [es_6, updR_mf _ _ _ (show 8 ≠ 24 by decide), es_4, updR_mf _ _ _ (show 8 ≠ 24 by decide), es_2, updR_mf _ _ _ (show 8 ≠ 24 by decide), es_1, updR_mf _ _ _ (show 8 ≠ 24 by decide), hw81])]; first | decide | simp)] at hR
                              refine m_callP X hS hR v_Model_177 hM.1 rfl rfl rfl (Nat.le_of_ble_eq_true rfl) hl.1 d_Model_follow_119 (by omega) (by decide) ⟨by omega, by omega⟩ (fun locs hS => ?_)
                              refine lv_if_eq (tgt := 140) X.x X.b d_Model_follow_122 (by decide) (fun c19 => ?_) (fun c19 => ?_)
                              · skip
                                refine lv_goto (tgt := 38) X.x X.b d_Model_follow_140 (by decide) ?_
                                refine lv_iload_n X.x X.b d_Model_follow_38 rfl (lv_at hl 0 rfl) ?_
                                refine lv_if_le (tgt := 143) X.x X.b d_Model_follow_39 (by decide) (fun c20 => ?_) (fun c20 => ?_)
                                · exact absurd c20 c12
                                · skip
                                  have c20q := Int32.not_le.mp c20
                                  refine lv_aload_n X.x X.b d_Model_follow_42 rfl (lv_at hl 2 rfl) ?_
                                  refine lv_iinc (v := 0) (lv' := [(2, .int 0), (3, .int 1), (1, .ref q26), (0, .ref mo)]) X.x X.b d_Model_follow_43 hl (k := 0) rfl (by decide) (by decide) rfl (fun ls hl => ?_)
                                  refine lv_iload_n X.x X.b d_Model_follow_46 rfl (lv_at hl 0 rfl) ?_
                                  refine m_ild (v := 2) X hL26 0 rfl (by omega) (by decide) (show r_7 0 = 2 from (by rw [er_7, upd_hit])) d_Model_follow_47 ?_
                                  refine lv_istore_n (lv' := [(3, .int 2), (2, .int 0), (1, .ref q26), (0, .ref mo)]) X.x X.b d_Model_follow_48 rfl hl (by decide) rfl (fun ls hl => ?_)
                                  refine lv_iload_n X.x X.b d_Model_follow_49 rfl (lv_at hl 0 rfl) ?_
                                  refine lv_iconst (v := 0) X.x X.b d_Model_follow_50 (by decide) ?_
                                  refine lv_aload_n X.x X.b d_Model_follow_51 rfl (lv_at hl 3 rfl) ?_
                                  refine m_get (v := .int 2) X ok_Model hM.1 5 (by decide) k_Model_132 (congrArg (fun z => some (Value.int z)) (show p0 5 = 2 from (by rw [hw5]))) d_Model_follow_52 ?_
                                  refine lv_iconst (v := 1) X.x X.b d_Model_follow_55 (by decide) ?_
                                  refine lv_isub X.x X.b d_Model_follow_56 ?_
                                  rw [show (2 - 1 : Int32) = 1 from by decide]
                                  refine m_callSP X hS (MP_ans (M_Model_isIn l g 2 0 1) (show b2i (0 ≤ 2 ∧ 2 ≤ 1) = 0 from by decide)) s_Model_84 rfl rfl (Nat.le_of_ble_eq_true rfl) hl.1 d_Model_follow_57 (by omega) (by decide) ⟨by omega, by omega⟩ (fun locs hS => ?_)
                                  refine lv_if_eq (tgt := 38) X.x X.b d_Model_follow_60 (by decide) (fun c21 => ?_) (fun c21 => ?_)
                                  · skip
                                    refine lv_iload_n X.x X.b d_Model_follow_38 rfl (lv_at hl 1 rfl) ?_
                                    refine lv_if_le (tgt := 143) X.x X.b d_Model_follow_39 (by decide) (fun c22 => ?_) (fun c22 => ?_)
                                    · skip
                                      have c22q := Int32.not_lt.mpr c22
                                      exact m_vret X hS (by omega) (by omega) d_Model_follow_143 rfl ⟨_, hM, (show same [24] s0 s_6 from (by rw [es_6]; exact (show same [24] s0 s_4 from (by rw [es_4]; exact (show same [24] s0 s_2 from (by rw [es_2]; exact (show same [24] s0 s_1 from (by rw [es_1]; exact (same.rf [24] s0).up _ _ (by decide))).up _ _ (by decide))).up _ _ (by decide))).up _ _ (by decide)))⟩
                                    · exact absurd c22 (by decide)
                                  · exact absurd c19 c21
                              · exact absurd c14 c19
                          · skip
                            have c15 := b2i_0.mp c15
                            refine lv_aload_n X.x X.b d_Model_follow_80 rfl (lv_at hl 3 rfl) ?_
                            refine m_get (v := .ref (mo + 3)) X ok_Model hM.1 8 (by decide) k_Model_16 rfl d_Model_follow_81 ?_
                            refine lv_iload_n X.x X.b d_Model_follow_84 rfl (lv_at hl 0 rfl) ?_
                            refine m_ild (v := 6) X hM.a8 1 rfl (by omega) (by decide) (show s_4 8 1 = 6 from (by rw [es_4, updR_mf _ _ _ (show 8 ≠ 24 by decide), es_2, updR_mf _ _ _ (show 8 ≠ 24 by decide), es_1, updR_mf _ _ _ (show 8 ≠ 24 by decide), hw81])) d_Model_follow_85 ?_
                            refine lv_iconst (v := 3) X.x X.b d_Model_follow_86 (by decide) ?_
                            refine lv_icmp_eq (tgt := 93) X.x X.b d_Model_follow_87 (by decide) (fun c23 => ?_) (fun c23 => ?_)
                            · exact absurd c23 (by decide)
                            · skip
                              refine lv_goto (tgt := 38) X.x X.b d_Model_follow_90 (by decide) ?_
                              refine lv_iload_n X.x X.b d_Model_follow_38 rfl (lv_at hl 1 rfl) ?_
                              refine lv_if_le (tgt := 143) X.x X.b d_Model_follow_39 (by decide) (fun c24 => ?_) (fun c24 => ?_)
                              · skip
                                have c24q := Int32.not_lt.mpr c24
                                exact m_vret X hS (by omega) (by omega) d_Model_follow_143 rfl ⟨_, hM, (show same [24] s0 s_4 from (by rw [es_4]; exact (show same [24] s0 s_2 from (by rw [es_2]; exact (show same [24] s0 s_1 from (by rw [es_1]; exact (same.rf [24] s0).up _ _ (by decide))).up _ _ (by decide))).up _ _ (by decide)))⟩
                              · exact absurd c24 (by decide)
                  · exact absurd c6 c11
              · skip
                have c7 := b2i_0.mp c7
                refine lv_aload_n X.x X.b d_Model_follow_80 rfl (lv_at hl 3 rfl) ?_
                refine m_get (v := .ref (mo + 3)) X ok_Model hM.1 8 (by decide) k_Model_16 rfl d_Model_follow_81 ?_
                refine lv_iload_n X.x X.b d_Model_follow_84 rfl (lv_at hl 0 rfl) ?_
                refine m_ild (v := 6) X hM.a8 0 rfl (by omega) (by decide) (show s_2 8 0 = 6 from (by rw [es_2, updR_mf _ _ _ (show 8 ≠ 24 by decide), es_1, updR_mf _ _ _ (show 8 ≠ 24 by decide), hw8])) d_Model_follow_85 ?_
                refine lv_iconst (v := 3) X.x X.b d_Model_follow_86 (by decide) ?_
                refine lv_icmp_eq (tgt := 93) X.x X.b d_Model_follow_87 (by decide) (fun c25 => ?_) (fun c25 => ?_)
                · exact absurd c25 (by decide)
                · skip
                  refine lv_goto (tgt := 38) X.x X.b d_Model_follow_90 (by decide) ?_
                  refine lv_iload_n X.x X.b d_Model_follow_38 rfl (lv_at hl 1 rfl) ?_
                  refine lv_if_le (tgt := 143) X.x X.b d_Model_follow_39 (by decide) (fun c26 => ?_) (fun c26 => ?_)
                  · skip
                    have c26q := Int32.not_lt.mpr c26
                    exact m_vret X hS (by omega) (by omega) d_Model_follow_143 rfl ⟨_, hM, (show same [24] s0 s_2 from (by rw [es_2]; exact (show same [24] s0 s_1 from (by rw [es_1]; exact (same.rf [24] s0).up _ _ (by decide))).up _ _ (by decide)))⟩
                  · exact absurd c26 (by decide)
      · exact absurd c3 (by decide)
set_option maxRecDepth 100000 in
set_option maxHeartbeats 4000000 in
theorem M_Model_follow_L7 (l : Launch) (g : GG) {mo tq : Nat} {p0 : Nat → Int32} {s0 : Nat → Nat → Int32} {H0 : Heap} (hM : mAt g mo tq p0 s0 H0) (hw : twoI 7 p0 s0) : MM l y_Model_follow c_Model_follow 4 none 3 1 244 g H0 [.ref mo] (fun q => mo ≤ q ∧ q < mo + 23) (none) (fun H1 => ∃ s, mAt g mo tq p0 s H1 ∧ same [24] s0 s) := by
  refine MM.of (by decide +kernel) (Nat.le_of_ble_eq_true rfl) ?_
  intro p e s m below meth cd X hH ls hl
  have X : CX g p s m _ meth cd c_Model_follow 4 none R_Model _ := X
  have hl : lv_has ls 4 [(0, .ref mo)] := hl
  have hS : va_S (AA (fun q => mo ≤ q ∧ q < mo + 23) H0) H0 H0 [] := va_S.rf
  have hlt0 := hM.lt
  have htq0 := hM.tq
  obtain ⟨⟨hw3, hw5⟩, hw8, hw81⟩ := hw
  refine lv_iconst (v := 0) X.x X.b d_Model_follow_0 (by decide) ?_
  refine lv_istore_n (lv' := [(1, .int 0), (0, .ref mo)]) X.x X.b d_Model_follow_1 rfl hl (by decide) rfl (fun ls hl => ?_)
  refine lv_iload_n X.x X.b d_Model_follow_2 rfl (lv_at hl 0 rfl) ?_
  refine lv_aload_n X.x X.b d_Model_follow_3 rfl (lv_at hl 1 rfl) ?_
  refine m_get (v := .int 2) X ok_Model hM.1 5 (by decide) k_Model_132 (congrArg (fun z => some (Value.int z)) (show p0 5 = 2 from (by rw [hw5]))) d_Model_follow_4 ?_
  refine lv_icmp_ge (tgt := 23) X.x X.b d_Model_follow_7 (by decide) (fun c1 => ?_) (fun c1 => ?_)
  · exact absurd c1 (by decide)
  · skip
    have c1q := Int32.not_le.mp c1
    refine lv_aload_n X.x X.b d_Model_follow_10 rfl (lv_at hl 1 rfl) ?_
    refine m_get (v := .ref (mo + 19)) X ok_Model hM.1 24 (by decide) k_Model_65 rfl d_Model_follow_11 ?_
    refine lv_iload_n X.x X.b d_Model_follow_14 rfl (lv_at hl 0 rfl) ?_
    refine lv_iconst (v := 0) X.x X.b d_Model_follow_15 (by decide) ?_
    refine m_zst X hS (Or.inl ⟨by omega, by omega⟩) hM.a24 0 rfl (by omega) (by decide) rfl d_Model_follow_16 (fun H locs hp hcg hS => ?_)
    have hM := hM.s24 hp hcg
    obtain ⟨s_1, es_1⟩ : ∃ z, z = updR s0 24 (upd (s0 24) 0 0) := ⟨_, rfl⟩
    rw [← es_1] at hM
    refine lv_iinc (v := 1) (lv' := [(1, .int 1), (0, .ref mo)]) X.x X.b d_Model_follow_17 hl (k := 0) rfl (by decide) (by decide) rfl (fun ls hl => ?_)
    refine lv_goto (tgt := 2) X.x X.b d_Model_follow_20 (by decide) ?_
    refine lv_iload_n X.x X.b d_Model_follow_2 rfl (lv_at hl 0 rfl) ?_
    refine lv_aload_n X.x X.b d_Model_follow_3 rfl (lv_at hl 1 rfl) ?_
    refine m_get (v := .int 2) X ok_Model hM.1 5 (by decide) k_Model_132 (congrArg (fun z => some (Value.int z)) (show p0 5 = 2 from (by rw [hw5]))) d_Model_follow_4 ?_
    refine lv_icmp_ge (tgt := 23) X.x X.b d_Model_follow_7 (by decide) (fun c2 => ?_) (fun c2 => ?_)
    · exact absurd c2 (by decide)
    · skip
      have c2q := Int32.not_le.mp c2
      refine lv_aload_n X.x X.b d_Model_follow_10 rfl (lv_at hl 1 rfl) ?_
      refine m_get (v := .ref (mo + 19)) X ok_Model hM.1 24 (by decide) k_Model_65 rfl d_Model_follow_11 ?_
      refine lv_iload_n X.x X.b d_Model_follow_14 rfl (lv_at hl 0 rfl) ?_
      refine lv_iconst (v := 0) X.x X.b d_Model_follow_15 (by decide) ?_
      refine m_zst X hS (Or.inl ⟨by omega, by omega⟩) hM.a24 1 rfl (by omega) (by decide) rfl d_Model_follow_16 (fun H locs hp hcg hS => ?_)
      have hM := hM.s24 hp hcg
      obtain ⟨s_2, es_2⟩ : ∃ z, z = updR s_1 24 (upd (s_1 24) 1 0) := ⟨_, rfl⟩
      rw [← es_2] at hM
      refine lv_iinc (v := 2) (lv' := [(1, .int 2), (0, .ref mo)]) X.x X.b d_Model_follow_17 hl (k := 0) rfl (by decide) (by decide) rfl (fun ls hl => ?_)
      refine lv_goto (tgt := 2) X.x X.b d_Model_follow_20 (by decide) ?_
      refine lv_iload_n X.x X.b d_Model_follow_2 rfl (lv_at hl 0 rfl) ?_
      refine lv_aload_n X.x X.b d_Model_follow_3 rfl (lv_at hl 1 rfl) ?_
      refine m_get (v := .int 2) X ok_Model hM.1 5 (by decide) k_Model_132 (congrArg (fun z => some (Value.int z)) (show p0 5 = 2 from (by rw [hw5]))) d_Model_follow_4 ?_
      refine lv_icmp_ge (tgt := 23) X.x X.b d_Model_follow_7 (by decide) (fun c3 => ?_) (fun c3 => ?_)
      · skip
        have c3q := Int32.not_lt.mpr c3
        refine lv_sipush (v := 244) X.x X.b d_Model_follow_23 (by decide) ?_
        obtain ⟨q26, hq26⟩ := sz_of hS
        have hlt26 := hM.lt
        have hsz26 := hS.1
        refine m_newI X hS hq26 244 (by decide) (by decide) (by decide) (by omega) (by omega) d_Model_follow_26 (fun H hL26 hgr hS hz2 => ?_)
        have hfr := fr.of_grow (A := noA) hgr
        have hM := hM.frame hfr (fun q z => z.elim)
        refine lv_astore_n (lv' := [(1, .ref q26), (0, .ref mo)]) X.x X.b d_Model_follow_28 rfl hl (by decide) rfl (fun ls hl => ?_)
        refine lv_iconst (v := 0) X.x X.b d_Model_follow_29 (by decide) ?_
        refine lv_istore_n (lv' := [(2, .int 0), (1, .ref q26), (0, .ref mo)]) X.x X.b d_Model_follow_30 rfl hl (by decide) rfl (fun ls hl => ?_)
        refine lv_aload_n X.x X.b d_Model_follow_31 rfl (lv_at hl 1 rfl) ?_
        refine lv_iload_n X.x X.b d_Model_follow_32 rfl (lv_at hl 0 rfl) ?_
        refine lv_iinc (v := 1) (lv' := [(2, .int 1), (1, .ref q26), (0, .ref mo)]) X.x X.b d_Model_follow_33 hl (k := 0) rfl (by decide) (by decide) rfl (fun ls hl => ?_)
        refine lv_iconst (v := 0) X.x X.b d_Model_follow_36 (by decide) ?_
        refine m_ist X hS (Or.inr (by omega)) hL26 0 rfl (by omega) (by decide) d_Model_follow_37 (fun H locs hp hcg hS => ?_)
        have hL26 := hp
        obtain ⟨r_3, er_3⟩ : ∃ z, z = upd (fun _ => 0) 0 0 := ⟨_, rfl⟩
        rw [← er_3] at hL26
        have hM := hM.frame (fr.of_chg (A := fun q => q = q26) hcg rfl) (fun q z => by have z : q = q26 := z; have := hM.tq; omega)
        refine lv_iload_n X.x X.b d_Model_follow_38 rfl (lv_at hl 0 rfl) ?_
        refine lv_if_le (tgt := 143) X.x X.b d_Model_follow_39 (by decide) (fun c4 => ?_) (fun c4 => ?_)
        · exact absurd c4 (by decide)
        · skip
          have c4q := Int32.not_le.mp c4
          refine lv_aload_n X.x X.b d_Model_follow_42 rfl (lv_at hl 1 rfl) ?_
          refine lv_iinc (v := 0) (lv' := [(2, .int 0), (1, .ref q26), (0, .ref mo)]) X.x X.b d_Model_follow_43 hl (k := 0) rfl (by decide) (by decide) rfl (fun ls hl => ?_)
          refine lv_iload_n X.x X.b d_Model_follow_46 rfl (lv_at hl 0 rfl) ?_
          refine m_ild (v := 0) X hL26 0 rfl (by omega) (by decide) (show r_3 0 = 0 from (by rw [er_3, upd_hit])) d_Model_follow_47 ?_
          refine lv_istore_n (lv' := [(3, .int 0), (2, .int 0), (1, .ref q26), (0, .ref mo)]) X.x X.b d_Model_follow_48 rfl hl (by decide) rfl (fun ls hl => ?_)
          refine lv_iload_n X.x X.b d_Model_follow_49 rfl (lv_at hl 0 rfl) ?_
          refine lv_iconst (v := 0) X.x X.b d_Model_follow_50 (by decide) ?_
          refine lv_aload_n X.x X.b d_Model_follow_51 rfl (lv_at hl 3 rfl) ?_
          refine m_get (v := .int 2) X ok_Model hM.1 5 (by decide) k_Model_132 (congrArg (fun z => some (Value.int z)) (show p0 5 = 2 from (by rw [hw5]))) d_Model_follow_52 ?_
          refine lv_iconst (v := 1) X.x X.b d_Model_follow_55 (by decide) ?_
          refine lv_isub X.x X.b d_Model_follow_56 ?_
          rw [show (2 - 1 : Int32) = 1 from by decide]
          refine m_callSP X hS (MP_ans (M_Model_isIn l g 0 0 1) (show b2i (0 ≤ 0 ∧ 0 ≤ 1) = 1 from by decide)) s_Model_84 rfl rfl (Nat.le_of_ble_eq_true rfl) hl.1 d_Model_follow_57 (by omega) (by decide) ⟨by omega, by omega⟩ (fun locs hS => ?_)
          refine lv_if_eq (tgt := 38) X.x X.b d_Model_follow_60 (by decide) (fun c5 => ?_) (fun c5 => ?_)
          · exact absurd c5 (by decide)
          · skip
            refine lv_aload_n X.x X.b d_Model_follow_63 rfl (lv_at hl 3 rfl) ?_
            refine m_get (v := .ref (mo + 19)) X ok_Model hM.1 24 (by decide) k_Model_65 rfl d_Model_follow_64 ?_
            refine lv_iload_n X.x X.b d_Model_follow_67 rfl (lv_at hl 0 rfl) ?_
            refine m_zld (v := 0) X hM.a24 0 rfl (by omega) (by decide) (show s_2 24 0 = 0 from (by rw [es_2, updR_mi _ _ _ _ (show (0 : Nat) ≠ 1 by omega), es_1, updR_hit])) d_Model_follow_68 ?_
            refine lv_if_ne (tgt := 38) X.x X.b d_Model_follow_69 (by decide) (fun c6 => ?_) (fun c6 => ?_)
            · exact absurd c6 (by decide)
            · skip
              refine lv_aload_n X.x X.b d_Model_follow_72 rfl (lv_at hl 3 rfl) ?_
              refine lv_iload_n X.x X.b d_Model_follow_73 rfl (lv_at hl 0 rfl) ?_
              have hR := M_Model_goesOn (k := 0) l g hM (by omega)
              refine m_callP X hS hR v_Model_201 hM.1 rfl rfl rfl (Nat.le_of_ble_eq_true rfl) hl.1 d_Model_follow_74 (by omega) (by decide) ⟨by omega, by omega⟩ (fun locs hS => ?_)
              refine lv_if_ne (tgt := 93) X.x X.b d_Model_follow_77 (by decide) (fun c7 => ?_) (fun c7 => ?_)
              · skip
                have c7 := b2i_n0 c7
                refine lv_aload_n X.x X.b d_Model_follow_93 rfl (lv_at hl 3 rfl) ?_
                refine m_get (v := .ref (mo + 19)) X ok_Model hM.1 24 (by decide) k_Model_65 rfl d_Model_follow_94 ?_
                refine lv_iload_n X.x X.b d_Model_follow_97 rfl (lv_at hl 0 rfl) ?_
                refine lv_iconst (v := 1) X.x X.b d_Model_follow_98 (by decide) ?_
                refine m_zst X hS (Or.inl ⟨by omega, by omega⟩) hM.a24 0 rfl (by omega) (by decide) rfl d_Model_follow_99 (fun H locs hp hcg hS => ?_)
                have hM := hM.s24 hp hcg
                obtain ⟨s_4, es_4⟩ : ∃ z, z = updR s_2 24 (upd (s_2 24) 0 1) := ⟨_, rfl⟩
                rw [← es_4] at hM
                have hL26 := hL26.off hcg (by omega)
                refine lv_aload_n X.x X.b d_Model_follow_100 rfl (lv_at hl 3 rfl) ?_
                refine lv_iload_n X.x X.b d_Model_follow_101 rfl (lv_at hl 0 rfl) ?_
                have hR := M_Model_goesOn (k := 0) l g hM (by omega)
                refine m_callP X hS hR v_Model_201 hM.1 rfl rfl rfl (Nat.le_of_ble_eq_true rfl) hl.1 d_Model_follow_102 (by omega) (by decide) ⟨by omega, by omega⟩ (fun locs hS => ?_)
                refine lv_if_eq (tgt := 117) X.x X.b d_Model_follow_105 (by decide) (fun c8 => ?_) (fun c8 => ?_)
                · skip
                  have c8 := b2i_0.mp c8
                  refine lv_aload_n X.x X.b d_Model_follow_117 rfl (lv_at hl 3 rfl) ?_
                  refine lv_iload_n X.x X.b d_Model_follow_118 rfl (lv_at hl 0 rfl) ?_
                  have hR := M_Model_isBranch (k := 0) l g hM (by omega)
                  rw [show b2i (s_4 8 0 = 3 ∨ s_4 8 0 = 4) = 0 from b2i_f (by rw [show s_4 8 0 = 7 from (by rw [es_4, updR_mf _ _ _ (show 8 ≠ 24 by decide), es_2, updR_mf _ _ _ (show 8 ≠ 24 by decide), es_1, updR_mf _ _ _ (show 8 ≠ 24 by decide), hw8])]; first | decide | simp)] at hR
                  refine m_callP X hS hR v_Model_177 hM.1 rfl rfl rfl (Nat.le_of_ble_eq_true rfl) hl.1 d_Model_follow_119 (by omega) (by decide) ⟨by omega, by omega⟩ (fun locs hS => ?_)
                  refine lv_if_eq (tgt := 140) X.x X.b d_Model_follow_122 (by decide) (fun c9 => ?_) (fun c9 => ?_)
                  · skip
                    refine lv_goto (tgt := 38) X.x X.b d_Model_follow_140 (by decide) ?_
                    refine lv_iload_n X.x X.b d_Model_follow_38 rfl (lv_at hl 1 rfl) ?_
                    refine lv_if_le (tgt := 143) X.x X.b d_Model_follow_39 (by decide) (fun c10 => ?_) (fun c10 => ?_)
                    · skip
                      have c10q := Int32.not_lt.mpr c10
                      exact m_vret X hS (by omega) (by omega) d_Model_follow_143 rfl ⟨_, hM, (show same [24] s0 s_4 from (by rw [es_4]; exact (show same [24] s0 s_2 from (by rw [es_2]; exact (show same [24] s0 s_1 from (by rw [es_1]; exact (same.rf [24] s0).up _ _ (by decide))).up _ _ (by decide))).up _ _ (by decide)))⟩
                    · exact absurd c10 (by decide)
                  · exact absurd c6 c9
                · skip
                  have c8 := b2i_n0 c8
                  refine lv_aload_n X.x X.b d_Model_follow_108 rfl (lv_at hl 2 rfl) ?_
                  refine lv_iload_n X.x X.b d_Model_follow_109 rfl (lv_at hl 1 rfl) ?_
                  refine lv_iinc (v := 1) (lv' := [(2, .int 1), (3, .int 0), (1, .ref q26), (0, .ref mo)]) X.x X.b d_Model_follow_110 hl (k := 1) rfl (by decide) (by decide) rfl (fun ls hl => ?_)
                  refine lv_iload_n X.x X.b d_Model_follow_113 rfl (lv_at hl 1 rfl) ?_
                  refine lv_iconst (v := 1) X.x X.b d_Model_follow_114 (by decide) ?_
                  refine lv_iadd X.x X.b d_Model_follow_115 ?_
                  rw [show (0 + 1 : Int32) = 1 from by decide]
                  refine m_ist X hS (Or.inr (by omega)) hL26 0 rfl (by omega) (by decide) d_Model_follow_116 (fun H locs hp hcg hS => ?_)
                  have hL26 := hp
                  obtain ⟨r_5, er_5⟩ : ∃ z, z = upd r_3 0 1 := ⟨_, rfl⟩
                  rw [← er_5] at hL26
                  have hM := hM.frame (fr.of_chg (A := fun q => q = q26) hcg rfl) (fun q z => by have z : q = q26 := z; have := hM.tq; omega)
                  refine lv_aload_n X.x X.b d_Model_follow_117 rfl (lv_at hl 3 rfl) ?_
                  refine lv_iload_n X.x X.b d_Model_follow_118 rfl (lv_at hl 1 rfl) ?_
                  have hR := M_Model_isBranch (k := 0) l g hM (by omega)
                  rw [show b2i (s_4 8 0 = 3 ∨ s_4 8 0 = 4) = 0 from b2i_f (by rw [show s_4 8 0 = 7 from (by rw [es_4, updR_mf _ _ _ (show 8 ≠ 24 by decide), es_2, updR_mf _ _ _ (show 8 ≠ 24 by decide), es_1, updR_mf _ _ _ (show 8 ≠ 24 by decide), hw8])]; first | decide | simp)] at hR
                  refine m_callP X hS hR v_Model_177 hM.1 rfl rfl rfl (Nat.le_of_ble_eq_true rfl) hl.1 d_Model_follow_119 (by omega) (by decide) ⟨by omega, by omega⟩ (fun locs hS => ?_)
                  refine lv_if_eq (tgt := 140) X.x X.b d_Model_follow_122 (by decide) (fun c11 => ?_) (fun c11 => ?_)
                  · skip
                    refine lv_goto (tgt := 38) X.x X.b d_Model_follow_140 (by decide) ?_
                    refine lv_iload_n X.x X.b d_Model_follow_38 rfl (lv_at hl 0 rfl) ?_
                    refine lv_if_le (tgt := 143) X.x X.b d_Model_follow_39 (by decide) (fun c12 => ?_) (fun c12 => ?_)
                    · exact absurd c12 c4
                    · skip
                      have c12q := Int32.not_le.mp c12
                      refine lv_aload_n X.x X.b d_Model_follow_42 rfl (lv_at hl 2 rfl) ?_
                      refine lv_iinc (v := 0) (lv' := [(2, .int 0), (3, .int 0), (1, .ref q26), (0, .ref mo)]) X.x X.b d_Model_follow_43 hl (k := 0) rfl (by decide) (by decide) rfl (fun ls hl => ?_)
                      refine lv_iload_n X.x X.b d_Model_follow_46 rfl (lv_at hl 0 rfl) ?_
                      refine m_ild (v := 1) X hL26 0 rfl (by omega) (by decide) (show r_5 0 = 1 from (by rw [er_5, upd_hit])) d_Model_follow_47 ?_
                      refine lv_istore_n (lv' := [(3, .int 1), (2, .int 0), (1, .ref q26), (0, .ref mo)]) X.x X.b d_Model_follow_48 rfl hl (by decide) rfl (fun ls hl => ?_)
                      refine lv_iload_n X.x X.b d_Model_follow_49 rfl (lv_at hl 0 rfl) ?_
                      refine lv_iconst (v := 0) X.x X.b d_Model_follow_50 (by decide) ?_
                      refine lv_aload_n X.x X.b d_Model_follow_51 rfl (lv_at hl 3 rfl) ?_
                      refine m_get (v := .int 2) X ok_Model hM.1 5 (by decide) k_Model_132 (congrArg (fun z => some (Value.int z)) (show p0 5 = 2 from (by rw [hw5]))) d_Model_follow_52 ?_
                      refine lv_iconst (v := 1) X.x X.b d_Model_follow_55 (by decide) ?_
                      refine lv_isub X.x X.b d_Model_follow_56 ?_
                      rw [show (2 - 1 : Int32) = 1 from by decide]
                      refine m_callSP X hS (MP_ans (M_Model_isIn l g 1 0 1) (show b2i (0 ≤ 1 ∧ 1 ≤ 1) = 1 from by decide)) s_Model_84 rfl rfl (Nat.le_of_ble_eq_true rfl) hl.1 d_Model_follow_57 (by omega) (by decide) ⟨by omega, by omega⟩ (fun locs hS => ?_)
                      refine lv_if_eq (tgt := 38) X.x X.b d_Model_follow_60 (by decide) (fun c13 => ?_) (fun c13 => ?_)
                      · exact absurd c13 c5
                      · skip
                        refine lv_aload_n X.x X.b d_Model_follow_63 rfl (lv_at hl 3 rfl) ?_
                        refine m_get (v := .ref (mo + 19)) X ok_Model hM.1 24 (by decide) k_Model_65 rfl d_Model_follow_64 ?_
                        refine lv_iload_n X.x X.b d_Model_follow_67 rfl (lv_at hl 0 rfl) ?_
                        refine m_zld (v := 0) X hM.a24 1 rfl (by omega) (by decide) (show s_4 24 1 = 0 from (by rw [es_4, updR_mi _ _ _ _ (show (1 : Nat) ≠ 0 by omega), es_2, updR_hit])) d_Model_follow_68 ?_
                        refine lv_if_ne (tgt := 38) X.x X.b d_Model_follow_69 (by decide) (fun c14 => ?_) (fun c14 => ?_)
                        · exact absurd c11 c14
                        · skip
                          refine lv_aload_n X.x X.b d_Model_follow_72 rfl (lv_at hl 3 rfl) ?_
                          refine lv_iload_n X.x X.b d_Model_follow_73 rfl (lv_at hl 0 rfl) ?_
                          have hR := M_Model_goesOn (k := 1) l g hM (by omega)
                          refine m_callP X hS hR v_Model_201 hM.1 rfl rfl rfl (Nat.le_of_ble_eq_true rfl) hl.1 d_Model_follow_74 (by omega) (by decide) ⟨by omega, by omega⟩ (fun locs hS => ?_)
                          refine lv_if_ne (tgt := 93) X.x X.b d_Model_follow_77 (by decide) (fun c15 => ?_) (fun c15 => ?_)
                          · skip
                            have c15 := b2i_n0 c15
                            refine lv_aload_n X.x X.b d_Model_follow_93 rfl (lv_at hl 3 rfl) ?_
                            refine m_get (v := .ref (mo + 19)) X ok_Model hM.1 24 (by decide) k_Model_65 rfl d_Model_follow_94 ?_
                            refine lv_iload_n X.x X.b d_Model_follow_97 rfl (lv_at hl 0 rfl) ?_
                            refine lv_iconst (v := 1) X.x X.b d_Model_follow_98 (by decide) ?_
                            refine m_zst X hS (Or.inl ⟨by omega, by omega⟩) hM.a24 1 rfl (by omega) (by decide) rfl d_Model_follow_99 (fun H locs hp hcg hS => ?_)
                            have hM := hM.s24 hp hcg
                            obtain ⟨s_6, es_6⟩ : ∃ z, z = updR s_4 24 (upd (s_4 24) 1 1) := ⟨_, rfl⟩
                            rw [← es_6] at hM
                            have hL26 := hL26.off hcg (by omega)
                            refine lv_aload_n X.x X.b d_Model_follow_100 rfl (lv_at hl 3 rfl) ?_
                            refine lv_iload_n X.x X.b d_Model_follow_101 rfl (lv_at hl 0 rfl) ?_
                            have hR := M_Model_goesOn (k := 1) l g hM (by omega)
                            refine m_callP X hS hR v_Model_201 hM.1 rfl rfl rfl (Nat.le_of_ble_eq_true rfl) hl.1 d_Model_follow_102 (by omega) (by decide) ⟨by omega, by omega⟩ (fun locs hS => ?_)
                            refine lv_if_eq (tgt := 117) X.x X.b d_Model_follow_105 (by decide) (fun c16 => ?_) (fun c16 => ?_)
                            · skip
                              have c16 := b2i_0.mp c16
                              refine lv_aload_n X.x X.b d_Model_follow_117 rfl (lv_at hl 3 rfl) ?_
                              refine lv_iload_n X.x X.b d_Model_follow_118 rfl (lv_at hl 0 rfl) ?_
                              have hR := M_Model_isBranch (k := 1) l g hM (by omega)
                              rw [show b2i (s_6 8 1 = 3 ∨ s_6 8 1 = 4) = 0 from b2i_f (by rw [show s_6 8 1 = 6 from (by rw [es_6, updR_mf _ _ _ (show 8 ≠ 24 by decide), es_4, updR_mf _ _ _ (show 8 ≠ 24 by decide), es_2, updR_mf _ _ _ (show 8 ≠ 24 by decide), es_1, updR_mf _ _ _ (show 8 ≠ 24 by decide), hw81])]; first | decide | simp)] at hR
                              refine m_callP X hS hR v_Model_177 hM.1 rfl rfl rfl (Nat.le_of_ble_eq_true rfl) hl.1 d_Model_follow_119 (by omega) (by decide) ⟨by omega, by omega⟩ (fun locs hS => ?_)
                              refine lv_if_eq (tgt := 140) X.x X.b d_Model_follow_122 (by decide) (fun c17 => ?_) (fun c17 => ?_)
                              · skip
                                refine lv_goto (tgt := 38) X.x X.b d_Model_follow_140 (by decide) ?_
                                refine lv_iload_n X.x X.b d_Model_follow_38 rfl (lv_at hl 1 rfl) ?_
                                refine lv_if_le (tgt := 143) X.x X.b d_Model_follow_39 (by decide) (fun c18 => ?_) (fun c18 => ?_)
                                · skip
                                  have c18q := Int32.not_lt.mpr c18
                                  exact m_vret X hS (by omega) (by omega) d_Model_follow_143 rfl ⟨_, hM, (show same [24] s0 s_6 from (by rw [es_6]; exact (show same [24] s0 s_4 from (by rw [es_4]; exact (show same [24] s0 s_2 from (by rw [es_2]; exact (show same [24] s0 s_1 from (by rw [es_1]; exact (same.rf [24] s0).up _ _ (by decide))).up _ _ (by decide))).up _ _ (by decide))).up _ _ (by decide)))⟩
                                · exact absurd c18 (by decide)
                              · exact absurd c14 c17
                            · skip
                              have c16 := b2i_n0 c16
                              refine lv_aload_n X.x X.b d_Model_follow_108 rfl (lv_at hl 2 rfl) ?_
                              refine lv_iload_n X.x X.b d_Model_follow_109 rfl (lv_at hl 1 rfl) ?_
                              refine lv_iinc (v := 1) (lv' := [(2, .int 1), (3, .int 1), (1, .ref q26), (0, .ref mo)]) X.x X.b d_Model_follow_110 hl (k := 1) rfl (by decide) (by decide) rfl (fun ls hl => ?_)
                              refine lv_iload_n X.x X.b d_Model_follow_113 rfl (lv_at hl 1 rfl) ?_
                              refine lv_iconst (v := 1) X.x X.b d_Model_follow_114 (by decide) ?_
                              refine lv_iadd X.x X.b d_Model_follow_115 ?_
                              rw [show (1 + 1 : Int32) = 2 from by decide]
                              refine m_ist X hS (Or.inr (by omega)) hL26 0 rfl (by omega) (by decide) d_Model_follow_116 (fun H locs hp hcg hS => ?_)
                              have hL26 := hp
                              obtain ⟨r_7, er_7⟩ : ∃ z, z = upd r_5 0 2 := ⟨_, rfl⟩
                              rw [← er_7] at hL26
                              have hM := hM.frame (fr.of_chg (A := fun q => q = q26) hcg rfl) (fun q z => by have z : q = q26 := z; have := hM.tq; omega)
                              refine lv_aload_n X.x X.b d_Model_follow_117 rfl (lv_at hl 3 rfl) ?_
                              refine lv_iload_n X.x X.b d_Model_follow_118 rfl (lv_at hl 1 rfl) ?_
                              have hR := M_Model_isBranch (k := 1) l g hM (by omega)
                              rw [show b2i (s_6 8 1 = 3 ∨ s_6 8 1 = 4) = 0 from b2i_f (by rw [show s_6 8 1 = 6 from (by rw [es_6, updR_mf _ _ _ (show 8 ≠ 24 by decide), es_4, updR_mf _ _ _ (show 8 ≠ 24 by decide), es_2, updR_mf _ _ _ (show 8 ≠ 24 by decide), es_1, updR_mf _ _ _ (show 8 ≠ 24 by decide), hw81])]; first | decide | simp)] at hR
                              refine m_callP X hS hR v_Model_177 hM.1 rfl rfl rfl (Nat.le_of_ble_eq_true rfl) hl.1 d_Model_follow_119 (by omega) (by decide) ⟨by omega, by omega⟩ (fun locs hS => ?_)
                              refine lv_if_eq (tgt := 140) X.x X.b d_Model_follow_122 (by decide) (fun c19 => ?_) (fun c19 => ?_)
                              · skip
                                refine lv_goto (tgt := 38) X.x X.b d_Model_follow_140 (by decide) ?_
                                refine lv_iload_n X.x X.b d_Model_follow_38 rfl (lv_at hl 0 rfl) ?_
                                refine lv_if_le (tgt := 143) X.x X.b d_Model_follow_39 (by decide) (fun c20 => ?_) (fun c20 => ?_)
                                · exact absurd c20 c12
                                · skip
                                  have c20q := Int32.not_le.mp c20
                                  refine lv_aload_n X.x X.b d_Model_follow_42 rfl (lv_at hl 2 rfl) ?_
                                  refine lv_iinc (v := 0) (lv' := [(2, .int 0), (3, .int 1), (1, .ref q26), (0, .ref mo)]) X.x X.b d_Model_follow_43 hl (k := 0) rfl (by decide) (by decide) rfl (fun ls hl => ?_)
                                  refine lv_iload_n X.x X.b d_Model_follow_46 rfl (lv_at hl 0 rfl) ?_
                                  refine m_ild (v := 2) X hL26 0 rfl (by omega) (by decide) (show r_7 0 = 2 from (by rw [er_7, upd_hit])) d_Model_follow_47 ?_
                                  refine lv_istore_n (lv' := [(3, .int 2), (2, .int 0), (1, .ref q26), (0, .ref mo)]) X.x X.b d_Model_follow_48 rfl hl (by decide) rfl (fun ls hl => ?_)
                                  refine lv_iload_n X.x X.b d_Model_follow_49 rfl (lv_at hl 0 rfl) ?_
                                  refine lv_iconst (v := 0) X.x X.b d_Model_follow_50 (by decide) ?_
                                  refine lv_aload_n X.x X.b d_Model_follow_51 rfl (lv_at hl 3 rfl) ?_
                                  refine m_get (v := .int 2) X ok_Model hM.1 5 (by decide) k_Model_132 (congrArg (fun z => some (Value.int z)) (show p0 5 = 2 from (by rw [hw5]))) d_Model_follow_52 ?_
                                  refine lv_iconst (v := 1) X.x X.b d_Model_follow_55 (by decide) ?_
                                  refine lv_isub X.x X.b d_Model_follow_56 ?_
                                  rw [show (2 - 1 : Int32) = 1 from by decide]
                                  refine m_callSP X hS (MP_ans (M_Model_isIn l g 2 0 1) (show b2i (0 ≤ 2 ∧ 2 ≤ 1) = 0 from by decide)) s_Model_84 rfl rfl (Nat.le_of_ble_eq_true rfl) hl.1 d_Model_follow_57 (by omega) (by decide) ⟨by omega, by omega⟩ (fun locs hS => ?_)
                                  refine lv_if_eq (tgt := 38) X.x X.b d_Model_follow_60 (by decide) (fun c21 => ?_) (fun c21 => ?_)
                                  · skip
                                    refine lv_iload_n X.x X.b d_Model_follow_38 rfl (lv_at hl 1 rfl) ?_
                                    refine lv_if_le (tgt := 143) X.x X.b d_Model_follow_39 (by decide) (fun c22 => ?_) (fun c22 => ?_)
                                    · skip
                                      have c22q := Int32.not_lt.mpr c22
                                      exact m_vret X hS (by omega) (by omega) d_Model_follow_143 rfl ⟨_, hM, (show same [24] s0 s_6 from (by rw [es_6]; exact (show same [24] s0 s_4 from (by rw [es_4]; exact (show same [24] s0 s_2 from (by rw [es_2]; exact (show same [24] s0 s_1 from (by rw [es_1]; exact (same.rf [24] s0).up _ _ (by decide))).up _ _ (by decide))).up _ _ (by decide))).up _ _ (by decide)))⟩
                                    · exact absurd c22 (by decide)
                                  · exact absurd c19 c21
                              · exact absurd c14 c19
                          · skip
                            have c15 := b2i_0.mp c15
                            refine lv_aload_n X.x X.b d_Model_follow_80 rfl (lv_at hl 3 rfl) ?_
                            refine m_get (v := .ref (mo + 3)) X ok_Model hM.1 8 (by decide) k_Model_16 rfl d_Model_follow_81 ?_
                            refine lv_iload_n X.x X.b d_Model_follow_84 rfl (lv_at hl 0 rfl) ?_
                            refine m_ild (v := 6) X hM.a8 1 rfl (by omega) (by decide) (show s_4 8 1 = 6 from (by rw [es_4, updR_mf _ _ _ (show 8 ≠ 24 by decide), es_2, updR_mf _ _ _ (show 8 ≠ 24 by decide), es_1, updR_mf _ _ _ (show 8 ≠ 24 by decide), hw81])) d_Model_follow_85 ?_
                            refine lv_iconst (v := 3) X.x X.b d_Model_follow_86 (by decide) ?_
                            refine lv_icmp_eq (tgt := 93) X.x X.b d_Model_follow_87 (by decide) (fun c23 => ?_) (fun c23 => ?_)
                            · exact absurd c23 (by decide)
                            · skip
                              refine lv_goto (tgt := 38) X.x X.b d_Model_follow_90 (by decide) ?_
                              refine lv_iload_n X.x X.b d_Model_follow_38 rfl (lv_at hl 1 rfl) ?_
                              refine lv_if_le (tgt := 143) X.x X.b d_Model_follow_39 (by decide) (fun c24 => ?_) (fun c24 => ?_)
                              · skip
                                have c24q := Int32.not_lt.mpr c24
                                exact m_vret X hS (by omega) (by omega) d_Model_follow_143 rfl ⟨_, hM, (show same [24] s0 s_4 from (by rw [es_4]; exact (show same [24] s0 s_2 from (by rw [es_2]; exact (show same [24] s0 s_1 from (by rw [es_1]; exact (same.rf [24] s0).up _ _ (by decide))).up _ _ (by decide))).up _ _ (by decide)))⟩
                              · exact absurd c24 (by decide)
                  · exact absurd c6 c11
              · skip
                have c7 := b2i_0.mp c7
                refine lv_aload_n X.x X.b d_Model_follow_80 rfl (lv_at hl 3 rfl) ?_
                refine m_get (v := .ref (mo + 3)) X ok_Model hM.1 8 (by decide) k_Model_16 rfl d_Model_follow_81 ?_
                refine lv_iload_n X.x X.b d_Model_follow_84 rfl (lv_at hl 0 rfl) ?_
                refine m_ild (v := 7) X hM.a8 0 rfl (by omega) (by decide) (show s_2 8 0 = 7 from (by rw [es_2, updR_mf _ _ _ (show 8 ≠ 24 by decide), es_1, updR_mf _ _ _ (show 8 ≠ 24 by decide), hw8])) d_Model_follow_85 ?_
                refine lv_iconst (v := 3) X.x X.b d_Model_follow_86 (by decide) ?_
                refine lv_icmp_eq (tgt := 93) X.x X.b d_Model_follow_87 (by decide) (fun c25 => ?_) (fun c25 => ?_)
                · exact absurd c25 (by decide)
                · skip
                  refine lv_goto (tgt := 38) X.x X.b d_Model_follow_90 (by decide) ?_
                  refine lv_iload_n X.x X.b d_Model_follow_38 rfl (lv_at hl 1 rfl) ?_
                  refine lv_if_le (tgt := 143) X.x X.b d_Model_follow_39 (by decide) (fun c26 => ?_) (fun c26 => ?_)
                  · skip
                    have c26q := Int32.not_lt.mpr c26
                    exact m_vret X hS (by omega) (by omega) d_Model_follow_143 rfl ⟨_, hM, (show same [24] s0 s_2 from (by rw [es_2]; exact (show same [24] s0 s_1 from (by rw [es_1]; exact (same.rf [24] s0).up _ _ (by decide))).up _ _ (by decide)))⟩
                  · exact absurd c26 (by decide)
      · exact absurd c3 (by decide)
