-- THE REFERENCE, ASSEMBLING DATA OF 0, OR NOTHING
/-- as it is when nothing has been told -/
def frP (p : Nat → Int32) (s : Nat → Nat → Int32) : Prop :=
  (p 3 = 0 ∧ p 4 = -1 ∧ p 5 = 1 ∧ p 6 = 0 ∧ p 7 = 1) ∧ (s 8 0 = 6 ∧ s 11 0 = 0 ∧ s 12 0 = -1 ∧ s 13 0 = 0 ∧ s 14 0 = 0 ∧ s 14 1 = 0 ∧ s 15 0 = 0 ∧ s 23 0 = 0 ∧ s 24 0 = 1) ∧ ∀ j, j < 8 → s 25 j = 0 ∧ s 27 j = -1
theorem dxP.s {c : Nat} {p : Nat → Int32} {s t : Nat → Nat → Int32} (h : dxP c p s) (h8 : t 8 = s 8) (h9 : t 9 = s 9) (h10 : t 10 = s 10) : dxP c p t := by
  unfold dxP at h ⊢
  rw [h8, h9, h10]
  exact h
theorem dxP.ps {c : Nat} {p q : Nat → Int32} {s t : Nat → Nat → Int32} (h : dxP c p s) (h3 : q 3 = p 3) (h5 : q 5 = p 5) (h8 : t 8 = s 8) (h9 : t 9 = s 9) (h10 : t 10 = s 10) : dxP c q t := by
  unfold dxP at h ⊢
  rw [h3, h5, h8, h9, h10]
  exact h
theorem MP_ans {l : Launch} {y : MethodName} {cc : ByteArray} {n : Nat} {ret : Option FieldType} {lv : Nat} {g : GG} {H : Heap} {as : List Value} {v w : Int32} (h : MP l y cc n ret lv g H as (some (.int v))) (e : v = w) : MP l y cc n ret lv g H as (some (.int w)) := e ▸ h
set_option maxRecDepth 100000 in
set_option maxHeartbeats 4000000 in
theorem M_Model_place_F (l : Launch) (g : GG) {mo tq : Nat} {p0 : Nat → Int32} {s0 : Nat → Nat → Int32} {H0 : Heap} (hM : mAt g mo tq p0 s0 H0) (h5 : p0 5 = 1) (h8 : s0 8 0 = 6) (h15 : s0 15 0 = 0) : MM l y_Model_place c_Model_place 3 none 2 0 0 g H0 [.ref mo] (fun q => mo ≤ q ∧ q < mo + 23) (none) (fun H1 => ∃ p s, mAt g mo tq p s H1 ∧ samP [6] p0 p ∧ same [14, 15] s0 s ∧ (p 6 = 0 ∧ s 14 0 = 0 ∧ s 14 1 = 0 ∧ s 15 0 = 0)) := by
  refine MM.of (by decide +kernel) (Nat.le_of_ble_eq_true rfl) ?_
  intro p e s m below meth cd X hH ls hl
  have X : CX g p s m _ meth cd c_Model_place 3 none R_Model _ := X
  have hl : lv_has ls 3 [(0, .ref mo)] := hl
  have hS : va_S (AA (fun q => mo ≤ q ∧ q < mo + 23) H0) H0 H0 [] := va_S.rf
  have hlt0 := hM.lt
  have htq0 := hM.tq
  refine lv_iconst (v := 0) X.x X.b d_Model_place_0 (by decide) ?_
  refine lv_istore_n (lv' := [(1, .int 0), (0, .ref mo)]) X.x X.b d_Model_place_1 rfl hl (by decide) rfl (fun ls hl => ?_)
  refine lv_iconst (v := 0) X.x X.b d_Model_place_2 (by decide) ?_
  refine lv_istore_n (lv' := [(2, .int 0), (1, .int 0), (0, .ref mo)]) X.x X.b d_Model_place_3 rfl hl (by decide) rfl (fun ls hl => ?_)
  refine lv_iload_n X.x X.b d_Model_place_4 rfl (lv_at hl 0 rfl) ?_
  refine lv_aload_n X.x X.b d_Model_place_5 rfl (lv_at hl 2 rfl) ?_
  refine m_get (v := .int 1) X ok_Model hM.1 5 (by decide) k_Model_132 (congrArg (fun z => some (Value.int z)) (show p0 5 = 1 from (by rw [h5]))) d_Model_place_6 ?_
  refine lv_icmp_ge (tgt := 46) X.x X.b d_Model_place_9 (by decide) (fun c1 => ?_) (fun c1 => ?_)
  · exact absurd c1 (by decide)
  · skip
    have c1q := Int32.not_le.mp c1
    refine lv_aload_n X.x X.b d_Model_place_12 rfl (lv_at hl 2 rfl) ?_
    refine m_get (v := .ref (mo + 9)) X ok_Model hM.1 14 (by decide) k_Model_34 rfl d_Model_place_13 ?_
    refine lv_iload_n X.x X.b d_Model_place_16 rfl (lv_at hl 0 rfl) ?_
    refine lv_iload_n X.x X.b d_Model_place_17 rfl (lv_at hl 1 rfl) ?_
    refine m_ist X hS (Or.inl ⟨by omega, by omega⟩) hM.a14 0 rfl (by omega) (by decide) d_Model_place_18 (fun H locs hp hcg hS => ?_)
    have hM := hM.s14 hp hcg
    obtain ⟨s_1, es_1⟩ : ∃ z, z = updR s0 14 (upd (s0 14) 0 0) := ⟨_, rfl⟩
    rw [← es_1] at hM
    refine lv_aload_n X.x X.b d_Model_place_19 rfl (lv_at hl 2 rfl) ?_
    refine m_get (v := .ref (mo + 10)) X ok_Model hM.1 15 (by decide) k_Model_37 rfl d_Model_place_20 ?_
    refine lv_iload_n X.x X.b d_Model_place_23 rfl (lv_at hl 0 rfl) ?_
    refine lv_aload_n X.x X.b d_Model_place_24 rfl (lv_at hl 2 rfl) ?_
    refine lv_iload_n X.x X.b d_Model_place_25 rfl (lv_at hl 0 rfl) ?_
    refine lv_iload_n X.x X.b d_Model_place_26 rfl (lv_at hl 1 rfl) ?_
    have hR := M_Model_sizeOf (k := 0) (fr_ := 0) l g hM (by omega) (fun z => absurd ((show s_1 8 0 = 6 from (by rw [es_1, updR_mf _ _ _ (show 8 ≠ 14 by decide), h8])).symm.trans z) (by decide))
    rw [show szM s_1 0 0 = 0 from by unfold szM; rw [show s_1 8 0 = 6 from (by rw [es_1, updR_mf _ _ _ (show 8 ≠ 14 by decide), h8]), show s_1 15 0 = 0 from (by rw [es_1, updR_mf _ _ _ (show 15 ≠ 14 by decide), h15])]; rfl] at hR
    refine m_callP X hS hR v_Model_162 hM.1 rfl rfl rfl (Nat.le_of_ble_eq_true rfl) hl.1 d_Model_place_27 (by omega) (by decide) ⟨by omega, by omega⟩ (fun locs hS => ?_)
    refine m_ist X hS (Or.inl ⟨by omega, by omega⟩) hM.a15 0 rfl (by omega) (by decide) d_Model_place_30 (fun H locs hp hcg hS => ?_)
    have hM := hM.s15 hp hcg
    obtain ⟨s_2, es_2⟩ : ∃ z, z = updR s_1 15 (upd (s_1 15) 0 0) := ⟨_, rfl⟩
    rw [← es_2] at hM
    refine lv_iload_n X.x X.b d_Model_place_31 rfl (lv_at hl 1 rfl) ?_
    refine lv_aload_n X.x X.b d_Model_place_32 rfl (lv_at hl 2 rfl) ?_
    refine m_get (v := .ref (mo + 10)) X ok_Model hM.1 15 (by decide) k_Model_37 rfl d_Model_place_33 ?_
    refine lv_iload_n X.x X.b d_Model_place_36 rfl (lv_at hl 0 rfl) ?_
    refine m_ild (v := 0) X hM.a15 0 rfl (by omega) (by decide) (show s_2 15 0 = 0 from (by rw [es_2, updR_hit])) d_Model_place_37 ?_
    refine lv_iadd X.x X.b d_Model_place_38 ?_
    rw [show (0 + 0 : Int32) = 0 from by decide]
    refine lv_istore_n (lv' := [(1, .int 0), (2, .int 0), (0, .ref mo)]) X.x X.b d_Model_place_39 rfl hl (by decide) rfl (fun ls hl => ?_)
    refine lv_iinc (v := 1) (lv' := [(2, .int 1), (1, .int 0), (0, .ref mo)]) X.x X.b d_Model_place_40 hl (k := 1) rfl (by decide) (by decide) rfl (fun ls hl => ?_)
    refine lv_goto (tgt := 4) X.x X.b d_Model_place_43 (by decide) ?_
    refine lv_iload_n X.x X.b d_Model_place_4 rfl (lv_at hl 0 rfl) ?_
    refine lv_aload_n X.x X.b d_Model_place_5 rfl (lv_at hl 2 rfl) ?_
    refine m_get (v := .int 1) X ok_Model hM.1 5 (by decide) k_Model_132 (congrArg (fun z => some (Value.int z)) (show p0 5 = 1 from (by rw [h5]))) d_Model_place_6 ?_
    refine lv_icmp_ge (tgt := 46) X.x X.b d_Model_place_9 (by decide) (fun c2 => ?_) (fun c2 => ?_)
    · skip
      have c2q := Int32.not_lt.mpr c2
      refine lv_aload_n X.x X.b d_Model_place_46 rfl (lv_at hl 2 rfl) ?_
      refine m_get (v := .ref (mo + 9)) X ok_Model hM.1 14 (by decide) k_Model_34 rfl d_Model_place_47 ?_
      refine lv_aload_n X.x X.b d_Model_place_50 rfl (lv_at hl 2 rfl) ?_
      refine m_get (v := .int 1) X ok_Model hM.1 5 (by decide) k_Model_132 (congrArg (fun z => some (Value.int z)) (show p0 5 = 1 from (by rw [h5]))) d_Model_place_51 ?_
      refine lv_iload_n X.x X.b d_Model_place_54 rfl (lv_at hl 1 rfl) ?_
      refine m_ist X hS (Or.inl ⟨by omega, by omega⟩) hM.a14 1 rfl (by omega) (by decide) d_Model_place_55 (fun H locs hp hcg hS => ?_)
      have hM := hM.s14 hp hcg
      obtain ⟨s_3, es_3⟩ : ∃ z, z = updR s_2 14 (upd (s_2 14) 1 0) := ⟨_, rfl⟩
      rw [← es_3] at hM
      refine lv_aload_n X.x X.b d_Model_place_56 rfl (lv_at hl 2 rfl) ?_
      refine lv_iload_n X.x X.b d_Model_place_57 rfl (lv_at hl 1 rfl) ?_
      refine m_put X ok_Model hS (Or.inl ⟨by omega, by omega⟩) hM.1 6 (by decide) k_Model_165 rfl (ok_Model.2.2.1 _ (by decide)) rfl rfl (Nat.le_of_ble_eq_true rfl) d_Model_place_58 (fun H locs hp hcg hS => ?_)
      have hM := hM.f6 hp hcg
      obtain ⟨p_4, ep_4⟩ : ∃ z, z = upd p0 6 0 := ⟨_, rfl⟩
      rw [← ep_4] at hM
      exact m_vret X hS (by omega) (by omega) d_Model_place_61 rfl ⟨_, _, hM, by rw [ep_4]; exact ((samP.rf _ _).up _ _ (by decide)), by rw [es_3]; rw [es_2]; rw [es_1]; exact ((((same.rf _ _).up _ _ (by decide)).up _ _ (by decide)).up _ _ (by decide)), (by rw [ep_4, upd_hit]), (by rw [es_3, updR_mi _ _ _ _ (show (0 : Nat) ≠ 1 by omega), es_2, updR_mf _ _ _ (show 14 ≠ 15 by decide), es_1, updR_hit]), (by rw [es_3, updR_hit]), (by rw [es_3, updR_mf _ _ _ (show 15 ≠ 14 by decide), es_2, updR_hit])⟩
    · exact absurd c2 (by decide)
set_option maxRecDepth 100000 in
set_option maxHeartbeats 4000000 in
theorem M_Model_layOut_F (l : Launch) (g : GG) {mo tq : Nat} {p0 : Nat → Int32} {s0 : Nat → Nat → Int32} {H0 : Heap} (hM : mAt g mo tq p0 s0 H0) (h5 : p0 5 = 1) (h8 : s0 8 0 = 6) (h15 : s0 15 0 = 0) : MM l y_Model_layOut c_Model_layOut 3 none 3 0 0 g H0 [.ref mo] (fun q => mo ≤ q ∧ q < mo + 23) (none) (fun H1 => ∃ p s, mAt g mo tq p s H1 ∧ samP [6, 7] p0 p ∧ same [14, 15, 23] s0 s ∧ (p 6 = 0 ∧ p 7 = 1 ∧ s 14 0 = 0 ∧ s 14 1 = 0 ∧ s 15 0 = 0 ∧ s 23 0 = 0)) := by
  refine MM.of (by decide +kernel) (Nat.le_of_ble_eq_true rfl) ?_
  intro p e s m below meth cd X hH ls hl
  have X : CX g p s m _ meth cd c_Model_layOut 3 none R_Model _ := X
  have hl : lv_has ls 3 [(0, .ref mo)] := hl
  have hS : va_S (AA (fun q => mo ≤ q ∧ q < mo + 23) H0) H0 H0 [] := va_S.rf
  have hlt0 := hM.lt
  have htq0 := hM.tq
  refine lv_iconst (v := 0) X.x X.b d_Model_layOut_0 (by decide) ?_
  refine lv_istore_n (lv' := [(1, .int 0), (0, .ref mo)]) X.x X.b d_Model_layOut_1 rfl hl (by decide) rfl (fun ls hl => ?_)
  refine lv_iload_n X.x X.b d_Model_layOut_2 rfl (lv_at hl 0 rfl) ?_
  refine lv_aload_n X.x X.b d_Model_layOut_3 rfl (lv_at hl 1 rfl) ?_
  refine m_get (v := .int 1) X ok_Model hM.1 5 (by decide) k_Model_132 (congrArg (fun z => some (Value.int z)) (show p0 5 = 1 from (by rw [h5]))) d_Model_layOut_4 ?_
  refine lv_icmp_ge (tgt := 23) X.x X.b d_Model_layOut_7 (by decide) (fun c1 => ?_) (fun c1 => ?_)
  · exact absurd c1 (by decide)
  · skip
    have c1q := Int32.not_le.mp c1
    refine lv_aload_n X.x X.b d_Model_layOut_10 rfl (lv_at hl 1 rfl) ?_
    refine m_get (v := .ref (mo + 18)) X ok_Model hM.1 23 (by decide) k_Model_61 rfl d_Model_layOut_11 ?_
    refine lv_iload_n X.x X.b d_Model_layOut_14 rfl (lv_at hl 0 rfl) ?_
    refine lv_iconst (v := 0) X.x X.b d_Model_layOut_15 (by decide) ?_
    refine m_zst X hS (Or.inl ⟨by omega, by omega⟩) hM.a23 0 rfl (by omega) (by decide) rfl d_Model_layOut_16 (fun H locs hp hcg hS => ?_)
    have hM := hM.s23 hp hcg
    obtain ⟨s_1, es_1⟩ : ∃ z, z = updR s0 23 (upd (s0 23) 0 0) := ⟨_, rfl⟩
    rw [← es_1] at hM
    refine lv_iinc (v := 1) (lv' := [(1, .int 1), (0, .ref mo)]) X.x X.b d_Model_layOut_17 hl (k := 0) rfl (by decide) (by decide) rfl (fun ls hl => ?_)
    refine lv_goto (tgt := 2) X.x X.b d_Model_layOut_20 (by decide) ?_
    refine lv_iload_n X.x X.b d_Model_layOut_2 rfl (lv_at hl 0 rfl) ?_
    refine lv_aload_n X.x X.b d_Model_layOut_3 rfl (lv_at hl 1 rfl) ?_
    refine m_get (v := .int 1) X ok_Model hM.1 5 (by decide) k_Model_132 (congrArg (fun z => some (Value.int z)) (show p0 5 = 1 from (by rw [h5]))) d_Model_layOut_4 ?_
    refine lv_icmp_ge (tgt := 23) X.x X.b d_Model_layOut_7 (by decide) (fun c2 => ?_) (fun c2 => ?_)
    · skip
      have c2q := Int32.not_lt.mpr c2
      refine lv_aload_n X.x X.b d_Model_layOut_23 rfl (lv_at hl 1 rfl) ?_
      refine lv_iconst (v := 0) X.x X.b d_Model_layOut_24 (by decide) ?_
      refine m_put X ok_Model hS (Or.inl ⟨by omega, by omega⟩) hM.1 7 (by decide) k_Model_171 rfl (ok_Model.2.2.1 _ (by decide)) rfl rfl (Nat.le_of_ble_eq_true rfl) d_Model_layOut_25 (fun H locs hp hcg hS => ?_)
      have hM := hM.f7 hp hcg
      obtain ⟨p_2, ep_2⟩ : ∃ z, z = upd p0 7 0 := ⟨_, rfl⟩
      rw [← ep_2] at hM
      refine lv_iconst (v := 1) X.x X.b d_Model_layOut_28 (by decide) ?_
      refine lv_istore_n (lv' := [(1, .int 1), (0, .ref mo)]) X.x X.b d_Model_layOut_29 rfl hl (by decide) rfl (fun ls hl => ?_)
      refine lv_iload_n X.x X.b d_Model_layOut_30 rfl (lv_at hl 0 rfl) ?_
      refine lv_if_eq (tgt := 113) X.x X.b d_Model_layOut_31 (by decide) (fun c3 => ?_) (fun c3 => ?_)
      · exact absurd c3 (by decide)
      · skip
        refine lv_aload_n X.x X.b d_Model_layOut_34 rfl (lv_at hl 1 rfl) ?_
        have hR := M_Model_place_F l g hM (by rw [ep_2, upd_mi _ _ _ (show 5 ≠ 7 by decide), h5]) (by rw [es_1, updR_mf _ _ _ (show 8 ≠ 23 by decide), h8]) (by rw [es_1, updR_mf _ _ _ (show 15 ≠ 23 by decide), h15])
        refine m_callM X hS hR v_Model_174 hM.1 rfl rfl rfl (Nat.le_of_ble_eq_true rfl) hl.1 d_Model_layOut_35 (by omega) (by decide) ⟨by omega, by omega⟩ (fun q z => by have z : mo ≤ q ∧ q < mo + 23 := z; exact ⟨by omega, by omega⟩) (fun H locs hq hfr hS => ?_)
        obtain ⟨p_3, s_4, hM, hp_5, hs_6, hF6, hF14, hF141, hF15⟩ := hq
        refine lv_aload_n X.x X.b d_Model_layOut_38 rfl (lv_at hl 1 rfl) ?_
        refine lv_dup X.x X.b d_Model_layOut_39 rfl ?_
        refine m_get (v := .int 0) X ok_Model hM.1 7 (by decide) k_Model_171 (congrArg (fun z => some (Value.int z)) (show p_3 7 = 0 from (by rw [hp_5 7 (by decide), ep_2, upd_hit]))) d_Model_layOut_40 ?_
        refine lv_iconst (v := 1) X.x X.b d_Model_layOut_43 (by decide) ?_
        refine lv_iadd X.x X.b d_Model_layOut_44 ?_
        rw [show (0 + 1 : Int32) = 1 from by decide]
        refine m_put X ok_Model hS (Or.inl ⟨by omega, by omega⟩) hM.1 7 (by decide) k_Model_171 rfl (ok_Model.2.2.1 _ (by decide)) rfl rfl (Nat.le_of_ble_eq_true rfl) d_Model_layOut_45 (fun H locs hp hcg hS => ?_)
        have hM := hM.f7 hp hcg
        obtain ⟨p_7, ep_7⟩ : ∃ z, z = upd p_3 7 1 := ⟨_, rfl⟩
        rw [← ep_7] at hM
        refine lv_iconst (v := 0) X.x X.b d_Model_layOut_48 (by decide) ?_
        refine lv_istore_n (lv' := [(1, .int 0), (0, .ref mo)]) X.x X.b d_Model_layOut_49 rfl hl (by decide) rfl (fun ls hl => ?_)
        refine lv_iconst (v := 0) X.x X.b d_Model_layOut_50 (by decide) ?_
        refine lv_istore_n (lv' := [(2, .int 0), (1, .int 0), (0, .ref mo)]) X.x X.b d_Model_layOut_51 rfl hl (by decide) rfl (fun ls hl => ?_)
        refine lv_iload_n X.x X.b d_Model_layOut_52 rfl (lv_at hl 0 rfl) ?_
        refine lv_aload_n X.x X.b d_Model_layOut_53 rfl (lv_at hl 2 rfl) ?_
        refine m_get (v := .int 1) X ok_Model hM.1 5 (by decide) k_Model_132 (congrArg (fun z => some (Value.int z)) (show p_7 5 = 1 from (by rw [ep_7, upd_mi _ _ _ (show 5 ≠ 7 by decide), hp_5 5 (by decide), ep_2, upd_mi _ _ _ (show 5 ≠ 7 by decide), h5]))) d_Model_layOut_54 ?_
        refine lv_icmp_ge (tgt := 110) X.x X.b d_Model_layOut_57 (by decide) (fun c4 => ?_) (fun c4 => ?_)
        · exact absurd c4 c1
        · skip
          have c4q := Int32.not_le.mp c4
          refine lv_aload_n X.x X.b d_Model_layOut_60 rfl (lv_at hl 2 rfl) ?_
          refine lv_iload_n X.x X.b d_Model_layOut_61 rfl (lv_at hl 0 rfl) ?_
          have hR := M_Model_isBranch (k := 0) l g hM (by omega)
          rw [show b2i (s_4 8 0 = 3 ∨ s_4 8 0 = 4) = 0 from b2i_f (by rw [show s_4 8 0 = 6 from (by rw [hs_6 8 (by decide), es_1, updR_mf _ _ _ (show 8 ≠ 23 by decide), h8])]; first | decide | simp)] at hR
          refine m_callP X hS hR v_Model_177 hM.1 rfl rfl rfl (Nat.le_of_ble_eq_true rfl) hl.1 d_Model_layOut_62 (by omega) (by decide) ⟨by omega, by omega⟩ (fun locs hS => ?_)
          refine lv_if_eq (tgt := 104) X.x X.b d_Model_layOut_65 (by decide) (fun c5 => ?_) (fun c5 => ?_)
          · skip
            refine lv_iinc (v := 1) (lv' := [(2, .int 1), (1, .int 0), (0, .ref mo)]) X.x X.b d_Model_layOut_104 hl (k := 0) rfl (by decide) (by decide) rfl (fun ls hl => ?_)
            refine lv_goto (tgt := 52) X.x X.b d_Model_layOut_107 (by decide) ?_
            refine lv_iload_n X.x X.b d_Model_layOut_52 rfl (lv_at hl 0 rfl) ?_
            refine lv_aload_n X.x X.b d_Model_layOut_53 rfl (lv_at hl 2 rfl) ?_
            refine m_get (v := .int 1) X ok_Model hM.1 5 (by decide) k_Model_132 (congrArg (fun z => some (Value.int z)) (show p_7 5 = 1 from (by rw [ep_7, upd_mi _ _ _ (show 5 ≠ 7 by decide), hp_5 5 (by decide), ep_2, upd_mi _ _ _ (show 5 ≠ 7 by decide), h5]))) d_Model_layOut_54 ?_
            refine lv_icmp_ge (tgt := 110) X.x X.b d_Model_layOut_57 (by decide) (fun c6 => ?_) (fun c6 => ?_)
            · skip
              have c6q := Int32.not_lt.mpr c6
              refine lv_goto (tgt := 30) X.x X.b d_Model_layOut_110 (by decide) ?_
              refine lv_iload_n X.x X.b d_Model_layOut_30 rfl (lv_at hl 1 rfl) ?_
              refine lv_if_eq (tgt := 113) X.x X.b d_Model_layOut_31 (by decide) (fun c7 => ?_) (fun c7 => ?_)
              · skip
                exact m_vret X hS (by omega) (by omega) d_Model_layOut_113 rfl ⟨_, _, hM, by rw [ep_7]; exact ((by rw [ep_2]; exact (samP.rf [6, 7] p0).up _ _ (by decide) : samP [6, 7] p0 p_2).tr hp_5 (by decide)).up _ _ (by decide), (by rw [es_1]; exact (same.rf [14, 15, 23] s0).up _ _ (by decide) : same [14, 15, 23] s0 s_1).tr hs_6 (by decide), (by rw [ep_7, upd_mi _ _ _ (show 6 ≠ 7 by decide), hF6]), (by rw [ep_7, upd_hit]), (by rw [hF14]), (by rw [hF141]), (by rw [hF15]), (by rw [hs_6 23 (by decide), es_1, updR_hit])⟩
              · exact absurd c5 c7
            · exact absurd c2 c6
          · exact absurd c5 (by decide)
    · exact absurd c2 (by decide)
set_option maxRecDepth 100000 in
set_option maxHeartbeats 4000000 in
theorem M_Model_follow_F (l : Launch) (g : GG) {mo tq : Nat} {p0 : Nat → Int32} {s0 : Nat → Nat → Int32} {H0 : Heap} (hM : mAt g mo tq p0 s0 H0) (h5 : p0 5 = 1) (h8 : s0 8 0 = 6) (h15 : s0 15 0 = 0) : MM l y_Model_follow c_Model_follow 4 none 1 1 244 g H0 [.ref mo] (fun q => mo ≤ q ∧ q < mo + 23) (none) (fun H1 => ∃ s, mAt g mo tq p0 s H1 ∧ same [24] s0 s ∧ s 24 0 = 1) := by
  refine MM.of (by decide +kernel) (Nat.le_of_ble_eq_true rfl) ?_
  intro p e s m below meth cd X hH ls hl
  have X : CX g p s m _ meth cd c_Model_follow 4 none R_Model _ := X
  have hl : lv_has ls 4 [(0, .ref mo)] := hl
  have hS : va_S (AA (fun q => mo ≤ q ∧ q < mo + 23) H0) H0 H0 [] := va_S.rf
  have hlt0 := hM.lt
  have htq0 := hM.tq
  refine lv_iconst (v := 0) X.x X.b d_Model_follow_0 (by decide) ?_
  refine lv_istore_n (lv' := [(1, .int 0), (0, .ref mo)]) X.x X.b d_Model_follow_1 rfl hl (by decide) rfl (fun ls hl => ?_)
  refine lv_iload_n X.x X.b d_Model_follow_2 rfl (lv_at hl 0 rfl) ?_
  refine lv_aload_n X.x X.b d_Model_follow_3 rfl (lv_at hl 1 rfl) ?_
  refine m_get (v := .int 1) X ok_Model hM.1 5 (by decide) k_Model_132 (congrArg (fun z => some (Value.int z)) (show p0 5 = 1 from (by rw [h5]))) d_Model_follow_4 ?_
  refine lv_icmp_ge (tgt := 23) X.x X.b d_Model_follow_7 (by decide) (fun c1 => ?_) (fun c1 => ?_)
  · exact absurd c1 (by decide)
  · skip
    have c1q := Int32.not_le.mp c1
    refine lv_aload_n X.x X.b d_Model_follow_10 rfl (lv_at hl 1 rfl) ?_
    refine m_get (v := .ref (mo + 19)) X ok_Model hM.1 24 (by decide) k_Model_65 rfl d_Model_follow_11 ?_
    refine lv_iload_n X.x X.b d_Model_follow_14 rfl (lv_at hl 0 rfl) ?_
    refine lv_iconst (v := 0) X.x X.b d_Model_follow_15 (by decide) ?_
    refine m_zst X hS (Or.inl ⟨by omega, by omega⟩) hM.a24 0 rfl (by omega) (by decide) rfl d_Model_follow_16 (fun H locs hp hcg hS => ?_)
    have hM := hM.s24 hp hcg
    obtain ⟨s_1, es_1⟩ : ∃ z, z = updR s0 24 (upd (s0 24) 0 0) := ⟨_, rfl⟩
    rw [← es_1] at hM
    refine lv_iinc (v := 1) (lv' := [(1, .int 1), (0, .ref mo)]) X.x X.b d_Model_follow_17 hl (k := 0) rfl (by decide) (by decide) rfl (fun ls hl => ?_)
    refine lv_goto (tgt := 2) X.x X.b d_Model_follow_20 (by decide) ?_
    refine lv_iload_n X.x X.b d_Model_follow_2 rfl (lv_at hl 0 rfl) ?_
    refine lv_aload_n X.x X.b d_Model_follow_3 rfl (lv_at hl 1 rfl) ?_
    refine m_get (v := .int 1) X ok_Model hM.1 5 (by decide) k_Model_132 (congrArg (fun z => some (Value.int z)) (show p0 5 = 1 from (by rw [h5]))) d_Model_follow_4 ?_
    refine lv_icmp_ge (tgt := 23) X.x X.b d_Model_follow_7 (by decide) (fun c2 => ?_) (fun c2 => ?_)
    · skip
      have c2q := Int32.not_lt.mpr c2
      refine lv_sipush (v := 244) X.x X.b d_Model_follow_23 (by decide) ?_
      obtain ⟨q26, hq26⟩ := sz_of hS
      have hlt26 := hM.lt
      have hsz26 := hS.1
      refine m_newI X hS hq26 244 (by decide) (by decide) (by decide) (by omega) (by omega) d_Model_follow_26 (fun H hL26 hgr hS hz2 => ?_)
      have hfr := fr.of_grow (A := noA) hgr
      have hM := hM.frame hfr (fun q z => z.elim)
      refine lv_astore_n (lv' := [(1, .ref q26), (0, .ref mo)]) X.x X.b d_Model_follow_28 rfl hl (by decide) rfl (fun ls hl => ?_)
      refine lv_iconst (v := 0) X.x X.b d_Model_follow_29 (by decide) ?_
      refine lv_istore_n (lv' := [(2, .int 0), (1, .ref q26), (0, .ref mo)]) X.x X.b d_Model_follow_30 rfl hl (by decide) rfl (fun ls hl => ?_)
      refine lv_aload_n X.x X.b d_Model_follow_31 rfl (lv_at hl 1 rfl) ?_
      refine lv_iload_n X.x X.b d_Model_follow_32 rfl (lv_at hl 0 rfl) ?_
      refine lv_iinc (v := 1) (lv' := [(2, .int 1), (1, .ref q26), (0, .ref mo)]) X.x X.b d_Model_follow_33 hl (k := 0) rfl (by decide) (by decide) rfl (fun ls hl => ?_)
      refine lv_iconst (v := 0) X.x X.b d_Model_follow_36 (by decide) ?_
      refine m_ist X hS (Or.inr (by omega)) hL26 0 rfl (by omega) (by decide) d_Model_follow_37 (fun H locs hp hcg hS => ?_)
      have hL26 := hp
      obtain ⟨r_2, er_2⟩ : ∃ z, z = upd (fun _ => 0) 0 0 := ⟨_, rfl⟩
      rw [← er_2] at hL26
      have hM := hM.frame (fr.of_chg (A := fun q => q = q26) hcg rfl) (fun q z => by have z : q = q26 := z; have := hM.tq; omega)
      refine lv_iload_n X.x X.b d_Model_follow_38 rfl (lv_at hl 0 rfl) ?_
      refine lv_if_le (tgt := 143) X.x X.b d_Model_follow_39 (by decide) (fun c3 => ?_) (fun c3 => ?_)
      · exact absurd c3 c1
      · skip
        have c3q := Int32.not_le.mp c3
        refine lv_aload_n X.x X.b d_Model_follow_42 rfl (lv_at hl 1 rfl) ?_
        refine lv_iinc (v := 0) (lv' := [(2, .int 0), (1, .ref q26), (0, .ref mo)]) X.x X.b d_Model_follow_43 hl (k := 0) rfl (by decide) (by decide) rfl (fun ls hl => ?_)
        refine lv_iload_n X.x X.b d_Model_follow_46 rfl (lv_at hl 0 rfl) ?_
        refine m_ild (v := 0) X hL26 0 rfl (by omega) (by decide) (show r_2 0 = 0 from (by rw [er_2, upd_hit])) d_Model_follow_47 ?_
        refine lv_istore_n (lv' := [(3, .int 0), (2, .int 0), (1, .ref q26), (0, .ref mo)]) X.x X.b d_Model_follow_48 rfl hl (by decide) rfl (fun ls hl => ?_)
        refine lv_iload_n X.x X.b d_Model_follow_49 rfl (lv_at hl 0 rfl) ?_
        refine lv_iconst (v := 0) X.x X.b d_Model_follow_50 (by decide) ?_
        refine lv_aload_n X.x X.b d_Model_follow_51 rfl (lv_at hl 3 rfl) ?_
        refine m_get (v := .int 1) X ok_Model hM.1 5 (by decide) k_Model_132 (congrArg (fun z => some (Value.int z)) (show p0 5 = 1 from (by rw [h5]))) d_Model_follow_52 ?_
        refine lv_iconst (v := 1) X.x X.b d_Model_follow_55 (by decide) ?_
        refine lv_isub X.x X.b d_Model_follow_56 ?_
        rw [show (1 - 1 : Int32) = 0 from by decide]
        refine m_callSP X hS (MP_ans (M_Model_isIn l g 0 0 0) (show b2i (0 ≤ 0 ∧ 0 ≤ 0) = 1 from by decide)) s_Model_84 rfl rfl (Nat.le_of_ble_eq_true rfl) hl.1 d_Model_follow_57 (by omega) (by decide) ⟨by omega, by omega⟩ (fun locs hS => ?_)
        refine lv_if_eq (tgt := 38) X.x X.b d_Model_follow_60 (by decide) (fun c4 => ?_) (fun c4 => ?_)
        · exact absurd c4 (by decide)
        · skip
          refine lv_aload_n X.x X.b d_Model_follow_63 rfl (lv_at hl 3 rfl) ?_
          refine m_get (v := .ref (mo + 19)) X ok_Model hM.1 24 (by decide) k_Model_65 rfl d_Model_follow_64 ?_
          refine lv_iload_n X.x X.b d_Model_follow_67 rfl (lv_at hl 0 rfl) ?_
          refine m_zld (v := 0) X hM.a24 0 rfl (by omega) (by decide) (show s_1 24 0 = 0 from (by rw [es_1, updR_hit])) d_Model_follow_68 ?_
          refine lv_if_ne (tgt := 38) X.x X.b d_Model_follow_69 (by decide) (fun c5 => ?_) (fun c5 => ?_)
          · exact absurd c5 (by decide)
          · skip
            refine lv_aload_n X.x X.b d_Model_follow_72 rfl (lv_at hl 3 rfl) ?_
            refine lv_iload_n X.x X.b d_Model_follow_73 rfl (lv_at hl 0 rfl) ?_
            have hR := M_Model_goesOn (k := 0) l g hM (by omega)
            rw [show b2i (goM s_1 0) = 1 from b2i_t (by unfold goM; rw [show s_1 8 0 = 6 from (by rw [es_1, updR_mf _ _ _ (show 8 ≠ 24 by decide), h8]), show s_1 15 0 = 0 from (by rw [es_1, updR_mf _ _ _ (show 15 ≠ 24 by decide), h15])]; first | decide | simp)] at hR
            refine m_callP X hS hR v_Model_201 hM.1 rfl rfl rfl (Nat.le_of_ble_eq_true rfl) hl.1 d_Model_follow_74 (by omega) (by decide) ⟨by omega, by omega⟩ (fun locs hS => ?_)
            refine lv_if_ne (tgt := 93) X.x X.b d_Model_follow_77 (by decide) (fun c6 => ?_) (fun c6 => ?_)
            · skip
              refine lv_aload_n X.x X.b d_Model_follow_93 rfl (lv_at hl 3 rfl) ?_
              refine m_get (v := .ref (mo + 19)) X ok_Model hM.1 24 (by decide) k_Model_65 rfl d_Model_follow_94 ?_
              refine lv_iload_n X.x X.b d_Model_follow_97 rfl (lv_at hl 0 rfl) ?_
              refine lv_iconst (v := 1) X.x X.b d_Model_follow_98 (by decide) ?_
              refine m_zst X hS (Or.inl ⟨by omega, by omega⟩) hM.a24 0 rfl (by omega) (by decide) rfl d_Model_follow_99 (fun H locs hp hcg hS => ?_)
              have hM := hM.s24 hp hcg
              obtain ⟨s_3, es_3⟩ : ∃ z, z = updR s_1 24 (upd (s_1 24) 0 1) := ⟨_, rfl⟩
              rw [← es_3] at hM
              have hL26 := hL26.off hcg (by omega)
              refine lv_aload_n X.x X.b d_Model_follow_100 rfl (lv_at hl 3 rfl) ?_
              refine lv_iload_n X.x X.b d_Model_follow_101 rfl (lv_at hl 0 rfl) ?_
              have hR := M_Model_goesOn (k := 0) l g hM (by omega)
              rw [show b2i (goM s_3 0) = 1 from b2i_t (by unfold goM; rw [show s_3 8 0 = 6 from (by rw [es_3, updR_mf _ _ _ (show 8 ≠ 24 by decide), es_1, updR_mf _ _ _ (show 8 ≠ 24 by decide), h8]), show s_3 15 0 = 0 from (by rw [es_3, updR_mf _ _ _ (show 15 ≠ 24 by decide), es_1, updR_mf _ _ _ (show 15 ≠ 24 by decide), h15])]; first | decide | simp)] at hR
              refine m_callP X hS hR v_Model_201 hM.1 rfl rfl rfl (Nat.le_of_ble_eq_true rfl) hl.1 d_Model_follow_102 (by omega) (by decide) ⟨by omega, by omega⟩ (fun locs hS => ?_)
              refine lv_if_eq (tgt := 117) X.x X.b d_Model_follow_105 (by decide) (fun c7 => ?_) (fun c7 => ?_)
              · exact absurd c7 c6
              · skip
                refine lv_aload_n X.x X.b d_Model_follow_108 rfl (lv_at hl 2 rfl) ?_
                refine lv_iload_n X.x X.b d_Model_follow_109 rfl (lv_at hl 1 rfl) ?_
                refine lv_iinc (v := 1) (lv' := [(2, .int 1), (3, .int 0), (1, .ref q26), (0, .ref mo)]) X.x X.b d_Model_follow_110 hl (k := 1) rfl (by decide) (by decide) rfl (fun ls hl => ?_)
                refine lv_iload_n X.x X.b d_Model_follow_113 rfl (lv_at hl 1 rfl) ?_
                refine lv_iconst (v := 1) X.x X.b d_Model_follow_114 (by decide) ?_
                refine lv_iadd X.x X.b d_Model_follow_115 ?_
                rw [show (0 + 1 : Int32) = 1 from by decide]
                refine m_ist X hS (Or.inr (by omega)) hL26 0 rfl (by omega) (by decide) d_Model_follow_116 (fun H locs hp hcg hS => ?_)
                have hL26 := hp
                obtain ⟨r_4, er_4⟩ : ∃ z, z = upd r_2 0 1 := ⟨_, rfl⟩
                rw [← er_4] at hL26
                have hM := hM.frame (fr.of_chg (A := fun q => q = q26) hcg rfl) (fun q z => by have z : q = q26 := z; have := hM.tq; omega)
                refine lv_aload_n X.x X.b d_Model_follow_117 rfl (lv_at hl 3 rfl) ?_
                refine lv_iload_n X.x X.b d_Model_follow_118 rfl (lv_at hl 1 rfl) ?_
                have hR := M_Model_isBranch (k := 0) l g hM (by omega)
                rw [show b2i (s_3 8 0 = 3 ∨ s_3 8 0 = 4) = 0 from b2i_f (by rw [show s_3 8 0 = 6 from (by rw [es_3, updR_mf _ _ _ (show 8 ≠ 24 by decide), es_1, updR_mf _ _ _ (show 8 ≠ 24 by decide), h8])]; first | decide | simp)] at hR
                refine m_callP X hS hR v_Model_177 hM.1 rfl rfl rfl (Nat.le_of_ble_eq_true rfl) hl.1 d_Model_follow_119 (by omega) (by decide) ⟨by omega, by omega⟩ (fun locs hS => ?_)
                refine lv_if_eq (tgt := 140) X.x X.b d_Model_follow_122 (by decide) (fun c8 => ?_) (fun c8 => ?_)
                · skip
                  refine lv_goto (tgt := 38) X.x X.b d_Model_follow_140 (by decide) ?_
                  refine lv_iload_n X.x X.b d_Model_follow_38 rfl (lv_at hl 0 rfl) ?_
                  refine lv_if_le (tgt := 143) X.x X.b d_Model_follow_39 (by decide) (fun c9 => ?_) (fun c9 => ?_)
                  · exact absurd c9 c3
                  · skip
                    have c9q := Int32.not_le.mp c9
                    refine lv_aload_n X.x X.b d_Model_follow_42 rfl (lv_at hl 2 rfl) ?_
                    refine lv_iinc (v := 0) (lv' := [(2, .int 0), (3, .int 0), (1, .ref q26), (0, .ref mo)]) X.x X.b d_Model_follow_43 hl (k := 0) rfl (by decide) (by decide) rfl (fun ls hl => ?_)
                    refine lv_iload_n X.x X.b d_Model_follow_46 rfl (lv_at hl 0 rfl) ?_
                    refine m_ild (v := 1) X hL26 0 rfl (by omega) (by decide) (show r_4 0 = 1 from (by rw [er_4, upd_hit])) d_Model_follow_47 ?_
                    refine lv_istore_n (lv' := [(3, .int 1), (2, .int 0), (1, .ref q26), (0, .ref mo)]) X.x X.b d_Model_follow_48 rfl hl (by decide) rfl (fun ls hl => ?_)
                    refine lv_iload_n X.x X.b d_Model_follow_49 rfl (lv_at hl 0 rfl) ?_
                    refine lv_iconst (v := 0) X.x X.b d_Model_follow_50 (by decide) ?_
                    refine lv_aload_n X.x X.b d_Model_follow_51 rfl (lv_at hl 3 rfl) ?_
                    refine m_get (v := .int 1) X ok_Model hM.1 5 (by decide) k_Model_132 (congrArg (fun z => some (Value.int z)) (show p0 5 = 1 from (by rw [h5]))) d_Model_follow_52 ?_
                    refine lv_iconst (v := 1) X.x X.b d_Model_follow_55 (by decide) ?_
                    refine lv_isub X.x X.b d_Model_follow_56 ?_
                    rw [show (1 - 1 : Int32) = 0 from by decide]
                    refine m_callSP X hS (MP_ans (M_Model_isIn l g 1 0 0) (show b2i (0 ≤ 1 ∧ 1 ≤ 0) = 0 from by decide)) s_Model_84 rfl rfl (Nat.le_of_ble_eq_true rfl) hl.1 d_Model_follow_57 (by omega) (by decide) ⟨by omega, by omega⟩ (fun locs hS => ?_)
                    refine lv_if_eq (tgt := 38) X.x X.b d_Model_follow_60 (by decide) (fun c10 => ?_) (fun c10 => ?_)
                    · skip
                      refine lv_iload_n X.x X.b d_Model_follow_38 rfl (lv_at hl 1 rfl) ?_
                      refine lv_if_le (tgt := 143) X.x X.b d_Model_follow_39 (by decide) (fun c11 => ?_) (fun c11 => ?_)
                      · skip
                        have c11q := Int32.not_lt.mpr c11
                        exact m_vret X hS (by omega) (by omega) d_Model_follow_143 rfl ⟨_, hM, by rw [es_3]; rw [es_1]; exact (((same.rf _ _).up _ _ (by decide)).up _ _ (by decide)), (by rw [es_3, updR_hit])⟩
                      · exact absurd c11 (by decide)
                    · exact absurd c8 c10
                · exact absurd c5 c8
            · exact absurd c6 c4
    · exact absurd c2 (by decide)
set_option maxRecDepth 100000 in
set_option maxHeartbeats 4000000 in
theorem M_Model_follow_D (l : Launch) (g : GG) {mo tq : Nat} {p0 : Nat → Int32} {s0 : Nat → Nat → Int32} {H0 : Heap} (hM : mAt g mo tq p0 s0 H0) {c : Nat} (hc : c ≤ 20) (hx : dxP c p0 s0) (hc1 : 1 ≤ c) : MM l y_Model_follow c_Model_follow 4 none 1 1 244 g H0 [.ref mo] (fun q => mo ≤ q ∧ q < mo + 23) (none) (fun H1 => ∃ s, mAt g mo tq p0 s H1 ∧ same [24] s0 s) := by
  refine MM.of (by decide +kernel) (Nat.le_of_ble_eq_true rfl) ?_
  intro p e s m below meth cd X hH ls hl
  have X : CX g p s m _ meth cd c_Model_follow 4 none R_Model _ := X
  have hl : lv_has ls 4 [(0, .ref mo)] := hl
  have hS : va_S (AA (fun q => mo ≤ q ∧ q < mo + 23) H0) H0 H0 [] := va_S.rf
  have hlt0 := hM.lt
  have htq0 := hM.tq
  obtain ⟨⟨hx3, hx5⟩, hk, hkc⟩ := hx
  refine lv_iconst (v := 0) X.x X.b d_Model_follow_0 (by decide) ?_
  refine lv_istore_n (lv' := [(1, .int 0), (0, .ref mo)]) X.x X.b d_Model_follow_1 rfl hl (by decide) rfl (fun ls hl => ?_)
  have lp : ∀ (n i : Nat) (ss : Nat → Nat → Int32), n = (c + 1) - i → i < 5000 → (same [24] s0 ss ∧ ∀ j, j < i → ss 24 j = 0) → ∀ (H : Heap) (locs : List Loc) (ls : Array Slot), mAt g mo tq p0 ss H → va_S (AA (fun q => mo ≤ q ∧ q < mo + 23) H0) H0 H locs → lv_has ls 4 [(0, .ref mo), (1, .int (nI i))] → W p l e (rmK 1 1 244) s m ([.ref mo] : List Value).toArray below meth cd H locs 0 0 (MQ below (QM (none) (fun H1 => ∃ s, mAt g mo tq p0 s H1 ∧ same [24] s0 s) (fun q => mo ≤ q ∧ q < mo + 23) H0) ([.ref mo] : List Value).toArray s 1 244 (AA (fun q => mo ≤ q ∧ q < mo + 23) H0)) (F0 m 2 ls []) := by
    intro n
    induction n with
    | zero =>
      intro i ss hin hi5 hE H locs ls hM hS hl
      refine lv_iload_n X.x X.b d_Model_follow_2 rfl (lv_at hl 1 rfl) ?_
      refine lv_aload_n X.x X.b d_Model_follow_3 rfl (lv_at hl 0 rfl) ?_
      refine m_get (v := .int (nI (c + 1))) X ok_Model hM.1 5 (by decide) k_Model_132 (congrArg (fun z => some (Value.int z)) (show p0 5 = nI (c + 1) from (by rw [hx5]))) d_Model_follow_4 ?_
      refine lv_icmp_ge (tgt := 23) X.x X.b d_Model_follow_7 (by decide) (fun c1 => ?_) (fun c1 => ?_)
      · skip
        have c1q := Int32.not_lt.mpr c1
        refine lv_sipush (v := 244) X.x X.b d_Model_follow_23 (by decide) ?_
        obtain ⟨q26, hq26⟩ := sz_of hS
        have hlt26 := hM.lt
        have hsz26 := hS.1
        refine m_newI X hS hq26 244 (by decide) (by decide) (by decide) (by omega) (by omega) d_Model_follow_26 (fun H hL26 hgr hS hz2 => ?_)
        have hfr := fr.of_grow (A := noA) hgr
        have hM := hM.frame hfr (fun q z => z.elim)
        refine lv_astore_n (lv' := [(1, .ref q26), (0, .ref mo)]) X.x X.b d_Model_follow_28 rfl hl (by decide) rfl (fun ls hl => ?_)
        refine lv_iconst (v := 0) X.x X.b d_Model_follow_29 (by decide) ?_
        refine lv_istore_n (lv' := [(2, .int 0), (1, .ref q26), (0, .ref mo)]) X.x X.b d_Model_follow_30 rfl hl (by decide) rfl (fun ls hl => ?_)
        refine lv_aload_n X.x X.b d_Model_follow_31 rfl (lv_at hl 1 rfl) ?_
        refine lv_iload_n X.x X.b d_Model_follow_32 rfl (lv_at hl 0 rfl) ?_
        refine lv_iinc (v := 1) (lv' := [(2, .int 1), (1, .ref q26), (0, .ref mo)]) X.x X.b d_Model_follow_33 hl (k := 0) rfl (by decide) (by decide) rfl (fun ls hl => ?_)
        refine lv_iconst (v := 0) X.x X.b d_Model_follow_36 (by decide) ?_
        refine m_ist X hS (Or.inr (by omega)) hL26 0 rfl (by omega) (by decide) d_Model_follow_37 (fun H locs hp hcg hS => ?_)
        have hL26 := hp
        obtain ⟨r_1, er_1⟩ : ∃ z, z = upd (fun _ => 0) 0 0 := ⟨_, rfl⟩
        rw [← er_1] at hL26
        have hM := hM.frame (fr.of_chg (A := fun q => q = q26) hcg rfl) (fun q z => by have z : q = q26 := z; have := hM.tq; omega)
        refine lv_iload_n X.x X.b d_Model_follow_38 rfl (lv_at hl 0 rfl) ?_
        refine lv_if_le (tgt := 143) X.x X.b d_Model_follow_39 (by decide) (fun c2 => ?_) (fun c2 => ?_)
        · exact absurd c2 (by decide)
        · skip
          have c2q := Int32.not_le.mp c2
          refine lv_aload_n X.x X.b d_Model_follow_42 rfl (lv_at hl 1 rfl) ?_
          refine lv_iinc (v := 0) (lv' := [(2, .int 0), (1, .ref q26), (0, .ref mo)]) X.x X.b d_Model_follow_43 hl (k := 0) rfl (by decide) (by decide) rfl (fun ls hl => ?_)
          refine lv_iload_n X.x X.b d_Model_follow_46 rfl (lv_at hl 0 rfl) ?_
          refine m_ild (v := 0) X hL26 0 rfl (by omega) (by decide) (show r_1 0 = 0 from (by rw [er_1, upd_hit])) d_Model_follow_47 ?_
          refine lv_istore_n (lv' := [(3, .int 0), (2, .int 0), (1, .ref q26), (0, .ref mo)]) X.x X.b d_Model_follow_48 rfl hl (by decide) rfl (fun ls hl => ?_)
          refine lv_iload_n X.x X.b d_Model_follow_49 rfl (lv_at hl 0 rfl) ?_
          refine lv_iconst (v := 0) X.x X.b d_Model_follow_50 (by decide) ?_
          refine lv_aload_n X.x X.b d_Model_follow_51 rfl (lv_at hl 3 rfl) ?_
          refine m_get (v := .int (nI (c + 1))) X ok_Model hM.1 5 (by decide) k_Model_132 (congrArg (fun z => some (Value.int z)) (show p0 5 = nI (c + 1) from (by rw [hx5]))) d_Model_follow_52 ?_
          refine lv_iconst (v := 1) X.x X.b d_Model_follow_55 (by decide) ?_
          refine lv_isub X.x X.b d_Model_follow_56 ?_
          refine lv_topi (fun z ez => ?_)
          rw [nI_pred] at ez
          subst ez
          refine m_callSP X hS (MP_ans (M_Model_isIn l g 0 0 (nI c)) (show b2i (0 ≤ 0 ∧ 0 ≤ (nI c)) = 1 from b2i_t ⟨by decide, nI_pos' (by omega)⟩)) s_Model_84 rfl rfl (Nat.le_of_ble_eq_true rfl) hl.1 d_Model_follow_57 (by omega) (by decide) ⟨by omega, by omega⟩ (fun locs hS => ?_)
          refine lv_if_eq (tgt := 38) X.x X.b d_Model_follow_60 (by decide) (fun c3 => ?_) (fun c3 => ?_)
          · exact absurd c3 (by decide)
          · skip
            refine lv_aload_n X.x X.b d_Model_follow_63 rfl (lv_at hl 3 rfl) ?_
            refine m_get (v := .ref (mo + 19)) X ok_Model hM.1 24 (by decide) k_Model_65 rfl d_Model_follow_64 ?_
            refine lv_iload_n X.x X.b d_Model_follow_67 rfl (lv_at hl 0 rfl) ?_
            refine m_zld (v := 0) X hM.a24 0 rfl (by omega) (by decide) (show ss 24 0 = 0 from (by rw [hE.2 0 (by omega)])) d_Model_follow_68 ?_
            refine lv_if_ne (tgt := 38) X.x X.b d_Model_follow_69 (by decide) (fun c4 => ?_) (fun c4 => ?_)
            · exact absurd c4 (by decide)
            · skip
              refine lv_aload_n X.x X.b d_Model_follow_72 rfl (lv_at hl 3 rfl) ?_
              refine lv_iload_n X.x X.b d_Model_follow_73 rfl (lv_at hl 0 rfl) ?_
              have hR := M_Model_goesOn (k := 0) l g hM (by omega)
              rw [show b2i (goM ss 0) = 0 from b2i_f (by unfold goM; rw [show ss 8 0 = 2 from (by rw [hE.1 8 (by decide), (hk 0 (by omega)).1])]; first | decide | simp)] at hR
              refine m_callP X hS hR v_Model_201 hM.1 rfl rfl rfl (Nat.le_of_ble_eq_true rfl) hl.1 d_Model_follow_74 (by omega) (by decide) ⟨by omega, by omega⟩ (fun locs hS => ?_)
              refine lv_if_ne (tgt := 93) X.x X.b d_Model_follow_77 (by decide) (fun c5 => ?_) (fun c5 => ?_)
              · exact absurd c4 c5
              · skip
                refine lv_aload_n X.x X.b d_Model_follow_80 rfl (lv_at hl 3 rfl) ?_
                refine m_get (v := .ref (mo + 3)) X ok_Model hM.1 8 (by decide) k_Model_16 rfl d_Model_follow_81 ?_
                refine lv_iload_n X.x X.b d_Model_follow_84 rfl (lv_at hl 0 rfl) ?_
                refine m_ild (v := 2) X hM.a8 0 rfl (by omega) (by decide) (show ss 8 0 = 2 from (by rw [hE.1 8 (by decide), (hk 0 (by omega)).1])) d_Model_follow_85 ?_
                refine lv_iconst (v := 3) X.x X.b d_Model_follow_86 (by decide) ?_
                refine lv_icmp_eq (tgt := 93) X.x X.b d_Model_follow_87 (by decide) (fun c6 => ?_) (fun c6 => ?_)
                · exact absurd c6 (by decide)
                · skip
                  refine lv_goto (tgt := 38) X.x X.b d_Model_follow_90 (by decide) ?_
                  refine lv_iload_n X.x X.b d_Model_follow_38 rfl (lv_at hl 1 rfl) ?_
                  refine lv_if_le (tgt := 143) X.x X.b d_Model_follow_39 (by decide) (fun c7 => ?_) (fun c7 => ?_)
                  · skip
                    have c7q := Int32.not_lt.mpr c7
                    exact m_vret X hS (by omega) (by omega) d_Model_follow_143 rfl ⟨_, hM, hE.1⟩
                  · exact absurd c7 (by decide)
      · exact absurd ((nI_leI (a := (c + 1)) (b := i) (by omega) (by omega)).mpr (by omega)) c1
    | succ n ih =>
      intro i ss hin hi5 hE H locs ls hM hS hl
      refine lv_iload_n X.x X.b d_Model_follow_2 rfl (lv_at hl 1 rfl) ?_
      refine lv_aload_n X.x X.b d_Model_follow_3 rfl (lv_at hl 0 rfl) ?_
      refine m_get (v := .int (nI (c + 1))) X ok_Model hM.1 5 (by decide) k_Model_132 (congrArg (fun z => some (Value.int z)) (show p0 5 = nI (c + 1) from (by rw [hx5]))) d_Model_follow_4 ?_
      refine lv_icmp_ge (tgt := 23) X.x X.b d_Model_follow_7 (by decide) (fun c8 => ?_) (fun c8 => ?_)
      · exact absurd ((nI_leI (a := (c + 1)) (b := i) (by omega) (by omega)).mp c8) (by omega)
      · skip
        have c8q := Int32.not_le.mp c8
        refine lv_aload_n X.x X.b d_Model_follow_10 rfl (lv_at hl 0 rfl) ?_
        refine m_get (v := .ref (mo + 19)) X ok_Model hM.1 24 (by decide) k_Model_65 rfl d_Model_follow_11 ?_
        refine lv_iload_n X.x X.b d_Model_follow_14 rfl (lv_at hl 1 rfl) ?_
        refine lv_iconst (v := 0) X.x X.b d_Model_follow_15 (by decide) ?_
        refine m_zst X hS (Or.inl ⟨by omega, by omega⟩) hM.a24 i rfl (by omega) (by decide) rfl d_Model_follow_16 (fun H locs hp hcg hS => ?_)
        have hM := hM.s24 hp hcg
        obtain ⟨s_2, es_2⟩ : ∃ z, z = updR ss 24 (upd (ss 24) i 0) := ⟨_, rfl⟩
        rw [← es_2] at hM
        refine lv_iinc (v := nI (i + 1)) (lv' := [(1, .int (nI (i + 1))), (0, .ref mo)]) X.x X.b d_Model_follow_17 hl (k := 1) rfl (nI_1 i) (by decide) rfl (fun ls hl => ?_)
        refine lv_goto (tgt := 2) X.x X.b d_Model_follow_20 (by decide) ?_
        exact ih (i + 1) s_2 (by omega) (by omega) (⟨by rw [es_2]; exact hE.1.up _ _ (by decide), fun j hj => (Nat.lt_or_ge j i).elim (fun z => by rw [es_2, updR_n2 _ _ _ _ (show j ≠ i by omega)]; exact hE.2 j z) (fun z => by rw [show j = i by omega, es_2]; exact updR_hit _ _ _ _)⟩) _ _ _ hM hS (lv_sub hl [1, 0] rfl)
  exact lp (c + 1) 0 s0 (by omega) (by omega) (⟨same.rf _ _, fun j hj => absurd hj (Nat.not_lt_zero j)⟩) _ _ _ hM hS (lv_sub hl [1, 0] rfl)
set_option maxRecDepth 100000 in
set_option maxHeartbeats 4000000 in
theorem M_Model_assemble_F (l : Launch) (g : GG) {mo tq : Nat} {p0 : Nat → Int32} {s0 : Nat → Nat → Int32} {H0 : Heap} (hM : mAt g mo tq p0 s0 H0) (h2 : s0 2 0 = 0) : MM l y_Model_assemble c_Model_assemble 2 none 6 4 262 g H0 [.ref mo] (fun q => mo ≤ q ∧ q < mo + 23) (none) (fun H1 => ∃ p s, mAt g mo tq p s H1 ∧ p 0 = p0 0 ∧ s 1 = s0 1 ∧ s 2 = s0 2 ∧ frP p s) := by
  refine MM.of (by decide +kernel) (Nat.le_of_ble_eq_true rfl) ?_
  intro p e s m below meth cd X hH ls hl
  have X : CX g p s m _ meth cd c_Model_assemble 2 none R_Model _ := X
  have hl : lv_has ls 2 [(0, .ref mo)] := hl
  have hS : va_S (AA (fun q => mo ≤ q ∧ q < mo + 23) H0) H0 H0 [] := va_S.rf
  have hlt0 := hM.lt
  have htq0 := hM.tq
  have hD : dLn 0 s0 := ⟨h2, fun i hi => absurd hi (Nat.not_lt_zero i)⟩
  refine lv_aload_n X.x X.b d_Model_assemble_0 rfl (lv_at hl 0 rfl) ?_
  refine lv_iconst (v := 0) X.x X.b d_Model_assemble_1 (by decide) ?_
  refine m_put X ok_Model hS (Or.inl ⟨by omega, by omega⟩) hM.1 3 (by decide) k_Model_126 rfl (ok_Model.2.2.1 _ (by decide)) rfl rfl (Nat.le_of_ble_eq_true rfl) d_Model_assemble_2 (fun H locs hp hcg hS => ?_)
  have hM := hM.f3 hp hcg
  obtain ⟨p_1, ep_1⟩ : ∃ z, z = upd p0 3 0 := ⟨_, rfl⟩
  rw [← ep_1] at hM
  refine lv_aload_n X.x X.b d_Model_assemble_5 rfl (lv_at hl 0 rfl) ?_
  refine lv_iconst (v := -1) X.x X.b d_Model_assemble_6 (by decide) ?_
  refine m_put X ok_Model hS (Or.inl ⟨by omega, by omega⟩) hM.1 4 (by decide) k_Model_129 rfl (ok_Model.2.2.1 _ (by decide)) rfl rfl (Nat.le_of_ble_eq_true rfl) d_Model_assemble_7 (fun H locs hp hcg hS => ?_)
  have hM := hM.f4 hp hcg
  obtain ⟨p_2, ep_2⟩ : ∃ z, z = upd p_1 4 (-1) := ⟨_, rfl⟩
  rw [← ep_2] at hM
  refine lv_aload_n X.x X.b d_Model_assemble_10 rfl (lv_at hl 0 rfl) ?_
  have hR := M_Model_expand_D (c := 0) l g hM (by omega) hD (by rw [ep_2, upd_mi _ _ _ (show 3 ≠ 4 by decide), ep_1, upd_hit])
  refine m_callV X hS hR v_Model_183 hM.1 rfl rfl rfl (Nat.le_of_ble_eq_true rfl) hl.1 d_Model_assemble_11 (by omega) (by decide) ⟨by omega, by omega⟩ (fun q z => z.elim (fun z => by have z : mo ≤ q ∧ q < mo + 23 := z; exact Or.inl ⟨by omega, by omega⟩) (fun z => Or.inr (Nat.le_trans hS.1 z))) (fun H locs hq hfr hS => ?_)
  obtain ⟨p_3, s_4, hM, ⟨hX0, hX4⟩, ⟨hX1, hX2⟩, hx, ⟨hX11, hX12, hX13⟩, hXj⟩ := hq
  have hx9 := hx
  obtain ⟨⟨hX3, hX5⟩, hXk, hX8⟩ := hx9
  have hX5 : p_3 5 = 1 := hX5
  refine lv_aload_n X.x X.b d_Model_assemble_14 rfl (lv_at hl 0 rfl) ?_
  refine m_get (v := .int 0) X ok_Model hM.1 3 (by decide) k_Model_126 (congrArg (fun z => some (Value.int z)) (show p_3 3 = 0 from (by rw [hX3]))) d_Model_assemble_15 ?_
  refine lv_if_ne (tgt := 25) X.x X.b d_Model_assemble_18 (by decide) (fun c1 => ?_) (fun c1 => ?_)
  · exact absurd c1 (by decide)
  · skip
    refine lv_aload_n X.x X.b d_Model_assemble_21 rfl (lv_at hl 0 rfl) ?_
    have hR := M_Model_refer_D (c := 0) l g hM (by omega) hx
    refine m_callM X hS hR v_Model_186 hM.1 rfl rfl rfl (Nat.le_of_ble_eq_true rfl) hl.1 d_Model_assemble_22 (by omega) (by decide) ⟨by omega, by omega⟩ (fun q z => by have z : mo ≤ q ∧ q < mo + 23 := z; exact ⟨by omega, by omega⟩) (fun H locs hq hfr hS => ?_)
    obtain ⟨s_5, hM, hsr⟩ := hq
    have hx := dxP.s hx (hsr 8 (by decide)) (hsr 9 (by decide)) (hsr 10 (by decide))
    refine lv_aload_n X.x X.b d_Model_assemble_25 rfl (lv_at hl 0 rfl) ?_
    refine m_get (v := .int 0) X ok_Model hM.1 3 (by decide) k_Model_126 (congrArg (fun z => some (Value.int z)) (show p_3 3 = 0 from (by rw [hX3]))) d_Model_assemble_26 ?_
    refine lv_if_le (tgt := 33) X.x X.b d_Model_assemble_29 (by decide) (fun c2 => ?_) (fun c2 => ?_)
    · skip
      have c2q := Int32.not_lt.mpr c2
      refine lv_aload_n X.x X.b d_Model_assemble_33 rfl (lv_at hl 0 rfl) ?_
      have hR := M_Model_fillPools_D (c := 0) l g hM (by omega) hx
      refine m_callM X hS hR v_Model_189 hM.1 rfl rfl rfl (Nat.le_of_ble_eq_true rfl) hl.1 d_Model_assemble_34 (by omega) (by decide) ⟨by omega, by omega⟩ (fun q z => by have z : mo ≤ q ∧ q < mo + 23 := z; exact ⟨by omega, by omega⟩) (fun H locs hq hfr hS => ?_)
      obtain ⟨s_6, hM, hsf, hP15⟩ := hq
      have hx := dxP.s hx (hsf 8 (by decide)) (hsf 9 (by decide)) (hsf 10 (by decide))
      refine lv_aload_n X.x X.b d_Model_assemble_37 rfl (lv_at hl 0 rfl) ?_
      have hR := M_Model_layOut_F l g hM (by rw [hX5]) (by rw [hsf 8 (by decide), hsr 8 (by decide), hX8]) (by rw [hP15])
      refine m_callM X hS hR v_Model_192 hM.1 rfl rfl rfl (Nat.le_of_ble_eq_true rfl) hl.1 d_Model_assemble_38 (by omega) (by decide) ⟨by omega, by omega⟩ (fun q z => by have z : mo ≤ q ∧ q < mo + 23 := z; exact ⟨by omega, by omega⟩) (fun H locs hq hfr hS => ?_)
      obtain ⟨p_7, s_8, hM, hp_9, hs_10, hF6, hF7, hF14, hF141, hF15, hF23⟩ := hq
      have hx := dxP.ps hx (hp_9 3 (by decide)) (hp_9 5 (by decide)) (hs_10 8 (by decide)) (hs_10 9 (by decide)) (hs_10 10 (by decide))
      refine lv_iconst (v := 0) X.x X.b d_Model_assemble_41 (by decide) ?_
      refine lv_istore_n (lv' := [(1, .int 0), (0, .ref mo)]) X.x X.b d_Model_assemble_42 rfl hl (by decide) rfl (fun ls hl => ?_)
      refine lv_iload_n X.x X.b d_Model_assemble_43 rfl (lv_at hl 0 rfl) ?_
      refine lv_aload_n X.x X.b d_Model_assemble_44 rfl (lv_at hl 1 rfl) ?_
      refine m_get (v := .int 1) X ok_Model hM.1 5 (by decide) k_Model_132 (congrArg (fun z => some (Value.int z)) (show p_7 5 = 1 from (by rw [hp_9 5 (by decide), hX5]))) d_Model_assemble_45 ?_
      refine lv_icmp_ge (tgt := 103) X.x X.b d_Model_assemble_48 (by decide) (fun c3 => ?_) (fun c3 => ?_)
      · exact absurd c3 (by decide)
      · skip
        have c3q := Int32.not_le.mp c3
        refine lv_aload_n X.x X.b d_Model_assemble_51 rfl (lv_at hl 1 rfl) ?_
        refine m_get (v := .int 0) X ok_Model hM.1 3 (by decide) k_Model_126 (congrArg (fun z => some (Value.int z)) (show p_7 3 = 0 from (by rw [hp_9 3 (by decide), hX3]))) d_Model_assemble_52 ?_
        refine lv_if_ne (tgt := 103) X.x X.b d_Model_assemble_55 (by decide) (fun c4 => ?_) (fun c4 => ?_)
        · exact absurd c1 c4
        · skip
          refine lv_aload_n X.x X.b d_Model_assemble_58 rfl (lv_at hl 1 rfl) ?_
          refine m_get (v := .ref (mo + 3)) X ok_Model hM.1 8 (by decide) k_Model_16 rfl d_Model_assemble_59 ?_
          refine lv_iload_n X.x X.b d_Model_assemble_62 rfl (lv_at hl 0 rfl) ?_
          refine m_ild (v := 6) X hM.a8 0 rfl (by omega) (by decide) (show s_8 8 0 = 6 from (by rw [hs_10 8 (by decide), hsf 8 (by decide), hsr 8 (by decide), hX8])) d_Model_assemble_63 ?_
          refine lv_iconst (v := 5) X.x X.b d_Model_assemble_64 (by decide) ?_
          refine lv_icmp_ne (tgt := 97) X.x X.b d_Model_assemble_65 (by decide) (fun c5 => ?_) (fun c5 => ?_)
          · skip
            refine lv_iinc (v := 1) (lv' := [(1, .int 1), (0, .ref mo)]) X.x X.b d_Model_assemble_97 hl (k := 0) rfl (by decide) (by decide) rfl (fun ls hl => ?_)
            refine lv_goto (tgt := 43) X.x X.b d_Model_assemble_100 (by decide) ?_
            refine lv_iload_n X.x X.b d_Model_assemble_43 rfl (lv_at hl 0 rfl) ?_
            refine lv_aload_n X.x X.b d_Model_assemble_44 rfl (lv_at hl 1 rfl) ?_
            refine m_get (v := .int 1) X ok_Model hM.1 5 (by decide) k_Model_132 (congrArg (fun z => some (Value.int z)) (show p_7 5 = 1 from (by rw [hp_9 5 (by decide), hX5]))) d_Model_assemble_45 ?_
            refine lv_icmp_ge (tgt := 103) X.x X.b d_Model_assemble_48 (by decide) (fun c6 => ?_) (fun c6 => ?_)
            · skip
              have c6q := Int32.not_lt.mpr c6
              refine lv_aload_n X.x X.b d_Model_assemble_103 rfl (lv_at hl 1 rfl) ?_
              refine m_get (v := .int 0) X ok_Model hM.1 3 (by decide) k_Model_126 (congrArg (fun z => some (Value.int z)) (show p_7 3 = 0 from (by rw [hp_9 3 (by decide), hX3]))) d_Model_assemble_104 ?_
              refine lv_if_ne (tgt := 114) X.x X.b d_Model_assemble_107 (by decide) (fun c7 => ?_) (fun c7 => ?_)
              · exact absurd c4 c7
              · skip
                refine lv_aload_n X.x X.b d_Model_assemble_110 rfl (lv_at hl 1 rfl) ?_
                have hR := M_Model_follow_F l g hM (by rw [hp_9 5 (by decide), hX5]) (by rw [hs_10 8 (by decide), hsf 8 (by decide), hsr 8 (by decide), hX8]) (by rw [hF15])
                refine m_callV X hS hR v_Model_198 hM.1 rfl rfl rfl (Nat.le_of_ble_eq_true rfl) hl.1 d_Model_assemble_111 (by omega) (by decide) ⟨by omega, by omega⟩ (fun q z => z.elim (fun z => by have z : mo ≤ q ∧ q < mo + 23 := z; exact Or.inl ⟨by omega, by omega⟩) (fun z => Or.inr (Nat.le_trans hS.1 z))) (fun H locs hq hfr hS => ?_)
                obtain ⟨s_11, hM, hso, hF24⟩ := hq
                exact m_vret X hS (by omega) (by omega) d_Model_assemble_114 rfl ⟨_, _, hM, (by rw [hp_9 0 (by decide), hX0, ep_2, upd_mi _ _ _ (show 0 ≠ 4 by decide), ep_1, upd_mi _ _ _ (show 0 ≠ 3 by decide)]), by rw [hso 1 (by decide), hs_10 1 (by decide), hsf 1 (by decide), hsr 1 (by decide), hX1], by rw [hso 2 (by decide), hs_10 2 (by decide), hsf 2 (by decide), hsr 2 (by decide), hX2], ⟨(by rw [hp_9 3 (by decide), hX3]), (by rw [hp_9 4 (by decide), hX4, ep_2, upd_hit]), (by rw [hp_9 5 (by decide), hX5]), (by rw [hF6]), (by rw [hF7])⟩, ⟨(by rw [hso 8 (by decide), hs_10 8 (by decide), hsf 8 (by decide), hsr 8 (by decide), hX8]), (by rw [hso 11 (by decide), hs_10 11 (by decide), hsf 11 (by decide), hsr 11 (by decide), hX11]), (by rw [hso 12 (by decide), hs_10 12 (by decide), hsf 12 (by decide), hsr 12 (by decide), hX12]), (by rw [hso 13 (by decide), hs_10 13 (by decide), hsf 13 (by decide), hsr 13 (by decide), hX13]), (by rw [hso 14 (by decide), hF14]), (by rw [hso 14 (by decide), hF141]), (by rw [hso 15 (by decide), hF15]), (by rw [hso 23 (by decide), hF23]), (by rw [hF24])⟩, fun j hj => by rw [hso 25 (by decide), hs_10 25 (by decide), hsf 25 (by decide), hsr 25 (by decide), hso 27 (by decide), hs_10 27 (by decide), hsf 27 (by decide), hsr 27 (by decide)]; exact hXj j hj⟩
            · exact absurd c6 (by decide)
          · exact absurd c5 (by decide)
    · exact absurd c2 (by decide)
set_option maxRecDepth 100000 in
set_option maxHeartbeats 4000000 in
theorem M_Model_assemble_D (l : Launch) (g : GG) {mo tq : Nat} {p0 : Nat → Int32} {s0 : Nat → Nat → Int32} {H0 : Heap} (hM : mAt g mo tq p0 s0 H0) {c : Nat} (hc : c ≤ 20) (hc1 : 1 ≤ c) (hD : dLn c s0) : MM l y_Model_assemble c_Model_assemble 2 none 6 4 262 g H0 [.ref mo] (fun q => mo ≤ q ∧ q < mo + 23) (none) (fun H1 => ∃ p s, mAt g mo tq p s H1 ∧ p 0 = p0 0 ∧ s 1 = s0 1 ∧ s 2 = s0 2 ∧ p 3 = 0 ∧ p 5 = nI (c + 1) ∧ ∀ j, j ≤ c → s 23 j = 0) := by
  refine MM.of (by decide +kernel) (Nat.le_of_ble_eq_true rfl) ?_
  intro p e s m below meth cd X hH ls hl
  have X : CX g p s m _ meth cd c_Model_assemble 2 none R_Model _ := X
  have hl : lv_has ls 2 [(0, .ref mo)] := hl
  have hS : va_S (AA (fun q => mo ≤ q ∧ q < mo + 23) H0) H0 H0 [] := va_S.rf
  have hlt0 := hM.lt
  have htq0 := hM.tq
  refine lv_aload_n X.x X.b d_Model_assemble_0 rfl (lv_at hl 0 rfl) ?_
  refine lv_iconst (v := 0) X.x X.b d_Model_assemble_1 (by decide) ?_
  refine m_put X ok_Model hS (Or.inl ⟨by omega, by omega⟩) hM.1 3 (by decide) k_Model_126 rfl (ok_Model.2.2.1 _ (by decide)) rfl rfl (Nat.le_of_ble_eq_true rfl) d_Model_assemble_2 (fun H locs hp hcg hS => ?_)
  have hM := hM.f3 hp hcg
  obtain ⟨p_1, ep_1⟩ : ∃ z, z = upd p0 3 0 := ⟨_, rfl⟩
  rw [← ep_1] at hM
  refine lv_aload_n X.x X.b d_Model_assemble_5 rfl (lv_at hl 0 rfl) ?_
  refine lv_iconst (v := -1) X.x X.b d_Model_assemble_6 (by decide) ?_
  refine m_put X ok_Model hS (Or.inl ⟨by omega, by omega⟩) hM.1 4 (by decide) k_Model_129 rfl (ok_Model.2.2.1 _ (by decide)) rfl rfl (Nat.le_of_ble_eq_true rfl) d_Model_assemble_7 (fun H locs hp hcg hS => ?_)
  have hM := hM.f4 hp hcg
  obtain ⟨p_2, ep_2⟩ : ∃ z, z = upd p_1 4 (-1) := ⟨_, rfl⟩
  rw [← ep_2] at hM
  refine lv_aload_n X.x X.b d_Model_assemble_10 rfl (lv_at hl 0 rfl) ?_
  have hR := M_Model_expand_D (c := c) l g hM (by omega) hD (by rw [ep_2, upd_mi _ _ _ (show 3 ≠ 4 by decide), ep_1, upd_hit])
  refine m_callV X hS hR v_Model_183 hM.1 rfl rfl rfl (Nat.le_of_ble_eq_true rfl) hl.1 d_Model_assemble_11 (by omega) (by decide) ⟨by omega, by omega⟩ (fun q z => z.elim (fun z => by have z : mo ≤ q ∧ q < mo + 23 := z; exact Or.inl ⟨by omega, by omega⟩) (fun z => Or.inr (Nat.le_trans hS.1 z))) (fun H locs hq hfr hS => ?_)
  obtain ⟨p_3, s_4, hM, ⟨hX0, hX4⟩, ⟨hX1, hX2⟩, hx, ⟨hX11, hX12, hX13⟩, hXj⟩ := hq
  have hx9 := hx
  obtain ⟨⟨hX3, hX5⟩, hXk, hX8⟩ := hx9
  refine lv_aload_n X.x X.b d_Model_assemble_14 rfl (lv_at hl 0 rfl) ?_
  refine m_get (v := .int 0) X ok_Model hM.1 3 (by decide) k_Model_126 (congrArg (fun z => some (Value.int z)) (show p_3 3 = 0 from (by rw [hX3]))) d_Model_assemble_15 ?_
  refine lv_if_ne (tgt := 25) X.x X.b d_Model_assemble_18 (by decide) (fun c1 => ?_) (fun c1 => ?_)
  · exact absurd c1 (by decide)
  · skip
    refine lv_aload_n X.x X.b d_Model_assemble_21 rfl (lv_at hl 0 rfl) ?_
    have hR := M_Model_refer_D (c := c) l g hM (by omega) hx
    refine m_callM X hS hR v_Model_186 hM.1 rfl rfl rfl (Nat.le_of_ble_eq_true rfl) hl.1 d_Model_assemble_22 (by omega) (by decide) ⟨by omega, by omega⟩ (fun q z => by have z : mo ≤ q ∧ q < mo + 23 := z; exact ⟨by omega, by omega⟩) (fun H locs hq hfr hS => ?_)
    obtain ⟨s_5, hM, hsr⟩ := hq
    have hx := dxP.s hx (hsr 8 (by decide)) (hsr 9 (by decide)) (hsr 10 (by decide))
    refine lv_aload_n X.x X.b d_Model_assemble_25 rfl (lv_at hl 0 rfl) ?_
    refine m_get (v := .int 0) X ok_Model hM.1 3 (by decide) k_Model_126 (congrArg (fun z => some (Value.int z)) (show p_3 3 = 0 from (by rw [hX3]))) d_Model_assemble_26 ?_
    refine lv_if_le (tgt := 33) X.x X.b d_Model_assemble_29 (by decide) (fun c2 => ?_) (fun c2 => ?_)
    · skip
      have c2q := Int32.not_lt.mpr c2
      refine lv_aload_n X.x X.b d_Model_assemble_33 rfl (lv_at hl 0 rfl) ?_
      have hR := M_Model_fillPools_D (c := c) l g hM (by omega) hx
      refine m_callM X hS hR v_Model_189 hM.1 rfl rfl rfl (Nat.le_of_ble_eq_true rfl) hl.1 d_Model_assemble_34 (by omega) (by decide) ⟨by omega, by omega⟩ (fun q z => by have z : mo ≤ q ∧ q < mo + 23 := z; exact ⟨by omega, by omega⟩) (fun H locs hq hfr hS => ?_)
      obtain ⟨s_6, hM, hsf, hP15⟩ := hq
      have hx := dxP.s hx (hsf 8 (by decide)) (hsf 9 (by decide)) (hsf 10 (by decide))
      refine lv_aload_n X.x X.b d_Model_assemble_37 rfl (lv_at hl 0 rfl) ?_
      have hR := M_Model_layOut_D (c := c) l g hM (by omega) hx
      refine m_callM X hS hR v_Model_192 hM.1 rfl rfl rfl (Nat.le_of_ble_eq_true rfl) hl.1 d_Model_assemble_38 (by omega) (by decide) ⟨by omega, by omega⟩ (fun q z => by have z : mo ≤ q ∧ q < mo + 23 := z; exact ⟨by omega, by omega⟩) (fun H locs hq hfr hS => ?_)
      obtain ⟨p_7, s_8, hM, hp_9, hs_10, hF23⟩ := hq
      have hx := dxP.ps hx (hp_9 3 (by decide)) (hp_9 5 (by decide)) (hs_10 8 (by decide)) (hs_10 9 (by decide)) (hs_10 10 (by decide))
      refine lv_iconst (v := 0) X.x X.b d_Model_assemble_41 (by decide) ?_
      refine lv_istore_n (lv' := [(1, .int 0), (0, .ref mo)]) X.x X.b d_Model_assemble_42 rfl hl (by decide) rfl (fun ls hl => ?_)
      have lp : ∀ (n i : Nat), n = (c + 1) - i → i < 5000 → (i ≤ c + 1) → ∀ (locs : List Loc) (ls : Array Slot), va_S (AA (fun q => mo ≤ q ∧ q < mo + 23) H0) H0 H locs → lv_has ls 2 [(0, .ref mo), (1, .int (nI i))] → W p l e (rmK 6 4 262) s m ([.ref mo] : List Value).toArray below meth cd H locs (0 + 3) (0 + 18) (MQ below (QM (none) (fun H1 => ∃ p s, mAt g mo tq p s H1 ∧ p 0 = p0 0 ∧ s 1 = s0 1 ∧ s 2 = s0 2 ∧ p 3 = 0 ∧ p 5 = nI (c + 1) ∧ ∀ j, j ≤ c → s 23 j = 0) (fun q => mo ≤ q ∧ q < mo + 23) H0) ([.ref mo] : List Value).toArray s 4 262 (AA (fun q => mo ≤ q ∧ q < mo + 23) H0)) (F0 m 43 ls []) := by
        intro n
        induction n with
        | zero =>
          intro i hin hi5 hic1 locs ls hS hl
          refine lv_iload_n X.x X.b d_Model_assemble_43 rfl (lv_at hl 1 rfl) ?_
          refine lv_aload_n X.x X.b d_Model_assemble_44 rfl (lv_at hl 0 rfl) ?_
          refine m_get (v := .int (nI (c + 1))) X ok_Model hM.1 5 (by decide) k_Model_132 (congrArg (fun z => some (Value.int z)) (show p_7 5 = nI (c + 1) from (by rw [hx.1.2]))) d_Model_assemble_45 ?_
          refine lv_icmp_ge (tgt := 103) X.x X.b d_Model_assemble_48 (by decide) (fun c3 => ?_) (fun c3 => ?_)
          · skip
            have c3q := Int32.not_lt.mpr c3
            refine lv_aload_n X.x X.b d_Model_assemble_103 rfl (lv_at hl 0 rfl) ?_
            refine m_get (v := .int 0) X ok_Model hM.1 3 (by decide) k_Model_126 (congrArg (fun z => some (Value.int z)) (show p_7 3 = 0 from (by rw [hp_9 3 (by decide), hX3]))) d_Model_assemble_104 ?_
            refine lv_if_ne (tgt := 114) X.x X.b d_Model_assemble_107 (by decide) (fun c4 => ?_) (fun c4 => ?_)
            · exact absurd c1 c4
            · skip
              refine lv_aload_n X.x X.b d_Model_assemble_110 rfl (lv_at hl 0 rfl) ?_
              have hR := M_Model_follow_D (c := c) l g hM (by omega) hx (by omega)
              refine m_callV X hS hR v_Model_198 hM.1 rfl rfl rfl (Nat.le_of_ble_eq_true rfl) hl.1 d_Model_assemble_111 (by omega) (by decide) ⟨by omega, by omega⟩ (fun q z => z.elim (fun z => by have z : mo ≤ q ∧ q < mo + 23 := z; exact Or.inl ⟨by omega, by omega⟩) (fun z => Or.inr (Nat.le_trans hS.1 z))) (fun H locs hq hfr hS => ?_)
              obtain ⟨s_11, hM, hso⟩ := hq
              exact m_vret X hS (by omega) (by omega) d_Model_assemble_114 rfl ⟨_, _, hM, (by rw [hp_9 0 (by decide), hX0, ep_2, upd_mi _ _ _ (show 0 ≠ 4 by decide), ep_1, upd_mi _ _ _ (show 0 ≠ 3 by decide)]), by rw [hso 1 (by decide), hs_10 1 (by decide), hsf 1 (by decide), hsr 1 (by decide), hX1], by rw [hso 2 (by decide), hs_10 2 (by decide), hsf 2 (by decide), hsr 2 (by decide), hX2], (by rw [hp_9 3 (by decide), hX3]), (by rw [hp_9 5 (by decide), hX5]), fun j hj => by rw [hso 23 (by decide)]; exact hF23 j hj⟩
          · exact absurd ((nI_leI (a := (c + 1)) (b := i) (by omega) (by omega)).mpr (by omega)) c3
        | succ n ih =>
          intro i hin hi5 hic1 locs ls hS hl
          refine lv_iload_n X.x X.b d_Model_assemble_43 rfl (lv_at hl 1 rfl) ?_
          refine lv_aload_n X.x X.b d_Model_assemble_44 rfl (lv_at hl 0 rfl) ?_
          refine m_get (v := .int (nI (c + 1))) X ok_Model hM.1 5 (by decide) k_Model_132 (congrArg (fun z => some (Value.int z)) (show p_7 5 = nI (c + 1) from (by rw [hx.1.2]))) d_Model_assemble_45 ?_
          refine lv_icmp_ge (tgt := 103) X.x X.b d_Model_assemble_48 (by decide) (fun c5 => ?_) (fun c5 => ?_)
          · exact absurd ((nI_leI (a := (c + 1)) (b := i) (by omega) (by omega)).mp c5) (by omega)
          · skip
            have c5q := Int32.not_le.mp c5
            refine lv_aload_n X.x X.b d_Model_assemble_51 rfl (lv_at hl 0 rfl) ?_
            refine m_get (v := .int 0) X ok_Model hM.1 3 (by decide) k_Model_126 (congrArg (fun z => some (Value.int z)) (show p_7 3 = 0 from (by rw [hx.1.1]))) d_Model_assemble_52 ?_
            refine lv_if_ne (tgt := 103) X.x X.b d_Model_assemble_55 (by decide) (fun c6 => ?_) (fun c6 => ?_)
            · exact absurd c1 c6
            · skip
              rcases Nat.lt_or_ge i c with hic | hic
              · skip
                refine lv_aload_n X.x X.b d_Model_assemble_58 rfl (lv_at hl 0 rfl) ?_
                refine m_get (v := .ref (mo + 3)) X ok_Model hM.1 8 (by decide) k_Model_16 rfl d_Model_assemble_59 ?_
                refine lv_iload_n X.x X.b d_Model_assemble_62 rfl (lv_at hl 1 rfl) ?_
                refine m_ild (v := 2) X hM.a8 i rfl (by omega) (by decide) (show s_8 8 i = 2 from (by rw [(hx.2.1 i hic).1])) d_Model_assemble_63 ?_
                refine lv_iconst (v := 5) X.x X.b d_Model_assemble_64 (by decide) ?_
                refine lv_icmp_ne (tgt := 97) X.x X.b d_Model_assemble_65 (by decide) (fun c7 => ?_) (fun c7 => ?_)
                · skip
                  refine lv_iinc (v := nI (i + 1)) (lv' := [(1, .int (nI (i + 1))), (0, .ref mo)]) X.x X.b d_Model_assemble_97 hl (k := 1) rfl (nI_1 i) (by decide) rfl (fun ls hl => ?_)
                  refine lv_goto (tgt := 43) X.x X.b d_Model_assemble_100 (by decide) ?_
                  exact ih (i + 1) (by omega) (by omega) ((by omega)) _ _ hS (lv_sub hl [1, 0] rfl)
                · exact absurd c7 (by decide)
              · skip
                have hic : i = c := by omega
                refine lv_aload_n X.x X.b d_Model_assemble_58 rfl (lv_at hl 0 rfl) ?_
                refine m_get (v := .ref (mo + 3)) X ok_Model hM.1 8 (by decide) k_Model_16 rfl d_Model_assemble_59 ?_
                refine lv_iload_n X.x X.b d_Model_assemble_62 rfl (lv_at hl 1 rfl) ?_
                refine m_ild (v := 6) X hM.a8 i rfl (by omega) (by decide) (show s_8 8 i = 6 from (by rw [hic, hx.2.2])) d_Model_assemble_63 ?_
                refine lv_iconst (v := 5) X.x X.b d_Model_assemble_64 (by decide) ?_
                refine lv_icmp_ne (tgt := 97) X.x X.b d_Model_assemble_65 (by decide) (fun c8 => ?_) (fun c8 => ?_)
                · skip
                  refine lv_iinc (v := nI (i + 1)) (lv' := [(1, .int (nI (i + 1))), (0, .ref mo)]) X.x X.b d_Model_assemble_97 hl (k := 1) rfl (nI_1 i) (by decide) rfl (fun ls hl => ?_)
                  refine lv_goto (tgt := 43) X.x X.b d_Model_assemble_100 (by decide) ?_
                  exact ih (i + 1) (by omega) (by omega) ((by omega)) _ _ hS (lv_sub hl [1, 0] rfl)
                · exact absurd c8 (by decide)
      exact lp (c + 1) 0 (by omega) (by omega) (Nat.zero_le _) _ _ hS (lv_sub hl [1, 0] rfl)
    · exact absurd c2 (by decide)
