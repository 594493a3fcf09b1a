-- THE REFERENCE ASSEMBLING ONE LINE, KIND BY KIND
set_option maxRecDepth 100000 in
set_option maxHeartbeats 4000000 in
theorem M_Model_assemble_L0n (l : Launch) (g : GG) {mo tq : Nat} {p0 : Nat → Int32} {s0 : Nat → Nat → Int32} {H0 : Heap} (hM : mAt g mo tq p0 s0 H0) {v_ r : Int32} {j : Nat} (hj : j < 8) (hL : oneL 0 (nI j) (-1) v_ r s0) : MM l y_Model_assemble c_Model_assemble 2 none 6 4 262 g H0 [.ref mo] (fun q => mo ≤ q ∧ q < mo + 23) (none) (fun H1 => ∃ p s, mAt g mo tq p s H1 ∧ p 0 = p0 0 ∧ s 2 = s0 2) := by
  refine MM.of (by decide +kernel) (Nat.le_of_ble_eq_true rfl) ?_
  intro p e s m below meth cd X hH ls hl
  have X : CX g p s m _ meth cd c_Model_assemble 2 none R_Model _ := X
  have hl : lv_has ls 2 [(0, .ref mo)] := hl
  have hS : va_S (AA (fun q => mo ≤ q ∧ q < mo + 23) H0) H0 H0 [] := va_S.rf
  have hlt0 := hM.lt
  have htq0 := hM.tq
  refine lv_aload_n X.x X.b d_Model_assemble_0 rfl (lv_at hl 0 rfl) ?_
  refine lv_iconst (v := 0) X.x X.b d_Model_assemble_1 (by decide) ?_
  refine m_put X ok_Model hS (Or.inl ⟨by omega, by omega⟩) hM.1 3 (by decide) k_Model_126 rfl (ok_Model.2.2.1 _ (by decide)) rfl rfl (Nat.le_of_ble_eq_true rfl) d_Model_assemble_2 (fun H locs hp hcg hS => ?_)
  have hM := hM.f3 hp hcg
  obtain ⟨p_1, ep_1⟩ : ∃ z, z = upd p0 3 0 := ⟨_, rfl⟩
  rw [← ep_1] at hM
  refine lv_aload_n X.x X.b d_Model_assemble_5 rfl (lv_at hl 0 rfl) ?_
  refine lv_iconst (v := -1) X.x X.b d_Model_assemble_6 (by decide) ?_
  refine m_put X ok_Model hS (Or.inl ⟨by omega, by omega⟩) hM.1 4 (by decide) k_Model_129 rfl (ok_Model.2.2.1 _ (by decide)) rfl rfl (Nat.le_of_ble_eq_true rfl) d_Model_assemble_7 (fun H locs hp hcg hS => ?_)
  have hM := hM.f4 hp hcg
  obtain ⟨p_2, ep_2⟩ : ∃ z, z = upd p_1 4 (-1) := ⟨_, rfl⟩
  rw [← ep_2] at hM
  refine lv_aload_n X.x X.b d_Model_assemble_10 rfl (lv_at hl 0 rfl) ?_
  have hR := M_Model_expand_L0n l g hM hj (show oneL 0 (nI j) (-1) v_ r _ from hL) (by rw [ep_2, upd_mi _ _ _ (show 3 ≠ 4 by decide), ep_1, upd_hit])
  refine m_callV X hS hR v_Model_183 hM.1 rfl rfl rfl (Nat.le_of_ble_eq_true rfl) hl.1 d_Model_assemble_11 (by omega) (by decide) ⟨by omega, by omega⟩ (fun q z => z.elim (fun z => by have z : mo ≤ q ∧ q < mo + 23 := z; exact Or.inl ⟨by omega, by omega⟩) (fun z => Or.inr (Nat.le_trans hS.1 z))) (fun H locs hq hfr hS => ?_)
  obtain ⟨p_3, s_4, hM, hX0, hX2, ⟨hX3, hX5⟩, hX8, hX9, hX10, hX81, hX11⟩ := hq
  have hw : twoI 0 p_3 s_4 := ⟨⟨hX3, hX5⟩, hX8, hX81⟩
  refine lv_aload_n X.x X.b d_Model_assemble_14 rfl (lv_at hl 0 rfl) ?_
  refine m_get (v := .int 0) X ok_Model hM.1 3 (by decide) k_Model_126 (congrArg (fun z => some (Value.int z)) (show p_3 3 = 0 from (by rw [hX3]))) d_Model_assemble_15 ?_
  refine lv_if_ne (tgt := 25) X.x X.b d_Model_assemble_18 (by decide) (fun c1 => ?_) (fun c1 => ?_)
  · exact absurd c1 (by decide)
  · skip
    refine lv_aload_n X.x X.b d_Model_assemble_21 rfl (lv_at hl 0 rfl) ?_
    refine m_callP X hS (M_Model_refer_s0 l g hM hw) v_Model_186 hM.1 rfl rfl rfl (Nat.le_of_ble_eq_true rfl) hl.1 d_Model_assemble_22 (by omega) (by decide) ⟨by omega, by omega⟩ (fun locs hS => ?_)
    refine lv_aload_n X.x X.b d_Model_assemble_25 rfl (lv_at hl 0 rfl) ?_
    refine m_get (v := .int 0) X ok_Model hM.1 3 (by decide) k_Model_126 (congrArg (fun z => some (Value.int z)) (show p_3 3 = 0 from (by rw [hX3]))) d_Model_assemble_26 ?_
    refine lv_if_le (tgt := 33) X.x X.b d_Model_assemble_29 (by decide) (fun c2 => ?_) (fun c2 => ?_)
    · skip
      have c2q := Int32.not_lt.mpr c2
      refine lv_aload_n X.x X.b d_Model_assemble_33 rfl (lv_at hl 0 rfl) ?_
      have hR := M_Model_fillPools_L0 l g hM hw
      refine m_callM X hS hR v_Model_189 hM.1 rfl rfl rfl (Nat.le_of_ble_eq_true rfl) hl.1 d_Model_assemble_34 (by omega) (by decide) ⟨by omega, by omega⟩ (fun q z => by have z : mo ≤ q ∧ q < mo + 23 := z; exact ⟨by omega, by omega⟩) (fun H locs hq hfr hS => ?_)
      obtain ⟨s_5, hM, hsf⟩ := hq
      have hw := twoI.s hw (hsf 8 (by decide))
      refine lv_aload_n X.x X.b d_Model_assemble_37 rfl (lv_at hl 0 rfl) ?_
      have hR := M_Model_layOut_L0 l g hM hw
      refine m_callM X hS hR v_Model_192 hM.1 rfl rfl rfl (Nat.le_of_ble_eq_true rfl) hl.1 d_Model_assemble_38 (by omega) (by decide) ⟨by omega, by omega⟩ (fun q z => by have z : mo ≤ q ∧ q < mo + 23 := z; exact ⟨by omega, by omega⟩) (fun H locs hq hfr hS => ?_)
      obtain ⟨p_6, s_7, hM, hp_8, hs_9⟩ := hq
      have hw := twoI.ps hw (hp_8 3 (by decide)) (hp_8 5 (by decide)) (hs_9 8 (by decide))
      refine lv_iconst (v := 0) X.x X.b d_Model_assemble_41 (by decide) ?_
      refine lv_istore_n (lv' := [(1, .int 0), (0, .ref mo)]) X.x X.b d_Model_assemble_42 rfl hl (by decide) rfl (fun ls hl => ?_)
      refine lv_iload_n X.x X.b d_Model_assemble_43 rfl (lv_at hl 0 rfl) ?_
      refine lv_aload_n X.x X.b d_Model_assemble_44 rfl (lv_at hl 1 rfl) ?_
      refine m_get (v := .int 2) X ok_Model hM.1 5 (by decide) k_Model_132 (congrArg (fun z => some (Value.int z)) (show p_6 5 = 2 from (by rw [hp_8 5 (by decide), hX5]))) d_Model_assemble_45 ?_
      refine lv_icmp_ge (tgt := 103) X.x X.b d_Model_assemble_48 (by decide) (fun c3 => ?_) (fun c3 => ?_)
      · exact absurd c3 (by decide)
      · skip
        have c3q := Int32.not_le.mp c3
        refine lv_aload_n X.x X.b d_Model_assemble_51 rfl (lv_at hl 1 rfl) ?_
        refine m_get (v := .int 0) X ok_Model hM.1 3 (by decide) k_Model_126 (congrArg (fun z => some (Value.int z)) (show p_6 3 = 0 from (by rw [hp_8 3 (by decide), hX3]))) d_Model_assemble_52 ?_
        refine lv_if_ne (tgt := 103) X.x X.b d_Model_assemble_55 (by decide) (fun c4 => ?_) (fun c4 => ?_)
        · exact absurd c1 c4
        · skip
          refine lv_aload_n X.x X.b d_Model_assemble_58 rfl (lv_at hl 1 rfl) ?_
          refine m_get (v := .ref (mo + 3)) X ok_Model hM.1 8 (by decide) k_Model_16 rfl d_Model_assemble_59 ?_
          refine lv_iload_n X.x X.b d_Model_assemble_62 rfl (lv_at hl 0 rfl) ?_
          refine m_ild (v := 0) X hM.a8 0 rfl (by omega) (by decide) (show s_7 8 0 = 0 from (by rw [hs_9 8 (by decide), hsf 8 (by decide), hX8])) d_Model_assemble_63 ?_
          refine lv_iconst (v := 5) X.x X.b d_Model_assemble_64 (by decide) ?_
          refine lv_icmp_ne (tgt := 97) X.x X.b d_Model_assemble_65 (by decide) (fun c5 => ?_) (fun c5 => ?_)
          · skip
            refine lv_iinc (v := 1) (lv' := [(1, .int 1), (0, .ref mo)]) X.x X.b d_Model_assemble_97 hl (k := 0) rfl (by decide) (by decide) rfl (fun ls hl => ?_)
            refine lv_goto (tgt := 43) X.x X.b d_Model_assemble_100 (by decide) ?_
            refine lv_iload_n X.x X.b d_Model_assemble_43 rfl (lv_at hl 0 rfl) ?_
            refine lv_aload_n X.x X.b d_Model_assemble_44 rfl (lv_at hl 1 rfl) ?_
            refine m_get (v := .int 2) X ok_Model hM.1 5 (by decide) k_Model_132 (congrArg (fun z => some (Value.int z)) (show p_6 5 = 2 from (by rw [hp_8 5 (by decide), hX5]))) d_Model_assemble_45 ?_
            refine lv_icmp_ge (tgt := 103) X.x X.b d_Model_assemble_48 (by decide) (fun c6 => ?_) (fun c6 => ?_)
            · exact absurd c6 (by decide)
            · skip
              have c6q := Int32.not_le.mp c6
              refine lv_aload_n X.x X.b d_Model_assemble_51 rfl (lv_at hl 1 rfl) ?_
              refine m_get (v := .int 0) X ok_Model hM.1 3 (by decide) k_Model_126 (congrArg (fun z => some (Value.int z)) (show p_6 3 = 0 from (by rw [hp_8 3 (by decide), hX3]))) d_Model_assemble_52 ?_
              refine lv_if_ne (tgt := 103) X.x X.b d_Model_assemble_55 (by decide) (fun c7 => ?_) (fun c7 => ?_)
              · exact absurd c4 c7
              · skip
                refine lv_aload_n X.x X.b d_Model_assemble_58 rfl (lv_at hl 1 rfl) ?_
                refine m_get (v := .ref (mo + 3)) X ok_Model hM.1 8 (by decide) k_Model_16 rfl d_Model_assemble_59 ?_
                refine lv_iload_n X.x X.b d_Model_assemble_62 rfl (lv_at hl 0 rfl) ?_
                refine m_ild (v := 6) X hM.a8 1 rfl (by omega) (by decide) (show s_7 8 1 = 6 from (by rw [hs_9 8 (by decide), hsf 8 (by decide), hX81])) d_Model_assemble_63 ?_
                refine lv_iconst (v := 5) X.x X.b d_Model_assemble_64 (by decide) ?_
                refine lv_icmp_ne (tgt := 97) X.x X.b d_Model_assemble_65 (by decide) (fun c8 => ?_) (fun c8 => ?_)
                · skip
                  refine lv_iinc (v := 2) (lv' := [(1, .int 2), (0, .ref mo)]) X.x X.b d_Model_assemble_97 hl (k := 0) rfl (by decide) (by decide) rfl (fun ls hl => ?_)
                  refine lv_goto (tgt := 43) X.x X.b d_Model_assemble_100 (by decide) ?_
                  refine lv_iload_n X.x X.b d_Model_assemble_43 rfl (lv_at hl 0 rfl) ?_
                  refine lv_aload_n X.x X.b d_Model_assemble_44 rfl (lv_at hl 1 rfl) ?_
                  refine m_get (v := .int 2) X ok_Model hM.1 5 (by decide) k_Model_132 (congrArg (fun z => some (Value.int z)) (show p_6 5 = 2 from (by rw [hp_8 5 (by decide), hX5]))) d_Model_assemble_45 ?_
                  refine lv_icmp_ge (tgt := 103) X.x X.b d_Model_assemble_48 (by decide) (fun c9 => ?_) (fun c9 => ?_)
                  · skip
                    have c9q := Int32.not_lt.mpr c9
                    refine lv_aload_n X.x X.b d_Model_assemble_103 rfl (lv_at hl 1 rfl) ?_
                    refine m_get (v := .int 0) X ok_Model hM.1 3 (by decide) k_Model_126 (congrArg (fun z => some (Value.int z)) (show p_6 3 = 0 from (by rw [hp_8 3 (by decide), hX3]))) d_Model_assemble_104 ?_
                    refine lv_if_ne (tgt := 114) X.x X.b d_Model_assemble_107 (by decide) (fun c10 => ?_) (fun c10 => ?_)
                    · exact absurd c7 c10
                    · skip
                      refine lv_aload_n X.x X.b d_Model_assemble_110 rfl (lv_at hl 1 rfl) ?_
                      have hR := M_Model_follow_L0 l g hM hw
                      refine m_callV X hS hR v_Model_198 hM.1 rfl rfl rfl (Nat.le_of_ble_eq_true rfl) hl.1 d_Model_assemble_111 (by omega) (by decide) ⟨by omega, by omega⟩ (fun q z => z.elim (fun z => by have z : mo ≤ q ∧ q < mo + 23 := z; exact Or.inl ⟨by omega, by omega⟩) (fun z => Or.inr (Nat.le_trans hS.1 z))) (fun H locs hq hfr hS => ?_)
                      obtain ⟨s_10, hM, hso⟩ := hq
                      exact m_vret X hS (by omega) (by omega) d_Model_assemble_114 rfl ⟨_, _, hM, (by rw [hp_8 0 (by decide), hX0, ep_2, upd_mi _ _ _ (show 0 ≠ 4 by decide), ep_1, upd_mi _ _ _ (show 0 ≠ 3 by decide)]), by rw [hso 2 (by decide), hs_9 2 (by decide), hsf 2 (by decide), hX2]⟩
                  · exact absurd c9 (by decide)
                · exact absurd c8 (by decide)
          · exact absurd c5 (by decide)
    · exact absurd c2 (by decide)
set_option maxRecDepth 100000 in
set_option maxHeartbeats 4000000 in
theorem M_Model_assemble_L0l (l : Launch) (g : GG) {mo tq : Nat} {p0 : Nat → Int32} {s0 : Nat → Nat → Int32} {H0 : Heap} (hM : mAt g mo tq p0 s0 H0) {v_ r : Int32} {j : Nat} (hj : 8 ≤ j) (hj9 : j ≤ 9) (hL : oneL 0 (nI j) (-1) v_ r s0) : MM l y_Model_assemble c_Model_assemble 2 none 6 4 262 g H0 [.ref mo] (fun q => mo ≤ q ∧ q < mo + 23) (none) (fun H1 => ∃ p s, mAt g mo tq p s H1 ∧ p 0 = p0 0 ∧ s 2 = s0 2) := by
  refine MM.of (by decide +kernel) (Nat.le_of_ble_eq_true rfl) ?_
  intro p e s m below meth cd X hH ls hl
  have X : CX g p s m _ meth cd c_Model_assemble 2 none R_Model _ := X
  have hl : lv_has ls 2 [(0, .ref mo)] := hl
  have hS : va_S (AA (fun q => mo ≤ q ∧ q < mo + 23) H0) H0 H0 [] := va_S.rf
  have hlt0 := hM.lt
  have htq0 := hM.tq
  refine lv_aload_n X.x X.b d_Model_assemble_0 rfl (lv_at hl 0 rfl) ?_
  refine lv_iconst (v := 0) X.x X.b d_Model_assemble_1 (by decide) ?_
  refine m_put X ok_Model hS (Or.inl ⟨by omega, by omega⟩) hM.1 3 (by decide) k_Model_126 rfl (ok_Model.2.2.1 _ (by decide)) rfl rfl (Nat.le_of_ble_eq_true rfl) d_Model_assemble_2 (fun H locs hp hcg hS => ?_)
  have hM := hM.f3 hp hcg
  obtain ⟨p_1, ep_1⟩ : ∃ z, z = upd p0 3 0 := ⟨_, rfl⟩
  rw [← ep_1] at hM
  refine lv_aload_n X.x X.b d_Model_assemble_5 rfl (lv_at hl 0 rfl) ?_
  refine lv_iconst (v := -1) X.x X.b d_Model_assemble_6 (by decide) ?_
  refine m_put X ok_Model hS (Or.inl ⟨by omega, by omega⟩) hM.1 4 (by decide) k_Model_129 rfl (ok_Model.2.2.1 _ (by decide)) rfl rfl (Nat.le_of_ble_eq_true rfl) d_Model_assemble_7 (fun H locs hp hcg hS => ?_)
  have hM := hM.f4 hp hcg
  obtain ⟨p_2, ep_2⟩ : ∃ z, z = upd p_1 4 (-1) := ⟨_, rfl⟩
  rw [← ep_2] at hM
  refine lv_aload_n X.x X.b d_Model_assemble_10 rfl (lv_at hl 0 rfl) ?_
  have hR := M_Model_expand_L0l l g hM hj hj9 (show oneL 0 (nI j) (-1) v_ r _ from hL) (by rw [ep_2, upd_mi _ _ _ (show 3 ≠ 4 by decide), ep_1, upd_hit])
  refine m_callV X hS hR v_Model_183 hM.1 rfl rfl rfl (Nat.le_of_ble_eq_true rfl) hl.1 d_Model_assemble_11 (by omega) (by decide) ⟨by omega, by omega⟩ (fun q z => z.elim (fun z => by have z : mo ≤ q ∧ q < mo + 23 := z; exact Or.inl ⟨by omega, by omega⟩) (fun z => Or.inr (Nat.le_trans hS.1 z))) (fun H locs hq hfr hS => ?_)
  obtain ⟨p_3, s_4, hM, hX0, hX2, ⟨hX3, hX5⟩, hX8, hX9, hX10, hX81, hX11⟩ := hq
  have hw : twoI 0 p_3 s_4 := ⟨⟨hX3, hX5⟩, hX8, hX81⟩
  refine lv_aload_n X.x X.b d_Model_assemble_14 rfl (lv_at hl 0 rfl) ?_
  refine m_get (v := .int 0) X ok_Model hM.1 3 (by decide) k_Model_126 (congrArg (fun z => some (Value.int z)) (show p_3 3 = 0 from (by rw [hX3]))) d_Model_assemble_15 ?_
  refine lv_if_ne (tgt := 25) X.x X.b d_Model_assemble_18 (by decide) (fun c1 => ?_) (fun c1 => ?_)
  · exact absurd c1 (by decide)
  · skip
    refine lv_aload_n X.x X.b d_Model_assemble_21 rfl (lv_at hl 0 rfl) ?_
    refine m_callP X hS (M_Model_refer_s0 l g hM hw) v_Model_186 hM.1 rfl rfl rfl (Nat.le_of_ble_eq_true rfl) hl.1 d_Model_assemble_22 (by omega) (by decide) ⟨by omega, by omega⟩ (fun locs hS => ?_)
    refine lv_aload_n X.x X.b d_Model_assemble_25 rfl (lv_at hl 0 rfl) ?_
    refine m_get (v := .int 0) X ok_Model hM.1 3 (by decide) k_Model_126 (congrArg (fun z => some (Value.int z)) (show p_3 3 = 0 from (by rw [hX3]))) d_Model_assemble_26 ?_
    refine lv_if_le (tgt := 33) X.x X.b d_Model_assemble_29 (by decide) (fun c2 => ?_) (fun c2 => ?_)
    · skip
      have c2q := Int32.not_lt.mpr c2
      refine lv_aload_n X.x X.b d_Model_assemble_33 rfl (lv_at hl 0 rfl) ?_
      have hR := M_Model_fillPools_L0 l g hM hw
      refine m_callM X hS hR v_Model_189 hM.1 rfl rfl rfl (Nat.le_of_ble_eq_true rfl) hl.1 d_Model_assemble_34 (by omega) (by decide) ⟨by omega, by omega⟩ (fun q z => by have z : mo ≤ q ∧ q < mo + 23 := z; exact ⟨by omega, by omega⟩) (fun H locs hq hfr hS => ?_)
      obtain ⟨s_5, hM, hsf⟩ := hq
      have hw := twoI.s hw (hsf 8 (by decide))
      refine lv_aload_n X.x X.b d_Model_assemble_37 rfl (lv_at hl 0 rfl) ?_
      have hR := M_Model_layOut_L0 l g hM hw
      refine m_callM X hS hR v_Model_192 hM.1 rfl rfl rfl (Nat.le_of_ble_eq_true rfl) hl.1 d_Model_assemble_38 (by omega) (by decide) ⟨by omega, by omega⟩ (fun q z => by have z : mo ≤ q ∧ q < mo + 23 := z; exact ⟨by omega, by omega⟩) (fun H locs hq hfr hS => ?_)
      obtain ⟨p_6, s_7, hM, hp_8, hs_9⟩ := hq
      have hw := twoI.ps hw (hp_8 3 (by decide)) (hp_8 5 (by decide)) (hs_9 8 (by decide))
      refine lv_iconst (v := 0) X.x X.b d_Model_assemble_41 (by decide) ?_
      refine lv_istore_n (lv' := [(1, .int 0), (0, .ref mo)]) X.x X.b d_Model_assemble_42 rfl hl (by decide) rfl (fun ls hl => ?_)
      refine lv_iload_n X.x X.b d_Model_assemble_43 rfl (lv_at hl 0 rfl) ?_
      refine lv_aload_n X.x X.b d_Model_assemble_44 rfl (lv_at hl 1 rfl) ?_
      refine m_get (v := .int 2) X ok_Model hM.1 5 (by decide) k_Model_132 (congrArg (fun z => some (Value.int z)) (show p_6 5 = 2 from (by rw [hp_8 5 (by decide), hX5]))) d_Model_assemble_45 ?_
      refine lv_icmp_ge (tgt := 103) X.x X.b d_Model_assemble_48 (by decide) (fun c3 => ?_) (fun c3 => ?_)
      · exact absurd c3 (by decide)
      · skip
        have c3q := Int32.not_le.mp c3
        refine lv_aload_n X.x X.b d_Model_assemble_51 rfl (lv_at hl 1 rfl) ?_
        refine m_get (v := .int 0) X ok_Model hM.1 3 (by decide) k_Model_126 (congrArg (fun z => some (Value.int z)) (show p_6 3 = 0 from (by rw [hp_8 3 (by decide), hX3]))) d_Model_assemble_52 ?_
        refine lv_if_ne (tgt := 103) X.x X.b d_Model_assemble_55 (by decide) (fun c4 => ?_) (fun c4 => ?_)
        · exact absurd c1 c4
        · skip
          refine lv_aload_n X.x X.b d_Model_assemble_58 rfl (lv_at hl 1 rfl) ?_
          refine m_get (v := .ref (mo + 3)) X ok_Model hM.1 8 (by decide) k_Model_16 rfl d_Model_assemble_59 ?_
          refine lv_iload_n X.x X.b d_Model_assemble_62 rfl (lv_at hl 0 rfl) ?_
          refine m_ild (v := 0) X hM.a8 0 rfl (by omega) (by decide) (show s_7 8 0 = 0 from (by rw [hs_9 8 (by decide), hsf 8 (by decide), hX8])) d_Model_assemble_63 ?_
          refine lv_iconst (v := 5) X.x X.b d_Model_assemble_64 (by decide) ?_
          refine lv_icmp_ne (tgt := 97) X.x X.b d_Model_assemble_65 (by decide) (fun c5 => ?_) (fun c5 => ?_)
          · skip
            refine lv_iinc (v := 1) (lv' := [(1, .int 1), (0, .ref mo)]) X.x X.b d_Model_assemble_97 hl (k := 0) rfl (by decide) (by decide) rfl (fun ls hl => ?_)
            refine lv_goto (tgt := 43) X.x X.b d_Model_assemble_100 (by decide) ?_
            refine lv_iload_n X.x X.b d_Model_assemble_43 rfl (lv_at hl 0 rfl) ?_
            refine lv_aload_n X.x X.b d_Model_assemble_44 rfl (lv_at hl 1 rfl) ?_
            refine m_get (v := .int 2) X ok_Model hM.1 5 (by decide) k_Model_132 (congrArg (fun z => some (Value.int z)) (show p_6 5 = 2 from (by rw [hp_8 5 (by decide), hX5]))) d_Model_assemble_45 ?_
            refine lv_icmp_ge (tgt := 103) X.x X.b d_Model_assemble_48 (by decide) (fun c6 => ?_) (fun c6 => ?_)
            · exact absurd c6 (by decide)
            · skip
              have c6q := Int32.not_le.mp c6
              refine lv_aload_n X.x X.b d_Model_assemble_51 rfl (lv_at hl 1 rfl) ?_
              refine m_get (v := .int 0) X ok_Model hM.1 3 (by decide) k_Model_126 (congrArg (fun z => some (Value.int z)) (show p_6 3 = 0 from (by rw [hp_8 3 (by decide), hX3]))) d_Model_assemble_52 ?_
              refine lv_if_ne (tgt := 103) X.x X.b d_Model_assemble_55 (by decide) (fun c7 => ?_) (fun c7 => ?_)
              · exact absurd c4 c7
              · skip
                refine lv_aload_n X.x X.b d_Model_assemble_58 rfl (lv_at hl 1 rfl) ?_
                refine m_get (v := .ref (mo + 3)) X ok_Model hM.1 8 (by decide) k_Model_16 rfl d_Model_assemble_59 ?_
                refine lv_iload_n X.x X.b d_Model_assemble_62 rfl (lv_at hl 0 rfl) ?_
                refine m_ild (v := 6) X hM.a8 1 rfl (by omega) (by decide) (show s_7 8 1 = 6 from (by rw [hs_9 8 (by decide), hsf 8 (by decide), hX81])) d_Model_assemble_63 ?_
                refine lv_iconst (v := 5) X.x X.b d_Model_assemble_64 (by decide) ?_
                refine lv_icmp_ne (tgt := 97) X.x X.b d_Model_assemble_65 (by decide) (fun c8 => ?_) (fun c8 => ?_)
                · skip
                  refine lv_iinc (v := 2) (lv' := [(1, .int 2), (0, .ref mo)]) X.x X.b d_Model_assemble_97 hl (k := 0) rfl (by decide) (by decide) rfl (fun ls hl => ?_)
                  refine lv_goto (tgt := 43) X.x X.b d_Model_assemble_100 (by decide) ?_
                  refine lv_iload_n X.x X.b d_Model_assemble_43 rfl (lv_at hl 0 rfl) ?_
                  refine lv_aload_n X.x X.b d_Model_assemble_44 rfl (lv_at hl 1 rfl) ?_
                  refine m_get (v := .int 2) X ok_Model hM.1 5 (by decide) k_Model_132 (congrArg (fun z => some (Value.int z)) (show p_6 5 = 2 from (by rw [hp_8 5 (by decide), hX5]))) d_Model_assemble_45 ?_
                  refine lv_icmp_ge (tgt := 103) X.x X.b d_Model_assemble_48 (by decide) (fun c9 => ?_) (fun c9 => ?_)
                  · skip
                    have c9q := Int32.not_lt.mpr c9
                    refine lv_aload_n X.x X.b d_Model_assemble_103 rfl (lv_at hl 1 rfl) ?_
                    refine m_get (v := .int 0) X ok_Model hM.1 3 (by decide) k_Model_126 (congrArg (fun z => some (Value.int z)) (show p_6 3 = 0 from (by rw [hp_8 3 (by decide), hX3]))) d_Model_assemble_104 ?_
                    refine lv_if_ne (tgt := 114) X.x X.b d_Model_assemble_107 (by decide) (fun c10 => ?_) (fun c10 => ?_)
                    · exact absurd c7 c10
                    · skip
                      refine lv_aload_n X.x X.b d_Model_assemble_110 rfl (lv_at hl 1 rfl) ?_
                      have hR := M_Model_follow_L0 l g hM hw
                      refine m_callV X hS hR v_Model_198 hM.1 rfl rfl rfl (Nat.le_of_ble_eq_true rfl) hl.1 d_Model_assemble_111 (by omega) (by decide) ⟨by omega, by omega⟩ (fun q z => z.elim (fun z => by have z : mo ≤ q ∧ q < mo + 23 := z; exact Or.inl ⟨by omega, by omega⟩) (fun z => Or.inr (Nat.le_trans hS.1 z))) (fun H locs hq hfr hS => ?_)
                      obtain ⟨s_10, hM, hso⟩ := hq
                      exact m_vret X hS (by omega) (by omega) d_Model_assemble_114 rfl ⟨_, _, hM, (by rw [hp_8 0 (by decide), hX0, ep_2, upd_mi _ _ _ (show 0 ≠ 4 by decide), ep_1, upd_mi _ _ _ (show 0 ≠ 3 by decide)]), by rw [hso 2 (by decide), hs_9 2 (by decide), hsf 2 (by decide), hX2]⟩
                  · exact absurd c9 (by decide)
                · exact absurd c8 (by decide)
          · exact absurd c5 (by decide)
    · exact absurd c2 (by decide)
set_option maxRecDepth 100000 in
set_option maxHeartbeats 4000000 in
theorem M_Model_assemble_L1n (l : Launch) (g : GG) {mo tq : Nat} {p0 : Nat → Int32} {s0 : Nat → Nat → Int32} {H0 : Heap} (hM : mAt g mo tq p0 s0 H0) {v_ r : Int32} {j : Nat} (hj : j < 8) (hL : oneL 1 (nI j) (-1) v_ r s0) : MM l y_Model_assemble c_Model_assemble 2 none 6 4 262 g H0 [.ref mo] (fun q => mo ≤ q ∧ q < mo + 23) (none) (fun H1 => ∃ p s, mAt g mo tq p s H1 ∧ p 0 = p0 0 ∧ s 2 = s0 2) := by
  refine MM.of (by decide +kernel) (Nat.le_of_ble_eq_true rfl) ?_
  intro p e s m below meth cd X hH ls hl
  have X : CX g p s m _ meth cd c_Model_assemble 2 none R_Model _ := X
  have hl : lv_has ls 2 [(0, .ref mo)] := hl
  have hS : va_S (AA (fun q => mo ≤ q ∧ q < mo + 23) H0) H0 H0 [] := va_S.rf
  have hlt0 := hM.lt
  have htq0 := hM.tq
  refine lv_aload_n X.x X.b d_Model_assemble_0 rfl (lv_at hl 0 rfl) ?_
  refine lv_iconst (v := 0) X.x X.b d_Model_assemble_1 (by decide) ?_
  refine m_put X ok_Model hS (Or.inl ⟨by omega, by omega⟩) hM.1 3 (by decide) k_Model_126 rfl (ok_Model.2.2.1 _ (by decide)) rfl rfl (Nat.le_of_ble_eq_true rfl) d_Model_assemble_2 (fun H locs hp hcg hS => ?_)
  have hM := hM.f3 hp hcg
  obtain ⟨p_1, ep_1⟩ : ∃ z, z = upd p0 3 0 := ⟨_, rfl⟩
  rw [← ep_1] at hM
  refine lv_aload_n X.x X.b d_Model_assemble_5 rfl (lv_at hl 0 rfl) ?_
  refine lv_iconst (v := -1) X.x X.b d_Model_assemble_6 (by decide) ?_
  refine m_put X ok_Model hS (Or.inl ⟨by omega, by omega⟩) hM.1 4 (by decide) k_Model_129 rfl (ok_Model.2.2.1 _ (by decide)) rfl rfl (Nat.le_of_ble_eq_true rfl) d_Model_assemble_7 (fun H locs hp hcg hS => ?_)
  have hM := hM.f4 hp hcg
  obtain ⟨p_2, ep_2⟩ : ∃ z, z = upd p_1 4 (-1) := ⟨_, rfl⟩
  rw [← ep_2] at hM
  refine lv_aload_n X.x X.b d_Model_assemble_10 rfl (lv_at hl 0 rfl) ?_
  have hR := M_Model_expand_L1n l g hM hj (show oneL 1 (nI j) (-1) v_ r _ from hL) (by rw [ep_2, upd_mi _ _ _ (show 3 ≠ 4 by decide), ep_1, upd_hit])
  refine m_callV X hS hR v_Model_183 hM.1 rfl rfl rfl (Nat.le_of_ble_eq_true rfl) hl.1 d_Model_assemble_11 (by omega) (by decide) ⟨by omega, by omega⟩ (fun q z => z.elim (fun z => by have z : mo ≤ q ∧ q < mo + 23 := z; exact Or.inl ⟨by omega, by omega⟩) (fun z => Or.inr (Nat.le_trans hS.1 z))) (fun H locs hq hfr hS => ?_)
  obtain ⟨p_3, s_4, hM, hX0, hX2, ⟨hX3, hX5⟩, hX8, hX9, hX10, hX81, hX11⟩ := hq
  have hw : twoI 1 p_3 s_4 := ⟨⟨hX3, hX5⟩, hX8, hX81⟩
  refine lv_aload_n X.x X.b d_Model_assemble_14 rfl (lv_at hl 0 rfl) ?_
  refine m_get (v := .int 0) X ok_Model hM.1 3 (by decide) k_Model_126 (congrArg (fun z => some (Value.int z)) (show p_3 3 = 0 from (by rw [hX3]))) d_Model_assemble_15 ?_
  refine lv_if_ne (tgt := 25) X.x X.b d_Model_assemble_18 (by decide) (fun c1 => ?_) (fun c1 => ?_)
  · exact absurd c1 (by decide)
  · skip
    refine lv_aload_n X.x X.b d_Model_assemble_21 rfl (lv_at hl 0 rfl) ?_
    refine m_callP X hS (M_Model_refer_s1 l g hM hw) v_Model_186 hM.1 rfl rfl rfl (Nat.le_of_ble_eq_true rfl) hl.1 d_Model_assemble_22 (by omega) (by decide) ⟨by omega, by omega⟩ (fun locs hS => ?_)
    refine lv_aload_n X.x X.b d_Model_assemble_25 rfl (lv_at hl 0 rfl) ?_
    refine m_get (v := .int 0) X ok_Model hM.1 3 (by decide) k_Model_126 (congrArg (fun z => some (Value.int z)) (show p_3 3 = 0 from (by rw [hX3]))) d_Model_assemble_26 ?_
    refine lv_if_le (tgt := 33) X.x X.b d_Model_assemble_29 (by decide) (fun c2 => ?_) (fun c2 => ?_)
    · skip
      have c2q := Int32.not_lt.mpr c2
      refine lv_aload_n X.x X.b d_Model_assemble_33 rfl (lv_at hl 0 rfl) ?_
      have hR := M_Model_fillPools_L1 l g hM hw
      refine m_callM X hS hR v_Model_189 hM.1 rfl rfl rfl (Nat.le_of_ble_eq_true rfl) hl.1 d_Model_assemble_34 (by omega) (by decide) ⟨by omega, by omega⟩ (fun q z => by have z : mo ≤ q ∧ q < mo + 23 := z; exact ⟨by omega, by omega⟩) (fun H locs hq hfr hS => ?_)
      obtain ⟨s_5, hM, hsf⟩ := hq
      have hw := twoI.s hw (hsf 8 (by decide))
      refine lv_aload_n X.x X.b d_Model_assemble_37 rfl (lv_at hl 0 rfl) ?_
      have hR := M_Model_layOut_L1 l g hM hw
      refine m_callM X hS hR v_Model_192 hM.1 rfl rfl rfl (Nat.le_of_ble_eq_true rfl) hl.1 d_Model_assemble_38 (by omega) (by decide) ⟨by omega, by omega⟩ (fun q z => by have z : mo ≤ q ∧ q < mo + 23 := z; exact ⟨by omega, by omega⟩) (fun H locs hq hfr hS => ?_)
      obtain ⟨p_6, s_7, hM, hp_8, hs_9⟩ := hq
      have hw := twoI.ps hw (hp_8 3 (by decide)) (hp_8 5 (by decide)) (hs_9 8 (by decide))
      refine lv_iconst (v := 0) X.x X.b d_Model_assemble_41 (by decide) ?_
      refine lv_istore_n (lv' := [(1, .int 0), (0, .ref mo)]) X.x X.b d_Model_assemble_42 rfl hl (by decide) rfl (fun ls hl => ?_)
      refine lv_iload_n X.x X.b d_Model_assemble_43 rfl (lv_at hl 0 rfl) ?_
      refine lv_aload_n X.x X.b d_Model_assemble_44 rfl (lv_at hl 1 rfl) ?_
      refine m_get (v := .int 2) X ok_Model hM.1 5 (by decide) k_Model_132 (congrArg (fun z => some (Value.int z)) (show p_6 5 = 2 from (by rw [hp_8 5 (by decide), hX5]))) d_Model_assemble_45 ?_
      refine lv_icmp_ge (tgt := 103) X.x X.b d_Model_assemble_48 (by decide) (fun c3 => ?_) (fun c3 => ?_)
      · exact absurd c3 (by decide)
      · skip
        have c3q := Int32.not_le.mp c3
        refine lv_aload_n X.x X.b d_Model_assemble_51 rfl (lv_at hl 1 rfl) ?_
        refine m_get (v := .int 0) X ok_Model hM.1 3 (by decide) k_Model_126 (congrArg (fun z => some (Value.int z)) (show p_6 3 = 0 from (by rw [hp_8 3 (by decide), hX3]))) d_Model_assemble_52 ?_
        refine lv_if_ne (tgt := 103) X.x X.b d_Model_assemble_55 (by decide) (fun c4 => ?_) (fun c4 => ?_)
        · exact absurd c1 c4
        · skip
          refine lv_aload_n X.x X.b d_Model_assemble_58 rfl (lv_at hl 1 rfl) ?_
          refine m_get (v := .ref (mo + 3)) X ok_Model hM.1 8 (by decide) k_Model_16 rfl d_Model_assemble_59 ?_
          refine lv_iload_n X.x X.b d_Model_assemble_62 rfl (lv_at hl 0 rfl) ?_
          refine m_ild (v := 1) X hM.a8 0 rfl (by omega) (by decide) (show s_7 8 0 = 1 from (by rw [hs_9 8 (by decide), hsf 8 (by decide), hX8])) d_Model_assemble_63 ?_
          refine lv_iconst (v := 5) X.x X.b d_Model_assemble_64 (by decide) ?_
          refine lv_icmp_ne (tgt := 97) X.x X.b d_Model_assemble_65 (by decide) (fun c5 => ?_) (fun c5 => ?_)
          · skip
            refine lv_iinc (v := 1) (lv' := [(1, .int 1), (0, .ref mo)]) X.x X.b d_Model_assemble_97 hl (k := 0) rfl (by decide) (by decide) rfl (fun ls hl => ?_)
            refine lv_goto (tgt := 43) X.x X.b d_Model_assemble_100 (by decide) ?_
            refine lv_iload_n X.x X.b d_Model_assemble_43 rfl (lv_at hl 0 rfl) ?_
            refine lv_aload_n X.x X.b d_Model_assemble_44 rfl (lv_at hl 1 rfl) ?_
            refine m_get (v := .int 2) X ok_Model hM.1 5 (by decide) k_Model_132 (congrArg (fun z => some (Value.int z)) (show p_6 5 = 2 from (by rw [hp_8 5 (by decide), hX5]))) d_Model_assemble_45 ?_
            refine lv_icmp_ge (tgt := 103) X.x X.b d_Model_assemble_48 (by decide) (fun c6 => ?_) (fun c6 => ?_)
            · exact absurd c6 (by decide)
            · skip
              have c6q := Int32.not_le.mp c6
              refine lv_aload_n X.x X.b d_Model_assemble_51 rfl (lv_at hl 1 rfl) ?_
              refine m_get (v := .int 0) X ok_Model hM.1 3 (by decide) k_Model_126 (congrArg (fun z => some (Value.int z)) (show p_6 3 = 0 from (by rw [hp_8 3 (by decide), hX3]))) d_Model_assemble_52 ?_
              refine lv_if_ne (tgt := 103) X.x X.b d_Model_assemble_55 (by decide) (fun c7 => ?_) (fun c7 => ?_)
              · exact absurd c4 c7
              · skip
                refine lv_aload_n X.x X.b d_Model_assemble_58 rfl (lv_at hl 1 rfl) ?_
                refine m_get (v := .ref (mo + 3)) X ok_Model hM.1 8 (by decide) k_Model_16 rfl d_Model_assemble_59 ?_
                refine lv_iload_n X.x X.b d_Model_assemble_62 rfl (lv_at hl 0 rfl) ?_
                refine m_ild (v := 6) X hM.a8 1 rfl (by omega) (by decide) (show s_7 8 1 = 6 from (by rw [hs_9 8 (by decide), hsf 8 (by decide), hX81])) d_Model_assemble_63 ?_
                refine lv_iconst (v := 5) X.x X.b d_Model_assemble_64 (by decide) ?_
                refine lv_icmp_ne (tgt := 97) X.x X.b d_Model_assemble_65 (by decide) (fun c8 => ?_) (fun c8 => ?_)
                · skip
                  refine lv_iinc (v := 2) (lv' := [(1, .int 2), (0, .ref mo)]) X.x X.b d_Model_assemble_97 hl (k := 0) rfl (by decide) (by decide) rfl (fun ls hl => ?_)
                  refine lv_goto (tgt := 43) X.x X.b d_Model_assemble_100 (by decide) ?_
                  refine lv_iload_n X.x X.b d_Model_assemble_43 rfl (lv_at hl 0 rfl) ?_
                  refine lv_aload_n X.x X.b d_Model_assemble_44 rfl (lv_at hl 1 rfl) ?_
                  refine m_get (v := .int 2) X ok_Model hM.1 5 (by decide) k_Model_132 (congrArg (fun z => some (Value.int z)) (show p_6 5 = 2 from (by rw [hp_8 5 (by decide), hX5]))) d_Model_assemble_45 ?_
                  refine lv_icmp_ge (tgt := 103) X.x X.b d_Model_assemble_48 (by decide) (fun c9 => ?_) (fun c9 => ?_)
                  · skip
                    have c9q := Int32.not_lt.mpr c9
                    refine lv_aload_n X.x X.b d_Model_assemble_103 rfl (lv_at hl 1 rfl) ?_
                    refine m_get (v := .int 0) X ok_Model hM.1 3 (by decide) k_Model_126 (congrArg (fun z => some (Value.int z)) (show p_6 3 = 0 from (by rw [hp_8 3 (by decide), hX3]))) d_Model_assemble_104 ?_
                    refine lv_if_ne (tgt := 114) X.x X.b d_Model_assemble_107 (by decide) (fun c10 => ?_) (fun c10 => ?_)
                    · exact absurd c7 c10
                    · skip
                      refine lv_aload_n X.x X.b d_Model_assemble_110 rfl (lv_at hl 1 rfl) ?_
                      have hR := M_Model_follow_L1 l g hM hw
                      refine m_callV X hS hR v_Model_198 hM.1 rfl rfl rfl (Nat.le_of_ble_eq_true rfl) hl.1 d_Model_assemble_111 (by omega) (by decide) ⟨by omega, by omega⟩ (fun q z => z.elim (fun z => by have z : mo ≤ q ∧ q < mo + 23 := z; exact Or.inl ⟨by omega, by omega⟩) (fun z => Or.inr (Nat.le_trans hS.1 z))) (fun H locs hq hfr hS => ?_)
                      obtain ⟨s_10, hM, hso⟩ := hq
                      exact m_vret X hS (by omega) (by omega) d_Model_assemble_114 rfl ⟨_, _, hM, (by rw [hp_8 0 (by decide), hX0, ep_2, upd_mi _ _ _ (show 0 ≠ 4 by decide), ep_1, upd_mi _ _ _ (show 0 ≠ 3 by decide)]), by rw [hso 2 (by decide), hs_9 2 (by decide), hsf 2 (by decide), hX2]⟩
                  · exact absurd c9 (by decide)
                · exact absurd c8 (by decide)
          · exact absurd c5 (by decide)
    · exact absurd c2 (by decide)
set_option maxRecDepth 100000 in
set_option maxHeartbeats 4000000 in
theorem M_Model_assemble_L1f (l : Launch) (g : GG) {mo tq : Nat} {p0 : Nat → Int32} {s0 : Nat → Nat → Int32} {H0 : Heap} (hM : mAt g mo tq p0 s0 H0) {v_ r : Int32} {j i2 : Nat} (hj : j < 8) (hi2 : i2 < 8) (hL : oneL 1 (nI j) (nI i2) v_ r s0) : MM l y_Model_assemble c_Model_assemble 2 none 6 4 262 g H0 [.ref mo] (fun q => mo ≤ q ∧ q < mo + 23) (none) (fun H1 => ∃ p s, mAt g mo tq p s H1 ∧ p 0 = p0 0 ∧ s 2 = s0 2) := by
  refine MM.of (by decide +kernel) (Nat.le_of_ble_eq_true rfl) ?_
  intro p e s m below meth cd X hH ls hl
  have X : CX g p s m _ meth cd c_Model_assemble 2 none R_Model _ := X
  have hl : lv_has ls 2 [(0, .ref mo)] := hl
  have hS : va_S (AA (fun q => mo ≤ q ∧ q < mo + 23) H0) H0 H0 [] := va_S.rf
  have hlt0 := hM.lt
  have htq0 := hM.tq
  refine lv_aload_n X.x X.b d_Model_assemble_0 rfl (lv_at hl 0 rfl) ?_
  refine lv_iconst (v := 0) X.x X.b d_Model_assemble_1 (by decide) ?_
  refine m_put X ok_Model hS (Or.inl ⟨by omega, by omega⟩) hM.1 3 (by decide) k_Model_126 rfl (ok_Model.2.2.1 _ (by decide)) rfl rfl (Nat.le_of_ble_eq_true rfl) d_Model_assemble_2 (fun H locs hp hcg hS => ?_)
  have hM := hM.f3 hp hcg
  obtain ⟨p_1, ep_1⟩ : ∃ z, z = upd p0 3 0 := ⟨_, rfl⟩
  rw [← ep_1] at hM
  refine lv_aload_n X.x X.b d_Model_assemble_5 rfl (lv_at hl 0 rfl) ?_
  refine lv_iconst (v := -1) X.x X.b d_Model_assemble_6 (by decide) ?_
  refine m_put X ok_Model hS (Or.inl ⟨by omega, by omega⟩) hM.1 4 (by decide) k_Model_129 rfl (ok_Model.2.2.1 _ (by decide)) rfl rfl (Nat.le_of_ble_eq_true rfl) d_Model_assemble_7 (fun H locs hp hcg hS => ?_)
  have hM := hM.f4 hp hcg
  obtain ⟨p_2, ep_2⟩ : ∃ z, z = upd p_1 4 (-1) := ⟨_, rfl⟩
  rw [← ep_2] at hM
  refine lv_aload_n X.x X.b d_Model_assemble_10 rfl (lv_at hl 0 rfl) ?_
  have hR := M_Model_expand_L1f l g hM hj hi2 (show oneL 1 (nI j) (nI i2) v_ r _ from hL) (by rw [ep_2, upd_mi _ _ _ (show 3 ≠ 4 by decide), ep_1, upd_hit])
  refine m_callV X hS hR v_Model_183 hM.1 rfl rfl rfl (Nat.le_of_ble_eq_true rfl) hl.1 d_Model_assemble_11 (by omega) (by decide) ⟨by omega, by omega⟩ (fun q z => z.elim (fun z => by have z : mo ≤ q ∧ q < mo + 23 := z; exact Or.inl ⟨by omega, by omega⟩) (fun z => Or.inr (Nat.le_trans hS.1 z))) (fun H locs hq hfr hS => ?_)
  obtain ⟨p_3, s_4, hM, hX0, hX2, hX3⟩ := hq
  refine lv_aload_n X.x X.b d_Model_assemble_14 rfl (lv_at hl 0 rfl) ?_
  refine m_get (v := .int 3) X ok_Model hM.1 3 (by decide) k_Model_126 (congrArg (fun z => some (Value.int z)) (show p_3 3 = 3 from (by rw [hX3]))) d_Model_assemble_15 ?_
  refine lv_if_ne (tgt := 25) X.x X.b d_Model_assemble_18 (by decide) (fun c1 => ?_) (fun c1 => ?_)
  · skip
    refine lv_aload_n X.x X.b d_Model_assemble_25 rfl (lv_at hl 0 rfl) ?_
    refine m_get (v := .int 3) X ok_Model hM.1 3 (by decide) k_Model_126 (congrArg (fun z => some (Value.int z)) (show p_3 3 = 3 from (by rw [hX3]))) d_Model_assemble_26 ?_
    refine lv_if_le (tgt := 33) X.x X.b d_Model_assemble_29 (by decide) (fun c2 => ?_) (fun c2 => ?_)
    · exact absurd c2 (by decide)
    · skip
      have c2q := Int32.not_le.mp c2
      exact m_vret X hS (by omega) (by omega) d_Model_assemble_32 rfl ⟨_, _, hM, (by rw [hX0, ep_2, upd_mi _ _ _ (show 0 ≠ 4 by decide), ep_1, upd_mi _ _ _ (show 0 ≠ 3 by decide)]), by rw [hX2]⟩
  · exact absurd c1 (by decide)
set_option maxRecDepth 100000 in
set_option maxHeartbeats 4000000 in
theorem M_Model_assemble_L2o (l : Launch) (g : GG) {mo tq : Nat} {p0 : Nat → Int32} {s0 : Nat → Nat → Int32} {H0 : Heap} (hM : mAt g mo tq p0 s0 H0) {v_ r : Int32} (hL : oneL 2 (-1) (-1) v_ r s0) : MM l y_Model_assemble c_Model_assemble 2 none 6 4 262 g H0 [.ref mo] (fun q => mo ≤ q ∧ q < mo + 23) (none) (fun H1 => ∃ p s, mAt g mo tq p s H1 ∧ p 0 = p0 0 ∧ s 2 = s0 2) := by
  refine MM.of (by decide +kernel) (Nat.le_of_ble_eq_true rfl) ?_
  intro p e s m below meth cd X hH ls hl
  have X : CX g p s m _ meth cd c_Model_assemble 2 none R_Model _ := X
  have hl : lv_has ls 2 [(0, .ref mo)] := hl
  have hS : va_S (AA (fun q => mo ≤ q ∧ q < mo + 23) H0) H0 H0 [] := va_S.rf
  have hlt0 := hM.lt
  have htq0 := hM.tq
  refine lv_aload_n X.x X.b d_Model_assemble_0 rfl (lv_at hl 0 rfl) ?_
  refine lv_iconst (v := 0) X.x X.b d_Model_assemble_1 (by decide) ?_
  refine m_put X ok_Model hS (Or.inl ⟨by omega, by omega⟩) hM.1 3 (by decide) k_Model_126 rfl (ok_Model.2.2.1 _ (by decide)) rfl rfl (Nat.le_of_ble_eq_true rfl) d_Model_assemble_2 (fun H locs hp hcg hS => ?_)
  have hM := hM.f3 hp hcg
  obtain ⟨p_1, ep_1⟩ : ∃ z, z = upd p0 3 0 := ⟨_, rfl⟩
  rw [← ep_1] at hM
  refine lv_aload_n X.x X.b d_Model_assemble_5 rfl (lv_at hl 0 rfl) ?_
  refine lv_iconst (v := -1) X.x X.b d_Model_assemble_6 (by decide) ?_
  refine m_put X ok_Model hS (Or.inl ⟨by omega, by omega⟩) hM.1 4 (by decide) k_Model_129 rfl (ok_Model.2.2.1 _ (by decide)) rfl rfl (Nat.le_of_ble_eq_true rfl) d_Model_assemble_7 (fun H locs hp hcg hS => ?_)
  have hM := hM.f4 hp hcg
  obtain ⟨p_2, ep_2⟩ : ∃ z, z = upd p_1 4 (-1) := ⟨_, rfl⟩
  rw [← ep_2] at hM
  refine lv_aload_n X.x X.b d_Model_assemble_10 rfl (lv_at hl 0 rfl) ?_
  have hR := M_Model_expand_L2 l g hM  (show oneL 2 (-1) (-1) v_ r _ from hL) (by rw [ep_2, upd_mi _ _ _ (show 3 ≠ 4 by decide), ep_1, upd_hit])
  refine m_callV X hS hR v_Model_183 hM.1 rfl rfl rfl (Nat.le_of_ble_eq_true rfl) hl.1 d_Model_assemble_11 (by omega) (by decide) ⟨by omega, by omega⟩ (fun q z => z.elim (fun z => by have z : mo ≤ q ∧ q < mo + 23 := z; exact Or.inl ⟨by omega, by omega⟩) (fun z => Or.inr (Nat.le_trans hS.1 z))) (fun H locs hq hfr hS => ?_)
  obtain ⟨p_3, s_4, hM, hX0, hX2, ⟨hX3, hX5⟩, hX8, hX9, hX10, hX81, hX11, hX27⟩ := hq
  have hx : dxP 1 p_3 s_4 := ⟨⟨hX3, hX5⟩, fun k hk => by rw [show k = 0 by omega]; exact ⟨hX8, hX9, hX10⟩, hX81⟩
  refine lv_aload_n X.x X.b d_Model_assemble_14 rfl (lv_at hl 0 rfl) ?_
  refine m_get (v := .int 0) X ok_Model hM.1 3 (by decide) k_Model_126 (congrArg (fun z => some (Value.int z)) (show p_3 3 = 0 from (by rw [hX3]))) d_Model_assemble_15 ?_
  refine lv_if_ne (tgt := 25) X.x X.b d_Model_assemble_18 (by decide) (fun c1 => ?_) (fun c1 => ?_)
  · exact absurd c1 (by decide)
  · skip
    refine lv_aload_n X.x X.b d_Model_assemble_21 rfl (lv_at hl 0 rfl) ?_
    have hR := M_Model_refer_D (c := 1) l g hM (by omega) hx
    refine m_callM X hS hR v_Model_186 hM.1 rfl rfl rfl (Nat.le_of_ble_eq_true rfl) hl.1 d_Model_assemble_22 (by omega) (by decide) ⟨by omega, by omega⟩ (fun q z => by have z : mo ≤ q ∧ q < mo + 23 := z; exact ⟨by omega, by omega⟩) (fun H locs hq hfr hS => ?_)
    obtain ⟨s_5, hM, hsr⟩ := hq
    have hx := dxP.s hx (hsr 8 (by decide)) (hsr 9 (by decide)) (hsr 10 (by decide))
    refine lv_aload_n X.x X.b d_Model_assemble_25 rfl (lv_at hl 0 rfl) ?_
    refine m_get (v := .int 0) X ok_Model hM.1 3 (by decide) k_Model_126 (congrArg (fun z => some (Value.int z)) (show p_3 3 = 0 from (by rw [hX3]))) d_Model_assemble_26 ?_
    refine lv_if_le (tgt := 33) X.x X.b d_Model_assemble_29 (by decide) (fun c2 => ?_) (fun c2 => ?_)
    · skip
      have c2q := Int32.not_lt.mpr c2
      refine lv_aload_n X.x X.b d_Model_assemble_33 rfl (lv_at hl 0 rfl) ?_
      have hR := M_Model_fillPools_D (c := 1) l g hM (by omega) hx
      refine m_callM X hS hR v_Model_189 hM.1 rfl rfl rfl (Nat.le_of_ble_eq_true rfl) hl.1 d_Model_assemble_34 (by omega) (by decide) ⟨by omega, by omega⟩ (fun q z => by have z : mo ≤ q ∧ q < mo + 23 := z; exact ⟨by omega, by omega⟩) (fun H locs hq hfr hS => ?_)
      obtain ⟨s_6, hM, hsf, hP15⟩ := hq
      have hx := dxP.s hx (hsf 8 (by decide)) (hsf 9 (by decide)) (hsf 10 (by decide))
      refine lv_aload_n X.x X.b d_Model_assemble_37 rfl (lv_at hl 0 rfl) ?_
      have hR := M_Model_layOut_D (c := 1) l g hM (by omega) hx
      refine m_callM X hS hR v_Model_192 hM.1 rfl rfl rfl (Nat.le_of_ble_eq_true rfl) hl.1 d_Model_assemble_38 (by omega) (by decide) ⟨by omega, by omega⟩ (fun q z => by have z : mo ≤ q ∧ q < mo + 23 := z; exact ⟨by omega, by omega⟩) (fun H locs hq hfr hS => ?_)
      obtain ⟨p_7, s_8, hM, hp_9, hs_10, hF23⟩ := hq
      have hx := dxP.ps hx (hp_9 3 (by decide)) (hp_9 5 (by decide)) (hs_10 8 (by decide)) (hs_10 9 (by decide)) (hs_10 10 (by decide))
      refine lv_iconst (v := 0) X.x X.b d_Model_assemble_41 (by decide) ?_
      refine lv_istore_n (lv' := [(1, .int 0), (0, .ref mo)]) X.x X.b d_Model_assemble_42 rfl hl (by decide) rfl (fun ls hl => ?_)
      refine lv_iload_n X.x X.b d_Model_assemble_43 rfl (lv_at hl 0 rfl) ?_
      refine lv_aload_n X.x X.b d_Model_assemble_44 rfl (lv_at hl 1 rfl) ?_
      refine m_get (v := .int 2) X ok_Model hM.1 5 (by decide) k_Model_132 (congrArg (fun z => some (Value.int z)) (show p_7 5 = 2 from (by rw [hp_9 5 (by decide), hX5]))) d_Model_assemble_45 ?_
      refine lv_icmp_ge (tgt := 103) X.x X.b d_Model_assemble_48 (by decide) (fun c3 => ?_) (fun c3 => ?_)
      · exact absurd c3 (by decide)
      · skip
        have c3q := Int32.not_le.mp c3
        refine lv_aload_n X.x X.b d_Model_assemble_51 rfl (lv_at hl 1 rfl) ?_
        refine m_get (v := .int 0) X ok_Model hM.1 3 (by decide) k_Model_126 (congrArg (fun z => some (Value.int z)) (show p_7 3 = 0 from (by rw [hp_9 3 (by decide), hX3]))) d_Model_assemble_52 ?_
        refine lv_if_ne (tgt := 103) X.x X.b d_Model_assemble_55 (by decide) (fun c4 => ?_) (fun c4 => ?_)
        · exact absurd c1 c4
        · skip
          refine lv_aload_n X.x X.b d_Model_assemble_58 rfl (lv_at hl 1 rfl) ?_
          refine m_get (v := .ref (mo + 3)) X ok_Model hM.1 8 (by decide) k_Model_16 rfl d_Model_assemble_59 ?_
          refine lv_iload_n X.x X.b d_Model_assemble_62 rfl (lv_at hl 0 rfl) ?_
          refine m_ild (v := 2) X hM.a8 0 rfl (by omega) (by decide) (show s_8 8 0 = 2 from (by rw [hs_10 8 (by decide), hsf 8 (by decide), hsr 8 (by decide), hX8])) d_Model_assemble_63 ?_
          refine lv_iconst (v := 5) X.x X.b d_Model_assemble_64 (by decide) ?_
          refine lv_icmp_ne (tgt := 97) X.x X.b d_Model_assemble_65 (by decide) (fun c5 => ?_) (fun c5 => ?_)
          · skip
            refine lv_iinc (v := 1) (lv' := [(1, .int 1), (0, .ref mo)]) X.x X.b d_Model_assemble_97 hl (k := 0) rfl (by decide) (by decide) rfl (fun ls hl => ?_)
            refine lv_goto (tgt := 43) X.x X.b d_Model_assemble_100 (by decide) ?_
            refine lv_iload_n X.x X.b d_Model_assemble_43 rfl (lv_at hl 0 rfl) ?_
            refine lv_aload_n X.x X.b d_Model_assemble_44 rfl (lv_at hl 1 rfl) ?_
            refine m_get (v := .int 2) X ok_Model hM.1 5 (by decide) k_Model_132 (congrArg (fun z => some (Value.int z)) (show p_7 5 = 2 from (by rw [hp_9 5 (by decide), hX5]))) d_Model_assemble_45 ?_
            refine lv_icmp_ge (tgt := 103) X.x X.b d_Model_assemble_48 (by decide) (fun c6 => ?_) (fun c6 => ?_)
            · exact absurd c6 (by decide)
            · skip
              have c6q := Int32.not_le.mp c6
              refine lv_aload_n X.x X.b d_Model_assemble_51 rfl (lv_at hl 1 rfl) ?_
              refine m_get (v := .int 0) X ok_Model hM.1 3 (by decide) k_Model_126 (congrArg (fun z => some (Value.int z)) (show p_7 3 = 0 from (by rw [hp_9 3 (by decide), hX3]))) d_Model_assemble_52 ?_
              refine lv_if_ne (tgt := 103) X.x X.b d_Model_assemble_55 (by decide) (fun c7 => ?_) (fun c7 => ?_)
              · exact absurd c4 c7
              · skip
                refine lv_aload_n X.x X.b d_Model_assemble_58 rfl (lv_at hl 1 rfl) ?_
                refine m_get (v := .ref (mo + 3)) X ok_Model hM.1 8 (by decide) k_Model_16 rfl d_Model_assemble_59 ?_
                refine lv_iload_n X.x X.b d_Model_assemble_62 rfl (lv_at hl 0 rfl) ?_
                refine m_ild (v := 6) X hM.a8 1 rfl (by omega) (by decide) (show s_8 8 1 = 6 from (by rw [hs_10 8 (by decide), hsf 8 (by decide), hsr 8 (by decide), hX81])) d_Model_assemble_63 ?_
                refine lv_iconst (v := 5) X.x X.b d_Model_assemble_64 (by decide) ?_
                refine lv_icmp_ne (tgt := 97) X.x X.b d_Model_assemble_65 (by decide) (fun c8 => ?_) (fun c8 => ?_)
                · skip
                  refine lv_iinc (v := 2) (lv' := [(1, .int 2), (0, .ref mo)]) X.x X.b d_Model_assemble_97 hl (k := 0) rfl (by decide) (by decide) rfl (fun ls hl => ?_)
                  refine lv_goto (tgt := 43) X.x X.b d_Model_assemble_100 (by decide) ?_
                  refine lv_iload_n X.x X.b d_Model_assemble_43 rfl (lv_at hl 0 rfl) ?_
                  refine lv_aload_n X.x X.b d_Model_assemble_44 rfl (lv_at hl 1 rfl) ?_
                  refine m_get (v := .int 2) X ok_Model hM.1 5 (by decide) k_Model_132 (congrArg (fun z => some (Value.int z)) (show p_7 5 = 2 from (by rw [hp_9 5 (by decide), hX5]))) d_Model_assemble_45 ?_
                  refine lv_icmp_ge (tgt := 103) X.x X.b d_Model_assemble_48 (by decide) (fun c9 => ?_) (fun c9 => ?_)
                  · skip
                    have c9q := Int32.not_lt.mpr c9
                    refine lv_aload_n X.x X.b d_Model_assemble_103 rfl (lv_at hl 1 rfl) ?_
                    refine m_get (v := .int 0) X ok_Model hM.1 3 (by decide) k_Model_126 (congrArg (fun z => some (Value.int z)) (show p_7 3 = 0 from (by rw [hp_9 3 (by decide), hX3]))) d_Model_assemble_104 ?_
                    refine lv_if_ne (tgt := 114) X.x X.b d_Model_assemble_107 (by decide) (fun c10 => ?_) (fun c10 => ?_)
                    · exact absurd c7 c10
                    · skip
                      refine lv_aload_n X.x X.b d_Model_assemble_110 rfl (lv_at hl 1 rfl) ?_
                      have hR := M_Model_follow_D (c := 1) l g hM (by omega) hx (by omega)
                      refine m_callV X hS hR v_Model_198 hM.1 rfl rfl rfl (Nat.le_of_ble_eq_true rfl) hl.1 d_Model_assemble_111 (by omega) (by decide) ⟨by omega, by omega⟩ (fun q z => z.elim (fun z => by have z : mo ≤ q ∧ q < mo + 23 := z; exact Or.inl ⟨by omega, by omega⟩) (fun z => Or.inr (Nat.le_trans hS.1 z))) (fun H locs hq hfr hS => ?_)
                      obtain ⟨s_11, hM, hso⟩ := hq
                      exact m_vret X hS (by omega) (by omega) d_Model_assemble_114 rfl ⟨_, _, hM, (by rw [hp_9 0 (by decide), hX0, ep_2, upd_mi _ _ _ (show 0 ≠ 4 by decide), ep_1, upd_mi _ _ _ (show 0 ≠ 3 by decide)]), by rw [hso 2 (by decide), hs_10 2 (by decide), hsf 2 (by decide), hsr 2 (by decide), hX2]⟩
                  · exact absurd c9 (by decide)
                · exact absurd c8 (by decide)
          · exact absurd c5 (by decide)
    · exact absurd c2 (by decide)
set_option maxRecDepth 100000 in
set_option maxHeartbeats 4000000 in
theorem M_Model_assemble_L3o (l : Launch) (g : GG) {mo tq : Nat} {p0 : Nat → Int32} {s0 : Nat → Nat → Int32} {H0 : Heap} (hM : mAt g mo tq p0 s0 H0) {v_ r : Int32} (hL : oneL 3 (-1) (-1) v_ r s0) : MM l y_Model_assemble c_Model_assemble 2 none 6 4 262 g H0 [.ref mo] (fun q => mo ≤ q ∧ q < mo + 23) (none) (fun H1 => ∃ p s, mAt g mo tq p s H1 ∧ p 0 = p0 0 ∧ s 2 = s0 2) := by
  refine MM.of (by decide +kernel) (Nat.le_of_ble_eq_true rfl) ?_
  intro p e s m below meth cd X hH ls hl
  have X : CX g p s m _ meth cd c_Model_assemble 2 none R_Model _ := X
  have hl : lv_has ls 2 [(0, .ref mo)] := hl
  have hS : va_S (AA (fun q => mo ≤ q ∧ q < mo + 23) H0) H0 H0 [] := va_S.rf
  have hlt0 := hM.lt
  have htq0 := hM.tq
  refine lv_aload_n X.x X.b d_Model_assemble_0 rfl (lv_at hl 0 rfl) ?_
  refine lv_iconst (v := 0) X.x X.b d_Model_assemble_1 (by decide) ?_
  refine m_put X ok_Model hS (Or.inl ⟨by omega, by omega⟩) hM.1 3 (by decide) k_Model_126 rfl (ok_Model.2.2.1 _ (by decide)) rfl rfl (Nat.le_of_ble_eq_true rfl) d_Model_assemble_2 (fun H locs hp hcg hS => ?_)
  have hM := hM.f3 hp hcg
  obtain ⟨p_1, ep_1⟩ : ∃ z, z = upd p0 3 0 := ⟨_, rfl⟩
  rw [← ep_1] at hM
  refine lv_aload_n X.x X.b d_Model_assemble_5 rfl (lv_at hl 0 rfl) ?_
  refine lv_iconst (v := -1) X.x X.b d_Model_assemble_6 (by decide) ?_
  refine m_put X ok_Model hS (Or.inl ⟨by omega, by omega⟩) hM.1 4 (by decide) k_Model_129 rfl (ok_Model.2.2.1 _ (by decide)) rfl rfl (Nat.le_of_ble_eq_true rfl) d_Model_assemble_7 (fun H locs hp hcg hS => ?_)
  have hM := hM.f4 hp hcg
  obtain ⟨p_2, ep_2⟩ : ∃ z, z = upd p_1 4 (-1) := ⟨_, rfl⟩
  rw [← ep_2] at hM
  refine lv_aload_n X.x X.b d_Model_assemble_10 rfl (lv_at hl 0 rfl) ?_
  have hR := M_Model_expand_L3 l g hM  (show oneL 3 (-1) (-1) v_ r _ from hL) (by rw [ep_2, upd_mi _ _ _ (show 3 ≠ 4 by decide), ep_1, upd_hit])
  refine m_callV X hS hR v_Model_183 hM.1 rfl rfl rfl (Nat.le_of_ble_eq_true rfl) hl.1 d_Model_assemble_11 (by omega) (by decide) ⟨by omega, by omega⟩ (fun q z => z.elim (fun z => by have z : mo ≤ q ∧ q < mo + 23 := z; exact Or.inl ⟨by omega, by omega⟩) (fun z => Or.inr (Nat.le_trans hS.1 z))) (fun H locs hq hfr hS => ?_)
  obtain ⟨p_3, s_4, hM, hX0, hX2, ⟨hX3, hX5⟩, hX8, hX9, hX10, hX81, hX11, hX27⟩ := hq
  have hw : twoI 3 p_3 s_4 := ⟨⟨hX3, hX5⟩, hX8, hX81⟩
  refine lv_aload_n X.x X.b d_Model_assemble_14 rfl (lv_at hl 0 rfl) ?_
  refine m_get (v := .int 0) X ok_Model hM.1 3 (by decide) k_Model_126 (congrArg (fun z => some (Value.int z)) (show p_3 3 = 0 from (by rw [hX3]))) d_Model_assemble_15 ?_
  refine lv_if_ne (tgt := 25) X.x X.b d_Model_assemble_18 (by decide) (fun c1 => ?_) (fun c1 => ?_)
  · exact absurd c1 (by decide)
  · skip
    refine lv_aload_n X.x X.b d_Model_assemble_21 rfl (lv_at hl 0 rfl) ?_
    have hR := M_Model_refer_o3 l g hM hw hX9 hX10
    refine m_callM X hS hR v_Model_186 hM.1 rfl rfl rfl (Nat.le_of_ble_eq_true rfl) hl.1 d_Model_assemble_22 (by omega) (by decide) ⟨by omega, by omega⟩ (fun q z => by have z : mo ≤ q ∧ q < mo + 23 := z; exact ⟨by omega, by omega⟩) (fun H locs hq hfr hS => ?_)
    obtain ⟨s_5, hM, hsr, hR16, hR17⟩ := hq
    have hw := twoI.s hw (hsr 8 (by decide))
    refine lv_aload_n X.x X.b d_Model_assemble_25 rfl (lv_at hl 0 rfl) ?_
    refine m_get (v := .int 0) X ok_Model hM.1 3 (by decide) k_Model_126 (congrArg (fun z => some (Value.int z)) (show p_3 3 = 0 from (by rw [hX3]))) d_Model_assemble_26 ?_
    refine lv_if_le (tgt := 33) X.x X.b d_Model_assemble_29 (by decide) (fun c2 => ?_) (fun c2 => ?_)
    · skip
      have c2q := Int32.not_lt.mpr c2
      refine lv_aload_n X.x X.b d_Model_assemble_33 rfl (lv_at hl 0 rfl) ?_
      have hR := M_Model_fillPools_L3 l g hM hw
      refine m_callM X hS hR v_Model_189 hM.1 rfl rfl rfl (Nat.le_of_ble_eq_true rfl) hl.1 d_Model_assemble_34 (by omega) (by decide) ⟨by omega, by omega⟩ (fun q z => by have z : mo ≤ q ∧ q < mo + 23 := z; exact ⟨by omega, by omega⟩) (fun H locs hq hfr hS => ?_)
      obtain ⟨s_6, hM, hsf⟩ := hq
      have hw := twoI.s hw (hsf 8 (by decide))
      refine lv_aload_n X.x X.b d_Model_assemble_37 rfl (lv_at hl 0 rfl) ?_
      have hR := M_Model_layOut_L3 l g hM hw (show s_6 16 0 = -1 from (by rw [hsf 16 (by decide), hR16])) (show s_6 17 0 = -1 from (by rw [hsf 17 (by decide), hR17]))
      refine m_callM X hS hR v_Model_192 hM.1 rfl rfl rfl (Nat.le_of_ble_eq_true rfl) hl.1 d_Model_assemble_38 (by omega) (by decide) ⟨by omega, by omega⟩ (fun q z => by have z : mo ≤ q ∧ q < mo + 23 := z; exact ⟨by omega, by omega⟩) (fun H locs hq hfr hS => ?_)
      obtain ⟨p_7, s_8, hM, hp_9, hs_10⟩ := hq
      have hw := twoI.ps hw (hp_9 3 (by decide)) (hp_9 5 (by decide)) (hs_10 8 (by decide))
      refine lv_iconst (v := 0) X.x X.b d_Model_assemble_41 (by decide) ?_
      refine lv_istore_n (lv' := [(1, .int 0), (0, .ref mo)]) X.x X.b d_Model_assemble_42 rfl hl (by decide) rfl (fun ls hl => ?_)
      refine lv_iload_n X.x X.b d_Model_assemble_43 rfl (lv_at hl 0 rfl) ?_
      refine lv_aload_n X.x X.b d_Model_assemble_44 rfl (lv_at hl 1 rfl) ?_
      refine m_get (v := .int 2) X ok_Model hM.1 5 (by decide) k_Model_132 (congrArg (fun z => some (Value.int z)) (show p_7 5 = 2 from (by rw [hp_9 5 (by decide), hX5]))) d_Model_assemble_45 ?_
      refine lv_icmp_ge (tgt := 103) X.x X.b d_Model_assemble_48 (by decide) (fun c3 => ?_) (fun c3 => ?_)
      · exact absurd c3 (by decide)
      · skip
        have c3q := Int32.not_le.mp c3
        refine lv_aload_n X.x X.b d_Model_assemble_51 rfl (lv_at hl 1 rfl) ?_
        refine m_get (v := .int 0) X ok_Model hM.1 3 (by decide) k_Model_126 (congrArg (fun z => some (Value.int z)) (show p_7 3 = 0 from (by rw [hp_9 3 (by decide), hX3]))) d_Model_assemble_52 ?_
        refine lv_if_ne (tgt := 103) X.x X.b d_Model_assemble_55 (by decide) (fun c4 => ?_) (fun c4 => ?_)
        · exact absurd c1 c4
        · skip
          refine lv_aload_n X.x X.b d_Model_assemble_58 rfl (lv_at hl 1 rfl) ?_
          refine m_get (v := .ref (mo + 3)) X ok_Model hM.1 8 (by decide) k_Model_16 rfl d_Model_assemble_59 ?_
          refine lv_iload_n X.x X.b d_Model_assemble_62 rfl (lv_at hl 0 rfl) ?_
          refine m_ild (v := 3) X hM.a8 0 rfl (by omega) (by decide) (show s_8 8 0 = 3 from (by rw [hs_10 8 (by decide), hsf 8 (by decide), hsr 8 (by decide), hX8])) d_Model_assemble_63 ?_
          refine lv_iconst (v := 5) X.x X.b d_Model_assemble_64 (by decide) ?_
          refine lv_icmp_ne (tgt := 97) X.x X.b d_Model_assemble_65 (by decide) (fun c5 => ?_) (fun c5 => ?_)
          · skip
            refine lv_iinc (v := 1) (lv' := [(1, .int 1), (0, .ref mo)]) X.x X.b d_Model_assemble_97 hl (k := 0) rfl (by decide) (by decide) rfl (fun ls hl => ?_)
            refine lv_goto (tgt := 43) X.x X.b d_Model_assemble_100 (by decide) ?_
            refine lv_iload_n X.x X.b d_Model_assemble_43 rfl (lv_at hl 0 rfl) ?_
            refine lv_aload_n X.x X.b d_Model_assemble_44 rfl (lv_at hl 1 rfl) ?_
            refine m_get (v := .int 2) X ok_Model hM.1 5 (by decide) k_Model_132 (congrArg (fun z => some (Value.int z)) (show p_7 5 = 2 from (by rw [hp_9 5 (by decide), hX5]))) d_Model_assemble_45 ?_
            refine lv_icmp_ge (tgt := 103) X.x X.b d_Model_assemble_48 (by decide) (fun c6 => ?_) (fun c6 => ?_)
            · exact absurd c6 (by decide)
            · skip
              have c6q := Int32.not_le.mp c6
              refine lv_aload_n X.x X.b d_Model_assemble_51 rfl (lv_at hl 1 rfl) ?_
              refine m_get (v := .int 0) X ok_Model hM.1 3 (by decide) k_Model_126 (congrArg (fun z => some (Value.int z)) (show p_7 3 = 0 from (by rw [hp_9 3 (by decide), hX3]))) d_Model_assemble_52 ?_
              refine lv_if_ne (tgt := 103) X.x X.b d_Model_assemble_55 (by decide) (fun c7 => ?_) (fun c7 => ?_)
              · exact absurd c4 c7
              · skip
                refine lv_aload_n X.x X.b d_Model_assemble_58 rfl (lv_at hl 1 rfl) ?_
                refine m_get (v := .ref (mo + 3)) X ok_Model hM.1 8 (by decide) k_Model_16 rfl d_Model_assemble_59 ?_
                refine lv_iload_n X.x X.b d_Model_assemble_62 rfl (lv_at hl 0 rfl) ?_
                refine m_ild (v := 6) X hM.a8 1 rfl (by omega) (by decide) (show s_8 8 1 = 6 from (by rw [hs_10 8 (by decide), hsf 8 (by decide), hsr 8 (by decide), hX81])) d_Model_assemble_63 ?_
                refine lv_iconst (v := 5) X.x X.b d_Model_assemble_64 (by decide) ?_
                refine lv_icmp_ne (tgt := 97) X.x X.b d_Model_assemble_65 (by decide) (fun c8 => ?_) (fun c8 => ?_)
                · skip
                  refine lv_iinc (v := 2) (lv' := [(1, .int 2), (0, .ref mo)]) X.x X.b d_Model_assemble_97 hl (k := 0) rfl (by decide) (by decide) rfl (fun ls hl => ?_)
                  refine lv_goto (tgt := 43) X.x X.b d_Model_assemble_100 (by decide) ?_
                  refine lv_iload_n X.x X.b d_Model_assemble_43 rfl (lv_at hl 0 rfl) ?_
                  refine lv_aload_n X.x X.b d_Model_assemble_44 rfl (lv_at hl 1 rfl) ?_
                  refine m_get (v := .int 2) X ok_Model hM.1 5 (by decide) k_Model_132 (congrArg (fun z => some (Value.int z)) (show p_7 5 = 2 from (by rw [hp_9 5 (by decide), hX5]))) d_Model_assemble_45 ?_
                  refine lv_icmp_ge (tgt := 103) X.x X.b d_Model_assemble_48 (by decide) (fun c9 => ?_) (fun c9 => ?_)
                  · skip
                    have c9q := Int32.not_lt.mpr c9
                    refine lv_aload_n X.x X.b d_Model_assemble_103 rfl (lv_at hl 1 rfl) ?_
                    refine m_get (v := .int 0) X ok_Model hM.1 3 (by decide) k_Model_126 (congrArg (fun z => some (Value.int z)) (show p_7 3 = 0 from (by rw [hp_9 3 (by decide), hX3]))) d_Model_assemble_104 ?_
                    refine lv_if_ne (tgt := 114) X.x X.b d_Model_assemble_107 (by decide) (fun c10 => ?_) (fun c10 => ?_)
                    · exact absurd c7 c10
                    · skip
                      refine lv_aload_n X.x X.b d_Model_assemble_110 rfl (lv_at hl 1 rfl) ?_
                      have hR := M_Model_follow_L3 l g hM hw (show s_8 16 0 = -1 from (by rw [hs_10 16 (by decide), hsf 16 (by decide), hR16])) (show s_8 17 0 = -1 from (by rw [hs_10 17 (by decide), hsf 17 (by decide), hR17]))
                      refine m_callV X hS hR v_Model_198 hM.1 rfl rfl rfl (Nat.le_of_ble_eq_true rfl) hl.1 d_Model_assemble_111 (by omega) (by decide) ⟨by omega, by omega⟩ (fun q z => z.elim (fun z => by have z : mo ≤ q ∧ q < mo + 23 := z; exact Or.inl ⟨by omega, by omega⟩) (fun z => Or.inr (Nat.le_trans hS.1 z))) (fun H locs hq hfr hS => ?_)
                      obtain ⟨s_11, hM, hso⟩ := hq
                      exact m_vret X hS (by omega) (by omega) d_Model_assemble_114 rfl ⟨_, _, hM, (by rw [hp_9 0 (by decide), hX0, ep_2, upd_mi _ _ _ (show 0 ≠ 4 by decide), ep_1, upd_mi _ _ _ (show 0 ≠ 3 by decide)]), by rw [hso 2 (by decide), hs_10 2 (by decide), hsf 2 (by decide), hsr 2 (by decide), hX2]⟩
                  · exact absurd c9 (by decide)
                · exact absurd c8 (by decide)
          · exact absurd c5 (by decide)
    · exact absurd c2 (by decide)
set_option maxRecDepth 100000 in
set_option maxHeartbeats 4000000 in
theorem M_Model_assemble_L4o (l : Launch) (g : GG) {mo tq : Nat} {p0 : Nat → Int32} {s0 : Nat → Nat → Int32} {H0 : Heap} (hM : mAt g mo tq p0 s0 H0) {v_ r : Int32} (hL : oneL 4 (-1) (-1) v_ r s0) : MM l y_Model_assemble c_Model_assemble 2 none 6 4 262 g H0 [.ref mo] (fun q => mo ≤ q ∧ q < mo + 23) (none) (fun H1 => ∃ p s, mAt g mo tq p s H1 ∧ p 0 = p0 0 ∧ s 2 = s0 2) := by
  refine MM.of (by decide +kernel) (Nat.le_of_ble_eq_true rfl) ?_
  intro p e s m below meth cd X hH ls hl
  have X : CX g p s m _ meth cd c_Model_assemble 2 none R_Model _ := X
  have hl : lv_has ls 2 [(0, .ref mo)] := hl
  have hS : va_S (AA (fun q => mo ≤ q ∧ q < mo + 23) H0) H0 H0 [] := va_S.rf
  have hlt0 := hM.lt
  have htq0 := hM.tq
  refine lv_aload_n X.x X.b d_Model_assemble_0 rfl (lv_at hl 0 rfl) ?_
  refine lv_iconst (v := 0) X.x X.b d_Model_assemble_1 (by decide) ?_
  refine m_put X ok_Model hS (Or.inl ⟨by omega, by omega⟩) hM.1 3 (by decide) k_Model_126 rfl (ok_Model.2.2.1 _ (by decide)) rfl rfl (Nat.le_of_ble_eq_true rfl) d_Model_assemble_2 (fun H locs hp hcg hS => ?_)
  have hM := hM.f3 hp hcg
  obtain ⟨p_1, ep_1⟩ : ∃ z, z = upd p0 3 0 := ⟨_, rfl⟩
  rw [← ep_1] at hM
  refine lv_aload_n X.x X.b d_Model_assemble_5 rfl (lv_at hl 0 rfl) ?_
  refine lv_iconst (v := -1) X.x X.b d_Model_assemble_6 (by decide) ?_
  refine m_put X ok_Model hS (Or.inl ⟨by omega, by omega⟩) hM.1 4 (by decide) k_Model_129 rfl (ok_Model.2.2.1 _ (by decide)) rfl rfl (Nat.le_of_ble_eq_true rfl) d_Model_assemble_7 (fun H locs hp hcg hS => ?_)
  have hM := hM.f4 hp hcg
  obtain ⟨p_2, ep_2⟩ : ∃ z, z = upd p_1 4 (-1) := ⟨_, rfl⟩
  rw [← ep_2] at hM
  refine lv_aload_n X.x X.b d_Model_assemble_10 rfl (lv_at hl 0 rfl) ?_
  have hR := M_Model_expand_L4 l g hM  (show oneL 4 (-1) (-1) v_ r _ from hL) (by rw [ep_2, upd_mi _ _ _ (show 3 ≠ 4 by decide), ep_1, upd_hit])
  refine m_callV X hS hR v_Model_183 hM.1 rfl rfl rfl (Nat.le_of_ble_eq_true rfl) hl.1 d_Model_assemble_11 (by omega) (by decide) ⟨by omega, by omega⟩ (fun q z => z.elim (fun z => by have z : mo ≤ q ∧ q < mo + 23 := z; exact Or.inl ⟨by omega, by omega⟩) (fun z => Or.inr (Nat.le_trans hS.1 z))) (fun H locs hq hfr hS => ?_)
  obtain ⟨p_3, s_4, hM, hX0, hX2, ⟨hX3, hX5⟩, hX8, hX9, hX10, hX81, hX11, hX27⟩ := hq
  have hw : twoI 4 p_3 s_4 := ⟨⟨hX3, hX5⟩, hX8, hX81⟩
  refine lv_aload_n X.x X.b d_Model_assemble_14 rfl (lv_at hl 0 rfl) ?_
  refine m_get (v := .int 0) X ok_Model hM.1 3 (by decide) k_Model_126 (congrArg (fun z => some (Value.int z)) (show p_3 3 = 0 from (by rw [hX3]))) d_Model_assemble_15 ?_
  refine lv_if_ne (tgt := 25) X.x X.b d_Model_assemble_18 (by decide) (fun c1 => ?_) (fun c1 => ?_)
  · exact absurd c1 (by decide)
  · skip
    refine lv_aload_n X.x X.b d_Model_assemble_21 rfl (lv_at hl 0 rfl) ?_
    have hR := M_Model_refer_o4 l g hM hw hX9 hX10
    refine m_callM X hS hR v_Model_186 hM.1 rfl rfl rfl (Nat.le_of_ble_eq_true rfl) hl.1 d_Model_assemble_22 (by omega) (by decide) ⟨by omega, by omega⟩ (fun q z => by have z : mo ≤ q ∧ q < mo + 23 := z; exact ⟨by omega, by omega⟩) (fun H locs hq hfr hS => ?_)
    obtain ⟨s_5, hM, hsr, hR16, hR17⟩ := hq
    have hw := twoI.s hw (hsr 8 (by decide))
    refine lv_aload_n X.x X.b d_Model_assemble_25 rfl (lv_at hl 0 rfl) ?_
    refine m_get (v := .int 0) X ok_Model hM.1 3 (by decide) k_Model_126 (congrArg (fun z => some (Value.int z)) (show p_3 3 = 0 from (by rw [hX3]))) d_Model_assemble_26 ?_
    refine lv_if_le (tgt := 33) X.x X.b d_Model_assemble_29 (by decide) (fun c2 => ?_) (fun c2 => ?_)
    · skip
      have c2q := Int32.not_lt.mpr c2
      refine lv_aload_n X.x X.b d_Model_assemble_33 rfl (lv_at hl 0 rfl) ?_
      have hR := M_Model_fillPools_L4 l g hM hw
      refine m_callM X hS hR v_Model_189 hM.1 rfl rfl rfl (Nat.le_of_ble_eq_true rfl) hl.1 d_Model_assemble_34 (by omega) (by decide) ⟨by omega, by omega⟩ (fun q z => by have z : mo ≤ q ∧ q < mo + 23 := z; exact ⟨by omega, by omega⟩) (fun H locs hq hfr hS => ?_)
      obtain ⟨s_6, hM, hsf⟩ := hq
      have hw := twoI.s hw (hsf 8 (by decide))
      refine lv_aload_n X.x X.b d_Model_assemble_37 rfl (lv_at hl 0 rfl) ?_
      have hR := M_Model_layOut_L4 l g hM hw (show s_6 16 0 = -1 from (by rw [hsf 16 (by decide), hR16])) (show s_6 17 0 = -1 from (by rw [hsf 17 (by decide), hR17]))
      refine m_callM X hS hR v_Model_192 hM.1 rfl rfl rfl (Nat.le_of_ble_eq_true rfl) hl.1 d_Model_assemble_38 (by omega) (by decide) ⟨by omega, by omega⟩ (fun q z => by have z : mo ≤ q ∧ q < mo + 23 := z; exact ⟨by omega, by omega⟩) (fun H locs hq hfr hS => ?_)
      obtain ⟨p_7, s_8, hM, hp_9, hs_10⟩ := hq
      have hw := twoI.ps hw (hp_9 3 (by decide)) (hp_9 5 (by decide)) (hs_10 8 (by decide))
      refine lv_iconst (v := 0) X.x X.b d_Model_assemble_41 (by decide) ?_
      refine lv_istore_n (lv' := [(1, .int 0), (0, .ref mo)]) X.x X.b d_Model_assemble_42 rfl hl (by decide) rfl (fun ls hl => ?_)
      refine lv_iload_n X.x X.b d_Model_assemble_43 rfl (lv_at hl 0 rfl) ?_
      refine lv_aload_n X.x X.b d_Model_assemble_44 rfl (lv_at hl 1 rfl) ?_
      refine m_get (v := .int 2) X ok_Model hM.1 5 (by decide) k_Model_132 (congrArg (fun z => some (Value.int z)) (show p_7 5 = 2 from (by rw [hp_9 5 (by decide), hX5]))) d_Model_assemble_45 ?_
      refine lv_icmp_ge (tgt := 103) X.x X.b d_Model_assemble_48 (by decide) (fun c3 => ?_) (fun c3 => ?_)
      · exact absurd c3 (by decide)
      · skip
        have c3q := Int32.not_le.mp c3
        refine lv_aload_n X.x X.b d_Model_assemble_51 rfl (lv_at hl 1 rfl) ?_
        refine m_get (v := .int 0) X ok_Model hM.1 3 (by decide) k_Model_126 (congrArg (fun z => some (Value.int z)) (show p_7 3 = 0 from (by rw [hp_9 3 (by decide), hX3]))) d_Model_assemble_52 ?_
        refine lv_if_ne (tgt := 103) X.x X.b d_Model_assemble_55 (by decide) (fun c4 => ?_) (fun c4 => ?_)
        · exact absurd c1 c4
        · skip
          refine lv_aload_n X.x X.b d_Model_assemble_58 rfl (lv_at hl 1 rfl) ?_
          refine m_get (v := .ref (mo + 3)) X ok_Model hM.1 8 (by decide) k_Model_16 rfl d_Model_assemble_59 ?_
          refine lv_iload_n X.x X.b d_Model_assemble_62 rfl (lv_at hl 0 rfl) ?_
          refine m_ild (v := 4) X hM.a8 0 rfl (by omega) (by decide) (show s_8 8 0 = 4 from (by rw [hs_10 8 (by decide), hsf 8 (by decide), hsr 8 (by decide), hX8])) d_Model_assemble_63 ?_
          refine lv_iconst (v := 5) X.x X.b d_Model_assemble_64 (by decide) ?_
          refine lv_icmp_ne (tgt := 97) X.x X.b d_Model_assemble_65 (by decide) (fun c5 => ?_) (fun c5 => ?_)
          · skip
            refine lv_iinc (v := 1) (lv' := [(1, .int 1), (0, .ref mo)]) X.x X.b d_Model_assemble_97 hl (k := 0) rfl (by decide) (by decide) rfl (fun ls hl => ?_)
            refine lv_goto (tgt := 43) X.x X.b d_Model_assemble_100 (by decide) ?_
            refine lv_iload_n X.x X.b d_Model_assemble_43 rfl (lv_at hl 0 rfl) ?_
            refine lv_aload_n X.x X.b d_Model_assemble_44 rfl (lv_at hl 1 rfl) ?_
            refine m_get (v := .int 2) X ok_Model hM.1 5 (by decide) k_Model_132 (congrArg (fun z => some (Value.int z)) (show p_7 5 = 2 from (by rw [hp_9 5 (by decide), hX5]))) d_Model_assemble_45 ?_
            refine lv_icmp_ge (tgt := 103) X.x X.b d_Model_assemble_48 (by decide) (fun c6 => ?_) (fun c6 => ?_)
            · exact absurd c6 (by decide)
            · skip
              have c6q := Int32.not_le.mp c6
              refine lv_aload_n X.x X.b d_Model_assemble_51 rfl (lv_at hl 1 rfl) ?_
              refine m_get (v := .int 0) X ok_Model hM.1 3 (by decide) k_Model_126 (congrArg (fun z => some (Value.int z)) (show p_7 3 = 0 from (by rw [hp_9 3 (by decide), hX3]))) d_Model_assemble_52 ?_
              refine lv_if_ne (tgt := 103) X.x X.b d_Model_assemble_55 (by decide) (fun c7 => ?_) (fun c7 => ?_)
              · exact absurd c4 c7
              · skip
                refine lv_aload_n X.x X.b d_Model_assemble_58 rfl (lv_at hl 1 rfl) ?_
                refine m_get (v := .ref (mo + 3)) X ok_Model hM.1 8 (by decide) k_Model_16 rfl d_Model_assemble_59 ?_
                refine lv_iload_n X.x X.b d_Model_assemble_62 rfl (lv_at hl 0 rfl) ?_
                refine m_ild (v := 6) X hM.a8 1 rfl (by omega) (by decide) (show s_8 8 1 = 6 from (by rw [hs_10 8 (by decide), hsf 8 (by decide), hsr 8 (by decide), hX81])) d_Model_assemble_63 ?_
                refine lv_iconst (v := 5) X.x X.b d_Model_assemble_64 (by decide) ?_
                refine lv_icmp_ne (tgt := 97) X.x X.b d_Model_assemble_65 (by decide) (fun c8 => ?_) (fun c8 => ?_)
                · skip
                  refine lv_iinc (v := 2) (lv' := [(1, .int 2), (0, .ref mo)]) X.x X.b d_Model_assemble_97 hl (k := 0) rfl (by decide) (by decide) rfl (fun ls hl => ?_)
                  refine lv_goto (tgt := 43) X.x X.b d_Model_assemble_100 (by decide) ?_
                  refine lv_iload_n X.x X.b d_Model_assemble_43 rfl (lv_at hl 0 rfl) ?_
                  refine lv_aload_n X.x X.b d_Model_assemble_44 rfl (lv_at hl 1 rfl) ?_
                  refine m_get (v := .int 2) X ok_Model hM.1 5 (by decide) k_Model_132 (congrArg (fun z => some (Value.int z)) (show p_7 5 = 2 from (by rw [hp_9 5 (by decide), hX5]))) d_Model_assemble_45 ?_
                  refine lv_icmp_ge (tgt := 103) X.x X.b d_Model_assemble_48 (by decide) (fun c9 => ?_) (fun c9 => ?_)
                  · skip
                    have c9q := Int32.not_lt.mpr c9
                    refine lv_aload_n X.x X.b d_Model_assemble_103 rfl (lv_at hl 1 rfl) ?_
                    refine m_get (v := .int 0) X ok_Model hM.1 3 (by decide) k_Model_126 (congrArg (fun z => some (Value.int z)) (show p_7 3 = 0 from (by rw [hp_9 3 (by decide), hX3]))) d_Model_assemble_104 ?_
                    refine lv_if_ne (tgt := 114) X.x X.b d_Model_assemble_107 (by decide) (fun c10 => ?_) (fun c10 => ?_)
                    · exact absurd c7 c10
                    · skip
                      refine lv_aload_n X.x X.b d_Model_assemble_110 rfl (lv_at hl 1 rfl) ?_
                      have hR := M_Model_follow_L4 l g hM hw (show s_8 16 0 = -1 from (by rw [hs_10 16 (by decide), hsf 16 (by decide), hR16])) (show s_8 17 0 = -1 from (by rw [hs_10 17 (by decide), hsf 17 (by decide), hR17]))
                      refine m_callV X hS hR v_Model_198 hM.1 rfl rfl rfl (Nat.le_of_ble_eq_true rfl) hl.1 d_Model_assemble_111 (by omega) (by decide) ⟨by omega, by omega⟩ (fun q z => z.elim (fun z => by have z : mo ≤ q ∧ q < mo + 23 := z; exact Or.inl ⟨by omega, by omega⟩) (fun z => Or.inr (Nat.le_trans hS.1 z))) (fun H locs hq hfr hS => ?_)
                      obtain ⟨s_11, hM, hso⟩ := hq
                      exact m_vret X hS (by omega) (by omega) d_Model_assemble_114 rfl ⟨_, _, hM, (by rw [hp_9 0 (by decide), hX0, ep_2, upd_mi _ _ _ (show 0 ≠ 4 by decide), ep_1, upd_mi _ _ _ (show 0 ≠ 3 by decide)]), by rw [hso 2 (by decide), hs_10 2 (by decide), hsf 2 (by decide), hsr 2 (by decide), hX2]⟩
                  · exact absurd c9 (by decide)
                · exact absurd c8 (by decide)
          · exact absurd c5 (by decide)
    · exact absurd c2 (by decide)
set_option maxRecDepth 100000 in
set_option maxHeartbeats 4000000 in
theorem M_Model_assemble_L2x (l : Launch) (g : GG) {mo tq : Nat} {p0 : Nat → Int32} {s0 : Nat → Nat → Int32} {H0 : Heap} (hM : mAt g mo tq p0 s0 H0) {v_ r : Int32} {j : Nat} (hj : j ≤ 11) (hL : oneL 2 (nI j) (-1) v_ r s0) : MM l y_Model_assemble c_Model_assemble 2 none 6 4 262 g H0 [.ref mo] (fun q => mo ≤ q ∧ q < mo + 23) (none) (fun H1 => ∃ p s, mAt g mo tq p s H1 ∧ p 0 = p0 0 ∧ s 2 = s0 2) := by
  refine MM.of (by decide +kernel) (Nat.le_of_ble_eq_true rfl) ?_
  intro p e s m below meth cd X hH ls hl
  have X : CX g p s m _ meth cd c_Model_assemble 2 none R_Model _ := X
  have hl : lv_has ls 2 [(0, .ref mo)] := hl
  have hS : va_S (AA (fun q => mo ≤ q ∧ q < mo + 23) H0) H0 H0 [] := va_S.rf
  have hlt0 := hM.lt
  have htq0 := hM.tq
  refine lv_aload_n X.x X.b d_Model_assemble_0 rfl (lv_at hl 0 rfl) ?_
  refine lv_iconst (v := 0) X.x X.b d_Model_assemble_1 (by decide) ?_
  refine m_put X ok_Model hS (Or.inl ⟨by omega, by omega⟩) hM.1 3 (by decide) k_Model_126 rfl (ok_Model.2.2.1 _ (by decide)) rfl rfl (Nat.le_of_ble_eq_true rfl) d_Model_assemble_2 (fun H locs hp hcg hS => ?_)
  have hM := hM.f3 hp hcg
  obtain ⟨p_1, ep_1⟩ : ∃ z, z = upd p0 3 0 := ⟨_, rfl⟩
  rw [← ep_1] at hM
  refine lv_aload_n X.x X.b d_Model_assemble_5 rfl (lv_at hl 0 rfl) ?_
  refine lv_iconst (v := -1) X.x X.b d_Model_assemble_6 (by decide) ?_
  refine m_put X ok_Model hS (Or.inl ⟨by omega, by omega⟩) hM.1 4 (by decide) k_Model_129 rfl (ok_Model.2.2.1 _ (by decide)) rfl rfl (Nat.le_of_ble_eq_true rfl) d_Model_assemble_7 (fun H locs hp hcg hS => ?_)
  have hM := hM.f4 hp hcg
  obtain ⟨p_2, ep_2⟩ : ∃ z, z = upd p_1 4 (-1) := ⟨_, rfl⟩
  rw [← ep_2] at hM
  refine lv_aload_n X.x X.b d_Model_assemble_10 rfl (lv_at hl 0 rfl) ?_
  have hR := M_Model_expand_L2 l g hM  (show oneL 2 (nI j) (-1) v_ r _ from hL) (by rw [ep_2, upd_mi _ _ _ (show 3 ≠ 4 by decide), ep_1, upd_hit])
  refine m_callV X hS hR v_Model_183 hM.1 rfl rfl rfl (Nat.le_of_ble_eq_true rfl) hl.1 d_Model_assemble_11 (by omega) (by decide) ⟨by omega, by omega⟩ (fun q z => z.elim (fun z => by have z : mo ≤ q ∧ q < mo + 23 := z; exact Or.inl ⟨by omega, by omega⟩) (fun z => Or.inr (Nat.le_trans hS.1 z))) (fun H locs hq hfr hS => ?_)
  obtain ⟨p_3, s_4, hM, hX0, hX2, ⟨hX3, hX5⟩, hX8, hX9, hX10, hX81, hX11, hX27⟩ := hq
  have hw : twoI 2 p_3 s_4 := ⟨⟨hX3, hX5⟩, hX8, hX81⟩
  refine lv_aload_n X.x X.b d_Model_assemble_14 rfl (lv_at hl 0 rfl) ?_
  refine m_get (v := .int 0) X ok_Model hM.1 3 (by decide) k_Model_126 (congrArg (fun z => some (Value.int z)) (show p_3 3 = 0 from (by rw [hX3]))) d_Model_assemble_15 ?_
  refine lv_if_ne (tgt := 25) X.x X.b d_Model_assemble_18 (by decide) (fun c1 => ?_) (fun c1 => ?_)
  · exact absurd c1 (by decide)
  · skip
    refine lv_aload_n X.x X.b d_Model_assemble_21 rfl (lv_at hl 0 rfl) ?_
    have hR := M_Model_refer_f2x l g hM hw hj hX27 hX9 hX10
    refine m_callM X hS hR v_Model_186 hM.1 rfl rfl rfl (Nat.le_of_ble_eq_true rfl) hl.1 d_Model_assemble_22 (by omega) (by decide) ⟨by omega, by omega⟩ (fun q z => by have z : mo ≤ q ∧ q < mo + 23 := z; exact ⟨by omega, by omega⟩) (fun H locs hq hfr hS => ?_)
    obtain ⟨p_5, hM, hY0, hY3⟩ := hq
    refine lv_aload_n X.x X.b d_Model_assemble_25 rfl (lv_at hl 0 rfl) ?_
    refine m_get (v := .int 5) X ok_Model hM.1 3 (by decide) k_Model_126 (congrArg (fun z => some (Value.int z)) (show p_5 3 = 5 from (by rw [hY3]))) d_Model_assemble_26 ?_
    refine lv_if_le (tgt := 33) X.x X.b d_Model_assemble_29 (by decide) (fun c2 => ?_) (fun c2 => ?_)
    · exact absurd c2 (by decide)
    · skip
      have c2q := Int32.not_le.mp c2
      exact m_vret X hS (by omega) (by omega) d_Model_assemble_32 rfl ⟨_, _, hM, (by rw [hY0, hX0, ep_2, upd_mi _ _ _ (show 0 ≠ 4 by decide), ep_1, upd_mi _ _ _ (show 0 ≠ 3 by decide)]), by rw [hX2]⟩
set_option maxRecDepth 100000 in
set_option maxHeartbeats 4000000 in
theorem M_Model_assemble_L3x (l : Launch) (g : GG) {mo tq : Nat} {p0 : Nat → Int32} {s0 : Nat → Nat → Int32} {H0 : Heap} (hM : mAt g mo tq p0 s0 H0) {v_ r : Int32} {j : Nat} (hj : j ≤ 11) (hL : oneL 3 (nI j) (-1) v_ r s0) : MM l y_Model_assemble c_Model_assemble 2 none 6 4 262 g H0 [.ref mo] (fun q => mo ≤ q ∧ q < mo + 23) (none) (fun H1 => ∃ p s, mAt g mo tq p s H1 ∧ p 0 = p0 0 ∧ s 2 = s0 2) := by
  refine MM.of (by decide +kernel) (Nat.le_of_ble_eq_true rfl) ?_
  intro p e s m below meth cd X hH ls hl
  have X : CX g p s m _ meth cd c_Model_assemble 2 none R_Model _ := X
  have hl : lv_has ls 2 [(0, .ref mo)] := hl
  have hS : va_S (AA (fun q => mo ≤ q ∧ q < mo + 23) H0) H0 H0 [] := va_S.rf
  have hlt0 := hM.lt
  have htq0 := hM.tq
  refine lv_aload_n X.x X.b d_Model_assemble_0 rfl (lv_at hl 0 rfl) ?_
  refine lv_iconst (v := 0) X.x X.b d_Model_assemble_1 (by decide) ?_
  refine m_put X ok_Model hS (Or.inl ⟨by omega, by omega⟩) hM.1 3 (by decide) k_Model_126 rfl (ok_Model.2.2.1 _ (by decide)) rfl rfl (Nat.le_of_ble_eq_true rfl) d_Model_assemble_2 (fun H locs hp hcg hS => ?_)
  have hM := hM.f3 hp hcg
  obtain ⟨p_1, ep_1⟩ : ∃ z, z = upd p0 3 0 := ⟨_, rfl⟩
  rw [← ep_1] at hM
  refine lv_aload_n X.x X.b d_Model_assemble_5 rfl (lv_at hl 0 rfl) ?_
  refine lv_iconst (v := -1) X.x X.b d_Model_assemble_6 (by decide) ?_
  refine m_put X ok_Model hS (Or.inl ⟨by omega, by omega⟩) hM.1 4 (by decide) k_Model_129 rfl (ok_Model.2.2.1 _ (by decide)) rfl rfl (Nat.le_of_ble_eq_true rfl) d_Model_assemble_7 (fun H locs hp hcg hS => ?_)
  have hM := hM.f4 hp hcg
  obtain ⟨p_2, ep_2⟩ : ∃ z, z = upd p_1 4 (-1) := ⟨_, rfl⟩
  rw [← ep_2] at hM
  refine lv_aload_n X.x X.b d_Model_assemble_10 rfl (lv_at hl 0 rfl) ?_
  have hR := M_Model_expand_L3 l g hM  (show oneL 3 (nI j) (-1) v_ r _ from hL) (by rw [ep_2, upd_mi _ _ _ (show 3 ≠ 4 by decide), ep_1, upd_hit])
  refine m_callV X hS hR v_Model_183 hM.1 rfl rfl rfl (Nat.le_of_ble_eq_true rfl) hl.1 d_Model_assemble_11 (by omega) (by decide) ⟨by omega, by omega⟩ (fun q z => z.elim (fun z => by have z : mo ≤ q ∧ q < mo + 23 := z; exact Or.inl ⟨by omega, by omega⟩) (fun z => Or.inr (Nat.le_trans hS.1 z))) (fun H locs hq hfr hS => ?_)
  obtain ⟨p_3, s_4, hM, hX0, hX2, ⟨hX3, hX5⟩, hX8, hX9, hX10, hX81, hX11, hX27⟩ := hq
  have hw : twoI 3 p_3 s_4 := ⟨⟨hX3, hX5⟩, hX8, hX81⟩
  refine lv_aload_n X.x X.b d_Model_assemble_14 rfl (lv_at hl 0 rfl) ?_
  refine m_get (v := .int 0) X ok_Model hM.1 3 (by decide) k_Model_126 (congrArg (fun z => some (Value.int z)) (show p_3 3 = 0 from (by rw [hX3]))) d_Model_assemble_15 ?_
  refine lv_if_ne (tgt := 25) X.x X.b d_Model_assemble_18 (by decide) (fun c1 => ?_) (fun c1 => ?_)
  · exact absurd c1 (by decide)
  · skip
    refine lv_aload_n X.x X.b d_Model_assemble_21 rfl (lv_at hl 0 rfl) ?_
    have hR := M_Model_refer_f3x l g hM hw hj hX27 hX9 hX10
    refine m_callM X hS hR v_Model_186 hM.1 rfl rfl rfl (Nat.le_of_ble_eq_true rfl) hl.1 d_Model_assemble_22 (by omega) (by decide) ⟨by omega, by omega⟩ (fun q z => by have z : mo ≤ q ∧ q < mo + 23 := z; exact ⟨by omega, by omega⟩) (fun H locs hq hfr hS => ?_)
    obtain ⟨p_5, hM, hY0, hY3⟩ := hq
    refine lv_aload_n X.x X.b d_Model_assemble_25 rfl (lv_at hl 0 rfl) ?_
    refine m_get (v := .int 5) X ok_Model hM.1 3 (by decide) k_Model_126 (congrArg (fun z => some (Value.int z)) (show p_5 3 = 5 from (by rw [hY3]))) d_Model_assemble_26 ?_
    refine lv_if_le (tgt := 33) X.x X.b d_Model_assemble_29 (by decide) (fun c2 => ?_) (fun c2 => ?_)
    · exact absurd c2 (by decide)
    · skip
      have c2q := Int32.not_le.mp c2
      exact m_vret X hS (by omega) (by omega) d_Model_assemble_32 rfl ⟨_, _, hM, (by rw [hY0, hX0, ep_2, upd_mi _ _ _ (show 0 ≠ 4 by decide), ep_1, upd_mi _ _ _ (show 0 ≠ 3 by decide)]), by rw [hX2]⟩
set_option maxRecDepth 100000 in
set_option maxHeartbeats 4000000 in
theorem M_Model_assemble_L4x (l : Launch) (g : GG) {mo tq : Nat} {p0 : Nat → Int32} {s0 : Nat → Nat → Int32} {H0 : Heap} (hM : mAt g mo tq p0 s0 H0) {v_ r : Int32} {j : Nat} (hj : j ≤ 11) (hL : oneL 4 (nI j) (-1) v_ r s0) : MM l y_Model_assemble c_Model_assemble 2 none 6 4 262 g H0 [.ref mo] (fun q => mo ≤ q ∧ q < mo + 23) (none) (fun H1 => ∃ p s, mAt g mo tq p s H1 ∧ p 0 = p0 0 ∧ s 2 = s0 2) := by
  refine MM.of (by decide +kernel) (Nat.le_of_ble_eq_true rfl) ?_
  intro p e s m below meth cd X hH ls hl
  have X : CX g p s m _ meth cd c_Model_assemble 2 none R_Model _ := X
  have hl : lv_has ls 2 [(0, .ref mo)] := hl
  have hS : va_S (AA (fun q => mo ≤ q ∧ q < mo + 23) H0) H0 H0 [] := va_S.rf
  have hlt0 := hM.lt
  have htq0 := hM.tq
  refine lv_aload_n X.x X.b d_Model_assemble_0 rfl (lv_at hl 0 rfl) ?_
  refine lv_iconst (v := 0) X.x X.b d_Model_assemble_1 (by decide) ?_
  refine m_put X ok_Model hS (Or.inl ⟨by omega, by omega⟩) hM.1 3 (by decide) k_Model_126 rfl (ok_Model.2.2.1 _ (by decide)) rfl rfl (Nat.le_of_ble_eq_true rfl) d_Model_assemble_2 (fun H locs hp hcg hS => ?_)
  have hM := hM.f3 hp hcg
  obtain ⟨p_1, ep_1⟩ : ∃ z, z = upd p0 3 0 := ⟨_, rfl⟩
  rw [← ep_1] at hM
  refine lv_aload_n X.x X.b d_Model_assemble_5 rfl (lv_at hl 0 rfl) ?_
  refine lv_iconst (v := -1) X.x X.b d_Model_assemble_6 (by decide) ?_
  refine m_put X ok_Model hS (Or.inl ⟨by omega, by omega⟩) hM.1 4 (by decide) k_Model_129 rfl (ok_Model.2.2.1 _ (by decide)) rfl rfl (Nat.le_of_ble_eq_true rfl) d_Model_assemble_7 (fun H locs hp hcg hS => ?_)
  have hM := hM.f4 hp hcg
  obtain ⟨p_2, ep_2⟩ : ∃ z, z = upd p_1 4 (-1) := ⟨_, rfl⟩
  rw [← ep_2] at hM
  refine lv_aload_n X.x X.b d_Model_assemble_10 rfl (lv_at hl 0 rfl) ?_
  have hR := M_Model_expand_L4 l g hM  (show oneL 4 (nI j) (-1) v_ r _ from hL) (by rw [ep_2, upd_mi _ _ _ (show 3 ≠ 4 by decide), ep_1, upd_hit])
  refine m_callV X hS hR v_Model_183 hM.1 rfl rfl rfl (Nat.le_of_ble_eq_true rfl) hl.1 d_Model_assemble_11 (by omega) (by decide) ⟨by omega, by omega⟩ (fun q z => z.elim (fun z => by have z : mo ≤ q ∧ q < mo + 23 := z; exact Or.inl ⟨by omega, by omega⟩) (fun z => Or.inr (Nat.le_trans hS.1 z))) (fun H locs hq hfr hS => ?_)
  obtain ⟨p_3, s_4, hM, hX0, hX2, ⟨hX3, hX5⟩, hX8, hX9, hX10, hX81, hX11, hX27⟩ := hq
  have hw : twoI 4 p_3 s_4 := ⟨⟨hX3, hX5⟩, hX8, hX81⟩
  refine lv_aload_n X.x X.b d_Model_assemble_14 rfl (lv_at hl 0 rfl) ?_
  refine m_get (v := .int 0) X ok_Model hM.1 3 (by decide) k_Model_126 (congrArg (fun z => some (Value.int z)) (show p_3 3 = 0 from (by rw [hX3]))) d_Model_assemble_15 ?_
  refine lv_if_ne (tgt := 25) X.x X.b d_Model_assemble_18 (by decide) (fun c1 => ?_) (fun c1 => ?_)
  · exact absurd c1 (by decide)
  · skip
    refine lv_aload_n X.x X.b d_Model_assemble_21 rfl (lv_at hl 0 rfl) ?_
    have hR := M_Model_refer_f4x l g hM hw hj hX27 hX9 hX10
    refine m_callM X hS hR v_Model_186 hM.1 rfl rfl rfl (Nat.le_of_ble_eq_true rfl) hl.1 d_Model_assemble_22 (by omega) (by decide) ⟨by omega, by omega⟩ (fun q z => by have z : mo ≤ q ∧ q < mo + 23 := z; exact ⟨by omega, by omega⟩) (fun H locs hq hfr hS => ?_)
    obtain ⟨p_5, hM, hY0, hY3⟩ := hq
    refine lv_aload_n X.x X.b d_Model_assemble_25 rfl (lv_at hl 0 rfl) ?_
    refine m_get (v := .int 5) X ok_Model hM.1 3 (by decide) k_Model_126 (congrArg (fun z => some (Value.int z)) (show p_5 3 = 5 from (by rw [hY3]))) d_Model_assemble_26 ?_
    refine lv_if_le (tgt := 33) X.x X.b d_Model_assemble_29 (by decide) (fun c2 => ?_) (fun c2 => ?_)
    · exact absurd c2 (by decide)
    · skip
      have c2q := Int32.not_le.mp c2
      exact m_vret X hS (by omega) (by omega) d_Model_assemble_32 rfl ⟨_, _, hM, (by rw [hY0, hX0, ep_2, upd_mi _ _ _ (show 0 ≠ 4 by decide), ep_1, upd_mi _ _ _ (show 0 ≠ 3 by decide)]), by rw [hX2]⟩
set_option maxRecDepth 100000 in
set_option maxHeartbeats 4000000 in
theorem M_Model_assemble_L2y (l : Launch) (g : GG) {mo tq : Nat} {p0 : Nat → Int32} {s0 : Nat → Nat → Int32} {H0 : Heap} (hM : mAt g mo tq p0 s0 H0) {v_ r : Int32} {i2 : Nat} (hi2 : i2 ≤ 11) (hL : oneL 2 (-1) (nI i2) v_ r s0) : MM l y_Model_assemble c_Model_assemble 2 none 6 4 262 g H0 [.ref mo] (fun q => mo ≤ q ∧ q < mo + 23) (none) (fun H1 => ∃ p s, mAt g mo tq p s H1 ∧ p 0 = p0 0 ∧ s 2 = s0 2) := by
  refine MM.of (by decide +kernel) (Nat.le_of_ble_eq_true rfl) ?_
  intro p e s m below meth cd X hH ls hl
  have X : CX g p s m _ meth cd c_Model_assemble 2 none R_Model _ := X
  have hl : lv_has ls 2 [(0, .ref mo)] := hl
  have hS : va_S (AA (fun q => mo ≤ q ∧ q < mo + 23) H0) H0 H0 [] := va_S.rf
  have hlt0 := hM.lt
  have htq0 := hM.tq
  refine lv_aload_n X.x X.b d_Model_assemble_0 rfl (lv_at hl 0 rfl) ?_
  refine lv_iconst (v := 0) X.x X.b d_Model_assemble_1 (by decide) ?_
  refine m_put X ok_Model hS (Or.inl ⟨by omega, by omega⟩) hM.1 3 (by decide) k_Model_126 rfl (ok_Model.2.2.1 _ (by decide)) rfl rfl (Nat.le_of_ble_eq_true rfl) d_Model_assemble_2 (fun H locs hp hcg hS => ?_)
  have hM := hM.f3 hp hcg
  obtain ⟨p_1, ep_1⟩ : ∃ z, z = upd p0 3 0 := ⟨_, rfl⟩
  rw [← ep_1] at hM
  refine lv_aload_n X.x X.b d_Model_assemble_5 rfl (lv_at hl 0 rfl) ?_
  refine lv_iconst (v := -1) X.x X.b d_Model_assemble_6 (by decide) ?_
  refine m_put X ok_Model hS (Or.inl ⟨by omega, by omega⟩) hM.1 4 (by decide) k_Model_129 rfl (ok_Model.2.2.1 _ (by decide)) rfl rfl (Nat.le_of_ble_eq_true rfl) d_Model_assemble_7 (fun H locs hp hcg hS => ?_)
  have hM := hM.f4 hp hcg
  obtain ⟨p_2, ep_2⟩ : ∃ z, z = upd p_1 4 (-1) := ⟨_, rfl⟩
  rw [← ep_2] at hM
  refine lv_aload_n X.x X.b d_Model_assemble_10 rfl (lv_at hl 0 rfl) ?_
  have hR := M_Model_expand_L2 l g hM  (show oneL 2 (-1) (nI i2) v_ r _ from hL) (by rw [ep_2, upd_mi _ _ _ (show 3 ≠ 4 by decide), ep_1, upd_hit])
  refine m_callV X hS hR v_Model_183 hM.1 rfl rfl rfl (Nat.le_of_ble_eq_true rfl) hl.1 d_Model_assemble_11 (by omega) (by decide) ⟨by omega, by omega⟩ (fun q z => z.elim (fun z => by have z : mo ≤ q ∧ q < mo + 23 := z; exact Or.inl ⟨by omega, by omega⟩) (fun z => Or.inr (Nat.le_trans hS.1 z))) (fun H locs hq hfr hS => ?_)
  obtain ⟨p_3, s_4, hM, hX0, hX2, ⟨hX3, hX5⟩, hX8, hX9, hX10, hX81, hX11, hX27⟩ := hq
  have hw : twoI 2 p_3 s_4 := ⟨⟨hX3, hX5⟩, hX8, hX81⟩
  refine lv_aload_n X.x X.b d_Model_assemble_14 rfl (lv_at hl 0 rfl) ?_
  refine m_get (v := .int 0) X ok_Model hM.1 3 (by decide) k_Model_126 (congrArg (fun z => some (Value.int z)) (show p_3 3 = 0 from (by rw [hX3]))) d_Model_assemble_15 ?_
  refine lv_if_ne (tgt := 25) X.x X.b d_Model_assemble_18 (by decide) (fun c1 => ?_) (fun c1 => ?_)
  · exact absurd c1 (by decide)
  · skip
    refine lv_aload_n X.x X.b d_Model_assemble_21 rfl (lv_at hl 0 rfl) ?_
    have hR := M_Model_refer_f2y l g hM hw hi2 hX27 hX9 hX10
    refine m_callM X hS hR v_Model_186 hM.1 rfl rfl rfl (Nat.le_of_ble_eq_true rfl) hl.1 d_Model_assemble_22 (by omega) (by decide) ⟨by omega, by omega⟩ (fun q z => by have z : mo ≤ q ∧ q < mo + 23 := z; exact ⟨by omega, by omega⟩) (fun H locs hq hfr hS => ?_)
    obtain ⟨p_5, hM, hY0, hY3⟩ := hq
    refine lv_aload_n X.x X.b d_Model_assemble_25 rfl (lv_at hl 0 rfl) ?_
    refine m_get (v := .int 5) X ok_Model hM.1 3 (by decide) k_Model_126 (congrArg (fun z => some (Value.int z)) (show p_5 3 = 5 from (by rw [hY3]))) d_Model_assemble_26 ?_
    refine lv_if_le (tgt := 33) X.x X.b d_Model_assemble_29 (by decide) (fun c2 => ?_) (fun c2 => ?_)
    · exact absurd c2 (by decide)
    · skip
      have c2q := Int32.not_le.mp c2
      exact m_vret X hS (by omega) (by omega) d_Model_assemble_32 rfl ⟨_, _, hM, (by rw [hY0, hX0, ep_2, upd_mi _ _ _ (show 0 ≠ 4 by decide), ep_1, upd_mi _ _ _ (show 0 ≠ 3 by decide)]), by rw [hX2]⟩
set_option maxRecDepth 100000 in
set_option maxHeartbeats 4000000 in
theorem M_Model_assemble_L2xy (l : Launch) (g : GG) {mo tq : Nat} {p0 : Nat → Int32} {s0 : Nat → Nat → Int32} {H0 : Heap} (hM : mAt g mo tq p0 s0 H0) {v_ r : Int32} {j i2 : Nat} (hj : j ≤ 11) (hi2 : i2 ≤ 11) (hL : oneL 2 (nI j) (nI i2) v_ r s0) : MM l y_Model_assemble c_Model_assemble 2 none 6 4 262 g H0 [.ref mo] (fun q => mo ≤ q ∧ q < mo + 23) (none) (fun H1 => ∃ p s, mAt g mo tq p s H1 ∧ p 0 = p0 0 ∧ s 2 = s0 2) := by
  refine MM.of (by decide +kernel) (Nat.le_of_ble_eq_true rfl) ?_
  intro p e s m below meth cd X hH ls hl
  have X : CX g p s m _ meth cd c_Model_assemble 2 none R_Model _ := X
  have hl : lv_has ls 2 [(0, .ref mo)] := hl
  have hS : va_S (AA (fun q => mo ≤ q ∧ q < mo + 23) H0) H0 H0 [] := va_S.rf
  have hlt0 := hM.lt
  have htq0 := hM.tq
  refine lv_aload_n X.x X.b d_Model_assemble_0 rfl (lv_at hl 0 rfl) ?_
  refine lv_iconst (v := 0) X.x X.b d_Model_assemble_1 (by decide) ?_
  refine m_put X ok_Model hS (Or.inl ⟨by omega, by omega⟩) hM.1 3 (by decide) k_Model_126 rfl (ok_Model.2.2.1 _ (by decide)) rfl rfl (Nat.le_of_ble_eq_true rfl) d_Model_assemble_2 (fun H locs hp hcg hS => ?_)
  have hM := hM.f3 hp hcg
  obtain ⟨p_1, ep_1⟩ : ∃ z, z = upd p0 3 0 := ⟨_, rfl⟩
  rw [← ep_1] at hM
  refine lv_aload_n X.x X.b d_Model_assemble_5 rfl (lv_at hl 0 rfl) ?_
  refine lv_iconst (v := -1) X.x X.b d_Model_assemble_6 (by decide) ?_
  refine m_put X ok_Model hS (Or.inl ⟨by omega, by omega⟩) hM.1 4 (by decide) k_Model_129 rfl (ok_Model.2.2.1 _ (by decide)) rfl rfl (Nat.le_of_ble_eq_true rfl) d_Model_assemble_7 (fun H locs hp hcg hS => ?_)
  have hM := hM.f4 hp hcg
  obtain ⟨p_2, ep_2⟩ : ∃ z, z = upd p_1 4 (-1) := ⟨_, rfl⟩
  rw [← ep_2] at hM
  refine lv_aload_n X.x X.b d_Model_assemble_10 rfl (lv_at hl 0 rfl) ?_
  have hR := M_Model_expand_L2 l g hM  (show oneL 2 (nI j) (nI i2) v_ r _ from hL) (by rw [ep_2, upd_mi _ _ _ (show 3 ≠ 4 by decide), ep_1, upd_hit])
  refine m_callV X hS hR v_Model_183 hM.1 rfl rfl rfl (Nat.le_of_ble_eq_true rfl) hl.1 d_Model_assemble_11 (by omega) (by decide) ⟨by omega, by omega⟩ (fun q z => z.elim (fun z => by have z : mo ≤ q ∧ q < mo + 23 := z; exact Or.inl ⟨by omega, by omega⟩) (fun z => Or.inr (Nat.le_trans hS.1 z))) (fun H locs hq hfr hS => ?_)
  obtain ⟨p_3, s_4, hM, hX0, hX2, ⟨hX3, hX5⟩, hX8, hX9, hX10, hX81, hX11, hX27⟩ := hq
  have hw : twoI 2 p_3 s_4 := ⟨⟨hX3, hX5⟩, hX8, hX81⟩
  refine lv_aload_n X.x X.b d_Model_assemble_14 rfl (lv_at hl 0 rfl) ?_
  refine m_get (v := .int 0) X ok_Model hM.1 3 (by decide) k_Model_126 (congrArg (fun z => some (Value.int z)) (show p_3 3 = 0 from (by rw [hX3]))) d_Model_assemble_15 ?_
  refine lv_if_ne (tgt := 25) X.x X.b d_Model_assemble_18 (by decide) (fun c1 => ?_) (fun c1 => ?_)
  · exact absurd c1 (by decide)
  · skip
    refine lv_aload_n X.x X.b d_Model_assemble_21 rfl (lv_at hl 0 rfl) ?_
    have hR := M_Model_refer_f2xy l g hM hw hj hi2 hX27 hX9 hX10
    refine m_callM X hS hR v_Model_186 hM.1 rfl rfl rfl (Nat.le_of_ble_eq_true rfl) hl.1 d_Model_assemble_22 (by omega) (by decide) ⟨by omega, by omega⟩ (fun q z => by have z : mo ≤ q ∧ q < mo + 23 := z; exact ⟨by omega, by omega⟩) (fun H locs hq hfr hS => ?_)
    obtain ⟨p_5, hM, hY0, hY3⟩ := hq
    refine lv_aload_n X.x X.b d_Model_assemble_25 rfl (lv_at hl 0 rfl) ?_
    refine m_get (v := .int 5) X ok_Model hM.1 3 (by decide) k_Model_126 (congrArg (fun z => some (Value.int z)) (show p_5 3 = 5 from (by rw [hY3]))) d_Model_assemble_26 ?_
    refine lv_if_le (tgt := 33) X.x X.b d_Model_assemble_29 (by decide) (fun c2 => ?_) (fun c2 => ?_)
    · exact absurd c2 (by decide)
    · skip
      have c2q := Int32.not_le.mp c2
      exact m_vret X hS (by omega) (by omega) d_Model_assemble_32 rfl ⟨_, _, hM, (by rw [hY0, hX0, ep_2, upd_mi _ _ _ (show 0 ≠ 4 by decide), ep_1, upd_mi _ _ _ (show 0 ≠ 3 by decide)]), by rw [hX2]⟩
set_option maxRecDepth 100000 in
set_option maxHeartbeats 4000000 in
theorem M_Model_assemble_L5 (l : Launch) (g : GG) {mo tq : Nat} {p0 : Nat → Int32} {s0 : Nat → Nat → Int32} {H0 : Heap} (hM : mAt g mo tq p0 s0 H0) {x y v_ r : Int32} (hL : oneL 5 x y v_ r s0) : MM l y_Model_assemble c_Model_assemble 2 none 6 4 262 g H0 [.ref mo] (fun q => mo ≤ q ∧ q < mo + 23) (none) (fun H1 => ∃ p s, mAt g mo tq p s H1 ∧ p 0 = p0 0 ∧ s 2 = s0 2) := by
  refine MM.of (by decide +kernel) (Nat.le_of_ble_eq_true rfl) ?_
  intro p e s m below meth cd X hH ls hl
  have X : CX g p s m _ meth cd c_Model_assemble 2 none R_Model _ := X
  have hl : lv_has ls 2 [(0, .ref mo)] := hl
  have hS : va_S (AA (fun q => mo ≤ q ∧ q < mo + 23) H0) H0 H0 [] := va_S.rf
  have hlt0 := hM.lt
  have htq0 := hM.tq
  refine lv_aload_n X.x X.b d_Model_assemble_0 rfl (lv_at hl 0 rfl) ?_
  refine lv_iconst (v := 0) X.x X.b d_Model_assemble_1 (by decide) ?_
  refine m_put X ok_Model hS (Or.inl ⟨by omega, by omega⟩) hM.1 3 (by decide) k_Model_126 rfl (ok_Model.2.2.1 _ (by decide)) rfl rfl (Nat.le_of_ble_eq_true rfl) d_Model_assemble_2 (fun H locs hp hcg hS => ?_)
  have hM := hM.f3 hp hcg
  obtain ⟨p_1, ep_1⟩ : ∃ z, z = upd p0 3 0 := ⟨_, rfl⟩
  rw [← ep_1] at hM
  refine lv_aload_n X.x X.b d_Model_assemble_5 rfl (lv_at hl 0 rfl) ?_
  refine lv_iconst (v := -1) X.x X.b d_Model_assemble_6 (by decide) ?_
  refine m_put X ok_Model hS (Or.inl ⟨by omega, by omega⟩) hM.1 4 (by decide) k_Model_129 rfl (ok_Model.2.2.1 _ (by decide)) rfl rfl (Nat.le_of_ble_eq_true rfl) d_Model_assemble_7 (fun H locs hp hcg hS => ?_)
  have hM := hM.f4 hp hcg
  obtain ⟨p_2, ep_2⟩ : ∃ z, z = upd p_1 4 (-1) := ⟨_, rfl⟩
  rw [← ep_2] at hM
  refine lv_aload_n X.x X.b d_Model_assemble_10 rfl (lv_at hl 0 rfl) ?_
  have hR := M_Model_expand_L5 l g hM  (show oneL 5 x y v_ r _ from hL) (by rw [ep_2, upd_mi _ _ _ (show 3 ≠ 4 by decide), ep_1, upd_hit])
  refine m_callV X hS hR v_Model_183 hM.1 rfl rfl rfl (Nat.le_of_ble_eq_true rfl) hl.1 d_Model_assemble_11 (by omega) (by decide) ⟨by omega, by omega⟩ (fun q z => z.elim (fun z => by have z : mo ≤ q ∧ q < mo + 23 := z; exact Or.inl ⟨by omega, by omega⟩) (fun z => Or.inr (Nat.le_trans hS.1 z))) (fun H locs hq hfr hS => ?_)
  obtain ⟨p_3, s_4, hM, hX0, hX2, ⟨hX3, hX5⟩, hX8, hX9, hX10, hX81, hX11, hX27⟩ := hq
  have hw : twoI 5 p_3 s_4 := ⟨⟨hX3, hX5⟩, hX8, hX81⟩
  refine lv_aload_n X.x X.b d_Model_assemble_14 rfl (lv_at hl 0 rfl) ?_
  refine m_get (v := .int 0) X ok_Model hM.1 3 (by decide) k_Model_126 (congrArg (fun z => some (Value.int z)) (show p_3 3 = 0 from (by rw [hX3]))) d_Model_assemble_15 ?_
  refine lv_if_ne (tgt := 25) X.x X.b d_Model_assemble_18 (by decide) (fun c1 => ?_) (fun c1 => ?_)
  · exact absurd c1 (by decide)
  · skip
    refine lv_aload_n X.x X.b d_Model_assemble_21 rfl (lv_at hl 0 rfl) ?_
    refine m_callP X hS (M_Model_refer_s5 l g hM hw) v_Model_186 hM.1 rfl rfl rfl (Nat.le_of_ble_eq_true rfl) hl.1 d_Model_assemble_22 (by omega) (by decide) ⟨by omega, by omega⟩ (fun locs hS => ?_)
    refine lv_aload_n X.x X.b d_Model_assemble_25 rfl (lv_at hl 0 rfl) ?_
    refine m_get (v := .int 0) X ok_Model hM.1 3 (by decide) k_Model_126 (congrArg (fun z => some (Value.int z)) (show p_3 3 = 0 from (by rw [hX3]))) d_Model_assemble_26 ?_
    refine lv_if_le (tgt := 33) X.x X.b d_Model_assemble_29 (by decide) (fun c2 => ?_) (fun c2 => ?_)
    · skip
      have c2q := Int32.not_lt.mpr c2
      refine lv_aload_n X.x X.b d_Model_assemble_33 rfl (lv_at hl 0 rfl) ?_
      have hR := M_Model_fillPools_L5 l g hM hw
      refine m_callM X hS hR v_Model_189 hM.1 rfl rfl rfl (Nat.le_of_ble_eq_true rfl) hl.1 d_Model_assemble_34 (by omega) (by decide) ⟨by omega, by omega⟩ (fun q z => by have z : mo ≤ q ∧ q < mo + 23 := z; exact ⟨by omega, by omega⟩) (fun H locs hq hfr hS => ?_)
      obtain ⟨s_5, hM, hsf, hP20⟩ := hq
      have hw := twoI.s hw (hsf 8 (by decide))
      refine lv_aload_n X.x X.b d_Model_assemble_37 rfl (lv_at hl 0 rfl) ?_
      have hR := M_Model_layOut_L5 l g hM hw
      refine m_callM X hS hR v_Model_192 hM.1 rfl rfl rfl (Nat.le_of_ble_eq_true rfl) hl.1 d_Model_assemble_38 (by omega) (by decide) ⟨by omega, by omega⟩ (fun q z => by have z : mo ≤ q ∧ q < mo + 23 := z; exact ⟨by omega, by omega⟩) (fun H locs hq hfr hS => ?_)
      obtain ⟨p_6, s_7, hM, hp_8, hs_9⟩ := hq
      have hw := twoI.ps hw (hp_8 3 (by decide)) (hp_8 5 (by decide)) (hs_9 8 (by decide))
      refine lv_iconst (v := 0) X.x X.b d_Model_assemble_41 (by decide) ?_
      refine lv_istore_n (lv' := [(1, .int 0), (0, .ref mo)]) X.x X.b d_Model_assemble_42 rfl hl (by decide) rfl (fun ls hl => ?_)
      refine lv_iload_n X.x X.b d_Model_assemble_43 rfl (lv_at hl 0 rfl) ?_
      refine lv_aload_n X.x X.b d_Model_assemble_44 rfl (lv_at hl 1 rfl) ?_
      refine m_get (v := .int 2) X ok_Model hM.1 5 (by decide) k_Model_132 (congrArg (fun z => some (Value.int z)) (show p_6 5 = 2 from (by rw [hp_8 5 (by decide), hX5]))) d_Model_assemble_45 ?_
      refine lv_icmp_ge (tgt := 103) X.x X.b d_Model_assemble_48 (by decide) (fun c3 => ?_) (fun c3 => ?_)
      · exact absurd c3 (by decide)
      · skip
        have c3q := Int32.not_le.mp c3
        refine lv_aload_n X.x X.b d_Model_assemble_51 rfl (lv_at hl 1 rfl) ?_
        refine m_get (v := .int 0) X ok_Model hM.1 3 (by decide) k_Model_126 (congrArg (fun z => some (Value.int z)) (show p_6 3 = 0 from (by rw [hp_8 3 (by decide), hX3]))) d_Model_assemble_52 ?_
        refine lv_if_ne (tgt := 103) X.x X.b d_Model_assemble_55 (by decide) (fun c4 => ?_) (fun c4 => ?_)
        · exact absurd c1 c4
        · skip
          refine lv_aload_n X.x X.b d_Model_assemble_58 rfl (lv_at hl 1 rfl) ?_
          refine m_get (v := .ref (mo + 3)) X ok_Model hM.1 8 (by decide) k_Model_16 rfl d_Model_assemble_59 ?_
          refine lv_iload_n X.x X.b d_Model_assemble_62 rfl (lv_at hl 0 rfl) ?_
          refine m_ild (v := 5) X hM.a8 0 rfl (by omega) (by decide) (show s_7 8 0 = 5 from (by rw [hs_9 8 (by decide), hsf 8 (by decide), hX8])) d_Model_assemble_63 ?_
          refine lv_iconst (v := 5) X.x X.b d_Model_assemble_64 (by decide) ?_
          refine lv_icmp_ne (tgt := 97) X.x X.b d_Model_assemble_65 (by decide) (fun c5 => ?_) (fun c5 => ?_)
          · exact absurd c5 (by decide)
          · skip
            refine lv_aload_n X.x X.b d_Model_assemble_68 rfl (lv_at hl 1 rfl) ?_
            refine lv_iload_n X.x X.b d_Model_assemble_69 rfl (lv_at hl 0 rfl) ?_
            refine m_callP X hS (M_Model_numberAt l g hM (show s_7 20 0 = 1 from (by rw [hs_9 20 (by decide), hP20]))) v_Model_195 hM.1 rfl rfl rfl (Nat.le_of_ble_eq_true rfl) hl.1 d_Model_assemble_70 (by omega) (by decide) ⟨by omega, by omega⟩ (fun locs hS => ?_)
            refine lv_aload_n X.x X.b d_Model_assemble_73 rfl (lv_at hl 1 rfl) ?_
            refine m_get (v := .ref (mo + 9)) X ok_Model hM.1 14 (by decide) k_Model_34 rfl d_Model_assemble_74 ?_
            refine lv_iload_n X.x X.b d_Model_assemble_77 rfl (lv_at hl 0 rfl) ?_
            refine m_ild (v := s_7 14 0) X hM.a14 0 rfl (by omega) (by decide) (show s_7 14 0 = s_7 14 0 from rfl) d_Model_assemble_78 ?_
            refine lv_bipush (v := 16) X.x X.b d_Model_assemble_79 (by decide) ?_
            refine lv_iadd X.x X.b d_Model_assemble_81 ?_
            refine lv_icmp_le (tgt := 97) X.x X.b d_Model_assemble_82 (by decide) (fun c6 => ?_) (fun c6 => ?_)
            · skip
              have c6q := Int32.not_lt.mpr c6
              refine lv_iinc (v := 1) (lv' := [(1, .int 1), (0, .ref mo)]) X.x X.b d_Model_assemble_97 hl (k := 0) rfl (by decide) (by decide) rfl (fun ls hl => ?_)
              refine lv_goto (tgt := 43) X.x X.b d_Model_assemble_100 (by decide) ?_
              refine lv_iload_n X.x X.b d_Model_assemble_43 rfl (lv_at hl 0 rfl) ?_
              refine lv_aload_n X.x X.b d_Model_assemble_44 rfl (lv_at hl 1 rfl) ?_
              refine m_get (v := .int 2) X ok_Model hM.1 5 (by decide) k_Model_132 (congrArg (fun z => some (Value.int z)) (show p_6 5 = 2 from (by rw [hp_8 5 (by decide), hX5]))) d_Model_assemble_45 ?_
              refine lv_icmp_ge (tgt := 103) X.x X.b d_Model_assemble_48 (by decide) (fun c7 => ?_) (fun c7 => ?_)
              · exact absurd c7 (by decide)
              · skip
                have c7q := Int32.not_le.mp c7
                refine lv_aload_n X.x X.b d_Model_assemble_51 rfl (lv_at hl 1 rfl) ?_
                refine m_get (v := .int 0) X ok_Model hM.1 3 (by decide) k_Model_126 (congrArg (fun z => some (Value.int z)) (show p_6 3 = 0 from (by rw [hp_8 3 (by decide), hX3]))) d_Model_assemble_52 ?_
                refine lv_if_ne (tgt := 103) X.x X.b d_Model_assemble_55 (by decide) (fun c8 => ?_) (fun c8 => ?_)
                · exact absurd c4 c8
                · skip
                  refine lv_aload_n X.x X.b d_Model_assemble_58 rfl (lv_at hl 1 rfl) ?_
                  refine m_get (v := .ref (mo + 3)) X ok_Model hM.1 8 (by decide) k_Model_16 rfl d_Model_assemble_59 ?_
                  refine lv_iload_n X.x X.b d_Model_assemble_62 rfl (lv_at hl 0 rfl) ?_
                  refine m_ild (v := 6) X hM.a8 1 rfl (by omega) (by decide) (show s_7 8 1 = 6 from (by rw [hs_9 8 (by decide), hsf 8 (by decide), hX81])) d_Model_assemble_63 ?_
                  refine lv_iconst (v := 5) X.x X.b d_Model_assemble_64 (by decide) ?_
                  refine lv_icmp_ne (tgt := 97) X.x X.b d_Model_assemble_65 (by decide) (fun c9 => ?_) (fun c9 => ?_)
                  · skip
                    refine lv_iinc (v := 2) (lv' := [(1, .int 2), (0, .ref mo)]) X.x X.b d_Model_assemble_97 hl (k := 0) rfl (by decide) (by decide) rfl (fun ls hl => ?_)
                    refine lv_goto (tgt := 43) X.x X.b d_Model_assemble_100 (by decide) ?_
                    refine lv_iload_n X.x X.b d_Model_assemble_43 rfl (lv_at hl 0 rfl) ?_
                    refine lv_aload_n X.x X.b d_Model_assemble_44 rfl (lv_at hl 1 rfl) ?_
                    refine m_get (v := .int 2) X ok_Model hM.1 5 (by decide) k_Model_132 (congrArg (fun z => some (Value.int z)) (show p_6 5 = 2 from (by rw [hp_8 5 (by decide), hX5]))) d_Model_assemble_45 ?_
                    refine lv_icmp_ge (tgt := 103) X.x X.b d_Model_assemble_48 (by decide) (fun c10 => ?_) (fun c10 => ?_)
                    · skip
                      have c10q := Int32.not_lt.mpr c10
                      refine lv_aload_n X.x X.b d_Model_assemble_103 rfl (lv_at hl 1 rfl) ?_
                      refine m_get (v := .int 0) X ok_Model hM.1 3 (by decide) k_Model_126 (congrArg (fun z => some (Value.int z)) (show p_6 3 = 0 from (by rw [hp_8 3 (by decide), hX3]))) d_Model_assemble_104 ?_
                      refine lv_if_ne (tgt := 114) X.x X.b d_Model_assemble_107 (by decide) (fun c11 => ?_) (fun c11 => ?_)
                      · exact absurd c8 c11
                      · skip
                        refine lv_aload_n X.x X.b d_Model_assemble_110 rfl (lv_at hl 1 rfl) ?_
                        have hR := M_Model_follow_L5 l g hM hw
                        refine m_callV X hS hR v_Model_198 hM.1 rfl rfl rfl (Nat.le_of_ble_eq_true rfl) hl.1 d_Model_assemble_111 (by omega) (by decide) ⟨by omega, by omega⟩ (fun q z => z.elim (fun z => by have z : mo ≤ q ∧ q < mo + 23 := z; exact Or.inl ⟨by omega, by omega⟩) (fun z => Or.inr (Nat.le_trans hS.1 z))) (fun H locs hq hfr hS => ?_)
                        obtain ⟨s_10, hM, hso⟩ := hq
                        exact m_vret X hS (by omega) (by omega) d_Model_assemble_114 rfl ⟨_, _, hM, (by rw [hp_8 0 (by decide), hX0, ep_2, upd_mi _ _ _ (show 0 ≠ 4 by decide), ep_1, upd_mi _ _ _ (show 0 ≠ 3 by decide)]), by rw [hso 2 (by decide), hs_9 2 (by decide), hsf 2 (by decide), hX2]⟩
                    · exact absurd c10 (by decide)
                  · exact absurd c9 (by decide)
            · skip
              have c6q := Int32.not_le.mp c6
              refine lv_aload_n X.x X.b d_Model_assemble_85 rfl (lv_at hl 1 rfl) ?_
              refine lv_bipush (v := 6) X.x X.b d_Model_assemble_86 (by decide) ?_
              refine lv_aload_n X.x X.b d_Model_assemble_88 rfl (lv_at hl 1 rfl) ?_
              refine m_get (v := .ref (mo + 7)) X ok_Model hM.1 12 (by decide) k_Model_28 rfl d_Model_assemble_89 ?_
              refine lv_iload_n X.x X.b d_Model_assemble_92 rfl (lv_at hl 0 rfl) ?_
              refine m_ild (v := s_4 12 0) X hM.a12 0 rfl (by omega) (by decide) (show s_7 12 0 = s_4 12 0 from (by rw [hs_9 12 (by decide), hsf 12 (by decide)])) d_Model_assemble_93 ?_
              have hR := M_Model_stop l g hM 6 (s_4 12 0)
              refine m_callM X hS hR v_Model_135 hM.1 rfl rfl rfl (Nat.le_of_ble_eq_true rfl) hl.1 d_Model_assemble_94 (by omega) (by decide) ⟨by omega, by omega⟩ (fun q z => by have z : mo ≤ q ∧ q < mo + 23 := z; exact ⟨by omega, by omega⟩) (fun H locs hM hfr hS => ?_)
              obtain ⟨p_11, ep_11⟩ : ∃ z, z = upd p_6 3 6 := ⟨_, rfl⟩
              rw [← ep_11] at hM
              obtain ⟨p_12, ep_12⟩ : ∃ z, z = upd p_11 4 (s_4 12 0) := ⟨_, rfl⟩
              rw [← ep_12] at hM
              refine lv_iinc (v := 1) (lv' := [(1, .int 1), (0, .ref mo)]) X.x X.b d_Model_assemble_97 hl (k := 0) rfl (by decide) (by decide) rfl (fun ls hl => ?_)
              refine lv_goto (tgt := 43) X.x X.b d_Model_assemble_100 (by decide) ?_
              refine lv_iload_n X.x X.b d_Model_assemble_43 rfl (lv_at hl 0 rfl) ?_
              refine lv_aload_n X.x X.b d_Model_assemble_44 rfl (lv_at hl 1 rfl) ?_
              refine m_get (v := .int 2) X ok_Model hM.1 5 (by decide) k_Model_132 (congrArg (fun z => some (Value.int z)) (show p_12 5 = 2 from (by rw [ep_12, upd_mi _ _ _ (show 5 ≠ 4 by decide), ep_11, upd_mi _ _ _ (show 5 ≠ 3 by decide), hp_8 5 (by decide), hX5]))) d_Model_assemble_45 ?_
              refine lv_icmp_ge (tgt := 103) X.x X.b d_Model_assemble_48 (by decide) (fun c12 => ?_) (fun c12 => ?_)
              · exact absurd c12 (by decide)
              · skip
                have c12q := Int32.not_le.mp c12
                refine lv_aload_n X.x X.b d_Model_assemble_51 rfl (lv_at hl 1 rfl) ?_
                refine m_get (v := .int 6) X ok_Model hM.1 3 (by decide) k_Model_126 (congrArg (fun z => some (Value.int z)) (show p_12 3 = 6 from (by rw [ep_12, upd_mi _ _ _ (show 3 ≠ 4 by decide), ep_11, upd_hit]))) d_Model_assemble_52 ?_
                refine lv_if_ne (tgt := 103) X.x X.b d_Model_assemble_55 (by decide) (fun c13 => ?_) (fun c13 => ?_)
                · skip
                  refine lv_aload_n X.x X.b d_Model_assemble_103 rfl (lv_at hl 1 rfl) ?_
                  refine m_get (v := .int 6) X ok_Model hM.1 3 (by decide) k_Model_126 (congrArg (fun z => some (Value.int z)) (show p_12 3 = 6 from (by rw [ep_12, upd_mi _ _ _ (show 3 ≠ 4 by decide), ep_11, upd_hit]))) d_Model_assemble_104 ?_
                  refine lv_if_ne (tgt := 114) X.x X.b d_Model_assemble_107 (by decide) (fun c14 => ?_) (fun c14 => ?_)
                  · skip
                    exact m_vret X hS (by omega) (by omega) d_Model_assemble_114 rfl ⟨_, _, hM, (by rw [ep_12, upd_mi _ _ _ (show 0 ≠ 4 by decide), ep_11, upd_mi _ _ _ (show 0 ≠ 3 by decide), hp_8 0 (by decide), hX0, ep_2, upd_mi _ _ _ (show 0 ≠ 4 by decide), ep_1, upd_mi _ _ _ (show 0 ≠ 3 by decide)]), by rw [hs_9 2 (by decide), hsf 2 (by decide), hX2]⟩
                  · exact absurd c14 c13
                · exact absurd c13 (by decide)
    · exact absurd c2 (by decide)
set_option maxRecDepth 100000 in
set_option maxHeartbeats 4000000 in
theorem M_Model_assemble_L6 (l : Launch) (g : GG) {mo tq : Nat} {p0 : Nat → Int32} {s0 : Nat → Nat → Int32} {H0 : Heap} (hM : mAt g mo tq p0 s0 H0) {x y v_ r : Int32} (hL : oneL 6 x y v_ r s0) : MM l y_Model_assemble c_Model_assemble 2 none 6 4 262 g H0 [.ref mo] (fun q => mo ≤ q ∧ q < mo + 23) (none) (fun H1 => ∃ p s, mAt g mo tq p s H1 ∧ p 0 = p0 0 ∧ s 2 = s0 2) := by
  refine MM.of (by decide +kernel) (Nat.le_of_ble_eq_true rfl) ?_
  intro p e s m below meth cd X hH ls hl
  have X : CX g p s m _ meth cd c_Model_assemble 2 none R_Model _ := X
  have hl : lv_has ls 2 [(0, .ref mo)] := hl
  have hS : va_S (AA (fun q => mo ≤ q ∧ q < mo + 23) H0) H0 H0 [] := va_S.rf
  have hlt0 := hM.lt
  have htq0 := hM.tq
  refine lv_aload_n X.x X.b d_Model_assemble_0 rfl (lv_at hl 0 rfl) ?_
  refine lv_iconst (v := 0) X.x X.b d_Model_assemble_1 (by decide) ?_
  refine m_put X ok_Model hS (Or.inl ⟨by omega, by omega⟩) hM.1 3 (by decide) k_Model_126 rfl (ok_Model.2.2.1 _ (by decide)) rfl rfl (Nat.le_of_ble_eq_true rfl) d_Model_assemble_2 (fun H locs hp hcg hS => ?_)
  have hM := hM.f3 hp hcg
  obtain ⟨p_1, ep_1⟩ : ∃ z, z = upd p0 3 0 := ⟨_, rfl⟩
  rw [← ep_1] at hM
  refine lv_aload_n X.x X.b d_Model_assemble_5 rfl (lv_at hl 0 rfl) ?_
  refine lv_iconst (v := -1) X.x X.b d_Model_assemble_6 (by decide) ?_
  refine m_put X ok_Model hS (Or.inl ⟨by omega, by omega⟩) hM.1 4 (by decide) k_Model_129 rfl (ok_Model.2.2.1 _ (by decide)) rfl rfl (Nat.le_of_ble_eq_true rfl) d_Model_assemble_7 (fun H locs hp hcg hS => ?_)
  have hM := hM.f4 hp hcg
  obtain ⟨p_2, ep_2⟩ : ∃ z, z = upd p_1 4 (-1) := ⟨_, rfl⟩
  rw [← ep_2] at hM
  refine lv_aload_n X.x X.b d_Model_assemble_10 rfl (lv_at hl 0 rfl) ?_
  have hR := M_Model_expand_L6 l g hM  (show oneL 6 x y v_ r _ from hL) (by rw [ep_2, upd_mi _ _ _ (show 3 ≠ 4 by decide), ep_1, upd_hit])
  refine m_callV X hS hR v_Model_183 hM.1 rfl rfl rfl (Nat.le_of_ble_eq_true rfl) hl.1 d_Model_assemble_11 (by omega) (by decide) ⟨by omega, by omega⟩ (fun q z => z.elim (fun z => by have z : mo ≤ q ∧ q < mo + 23 := z; exact Or.inl ⟨by omega, by omega⟩) (fun z => Or.inr (Nat.le_trans hS.1 z))) (fun H locs hq hfr hS => ?_)
  obtain ⟨p_3, s_4, hM, hX0, hX2, ⟨hX3, hX5⟩, hX8, hX9, hX10, hX81, hX11, hX27⟩ := hq
  have hw : twoI 6 p_3 s_4 := ⟨⟨hX3, hX5⟩, hX8, hX81⟩
  refine lv_aload_n X.x X.b d_Model_assemble_14 rfl (lv_at hl 0 rfl) ?_
  refine m_get (v := .int 0) X ok_Model hM.1 3 (by decide) k_Model_126 (congrArg (fun z => some (Value.int z)) (show p_3 3 = 0 from (by rw [hX3]))) d_Model_assemble_15 ?_
  refine lv_if_ne (tgt := 25) X.x X.b d_Model_assemble_18 (by decide) (fun c1 => ?_) (fun c1 => ?_)
  · exact absurd c1 (by decide)
  · skip
    refine lv_aload_n X.x X.b d_Model_assemble_21 rfl (lv_at hl 0 rfl) ?_
    refine m_callP X hS (M_Model_refer_s6 l g hM hw) v_Model_186 hM.1 rfl rfl rfl (Nat.le_of_ble_eq_true rfl) hl.1 d_Model_assemble_22 (by omega) (by decide) ⟨by omega, by omega⟩ (fun locs hS => ?_)
    refine lv_aload_n X.x X.b d_Model_assemble_25 rfl (lv_at hl 0 rfl) ?_
    refine m_get (v := .int 0) X ok_Model hM.1 3 (by decide) k_Model_126 (congrArg (fun z => some (Value.int z)) (show p_3 3 = 0 from (by rw [hX3]))) d_Model_assemble_26 ?_
    refine lv_if_le (tgt := 33) X.x X.b d_Model_assemble_29 (by decide) (fun c2 => ?_) (fun c2 => ?_)
    · skip
      have c2q := Int32.not_lt.mpr c2
      refine lv_aload_n X.x X.b d_Model_assemble_33 rfl (lv_at hl 0 rfl) ?_
      have hR := M_Model_fillPools_L6 l g hM hw
      refine m_callM X hS hR v_Model_189 hM.1 rfl rfl rfl (Nat.le_of_ble_eq_true rfl) hl.1 d_Model_assemble_34 (by omega) (by decide) ⟨by omega, by omega⟩ (fun q z => by have z : mo ≤ q ∧ q < mo + 23 := z; exact ⟨by omega, by omega⟩) (fun H locs hq hfr hS => ?_)
      obtain ⟨s_5, hM, hsf⟩ := hq
      have hw := twoI.s hw (hsf 8 (by decide))
      refine lv_aload_n X.x X.b d_Model_assemble_37 rfl (lv_at hl 0 rfl) ?_
      have hR := M_Model_layOut_L6 l g hM hw
      refine m_callM X hS hR v_Model_192 hM.1 rfl rfl rfl (Nat.le_of_ble_eq_true rfl) hl.1 d_Model_assemble_38 (by omega) (by decide) ⟨by omega, by omega⟩ (fun q z => by have z : mo ≤ q ∧ q < mo + 23 := z; exact ⟨by omega, by omega⟩) (fun H locs hq hfr hS => ?_)
      obtain ⟨p_6, s_7, hM, hp_8, hs_9⟩ := hq
      have hw := twoI.ps hw (hp_8 3 (by decide)) (hp_8 5 (by decide)) (hs_9 8 (by decide))
      refine lv_iconst (v := 0) X.x X.b d_Model_assemble_41 (by decide) ?_
      refine lv_istore_n (lv' := [(1, .int 0), (0, .ref mo)]) X.x X.b d_Model_assemble_42 rfl hl (by decide) rfl (fun ls hl => ?_)
      refine lv_iload_n X.x X.b d_Model_assemble_43 rfl (lv_at hl 0 rfl) ?_
      refine lv_aload_n X.x X.b d_Model_assemble_44 rfl (lv_at hl 1 rfl) ?_
      refine m_get (v := .int 2) X ok_Model hM.1 5 (by decide) k_Model_132 (congrArg (fun z => some (Value.int z)) (show p_6 5 = 2 from (by rw [hp_8 5 (by decide), hX5]))) d_Model_assemble_45 ?_
      refine lv_icmp_ge (tgt := 103) X.x X.b d_Model_assemble_48 (by decide) (fun c3 => ?_) (fun c3 => ?_)
      · exact absurd c3 (by decide)
      · skip
        have c3q := Int32.not_le.mp c3
        refine lv_aload_n X.x X.b d_Model_assemble_51 rfl (lv_at hl 1 rfl) ?_
        refine m_get (v := .int 0) X ok_Model hM.1 3 (by decide) k_Model_126 (congrArg (fun z => some (Value.int z)) (show p_6 3 = 0 from (by rw [hp_8 3 (by decide), hX3]))) d_Model_assemble_52 ?_
        refine lv_if_ne (tgt := 103) X.x X.b d_Model_assemble_55 (by decide) (fun c4 => ?_) (fun c4 => ?_)
        · exact absurd c1 c4
        · skip
          refine lv_aload_n X.x X.b d_Model_assemble_58 rfl (lv_at hl 1 rfl) ?_
          refine m_get (v := .ref (mo + 3)) X ok_Model hM.1 8 (by decide) k_Model_16 rfl d_Model_assemble_59 ?_
          refine lv_iload_n X.x X.b d_Model_assemble_62 rfl (lv_at hl 0 rfl) ?_
          refine m_ild (v := 6) X hM.a8 0 rfl (by omega) (by decide) (show s_7 8 0 = 6 from (by rw [hs_9 8 (by decide), hsf 8 (by decide), hX8])) d_Model_assemble_63 ?_
          refine lv_iconst (v := 5) X.x X.b d_Model_assemble_64 (by decide) ?_
          refine lv_icmp_ne (tgt := 97) X.x X.b d_Model_assemble_65 (by decide) (fun c5 => ?_) (fun c5 => ?_)
          · skip
            refine lv_iinc (v := 1) (lv' := [(1, .int 1), (0, .ref mo)]) X.x X.b d_Model_assemble_97 hl (k := 0) rfl (by decide) (by decide) rfl (fun ls hl => ?_)
            refine lv_goto (tgt := 43) X.x X.b d_Model_assemble_100 (by decide) ?_
            refine lv_iload_n X.x X.b d_Model_assemble_43 rfl (lv_at hl 0 rfl) ?_
            refine lv_aload_n X.x X.b d_Model_assemble_44 rfl (lv_at hl 1 rfl) ?_
            refine m_get (v := .int 2) X ok_Model hM.1 5 (by decide) k_Model_132 (congrArg (fun z => some (Value.int z)) (show p_6 5 = 2 from (by rw [hp_8 5 (by decide), hX5]))) d_Model_assemble_45 ?_
            refine lv_icmp_ge (tgt := 103) X.x X.b d_Model_assemble_48 (by decide) (fun c6 => ?_) (fun c6 => ?_)
            · exact absurd c6 (by decide)
            · skip
              have c6q := Int32.not_le.mp c6
              refine lv_aload_n X.x X.b d_Model_assemble_51 rfl (lv_at hl 1 rfl) ?_
              refine m_get (v := .int 0) X ok_Model hM.1 3 (by decide) k_Model_126 (congrArg (fun z => some (Value.int z)) (show p_6 3 = 0 from (by rw [hp_8 3 (by decide), hX3]))) d_Model_assemble_52 ?_
              refine lv_if_ne (tgt := 103) X.x X.b d_Model_assemble_55 (by decide) (fun c7 => ?_) (fun c7 => ?_)
              · exact absurd c4 c7
              · skip
                refine lv_aload_n X.x X.b d_Model_assemble_58 rfl (lv_at hl 1 rfl) ?_
                refine m_get (v := .ref (mo + 3)) X ok_Model hM.1 8 (by decide) k_Model_16 rfl d_Model_assemble_59 ?_
                refine lv_iload_n X.x X.b d_Model_assemble_62 rfl (lv_at hl 0 rfl) ?_
                refine m_ild (v := 6) X hM.a8 1 rfl (by omega) (by decide) (show s_7 8 1 = 6 from (by rw [hs_9 8 (by decide), hsf 8 (by decide), hX81])) d_Model_assemble_63 ?_
                refine lv_iconst (v := 5) X.x X.b d_Model_assemble_64 (by decide) ?_
                refine lv_icmp_ne (tgt := 97) X.x X.b d_Model_assemble_65 (by decide) (fun c8 => ?_) (fun c8 => ?_)
                · skip
                  refine lv_iinc (v := 2) (lv' := [(1, .int 2), (0, .ref mo)]) X.x X.b d_Model_assemble_97 hl (k := 0) rfl (by decide) (by decide) rfl (fun ls hl => ?_)
                  refine lv_goto (tgt := 43) X.x X.b d_Model_assemble_100 (by decide) ?_
                  refine lv_iload_n X.x X.b d_Model_assemble_43 rfl (lv_at hl 0 rfl) ?_
                  refine lv_aload_n X.x X.b d_Model_assemble_44 rfl (lv_at hl 1 rfl) ?_
                  refine m_get (v := .int 2) X ok_Model hM.1 5 (by decide) k_Model_132 (congrArg (fun z => some (Value.int z)) (show p_6 5 = 2 from (by rw [hp_8 5 (by decide), hX5]))) d_Model_assemble_45 ?_
                  refine lv_icmp_ge (tgt := 103) X.x X.b d_Model_assemble_48 (by decide) (fun c9 => ?_) (fun c9 => ?_)
                  · skip
                    have c9q := Int32.not_lt.mpr c9
                    refine lv_aload_n X.x X.b d_Model_assemble_103 rfl (lv_at hl 1 rfl) ?_
                    refine m_get (v := .int 0) X ok_Model hM.1 3 (by decide) k_Model_126 (congrArg (fun z => some (Value.int z)) (show p_6 3 = 0 from (by rw [hp_8 3 (by decide), hX3]))) d_Model_assemble_104 ?_
                    refine lv_if_ne (tgt := 114) X.x X.b d_Model_assemble_107 (by decide) (fun c10 => ?_) (fun c10 => ?_)
                    · exact absurd c7 c10
                    · skip
                      refine lv_aload_n X.x X.b d_Model_assemble_110 rfl (lv_at hl 1 rfl) ?_
                      have hR := M_Model_follow_L6 l g hM hw
                      refine m_callV X hS hR v_Model_198 hM.1 rfl rfl rfl (Nat.le_of_ble_eq_true rfl) hl.1 d_Model_assemble_111 (by omega) (by decide) ⟨by omega, by omega⟩ (fun q z => z.elim (fun z => by have z : mo ≤ q ∧ q < mo + 23 := z; exact Or.inl ⟨by omega, by omega⟩) (fun z => Or.inr (Nat.le_trans hS.1 z))) (fun H locs hq hfr hS => ?_)
                      obtain ⟨s_10, hM, hso⟩ := hq
                      exact m_vret X hS (by omega) (by omega) d_Model_assemble_114 rfl ⟨_, _, hM, (by rw [hp_8 0 (by decide), hX0, ep_2, upd_mi _ _ _ (show 0 ≠ 4 by decide), ep_1, upd_mi _ _ _ (show 0 ≠ 3 by decide)]), by rw [hso 2 (by decide), hs_9 2 (by decide), hsf 2 (by decide), hX2]⟩
                  · exact absurd c9 (by decide)
                · exact absurd c8 c5
          · exact absurd c5 (by decide)
    · exact absurd c2 (by decide)
set_option maxRecDepth 100000 in
set_option maxHeartbeats 4000000 in
theorem M_Model_assemble_L7 (l : Launch) (g : GG) {mo tq : Nat} {p0 : Nat → Int32} {s0 : Nat → Nat → Int32} {H0 : Heap} (hM : mAt g mo tq p0 s0 H0) {x y v_ r : Int32} (hL : oneL 7 x y v_ r s0) (hv7 : ¬ v_ = 0) : MM l y_Model_assemble c_Model_assemble 2 none 6 4 262 g H0 [.ref mo] (fun q => mo ≤ q ∧ q < mo + 23) (none) (fun H1 => ∃ p s, mAt g mo tq p s H1 ∧ p 0 = p0 0 ∧ s 2 = s0 2) := by
  refine MM.of (by decide +kernel) (Nat.le_of_ble_eq_true rfl) ?_
  intro p e s m below meth cd X hH ls hl
  have X : CX g p s m _ meth cd c_Model_assemble 2 none R_Model _ := X
  have hl : lv_has ls 2 [(0, .ref mo)] := hl
  have hS : va_S (AA (fun q => mo ≤ q ∧ q < mo + 23) H0) H0 H0 [] := va_S.rf
  have hlt0 := hM.lt
  have htq0 := hM.tq
  refine lv_aload_n X.x X.b d_Model_assemble_0 rfl (lv_at hl 0 rfl) ?_
  refine lv_iconst (v := 0) X.x X.b d_Model_assemble_1 (by decide) ?_
  refine m_put X ok_Model hS (Or.inl ⟨by omega, by omega⟩) hM.1 3 (by decide) k_Model_126 rfl (ok_Model.2.2.1 _ (by decide)) rfl rfl (Nat.le_of_ble_eq_true rfl) d_Model_assemble_2 (fun H locs hp hcg hS => ?_)
  have hM := hM.f3 hp hcg
  obtain ⟨p_1, ep_1⟩ : ∃ z, z = upd p0 3 0 := ⟨_, rfl⟩
  rw [← ep_1] at hM
  refine lv_aload_n X.x X.b d_Model_assemble_5 rfl (lv_at hl 0 rfl) ?_
  refine lv_iconst (v := -1) X.x X.b d_Model_assemble_6 (by decide) ?_
  refine m_put X ok_Model hS (Or.inl ⟨by omega, by omega⟩) hM.1 4 (by decide) k_Model_129 rfl (ok_Model.2.2.1 _ (by decide)) rfl rfl (Nat.le_of_ble_eq_true rfl) d_Model_assemble_7 (fun H locs hp hcg hS => ?_)
  have hM := hM.f4 hp hcg
  obtain ⟨p_2, ep_2⟩ : ∃ z, z = upd p_1 4 (-1) := ⟨_, rfl⟩
  rw [← ep_2] at hM
  refine lv_aload_n X.x X.b d_Model_assemble_10 rfl (lv_at hl 0 rfl) ?_
  have hR := M_Model_expand_L7 l g hM  (show oneL 7 x y v_ r _ from hL) (by rw [ep_2, upd_mi _ _ _ (show 3 ≠ 4 by decide), ep_1, upd_hit])
  refine m_callV X hS hR v_Model_183 hM.1 rfl rfl rfl (Nat.le_of_ble_eq_true rfl) hl.1 d_Model_assemble_11 (by omega) (by decide) ⟨by omega, by omega⟩ (fun q z => z.elim (fun z => by have z : mo ≤ q ∧ q < mo + 23 := z; exact Or.inl ⟨by omega, by omega⟩) (fun z => Or.inr (Nat.le_trans hS.1 z))) (fun H locs hq hfr hS => ?_)
  obtain ⟨p_3, s_4, hM, hX0, hX2, ⟨hX3, hX5⟩, hX8, hX9, hX10, hX81, hX11, hX27⟩ := hq
  have hw : twoI 7 p_3 s_4 := ⟨⟨hX3, hX5⟩, hX8, hX81⟩
  refine lv_aload_n X.x X.b d_Model_assemble_14 rfl (lv_at hl 0 rfl) ?_
  refine m_get (v := .int 0) X ok_Model hM.1 3 (by decide) k_Model_126 (congrArg (fun z => some (Value.int z)) (show p_3 3 = 0 from (by rw [hX3]))) d_Model_assemble_15 ?_
  refine lv_if_ne (tgt := 25) X.x X.b d_Model_assemble_18 (by decide) (fun c1 => ?_) (fun c1 => ?_)
  · exact absurd c1 (by decide)
  · skip
    refine lv_aload_n X.x X.b d_Model_assemble_21 rfl (lv_at hl 0 rfl) ?_
    refine m_callP X hS (M_Model_refer_s7 l g hM hw) v_Model_186 hM.1 rfl rfl rfl (Nat.le_of_ble_eq_true rfl) hl.1 d_Model_assemble_22 (by omega) (by decide) ⟨by omega, by omega⟩ (fun locs hS => ?_)
    refine lv_aload_n X.x X.b d_Model_assemble_25 rfl (lv_at hl 0 rfl) ?_
    refine m_get (v := .int 0) X ok_Model hM.1 3 (by decide) k_Model_126 (congrArg (fun z => some (Value.int z)) (show p_3 3 = 0 from (by rw [hX3]))) d_Model_assemble_26 ?_
    refine lv_if_le (tgt := 33) X.x X.b d_Model_assemble_29 (by decide) (fun c2 => ?_) (fun c2 => ?_)
    · skip
      have c2q := Int32.not_lt.mpr c2
      refine lv_aload_n X.x X.b d_Model_assemble_33 rfl (lv_at hl 0 rfl) ?_
      have hR := M_Model_fillPools_L7 l g hM hw
      refine m_callM X hS hR v_Model_189 hM.1 rfl rfl rfl (Nat.le_of_ble_eq_true rfl) hl.1 d_Model_assemble_34 (by omega) (by decide) ⟨by omega, by omega⟩ (fun q z => by have z : mo ≤ q ∧ q < mo + 23 := z; exact ⟨by omega, by omega⟩) (fun H locs hq hfr hS => ?_)
      obtain ⟨s_5, hM, hsf⟩ := hq
      have hw := twoI.s hw (hsf 8 (by decide))
      refine lv_aload_n X.x X.b d_Model_assemble_37 rfl (lv_at hl 0 rfl) ?_
      have hR := M_Model_layOut_L7 l g hM hw (by rw [show s_5 11 0 = v_ from (by rw [hsf 11 (by decide), hX11])]; exact hv7)
      refine m_callM X hS hR v_Model_192 hM.1 rfl rfl rfl (Nat.le_of_ble_eq_true rfl) hl.1 d_Model_assemble_38 (by omega) (by decide) ⟨by omega, by omega⟩ (fun q z => by have z : mo ≤ q ∧ q < mo + 23 := z; exact ⟨by omega, by omega⟩) (fun H locs hq hfr hS => ?_)
      obtain ⟨p_6, s_7, hM, hp_8, hs_9⟩ := hq
      have hw := twoI.ps hw (hp_8 3 (by decide)) (hp_8 5 (by decide)) (hs_9 8 (by decide))
      refine lv_iconst (v := 0) X.x X.b d_Model_assemble_41 (by decide) ?_
      refine lv_istore_n (lv' := [(1, .int 0), (0, .ref mo)]) X.x X.b d_Model_assemble_42 rfl hl (by decide) rfl (fun ls hl => ?_)
      refine lv_iload_n X.x X.b d_Model_assemble_43 rfl (lv_at hl 0 rfl) ?_
      refine lv_aload_n X.x X.b d_Model_assemble_44 rfl (lv_at hl 1 rfl) ?_
      refine m_get (v := .int 2) X ok_Model hM.1 5 (by decide) k_Model_132 (congrArg (fun z => some (Value.int z)) (show p_6 5 = 2 from (by rw [hp_8 5 (by decide), hX5]))) d_Model_assemble_45 ?_
      refine lv_icmp_ge (tgt := 103) X.x X.b d_Model_assemble_48 (by decide) (fun c3 => ?_) (fun c3 => ?_)
      · exact absurd c3 (by decide)
      · skip
        have c3q := Int32.not_le.mp c3
        refine lv_aload_n X.x X.b d_Model_assemble_51 rfl (lv_at hl 1 rfl) ?_
        refine m_get (v := .int 0) X ok_Model hM.1 3 (by decide) k_Model_126 (congrArg (fun z => some (Value.int z)) (show p_6 3 = 0 from (by rw [hp_8 3 (by decide), hX3]))) d_Model_assemble_52 ?_
        refine lv_if_ne (tgt := 103) X.x X.b d_Model_assemble_55 (by decide) (fun c4 => ?_) (fun c4 => ?_)
        · exact absurd c1 c4
        · skip
          refine lv_aload_n X.x X.b d_Model_assemble_58 rfl (lv_at hl 1 rfl) ?_
          refine m_get (v := .ref (mo + 3)) X ok_Model hM.1 8 (by decide) k_Model_16 rfl d_Model_assemble_59 ?_
          refine lv_iload_n X.x X.b d_Model_assemble_62 rfl (lv_at hl 0 rfl) ?_
          refine m_ild (v := 7) X hM.a8 0 rfl (by omega) (by decide) (show s_7 8 0 = 7 from (by rw [hs_9 8 (by decide), hsf 8 (by decide), hX8])) d_Model_assemble_63 ?_
          refine lv_iconst (v := 5) X.x X.b d_Model_assemble_64 (by decide) ?_
          refine lv_icmp_ne (tgt := 97) X.x X.b d_Model_assemble_65 (by decide) (fun c5 => ?_) (fun c5 => ?_)
          · skip
            refine lv_iinc (v := 1) (lv' := [(1, .int 1), (0, .ref mo)]) X.x X.b d_Model_assemble_97 hl (k := 0) rfl (by decide) (by decide) rfl (fun ls hl => ?_)
            refine lv_goto (tgt := 43) X.x X.b d_Model_assemble_100 (by decide) ?_
            refine lv_iload_n X.x X.b d_Model_assemble_43 rfl (lv_at hl 0 rfl) ?_
            refine lv_aload_n X.x X.b d_Model_assemble_44 rfl (lv_at hl 1 rfl) ?_
            refine m_get (v := .int 2) X ok_Model hM.1 5 (by decide) k_Model_132 (congrArg (fun z => some (Value.int z)) (show p_6 5 = 2 from (by rw [hp_8 5 (by decide), hX5]))) d_Model_assemble_45 ?_
            refine lv_icmp_ge (tgt := 103) X.x X.b d_Model_assemble_48 (by decide) (fun c6 => ?_) (fun c6 => ?_)
            · exact absurd c6 (by decide)
            · skip
              have c6q := Int32.not_le.mp c6
              refine lv_aload_n X.x X.b d_Model_assemble_51 rfl (lv_at hl 1 rfl) ?_
              refine m_get (v := .int 0) X ok_Model hM.1 3 (by decide) k_Model_126 (congrArg (fun z => some (Value.int z)) (show p_6 3 = 0 from (by rw [hp_8 3 (by decide), hX3]))) d_Model_assemble_52 ?_
              refine lv_if_ne (tgt := 103) X.x X.b d_Model_assemble_55 (by decide) (fun c7 => ?_) (fun c7 => ?_)
              · exact absurd c4 c7
              · skip
                refine lv_aload_n X.x X.b d_Model_assemble_58 rfl (lv_at hl 1 rfl) ?_
                refine m_get (v := .ref (mo + 3)) X ok_Model hM.1 8 (by decide) k_Model_16 rfl d_Model_assemble_59 ?_
                refine lv_iload_n X.x X.b d_Model_assemble_62 rfl (lv_at hl 0 rfl) ?_
                refine m_ild (v := 6) X hM.a8 1 rfl (by omega) (by decide) (show s_7 8 1 = 6 from (by rw [hs_9 8 (by decide), hsf 8 (by decide), hX81])) d_Model_assemble_63 ?_
                refine lv_iconst (v := 5) X.x X.b d_Model_assemble_64 (by decide) ?_
                refine lv_icmp_ne (tgt := 97) X.x X.b d_Model_assemble_65 (by decide) (fun c8 => ?_) (fun c8 => ?_)
                · skip
                  refine lv_iinc (v := 2) (lv' := [(1, .int 2), (0, .ref mo)]) X.x X.b d_Model_assemble_97 hl (k := 0) rfl (by decide) (by decide) rfl (fun ls hl => ?_)
                  refine lv_goto (tgt := 43) X.x X.b d_Model_assemble_100 (by decide) ?_
                  refine lv_iload_n X.x X.b d_Model_assemble_43 rfl (lv_at hl 0 rfl) ?_
                  refine lv_aload_n X.x X.b d_Model_assemble_44 rfl (lv_at hl 1 rfl) ?_
                  refine m_get (v := .int 2) X ok_Model hM.1 5 (by decide) k_Model_132 (congrArg (fun z => some (Value.int z)) (show p_6 5 = 2 from (by rw [hp_8 5 (by decide), hX5]))) d_Model_assemble_45 ?_
                  refine lv_icmp_ge (tgt := 103) X.x X.b d_Model_assemble_48 (by decide) (fun c9 => ?_) (fun c9 => ?_)
                  · skip
                    have c9q := Int32.not_lt.mpr c9
                    refine lv_aload_n X.x X.b d_Model_assemble_103 rfl (lv_at hl 1 rfl) ?_
                    refine m_get (v := .int 0) X ok_Model hM.1 3 (by decide) k_Model_126 (congrArg (fun z => some (Value.int z)) (show p_6 3 = 0 from (by rw [hp_8 3 (by decide), hX3]))) d_Model_assemble_104 ?_
                    refine lv_if_ne (tgt := 114) X.x X.b d_Model_assemble_107 (by decide) (fun c10 => ?_) (fun c10 => ?_)
                    · exact absurd c7 c10
                    · skip
                      refine lv_aload_n X.x X.b d_Model_assemble_110 rfl (lv_at hl 1 rfl) ?_
                      have hR := M_Model_follow_L7 l g hM hw
                      refine m_callV X hS hR v_Model_198 hM.1 rfl rfl rfl (Nat.le_of_ble_eq_true rfl) hl.1 d_Model_assemble_111 (by omega) (by decide) ⟨by omega, by omega⟩ (fun q z => z.elim (fun z => by have z : mo ≤ q ∧ q < mo + 23 := z; exact Or.inl ⟨by omega, by omega⟩) (fun z => Or.inr (Nat.le_trans hS.1 z))) (fun H locs hq hfr hS => ?_)
                      obtain ⟨s_10, hM, hso⟩ := hq
                      exact m_vret X hS (by omega) (by omega) d_Model_assemble_114 rfl ⟨_, _, hM, (by rw [hp_8 0 (by decide), hX0, ep_2, upd_mi _ _ _ (show 0 ≠ 4 by decide), ep_1, upd_mi _ _ _ (show 0 ≠ 3 by decide)]), by rw [hso 2 (by decide), hs_9 2 (by decide), hsf 2 (by decide), hX2]⟩
                  · exact absurd c9 (by decide)
                · exact absurd c8 (by decide)
          · exact absurd c5 (by decide)
    · exact absurd c2 (by decide)
set_option maxRecDepth 100000 in
set_option maxHeartbeats 4000000 in
theorem M_Model_assemble_L9 (l : Launch) (g : GG) {mo tq : Nat} {p0 : Nat → Int32} {s0 : Nat → Nat → Int32} {H0 : Heap} (hM : mAt g mo tq p0 s0 H0) {x y v_ r : Int32} (hL : oneL 9 x y v_ r s0) : MM l y_Model_assemble c_Model_assemble 2 none 6 4 262 g H0 [.ref mo] (fun q => mo ≤ q ∧ q < mo + 23) (none) (fun H1 => ∃ p s, mAt g mo tq p s H1 ∧ p 0 = p0 0 ∧ s 2 = s0 2) := by
  refine MM.of (by decide +kernel) (Nat.le_of_ble_eq_true rfl) ?_
  intro p e s m below meth cd X hH ls hl
  have X : CX g p s m _ meth cd c_Model_assemble 2 none R_Model _ := X
  have hl : lv_has ls 2 [(0, .ref mo)] := hl
  have hS : va_S (AA (fun q => mo ≤ q ∧ q < mo + 23) H0) H0 H0 [] := va_S.rf
  have hlt0 := hM.lt
  have htq0 := hM.tq
  refine lv_aload_n X.x X.b d_Model_assemble_0 rfl (lv_at hl 0 rfl) ?_
  refine lv_iconst (v := 0) X.x X.b d_Model_assemble_1 (by decide) ?_
  refine m_put X ok_Model hS (Or.inl ⟨by omega, by omega⟩) hM.1 3 (by decide) k_Model_126 rfl (ok_Model.2.2.1 _ (by decide)) rfl rfl (Nat.le_of_ble_eq_true rfl) d_Model_assemble_2 (fun H locs hp hcg hS => ?_)
  have hM := hM.f3 hp hcg
  obtain ⟨p_1, ep_1⟩ : ∃ z, z = upd p0 3 0 := ⟨_, rfl⟩
  rw [← ep_1] at hM
  refine lv_aload_n X.x X.b d_Model_assemble_5 rfl (lv_at hl 0 rfl) ?_
  refine lv_iconst (v := -1) X.x X.b d_Model_assemble_6 (by decide) ?_
  refine m_put X ok_Model hS (Or.inl ⟨by omega, by omega⟩) hM.1 4 (by decide) k_Model_129 rfl (ok_Model.2.2.1 _ (by decide)) rfl rfl (Nat.le_of_ble_eq_true rfl) d_Model_assemble_7 (fun H locs hp hcg hS => ?_)
  have hM := hM.f4 hp hcg
  obtain ⟨p_2, ep_2⟩ : ∃ z, z = upd p_1 4 (-1) := ⟨_, rfl⟩
  rw [← ep_2] at hM
  refine lv_aload_n X.x X.b d_Model_assemble_10 rfl (lv_at hl 0 rfl) ?_
  have hR := M_Model_expand_L9 l g hM  (show oneL 9 x y v_ r _ from hL) (by rw [ep_2, upd_mi _ _ _ (show 3 ≠ 4 by decide), ep_1, upd_hit])
  refine m_callV X hS hR v_Model_183 hM.1 rfl rfl rfl (Nat.le_of_ble_eq_true rfl) hl.1 d_Model_assemble_11 (by omega) (by decide) ⟨by omega, by omega⟩ (fun q z => z.elim (fun z => by have z : mo ≤ q ∧ q < mo + 23 := z; exact Or.inl ⟨by omega, by omega⟩) (fun z => Or.inr (Nat.le_trans hS.1 z))) (fun H locs hq hfr hS => ?_)
  obtain ⟨p_3, s_4, hM, hX0, hX2, hx⟩ := hq
  have hx9 := hx
  obtain ⟨⟨hX3, hX5⟩, hXk, hX8⟩ := hx9
  have hX5 : p_3 5 = 1 := hX5
  refine lv_aload_n X.x X.b d_Model_assemble_14 rfl (lv_at hl 0 rfl) ?_
  refine m_get (v := .int 0) X ok_Model hM.1 3 (by decide) k_Model_126 (congrArg (fun z => some (Value.int z)) (show p_3 3 = 0 from (by rw [hX3]))) d_Model_assemble_15 ?_
  refine lv_if_ne (tgt := 25) X.x X.b d_Model_assemble_18 (by decide) (fun c1 => ?_) (fun c1 => ?_)
  · exact absurd c1 (by decide)
  · skip
    refine lv_aload_n X.x X.b d_Model_assemble_21 rfl (lv_at hl 0 rfl) ?_
    have hR := M_Model_refer_D (c := 0) l g hM (by omega) hx
    refine m_callM X hS hR v_Model_186 hM.1 rfl rfl rfl (Nat.le_of_ble_eq_true rfl) hl.1 d_Model_assemble_22 (by omega) (by decide) ⟨by omega, by omega⟩ (fun q z => by have z : mo ≤ q ∧ q < mo + 23 := z; exact ⟨by omega, by omega⟩) (fun H locs hq hfr hS => ?_)
    obtain ⟨s_5, hM, hsr⟩ := hq
    have hx := dxP.s hx (hsr 8 (by decide)) (hsr 9 (by decide)) (hsr 10 (by decide))
    refine lv_aload_n X.x X.b d_Model_assemble_25 rfl (lv_at hl 0 rfl) ?_
    refine m_get (v := .int 0) X ok_Model hM.1 3 (by decide) k_Model_126 (congrArg (fun z => some (Value.int z)) (show p_3 3 = 0 from (by rw [hX3]))) d_Model_assemble_26 ?_
    refine lv_if_le (tgt := 33) X.x X.b d_Model_assemble_29 (by decide) (fun c2 => ?_) (fun c2 => ?_)
    · skip
      have c2q := Int32.not_lt.mpr c2
      refine lv_aload_n X.x X.b d_Model_assemble_33 rfl (lv_at hl 0 rfl) ?_
      have hR := M_Model_fillPools_D (c := 0) l g hM (by omega) hx
      refine m_callM X hS hR v_Model_189 hM.1 rfl rfl rfl (Nat.le_of_ble_eq_true rfl) hl.1 d_Model_assemble_34 (by omega) (by decide) ⟨by omega, by omega⟩ (fun q z => by have z : mo ≤ q ∧ q < mo + 23 := z; exact ⟨by omega, by omega⟩) (fun H locs hq hfr hS => ?_)
      obtain ⟨s_6, hM, hsf, hP15⟩ := hq
      have hx := dxP.s hx (hsf 8 (by decide)) (hsf 9 (by decide)) (hsf 10 (by decide))
      refine lv_aload_n X.x X.b d_Model_assemble_37 rfl (lv_at hl 0 rfl) ?_
      have hR := M_Model_layOut_F l g hM (by rw [hX5]) (by rw [hsf 8 (by decide), hsr 8 (by decide), hX8]) (by rw [hP15])
      refine m_callM X hS hR v_Model_192 hM.1 rfl rfl rfl (Nat.le_of_ble_eq_true rfl) hl.1 d_Model_assemble_38 (by omega) (by decide) ⟨by omega, by omega⟩ (fun q z => by have z : mo ≤ q ∧ q < mo + 23 := z; exact ⟨by omega, by omega⟩) (fun H locs hq hfr hS => ?_)
      obtain ⟨p_7, s_8, hM, hp_9, hs_10, hF6, hF7, hF14, hF141, hF15, hF23⟩ := hq
      have hx := dxP.ps hx (hp_9 3 (by decide)) (hp_9 5 (by decide)) (hs_10 8 (by decide)) (hs_10 9 (by decide)) (hs_10 10 (by decide))
      refine lv_iconst (v := 0) X.x X.b d_Model_assemble_41 (by decide) ?_
      refine lv_istore_n (lv' := [(1, .int 0), (0, .ref mo)]) X.x X.b d_Model_assemble_42 rfl hl (by decide) rfl (fun ls hl => ?_)
      refine lv_iload_n X.x X.b d_Model_assemble_43 rfl (lv_at hl 0 rfl) ?_
      refine lv_aload_n X.x X.b d_Model_assemble_44 rfl (lv_at hl 1 rfl) ?_
      refine m_get (v := .int 1) X ok_Model hM.1 5 (by decide) k_Model_132 (congrArg (fun z => some (Value.int z)) (show p_7 5 = 1 from (by rw [hp_9 5 (by decide), hX5]))) d_Model_assemble_45 ?_
      refine lv_icmp_ge (tgt := 103) X.x X.b d_Model_assemble_48 (by decide) (fun c3 => ?_) (fun c3 => ?_)
      · exact absurd c3 (by decide)
      · skip
        have c3q := Int32.not_le.mp c3
        refine lv_aload_n X.x X.b d_Model_assemble_51 rfl (lv_at hl 1 rfl) ?_
        refine m_get (v := .int 0) X ok_Model hM.1 3 (by decide) k_Model_126 (congrArg (fun z => some (Value.int z)) (show p_7 3 = 0 from (by rw [hp_9 3 (by decide), hX3]))) d_Model_assemble_52 ?_
        refine lv_if_ne (tgt := 103) X.x X.b d_Model_assemble_55 (by decide) (fun c4 => ?_) (fun c4 => ?_)
        · exact absurd c1 c4
        · skip
          refine lv_aload_n X.x X.b d_Model_assemble_58 rfl (lv_at hl 1 rfl) ?_
          refine m_get (v := .ref (mo + 3)) X ok_Model hM.1 8 (by decide) k_Model_16 rfl d_Model_assemble_59 ?_
          refine lv_iload_n X.x X.b d_Model_assemble_62 rfl (lv_at hl 0 rfl) ?_
          refine m_ild (v := 6) X hM.a8 0 rfl (by omega) (by decide) (show s_8 8 0 = 6 from (by rw [hs_10 8 (by decide), hsf 8 (by decide), hsr 8 (by decide), hX8])) d_Model_assemble_63 ?_
          refine lv_iconst (v := 5) X.x X.b d_Model_assemble_64 (by decide) ?_
          refine lv_icmp_ne (tgt := 97) X.x X.b d_Model_assemble_65 (by decide) (fun c5 => ?_) (fun c5 => ?_)
          · skip
            refine lv_iinc (v := 1) (lv' := [(1, .int 1), (0, .ref mo)]) X.x X.b d_Model_assemble_97 hl (k := 0) rfl (by decide) (by decide) rfl (fun ls hl => ?_)
            refine lv_goto (tgt := 43) X.x X.b d_Model_assemble_100 (by decide) ?_
            refine lv_iload_n X.x X.b d_Model_assemble_43 rfl (lv_at hl 0 rfl) ?_
            refine lv_aload_n X.x X.b d_Model_assemble_44 rfl (lv_at hl 1 rfl) ?_
            refine m_get (v := .int 1) X ok_Model hM.1 5 (by decide) k_Model_132 (congrArg (fun z => some (Value.int z)) (show p_7 5 = 1 from (by rw [hp_9 5 (by decide), hX5]))) d_Model_assemble_45 ?_
            refine lv_icmp_ge (tgt := 103) X.x X.b d_Model_assemble_48 (by decide) (fun c6 => ?_) (fun c6 => ?_)
            · skip
              have c6q := Int32.not_lt.mpr c6
              refine lv_aload_n X.x X.b d_Model_assemble_103 rfl (lv_at hl 1 rfl) ?_
              refine m_get (v := .int 0) X ok_Model hM.1 3 (by decide) k_Model_126 (congrArg (fun z => some (Value.int z)) (show p_7 3 = 0 from (by rw [hp_9 3 (by decide), hX3]))) d_Model_assemble_104 ?_
              refine lv_if_ne (tgt := 114) X.x X.b d_Model_assemble_107 (by decide) (fun c7 => ?_) (fun c7 => ?_)
              · exact absurd c4 c7
              · skip
                refine lv_aload_n X.x X.b d_Model_assemble_110 rfl (lv_at hl 1 rfl) ?_
                have hR := M_Model_follow_F l g hM (by rw [hp_9 5 (by decide), hX5]) (by rw [hs_10 8 (by decide), hsf 8 (by decide), hsr 8 (by decide), hX8]) (by rw [hF15])
                refine m_callV X hS hR v_Model_198 hM.1 rfl rfl rfl (Nat.le_of_ble_eq_true rfl) hl.1 d_Model_assemble_111 (by omega) (by decide) ⟨by omega, by omega⟩ (fun q z => z.elim (fun z => by have z : mo ≤ q ∧ q < mo + 23 := z; exact Or.inl ⟨by omega, by omega⟩) (fun z => Or.inr (Nat.le_trans hS.1 z))) (fun H locs hq hfr hS => ?_)
                obtain ⟨s_11, hM, hso, hF24⟩ := hq
                exact m_vret X hS (by omega) (by omega) d_Model_assemble_114 rfl ⟨_, _, hM, (by rw [hp_9 0 (by decide), hX0, ep_2, upd_mi _ _ _ (show 0 ≠ 4 by decide), ep_1, upd_mi _ _ _ (show 0 ≠ 3 by decide)]), by rw [hso 2 (by decide), hs_10 2 (by decide), hsf 2 (by decide), hsr 2 (by decide), hX2]⟩
            · exact absurd c6 (by decide)
          · exact absurd c5 (by decide)
    · exact absurd c2 (by decide)
set_option maxRecDepth 100000 in
set_option maxHeartbeats 4000000 in
theorem M_Model_assemble_L10 (l : Launch) (g : GG) {mo tq : Nat} {p0 : Nat → Int32} {s0 : Nat → Nat → Int32} {H0 : Heap} (hM : mAt g mo tq p0 s0 H0) {y v_ r : Int32} {j : Nat} (hj1 : 1 ≤ j) (hj : j ≤ 4) (hL : oneL 10 (nI j) y v_ r s0) : MM l y_Model_assemble c_Model_assemble 2 none 6 4 262 g H0 [.ref mo] (fun q => mo ≤ q ∧ q < mo + 23) (none) (fun H1 => ∃ p s, mAt g mo tq p s H1 ∧ p 0 = p0 0 ∧ s 2 = s0 2) := by
  refine MM.of (by decide +kernel) (Nat.le_of_ble_eq_true rfl) ?_
  intro p e s m below meth cd X hH ls hl
  have X : CX g p s m _ meth cd c_Model_assemble 2 none R_Model _ := X
  have hl : lv_has ls 2 [(0, .ref mo)] := hl
  have hS : va_S (AA (fun q => mo ≤ q ∧ q < mo + 23) H0) H0 H0 [] := va_S.rf
  have hlt0 := hM.lt
  have htq0 := hM.tq
  refine lv_aload_n X.x X.b d_Model_assemble_0 rfl (lv_at hl 0 rfl) ?_
  refine lv_iconst (v := 0) X.x X.b d_Model_assemble_1 (by decide) ?_
  refine m_put X ok_Model hS (Or.inl ⟨by omega, by omega⟩) hM.1 3 (by decide) k_Model_126 rfl (ok_Model.2.2.1 _ (by decide)) rfl rfl (Nat.le_of_ble_eq_true rfl) d_Model_assemble_2 (fun H locs hp hcg hS => ?_)
  have hM := hM.f3 hp hcg
  obtain ⟨p_1, ep_1⟩ : ∃ z, z = upd p0 3 0 := ⟨_, rfl⟩
  rw [← ep_1] at hM
  refine lv_aload_n X.x X.b d_Model_assemble_5 rfl (lv_at hl 0 rfl) ?_
  refine lv_iconst (v := -1) X.x X.b d_Model_assemble_6 (by decide) ?_
  refine m_put X ok_Model hS (Or.inl ⟨by omega, by omega⟩) hM.1 4 (by decide) k_Model_129 rfl (ok_Model.2.2.1 _ (by decide)) rfl rfl (Nat.le_of_ble_eq_true rfl) d_Model_assemble_7 (fun H locs hp hcg hS => ?_)
  have hM := hM.f4 hp hcg
  obtain ⟨p_2, ep_2⟩ : ∃ z, z = upd p_1 4 (-1) := ⟨_, rfl⟩
  rw [← ep_2] at hM
  refine lv_aload_n X.x X.b d_Model_assemble_10 rfl (lv_at hl 0 rfl) ?_
  have hR := M_Model_expand_L10 l g hM hj1 hj (show oneL 10 (nI j) y v_ r _ from hL) (by rw [ep_2, upd_mi _ _ _ (show 3 ≠ 4 by decide), ep_1, upd_hit])
  refine m_callV X hS hR v_Model_183 hM.1 rfl rfl rfl (Nat.le_of_ble_eq_true rfl) hl.1 d_Model_assemble_11 (by omega) (by decide) ⟨by omega, by omega⟩ (fun q z => z.elim (fun z => by have z : mo ≤ q ∧ q < mo + 23 := z; exact Or.inl ⟨by omega, by omega⟩) (fun z => Or.inr (Nat.le_trans hS.1 z))) (fun H locs hq hfr hS => ?_)
  obtain ⟨p_3, s_4, hM, hX0, hX2, hx⟩ := hq
  have hx9 := hx
  obtain ⟨⟨hX3, hX5⟩, hXk, hX8⟩ := hx9
  have hX5 : p_3 5 = 1 := hX5
  refine lv_aload_n X.x X.b d_Model_assemble_14 rfl (lv_at hl 0 rfl) ?_
  refine m_get (v := .int 0) X ok_Model hM.1 3 (by decide) k_Model_126 (congrArg (fun z => some (Value.int z)) (show p_3 3 = 0 from (by rw [hX3]))) d_Model_assemble_15 ?_
  refine lv_if_ne (tgt := 25) X.x X.b d_Model_assemble_18 (by decide) (fun c1 => ?_) (fun c1 => ?_)
  · exact absurd c1 (by decide)
  · skip
    refine lv_aload_n X.x X.b d_Model_assemble_21 rfl (lv_at hl 0 rfl) ?_
    have hR := M_Model_refer_D (c := 0) l g hM (by omega) hx
    refine m_callM X hS hR v_Model_186 hM.1 rfl rfl rfl (Nat.le_of_ble_eq_true rfl) hl.1 d_Model_assemble_22 (by omega) (by decide) ⟨by omega, by omega⟩ (fun q z => by have z : mo ≤ q ∧ q < mo + 23 := z; exact ⟨by omega, by omega⟩) (fun H locs hq hfr hS => ?_)
    obtain ⟨s_5, hM, hsr⟩ := hq
    have hx := dxP.s hx (hsr 8 (by decide)) (hsr 9 (by decide)) (hsr 10 (by decide))
    refine lv_aload_n X.x X.b d_Model_assemble_25 rfl (lv_at hl 0 rfl) ?_
    refine m_get (v := .int 0) X ok_Model hM.1 3 (by decide) k_Model_126 (congrArg (fun z => some (Value.int z)) (show p_3 3 = 0 from (by rw [hX3]))) d_Model_assemble_26 ?_
    refine lv_if_le (tgt := 33) X.x X.b d_Model_assemble_29 (by decide) (fun c2 => ?_) (fun c2 => ?_)
    · skip
      have c2q := Int32.not_lt.mpr c2
      refine lv_aload_n X.x X.b d_Model_assemble_33 rfl (lv_at hl 0 rfl) ?_
      have hR := M_Model_fillPools_D (c := 0) l g hM (by omega) hx
      refine m_callM X hS hR v_Model_189 hM.1 rfl rfl rfl (Nat.le_of_ble_eq_true rfl) hl.1 d_Model_assemble_34 (by omega) (by decide) ⟨by omega, by omega⟩ (fun q z => by have z : mo ≤ q ∧ q < mo + 23 := z; exact ⟨by omega, by omega⟩) (fun H locs hq hfr hS => ?_)
      obtain ⟨s_6, hM, hsf, hP15⟩ := hq
      have hx := dxP.s hx (hsf 8 (by decide)) (hsf 9 (by decide)) (hsf 10 (by decide))
      refine lv_aload_n X.x X.b d_Model_assemble_37 rfl (lv_at hl 0 rfl) ?_
      have hR := M_Model_layOut_F l g hM (by rw [hX5]) (by rw [hsf 8 (by decide), hsr 8 (by decide), hX8]) (by rw [hP15])
      refine m_callM X hS hR v_Model_192 hM.1 rfl rfl rfl (Nat.le_of_ble_eq_true rfl) hl.1 d_Model_assemble_38 (by omega) (by decide) ⟨by omega, by omega⟩ (fun q z => by have z : mo ≤ q ∧ q < mo + 23 := z; exact ⟨by omega, by omega⟩) (fun H locs hq hfr hS => ?_)
      obtain ⟨p_7, s_8, hM, hp_9, hs_10, hF6, hF7, hF14, hF141, hF15, hF23⟩ := hq
      have hx := dxP.ps hx (hp_9 3 (by decide)) (hp_9 5 (by decide)) (hs_10 8 (by decide)) (hs_10 9 (by decide)) (hs_10 10 (by decide))
      refine lv_iconst (v := 0) X.x X.b d_Model_assemble_41 (by decide) ?_
      refine lv_istore_n (lv' := [(1, .int 0), (0, .ref mo)]) X.x X.b d_Model_assemble_42 rfl hl (by decide) rfl (fun ls hl => ?_)
      refine lv_iload_n X.x X.b d_Model_assemble_43 rfl (lv_at hl 0 rfl) ?_
      refine lv_aload_n X.x X.b d_Model_assemble_44 rfl (lv_at hl 1 rfl) ?_
      refine m_get (v := .int 1) X ok_Model hM.1 5 (by decide) k_Model_132 (congrArg (fun z => some (Value.int z)) (show p_7 5 = 1 from (by rw [hp_9 5 (by decide), hX5]))) d_Model_assemble_45 ?_
      refine lv_icmp_ge (tgt := 103) X.x X.b d_Model_assemble_48 (by decide) (fun c3 => ?_) (fun c3 => ?_)
      · exact absurd c3 (by decide)
      · skip
        have c3q := Int32.not_le.mp c3
        refine lv_aload_n X.x X.b d_Model_assemble_51 rfl (lv_at hl 1 rfl) ?_
        refine m_get (v := .int 0) X ok_Model hM.1 3 (by decide) k_Model_126 (congrArg (fun z => some (Value.int z)) (show p_7 3 = 0 from (by rw [hp_9 3 (by decide), hX3]))) d_Model_assemble_52 ?_
        refine lv_if_ne (tgt := 103) X.x X.b d_Model_assemble_55 (by decide) (fun c4 => ?_) (fun c4 => ?_)
        · exact absurd c1 c4
        · skip
          refine lv_aload_n X.x X.b d_Model_assemble_58 rfl (lv_at hl 1 rfl) ?_
          refine m_get (v := .ref (mo + 3)) X ok_Model hM.1 8 (by decide) k_Model_16 rfl d_Model_assemble_59 ?_
          refine lv_iload_n X.x X.b d_Model_assemble_62 rfl (lv_at hl 0 rfl) ?_
          refine m_ild (v := 6) X hM.a8 0 rfl (by omega) (by decide) (show s_8 8 0 = 6 from (by rw [hs_10 8 (by decide), hsf 8 (by decide), hsr 8 (by decide), hX8])) d_Model_assemble_63 ?_
          refine lv_iconst (v := 5) X.x X.b d_Model_assemble_64 (by decide) ?_
          refine lv_icmp_ne (tgt := 97) X.x X.b d_Model_assemble_65 (by decide) (fun c5 => ?_) (fun c5 => ?_)
          · skip
            refine lv_iinc (v := 1) (lv' := [(1, .int 1), (0, .ref mo)]) X.x X.b d_Model_assemble_97 hl (k := 0) rfl (by decide) (by decide) rfl (fun ls hl => ?_)
            refine lv_goto (tgt := 43) X.x X.b d_Model_assemble_100 (by decide) ?_
            refine lv_iload_n X.x X.b d_Model_assemble_43 rfl (lv_at hl 0 rfl) ?_
            refine lv_aload_n X.x X.b d_Model_assemble_44 rfl (lv_at hl 1 rfl) ?_
            refine m_get (v := .int 1) X ok_Model hM.1 5 (by decide) k_Model_132 (congrArg (fun z => some (Value.int z)) (show p_7 5 = 1 from (by rw [hp_9 5 (by decide), hX5]))) d_Model_assemble_45 ?_
            refine lv_icmp_ge (tgt := 103) X.x X.b d_Model_assemble_48 (by decide) (fun c6 => ?_) (fun c6 => ?_)
            · skip
              have c6q := Int32.not_lt.mpr c6
              refine lv_aload_n X.x X.b d_Model_assemble_103 rfl (lv_at hl 1 rfl) ?_
              refine m_get (v := .int 0) X ok_Model hM.1 3 (by decide) k_Model_126 (congrArg (fun z => some (Value.int z)) (show p_7 3 = 0 from (by rw [hp_9 3 (by decide), hX3]))) d_Model_assemble_104 ?_
              refine lv_if_ne (tgt := 114) X.x X.b d_Model_assemble_107 (by decide) (fun c7 => ?_) (fun c7 => ?_)
              · exact absurd c4 c7
              · skip
                refine lv_aload_n X.x X.b d_Model_assemble_110 rfl (lv_at hl 1 rfl) ?_
                have hR := M_Model_follow_F l g hM (by rw [hp_9 5 (by decide), hX5]) (by rw [hs_10 8 (by decide), hsf 8 (by decide), hsr 8 (by decide), hX8]) (by rw [hF15])
                refine m_callV X hS hR v_Model_198 hM.1 rfl rfl rfl (Nat.le_of_ble_eq_true rfl) hl.1 d_Model_assemble_111 (by omega) (by decide) ⟨by omega, by omega⟩ (fun q z => z.elim (fun z => by have z : mo ≤ q ∧ q < mo + 23 := z; exact Or.inl ⟨by omega, by omega⟩) (fun z => Or.inr (Nat.le_trans hS.1 z))) (fun H locs hq hfr hS => ?_)
                obtain ⟨s_11, hM, hso, hF24⟩ := hq
                exact m_vret X hS (by omega) (by omega) d_Model_assemble_114 rfl ⟨_, _, hM, (by rw [hp_9 0 (by decide), hX0, ep_2, upd_mi _ _ _ (show 0 ≠ 4 by decide), ep_1, upd_mi _ _ _ (show 0 ≠ 3 by decide)]), by rw [hso 2 (by decide), hs_10 2 (by decide), hsf 2 (by decide), hsr 2 (by decide), hX2]⟩
            · exact absurd c6 (by decide)
          · exact absurd c5 (by decide)
    · exact absurd c2 (by decide)
set_option maxRecDepth 100000 in
set_option maxHeartbeats 4000000 in
theorem M_Model_assemble_L8nn (l : Launch) (g : GG) {mo tq : Nat} {p0 : Nat → Int32} {s0 : Nat → Nat → Int32} {H0 : Heap} (hM : mAt g mo tq p0 s0 H0) {v_ r : Int32} (hL : oneL 8 (-1) (-1) v_ r s0) : MM l y_Model_assemble c_Model_assemble 2 none 6 4 262 g H0 [.ref mo] (fun q => mo ≤ q ∧ q < mo + 23) (none) (fun H1 => ∃ p s, mAt g mo tq p s H1 ∧ p 0 = p0 0 ∧ s 2 = s0 2) := by
  refine MM.of (by decide +kernel) (Nat.le_of_ble_eq_true rfl) ?_
  intro p e s m below meth cd X hH ls hl
  have X : CX g p s m _ meth cd c_Model_assemble 2 none R_Model _ := X
  have hl : lv_has ls 2 [(0, .ref mo)] := hl
  have hS : va_S (AA (fun q => mo ≤ q ∧ q < mo + 23) H0) H0 H0 [] := va_S.rf
  have hlt0 := hM.lt
  have htq0 := hM.tq
  refine lv_aload_n X.x X.b d_Model_assemble_0 rfl (lv_at hl 0 rfl) ?_
  refine lv_iconst (v := 0) X.x X.b d_Model_assemble_1 (by decide) ?_
  refine m_put X ok_Model hS (Or.inl ⟨by omega, by omega⟩) hM.1 3 (by decide) k_Model_126 rfl (ok_Model.2.2.1 _ (by decide)) rfl rfl (Nat.le_of_ble_eq_true rfl) d_Model_assemble_2 (fun H locs hp hcg hS => ?_)
  have hM := hM.f3 hp hcg
  obtain ⟨p_1, ep_1⟩ : ∃ z, z = upd p0 3 0 := ⟨_, rfl⟩
  rw [← ep_1] at hM
  refine lv_aload_n X.x X.b d_Model_assemble_5 rfl (lv_at hl 0 rfl) ?_
  refine lv_iconst (v := -1) X.x X.b d_Model_assemble_6 (by decide) ?_
  refine m_put X ok_Model hS (Or.inl ⟨by omega, by omega⟩) hM.1 4 (by decide) k_Model_129 rfl (ok_Model.2.2.1 _ (by decide)) rfl rfl (Nat.le_of_ble_eq_true rfl) d_Model_assemble_7 (fun H locs hp hcg hS => ?_)
  have hM := hM.f4 hp hcg
  obtain ⟨p_2, ep_2⟩ : ∃ z, z = upd p_1 4 (-1) := ⟨_, rfl⟩
  rw [← ep_2] at hM
  refine lv_aload_n X.x X.b d_Model_assemble_10 rfl (lv_at hl 0 rfl) ?_
  have hR := M_Model_expand_L8nn l g hM  (show oneL 8 (-1) (-1) v_ r _ from hL) (by rw [ep_2, upd_mi _ _ _ (show 3 ≠ 4 by decide), ep_1, upd_hit])
  refine m_callV X hS hR v_Model_183 hM.1 rfl rfl rfl (Nat.le_of_ble_eq_true rfl) hl.1 d_Model_assemble_11 (by omega) (by decide) ⟨by omega, by omega⟩ (fun q z => z.elim (fun z => by have z : mo ≤ q ∧ q < mo + 23 := z; exact Or.inl ⟨by omega, by omega⟩) (fun z => Or.inr (Nat.le_trans hS.1 z))) (fun H locs hq hfr hS => ?_)
  obtain ⟨p_3, s_4, hM, hX0, hX2, hx⟩ := hq
  have hx9 := hx
  obtain ⟨⟨hX3, hX5⟩, hXk, hX8⟩ := hx9
  have hX5 : p_3 5 = 1 := hX5
  refine lv_aload_n X.x X.b d_Model_assemble_14 rfl (lv_at hl 0 rfl) ?_
  refine m_get (v := .int 0) X ok_Model hM.1 3 (by decide) k_Model_126 (congrArg (fun z => some (Value.int z)) (show p_3 3 = 0 from (by rw [hX3]))) d_Model_assemble_15 ?_
  refine lv_if_ne (tgt := 25) X.x X.b d_Model_assemble_18 (by decide) (fun c1 => ?_) (fun c1 => ?_)
  · exact absurd c1 (by decide)
  · skip
    refine lv_aload_n X.x X.b d_Model_assemble_21 rfl (lv_at hl 0 rfl) ?_
    have hR := M_Model_refer_D (c := 0) l g hM (by omega) hx
    refine m_callM X hS hR v_Model_186 hM.1 rfl rfl rfl (Nat.le_of_ble_eq_true rfl) hl.1 d_Model_assemble_22 (by omega) (by decide) ⟨by omega, by omega⟩ (fun q z => by have z : mo ≤ q ∧ q < mo + 23 := z; exact ⟨by omega, by omega⟩) (fun H locs hq hfr hS => ?_)
    obtain ⟨s_5, hM, hsr⟩ := hq
    have hx := dxP.s hx (hsr 8 (by decide)) (hsr 9 (by decide)) (hsr 10 (by decide))
    refine lv_aload_n X.x X.b d_Model_assemble_25 rfl (lv_at hl 0 rfl) ?_
    refine m_get (v := .int 0) X ok_Model hM.1 3 (by decide) k_Model_126 (congrArg (fun z => some (Value.int z)) (show p_3 3 = 0 from (by rw [hX3]))) d_Model_assemble_26 ?_
    refine lv_if_le (tgt := 33) X.x X.b d_Model_assemble_29 (by decide) (fun c2 => ?_) (fun c2 => ?_)
    · skip
      have c2q := Int32.not_lt.mpr c2
      refine lv_aload_n X.x X.b d_Model_assemble_33 rfl (lv_at hl 0 rfl) ?_
      have hR := M_Model_fillPools_D (c := 0) l g hM (by omega) hx
      refine m_callM X hS hR v_Model_189 hM.1 rfl rfl rfl (Nat.le_of_ble_eq_true rfl) hl.1 d_Model_assemble_34 (by omega) (by decide) ⟨by omega, by omega⟩ (fun q z => by have z : mo ≤ q ∧ q < mo + 23 := z; exact ⟨by omega, by omega⟩) (fun H locs hq hfr hS => ?_)
      obtain ⟨s_6, hM, hsf, hP15⟩ := hq
      have hx := dxP.s hx (hsf 8 (by decide)) (hsf 9 (by decide)) (hsf 10 (by decide))
      refine lv_aload_n X.x X.b d_Model_assemble_37 rfl (lv_at hl 0 rfl) ?_
      have hR := M_Model_layOut_F l g hM (by rw [hX5]) (by rw [hsf 8 (by decide), hsr 8 (by decide), hX8]) (by rw [hP15])
      refine m_callM X hS hR v_Model_192 hM.1 rfl rfl rfl (Nat.le_of_ble_eq_true rfl) hl.1 d_Model_assemble_38 (by omega) (by decide) ⟨by omega, by omega⟩ (fun q z => by have z : mo ≤ q ∧ q < mo + 23 := z; exact ⟨by omega, by omega⟩) (fun H locs hq hfr hS => ?_)
      obtain ⟨p_7, s_8, hM, hp_9, hs_10, hF6, hF7, hF14, hF141, hF15, hF23⟩ := hq
      have hx := dxP.ps hx (hp_9 3 (by decide)) (hp_9 5 (by decide)) (hs_10 8 (by decide)) (hs_10 9 (by decide)) (hs_10 10 (by decide))
      refine lv_iconst (v := 0) X.x X.b d_Model_assemble_41 (by decide) ?_
      refine lv_istore_n (lv' := [(1, .int 0), (0, .ref mo)]) X.x X.b d_Model_assemble_42 rfl hl (by decide) rfl (fun ls hl => ?_)
      refine lv_iload_n X.x X.b d_Model_assemble_43 rfl (lv_at hl 0 rfl) ?_
      refine lv_aload_n X.x X.b d_Model_assemble_44 rfl (lv_at hl 1 rfl) ?_
      refine m_get (v := .int 1) X ok_Model hM.1 5 (by decide) k_Model_132 (congrArg (fun z => some (Value.int z)) (show p_7 5 = 1 from (by rw [hp_9 5 (by decide), hX5]))) d_Model_assemble_45 ?_
      refine lv_icmp_ge (tgt := 103) X.x X.b d_Model_assemble_48 (by decide) (fun c3 => ?_) (fun c3 => ?_)
      · exact absurd c3 (by decide)
      · skip
        have c3q := Int32.not_le.mp c3
        refine lv_aload_n X.x X.b d_Model_assemble_51 rfl (lv_at hl 1 rfl) ?_
        refine m_get (v := .int 0) X ok_Model hM.1 3 (by decide) k_Model_126 (congrArg (fun z => some (Value.int z)) (show p_7 3 = 0 from (by rw [hp_9 3 (by decide), hX3]))) d_Model_assemble_52 ?_
        refine lv_if_ne (tgt := 103) X.x X.b d_Model_assemble_55 (by decide) (fun c4 => ?_) (fun c4 => ?_)
        · exact absurd c1 c4
        · skip
          refine lv_aload_n X.x X.b d_Model_assemble_58 rfl (lv_at hl 1 rfl) ?_
          refine m_get (v := .ref (mo + 3)) X ok_Model hM.1 8 (by decide) k_Model_16 rfl d_Model_assemble_59 ?_
          refine lv_iload_n X.x X.b d_Model_assemble_62 rfl (lv_at hl 0 rfl) ?_
          refine m_ild (v := 6) X hM.a8 0 rfl (by omega) (by decide) (show s_8 8 0 = 6 from (by rw [hs_10 8 (by decide), hsf 8 (by decide), hsr 8 (by decide), hX8])) d_Model_assemble_63 ?_
          refine lv_iconst (v := 5) X.x X.b d_Model_assemble_64 (by decide) ?_
          refine lv_icmp_ne (tgt := 97) X.x X.b d_Model_assemble_65 (by decide) (fun c5 => ?_) (fun c5 => ?_)
          · skip
            refine lv_iinc (v := 1) (lv' := [(1, .int 1), (0, .ref mo)]) X.x X.b d_Model_assemble_97 hl (k := 0) rfl (by decide) (by decide) rfl (fun ls hl => ?_)
            refine lv_goto (tgt := 43) X.x X.b d_Model_assemble_100 (by decide) ?_
            refine lv_iload_n X.x X.b d_Model_assemble_43 rfl (lv_at hl 0 rfl) ?_
            refine lv_aload_n X.x X.b d_Model_assemble_44 rfl (lv_at hl 1 rfl) ?_
            refine m_get (v := .int 1) X ok_Model hM.1 5 (by decide) k_Model_132 (congrArg (fun z => some (Value.int z)) (show p_7 5 = 1 from (by rw [hp_9 5 (by decide), hX5]))) d_Model_assemble_45 ?_
            refine lv_icmp_ge (tgt := 103) X.x X.b d_Model_assemble_48 (by decide) (fun c6 => ?_) (fun c6 => ?_)
            · skip
              have c6q := Int32.not_lt.mpr c6
              refine lv_aload_n X.x X.b d_Model_assemble_103 rfl (lv_at hl 1 rfl) ?_
              refine m_get (v := .int 0) X ok_Model hM.1 3 (by decide) k_Model_126 (congrArg (fun z => some (Value.int z)) (show p_7 3 = 0 from (by rw [hp_9 3 (by decide), hX3]))) d_Model_assemble_104 ?_
              refine lv_if_ne (tgt := 114) X.x X.b d_Model_assemble_107 (by decide) (fun c7 => ?_) (fun c7 => ?_)
              · exact absurd c4 c7
              · skip
                refine lv_aload_n X.x X.b d_Model_assemble_110 rfl (lv_at hl 1 rfl) ?_
                have hR := M_Model_follow_F l g hM (by rw [hp_9 5 (by decide), hX5]) (by rw [hs_10 8 (by decide), hsf 8 (by decide), hsr 8 (by decide), hX8]) (by rw [hF15])
                refine m_callV X hS hR v_Model_198 hM.1 rfl rfl rfl (Nat.le_of_ble_eq_true rfl) hl.1 d_Model_assemble_111 (by omega) (by decide) ⟨by omega, by omega⟩ (fun q z => z.elim (fun z => by have z : mo ≤ q ∧ q < mo + 23 := z; exact Or.inl ⟨by omega, by omega⟩) (fun z => Or.inr (Nat.le_trans hS.1 z))) (fun H locs hq hfr hS => ?_)
                obtain ⟨s_11, hM, hso, hF24⟩ := hq
                exact m_vret X hS (by omega) (by omega) d_Model_assemble_114 rfl ⟨_, _, hM, (by rw [hp_9 0 (by decide), hX0, ep_2, upd_mi _ _ _ (show 0 ≠ 4 by decide), ep_1, upd_mi _ _ _ (show 0 ≠ 3 by decide)]), by rw [hso 2 (by decide), hs_10 2 (by decide), hsf 2 (by decide), hsr 2 (by decide), hX2]⟩
            · exact absurd c6 (by decide)
          · exact absurd c5 (by decide)
    · exact absurd c2 (by decide)
set_option maxRecDepth 100000 in
set_option maxHeartbeats 4000000 in
theorem M_Model_assemble_L8xn (l : Launch) (g : GG) {mo tq : Nat} {p0 : Nat → Int32} {s0 : Nat → Nat → Int32} {H0 : Heap} (hM : mAt g mo tq p0 s0 H0) {v_ r : Int32} {j : Nat} (hj : j < 8) (hL : oneL 8 (nI j) (-1) v_ r s0) : MM l y_Model_assemble c_Model_assemble 2 none 6 4 262 g H0 [.ref mo] (fun q => mo ≤ q ∧ q < mo + 23) (none) (fun H1 => ∃ p s, mAt g mo tq p s H1 ∧ p 0 = p0 0 ∧ s 2 = s0 2) := by
  refine MM.of (by decide +kernel) (Nat.le_of_ble_eq_true rfl) ?_
  intro p e s m below meth cd X hH ls hl
  have X : CX g p s m _ meth cd c_Model_assemble 2 none R_Model _ := X
  have hl : lv_has ls 2 [(0, .ref mo)] := hl
  have hS : va_S (AA (fun q => mo ≤ q ∧ q < mo + 23) H0) H0 H0 [] := va_S.rf
  have hlt0 := hM.lt
  have htq0 := hM.tq
  refine lv_aload_n X.x X.b d_Model_assemble_0 rfl (lv_at hl 0 rfl) ?_
  refine lv_iconst (v := 0) X.x X.b d_Model_assemble_1 (by decide) ?_
  refine m_put X ok_Model hS (Or.inl ⟨by omega, by omega⟩) hM.1 3 (by decide) k_Model_126 rfl (ok_Model.2.2.1 _ (by decide)) rfl rfl (Nat.le_of_ble_eq_true rfl) d_Model_assemble_2 (fun H locs hp hcg hS => ?_)
  have hM := hM.f3 hp hcg
  obtain ⟨p_1, ep_1⟩ : ∃ z, z = upd p0 3 0 := ⟨_, rfl⟩
  rw [← ep_1] at hM
  refine lv_aload_n X.x X.b d_Model_assemble_5 rfl (lv_at hl 0 rfl) ?_
  refine lv_iconst (v := -1) X.x X.b d_Model_assemble_6 (by decide) ?_
  refine m_put X ok_Model hS (Or.inl ⟨by omega, by omega⟩) hM.1 4 (by decide) k_Model_129 rfl (ok_Model.2.2.1 _ (by decide)) rfl rfl (Nat.le_of_ble_eq_true rfl) d_Model_assemble_7 (fun H locs hp hcg hS => ?_)
  have hM := hM.f4 hp hcg
  obtain ⟨p_2, ep_2⟩ : ∃ z, z = upd p_1 4 (-1) := ⟨_, rfl⟩
  rw [← ep_2] at hM
  refine lv_aload_n X.x X.b d_Model_assemble_10 rfl (lv_at hl 0 rfl) ?_
  have hR := M_Model_expand_L8xn l g hM hj (show oneL 8 (nI j) (-1) v_ r _ from hL) (by rw [ep_2, upd_mi _ _ _ (show 3 ≠ 4 by decide), ep_1, upd_hit])
  refine m_callV X hS hR v_Model_183 hM.1 rfl rfl rfl (Nat.le_of_ble_eq_true rfl) hl.1 d_Model_assemble_11 (by omega) (by decide) ⟨by omega, by omega⟩ (fun q z => z.elim (fun z => by have z : mo ≤ q ∧ q < mo + 23 := z; exact Or.inl ⟨by omega, by omega⟩) (fun z => Or.inr (Nat.le_trans hS.1 z))) (fun H locs hq hfr hS => ?_)
  obtain ⟨p_3, s_4, hM, hX0, hX2, hX3⟩ := hq
  refine lv_aload_n X.x X.b d_Model_assemble_14 rfl (lv_at hl 0 rfl) ?_
  refine m_get (v := .int 3) X ok_Model hM.1 3 (by decide) k_Model_126 (congrArg (fun z => some (Value.int z)) (show p_3 3 = 3 from (by rw [hX3]))) d_Model_assemble_15 ?_
  refine lv_if_ne (tgt := 25) X.x X.b d_Model_assemble_18 (by decide) (fun c1 => ?_) (fun c1 => ?_)
  · skip
    refine lv_aload_n X.x X.b d_Model_assemble_25 rfl (lv_at hl 0 rfl) ?_
    refine m_get (v := .int 3) X ok_Model hM.1 3 (by decide) k_Model_126 (congrArg (fun z => some (Value.int z)) (show p_3 3 = 3 from (by rw [hX3]))) d_Model_assemble_26 ?_
    refine lv_if_le (tgt := 33) X.x X.b d_Model_assemble_29 (by decide) (fun c2 => ?_) (fun c2 => ?_)
    · exact absurd c2 (by decide)
    · skip
      have c2q := Int32.not_le.mp c2
      exact m_vret X hS (by omega) (by omega) d_Model_assemble_32 rfl ⟨_, _, hM, (by rw [hX0, ep_2, upd_mi _ _ _ (show 0 ≠ 4 by decide), ep_1, upd_mi _ _ _ (show 0 ≠ 3 by decide)]), by rw [hX2]⟩
  · exact absurd c1 (by decide)
set_option maxRecDepth 100000 in
set_option maxHeartbeats 4000000 in
theorem M_Model_assemble_L8ny (l : Launch) (g : GG) {mo tq : Nat} {p0 : Nat → Int32} {s0 : Nat → Nat → Int32} {H0 : Heap} (hM : mAt g mo tq p0 s0 H0) {v_ r : Int32} {j : Nat} (hj : j < 8) (hL : oneL 8 (-1) (nI j) v_ r s0) : MM l y_Model_assemble c_Model_assemble 2 none 6 4 262 g H0 [.ref mo] (fun q => mo ≤ q ∧ q < mo + 23) (none) (fun H1 => ∃ p s, mAt g mo tq p s H1 ∧ p 0 = p0 0 ∧ s 2 = s0 2) := by
  refine MM.of (by decide +kernel) (Nat.le_of_ble_eq_true rfl) ?_
  intro p e s m below meth cd X hH ls hl
  have X : CX g p s m _ meth cd c_Model_assemble 2 none R_Model _ := X
  have hl : lv_has ls 2 [(0, .ref mo)] := hl
  have hS : va_S (AA (fun q => mo ≤ q ∧ q < mo + 23) H0) H0 H0 [] := va_S.rf
  have hlt0 := hM.lt
  have htq0 := hM.tq
  refine lv_aload_n X.x X.b d_Model_assemble_0 rfl (lv_at hl 0 rfl) ?_
  refine lv_iconst (v := 0) X.x X.b d_Model_assemble_1 (by decide) ?_
  refine m_put X ok_Model hS (Or.inl ⟨by omega, by omega⟩) hM.1 3 (by decide) k_Model_126 rfl (ok_Model.2.2.1 _ (by decide)) rfl rfl (Nat.le_of_ble_eq_true rfl) d_Model_assemble_2 (fun H locs hp hcg hS => ?_)
  have hM := hM.f3 hp hcg
  obtain ⟨p_1, ep_1⟩ : ∃ z, z = upd p0 3 0 := ⟨_, rfl⟩
  rw [← ep_1] at hM
  refine lv_aload_n X.x X.b d_Model_assemble_5 rfl (lv_at hl 0 rfl) ?_
  refine lv_iconst (v := -1) X.x X.b d_Model_assemble_6 (by decide) ?_
  refine m_put X ok_Model hS (Or.inl ⟨by omega, by omega⟩) hM.1 4 (by decide) k_Model_129 rfl (ok_Model.2.2.1 _ (by decide)) rfl rfl (Nat.le_of_ble_eq_true rfl) d_Model_assemble_7 (fun H locs hp hcg hS => ?_)
  have hM := hM.f4 hp hcg
  obtain ⟨p_2, ep_2⟩ : ∃ z, z = upd p_1 4 (-1) := ⟨_, rfl⟩
  rw [← ep_2] at hM
  refine lv_aload_n X.x X.b d_Model_assemble_10 rfl (lv_at hl 0 rfl) ?_
  have hR := M_Model_expand_L8ny l g hM hj (show oneL 8 (-1) (nI j) v_ r _ from hL) (by rw [ep_2, upd_mi _ _ _ (show 3 ≠ 4 by decide), ep_1, upd_hit])
  refine m_callV X hS hR v_Model_183 hM.1 rfl rfl rfl (Nat.le_of_ble_eq_true rfl) hl.1 d_Model_assemble_11 (by omega) (by decide) ⟨by omega, by omega⟩ (fun q z => z.elim (fun z => by have z : mo ≤ q ∧ q < mo + 23 := z; exact Or.inl ⟨by omega, by omega⟩) (fun z => Or.inr (Nat.le_trans hS.1 z))) (fun H locs hq hfr hS => ?_)
  obtain ⟨p_3, s_4, hM, hX0, hX2, hX3⟩ := hq
  refine lv_aload_n X.x X.b d_Model_assemble_14 rfl (lv_at hl 0 rfl) ?_
  refine m_get (v := .int 3) X ok_Model hM.1 3 (by decide) k_Model_126 (congrArg (fun z => some (Value.int z)) (show p_3 3 = 3 from (by rw [hX3]))) d_Model_assemble_15 ?_
  refine lv_if_ne (tgt := 25) X.x X.b d_Model_assemble_18 (by decide) (fun c1 => ?_) (fun c1 => ?_)
  · skip
    refine lv_aload_n X.x X.b d_Model_assemble_25 rfl (lv_at hl 0 rfl) ?_
    refine m_get (v := .int 3) X ok_Model hM.1 3 (by decide) k_Model_126 (congrArg (fun z => some (Value.int z)) (show p_3 3 = 3 from (by rw [hX3]))) d_Model_assemble_26 ?_
    refine lv_if_le (tgt := 33) X.x X.b d_Model_assemble_29 (by decide) (fun c2 => ?_) (fun c2 => ?_)
    · exact absurd c2 (by decide)
    · skip
      have c2q := Int32.not_le.mp c2
      exact m_vret X hS (by omega) (by omega) d_Model_assemble_32 rfl ⟨_, _, hM, (by rw [hX0, ep_2, upd_mi _ _ _ (show 0 ≠ 4 by decide), ep_1, upd_mi _ _ _ (show 0 ≠ 3 by decide)]), by rw [hX2]⟩
  · exact absurd c1 (by decide)
set_option maxRecDepth 100000 in
set_option maxHeartbeats 4000000 in
theorem M_Model_assemble_L8xy (l : Launch) (g : GG) {mo tq : Nat} {p0 : Nat → Int32} {s0 : Nat → Nat → Int32} {H0 : Heap} (hM : mAt g mo tq p0 s0 H0) {v_ r : Int32} {j i2 : Nat} (hj : j < 8) (hi2 : i2 < 8) (hL : oneL 8 (nI j) (nI i2) v_ r s0) : MM l y_Model_assemble c_Model_assemble 2 none 6 4 262 g H0 [.ref mo] (fun q => mo ≤ q ∧ q < mo + 23) (none) (fun H1 => ∃ p s, mAt g mo tq p s H1 ∧ p 0 = p0 0 ∧ s 2 = s0 2) := by
  refine MM.of (by decide +kernel) (Nat.le_of_ble_eq_true rfl) ?_
  intro p e s m below meth cd X hH ls hl
  have X : CX g p s m _ meth cd c_Model_assemble 2 none R_Model _ := X
  have hl : lv_has ls 2 [(0, .ref mo)] := hl
  have hS : va_S (AA (fun q => mo ≤ q ∧ q < mo + 23) H0) H0 H0 [] := va_S.rf
  have hlt0 := hM.lt
  have htq0 := hM.tq
  refine lv_aload_n X.x X.b d_Model_assemble_0 rfl (lv_at hl 0 rfl) ?_
  refine lv_iconst (v := 0) X.x X.b d_Model_assemble_1 (by decide) ?_
  refine m_put X ok_Model hS (Or.inl ⟨by omega, by omega⟩) hM.1 3 (by decide) k_Model_126 rfl (ok_Model.2.2.1 _ (by decide)) rfl rfl (Nat.le_of_ble_eq_true rfl) d_Model_assemble_2 (fun H locs hp hcg hS => ?_)
  have hM := hM.f3 hp hcg
  obtain ⟨p_1, ep_1⟩ : ∃ z, z = upd p0 3 0 := ⟨_, rfl⟩
  rw [← ep_1] at hM
  refine lv_aload_n X.x X.b d_Model_assemble_5 rfl (lv_at hl 0 rfl) ?_
  refine lv_iconst (v := -1) X.x X.b d_Model_assemble_6 (by decide) ?_
  refine m_put X ok_Model hS (Or.inl ⟨by omega, by omega⟩) hM.1 4 (by decide) k_Model_129 rfl (ok_Model.2.2.1 _ (by decide)) rfl rfl (Nat.le_of_ble_eq_true rfl) d_Model_assemble_7 (fun H locs hp hcg hS => ?_)
  have hM := hM.f4 hp hcg
  obtain ⟨p_2, ep_2⟩ : ∃ z, z = upd p_1 4 (-1) := ⟨_, rfl⟩
  rw [← ep_2] at hM
  refine lv_aload_n X.x X.b d_Model_assemble_10 rfl (lv_at hl 0 rfl) ?_
  have hR := M_Model_expand_L8xy l g hM hj hi2 (show oneL 8 (nI j) (nI i2) v_ r _ from hL) (by rw [ep_2, upd_mi _ _ _ (show 3 ≠ 4 by decide), ep_1, upd_hit])
  refine m_callV X hS hR v_Model_183 hM.1 rfl rfl rfl (Nat.le_of_ble_eq_true rfl) hl.1 d_Model_assemble_11 (by omega) (by decide) ⟨by omega, by omega⟩ (fun q z => z.elim (fun z => by have z : mo ≤ q ∧ q < mo + 23 := z; exact Or.inl ⟨by omega, by omega⟩) (fun z => Or.inr (Nat.le_trans hS.1 z))) (fun H locs hq hfr hS => ?_)
  obtain ⟨p_3, s_4, hM, hX0, hX2, hX3⟩ := hq
  refine lv_aload_n X.x X.b d_Model_assemble_14 rfl (lv_at hl 0 rfl) ?_
  refine m_get (v := .int 3) X ok_Model hM.1 3 (by decide) k_Model_126 (congrArg (fun z => some (Value.int z)) (show p_3 3 = 3 from (by rw [hX3]))) d_Model_assemble_15 ?_
  refine lv_if_ne (tgt := 25) X.x X.b d_Model_assemble_18 (by decide) (fun c1 => ?_) (fun c1 => ?_)
  · skip
    refine lv_aload_n X.x X.b d_Model_assemble_25 rfl (lv_at hl 0 rfl) ?_
    refine m_get (v := .int 3) X ok_Model hM.1 3 (by decide) k_Model_126 (congrArg (fun z => some (Value.int z)) (show p_3 3 = 3 from (by rw [hX3]))) d_Model_assemble_26 ?_
    refine lv_if_le (tgt := 33) X.x X.b d_Model_assemble_29 (by decide) (fun c2 => ?_) (fun c2 => ?_)
    · exact absurd c2 (by decide)
    · skip
      have c2q := Int32.not_le.mp c2
      exact m_vret X hS (by omega) (by omega) d_Model_assemble_32 rfl ⟨_, _, hM, (by rw [hX0, ep_2, upd_mi _ _ _ (show 0 ≠ 4 by decide), ep_1, upd_mi _ _ _ (show 0 ≠ 3 by decide)]), by rw [hX2]⟩
  · exact absurd c1 (by decide)
