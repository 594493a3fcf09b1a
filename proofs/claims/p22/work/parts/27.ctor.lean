set_option maxRecDepth 100000 in
set_option maxHeartbeats 4000000 in
theorem M_Expander_init (l : Launch) (g : GG) {w so : Nat} {H0 : Heap} (hn : pt g (w + 124) (.inr (ci_Expander, [.null, .null, .null, .int 0, .int 0, .int 0])) H0) (hz : H0.size = w + 125) : MM l y_Expander_init c_Expander_init 3 none 2 4 27 g H0 [.ref (w + 124), .ref so, .ref (w + 1)] (fun q => w + 124 ≤ q ∧ q < w + 129) (none) (fun H1 => exAt g w so 0 0 0 H1 ∧ nAt g (w + 125) nn0 H1 ∧ H1.size = w + 125 + 4) := by
  refine MM.of (by decide +kernel) (Nat.le_of_ble_eq_true rfl) ?_
  intro p e s m below meth cd X hH ls hl
  have X : CX g p s m _ meth cd c_Expander_init 3 none R_Expander _ := X
  have hl : lv_has ls 3 [(0, .ref (w + 124)), (1, .ref so), (2, .ref (w + 1))] := hl
  have hS : va_S (AA (fun q => w + 124 ≤ q ∧ q < w + 129) H0) H0 H0 [] := va_S.rf
  refine lv_aload_n X.x X.b d_Expander_init_0 rfl (lv_at hl 0 rfl) ?_
  refine m_obj X l_Expander_3 (by omega) (Nat.le_of_ble_eq_true rfl) hl.1 d_Expander_init_1 ?_
  refine lv_aload_n X.x X.b d_Expander_init_4 rfl (lv_at hl 0 rfl) ?_
  refine lv_aload_n X.x X.b d_Expander_init_5 rfl (lv_at hl 1 rfl) ?_
  refine m_putF X rfl ok_Expander rfl hS (by first | exact Or.inl ⟨by omega, by omega⟩ | exact Or.inl (by omega) | exact Or.inl rfl | exact Or.inr (by omega)) hn 0 (by decide) k_Expander_9 rfl (ok_Expander.2.2.1 _ (by decide)) rfl rfl (Nat.le_of_ble_eq_true rfl) d_Expander_init_6 (fun H locs hp hcg hS => ?_)
  have hn : pt g (w + 124) (.inr (ci_Expander, [.ref so, .null, .null, .int 0, .int 0, .int 0])) H := hp
  have hz9 : H.size = w + 125 := hcg.1.trans hz
  clear hz
  have hz := hz9
  clear hz9
  have hfr := fr.of_chg (A := fun q => q = w + 124) hcg rfl
  refine lv_aload_n X.x X.b d_Expander_init_9 rfl (lv_at hl 0 rfl) ?_
  refine lv_aload_n X.x X.b d_Expander_init_10 rfl (lv_at hl 2 rfl) ?_
  refine m_putF X rfl ok_Expander rfl hS (by first | exact Or.inl ⟨by omega, by omega⟩ | exact Or.inl (by omega) | exact Or.inl rfl | exact Or.inr (by omega)) hn 1 (by decide) k_Expander_15 rfl (ok_Expander.2.2.1 _ (by decide)) rfl rfl (Nat.le_of_ble_eq_true rfl) d_Expander_init_11 (fun H locs hp hcg hS => ?_)
  have hn : pt g (w + 124) (.inr (ci_Expander, [.ref so, .ref (w + 1), .null, .int 0, .int 0, .int 0])) H := hp
  have hz9 : H.size = w + 125 := hcg.1.trans hz
  clear hz
  have hz := hz9
  clear hz9
  have hfr := fr.of_chg (A := fun q => q = w + 124) hcg rfl
  refine lv_aload_n X.x X.b d_Expander_init_14 rfl (lv_at hl 0 rfl) ?_
  refine m_newo (fs := [.null, .null, .null]) X ok_Names hS hz (LW_t 676 (by decide +kernel) (by decide +kernel)) (LW_t 677 (by decide +kernel) (by decide +kernel)) ini_Names (fun j hj => by rcases (show j = 0 ∨ j = 1 ∨ j = 2 by omega) with rfl | rfl | rfl <;> rfl) (by omega) (by omega) d_Expander_init_15 (fun H hn15 hgr hS hz2 => ?_)
  have hfr := fr.of_grow (A := noA) hgr
  have hn := hn.fr hfr (fun z => z.elim)
  clear hz
  have hz := hz2
  clear hz2
  refine lv_dup X.x X.b d_Expander_init_18 rfl ?_
  refine m_callI X hS (M_Names_init l g hn15 hz) i_Expander_21 rfl rfl (Nat.le_of_ble_eq_true rfl) hl.1 d_Expander_init_19 (by omega) (by decide) ⟨by omega, by omega⟩ (fun q z => z.elim (fun z => by have z : w + 125 ≤ q ∧ q < w + 125 + 4 := z; first | exact Or.inl ⟨by omega, by omega⟩ | exact Or.inr (by omega)) (fun z => Or.inr (Nat.le_trans hS.1 z))) (fun H locs hq hfr hS => ?_)
  have hn := hn.fr hfr (fun z => by have z : w + 125 ≤ w + 124 ∧ w + 124 < w + 125 + 4 := z; omega)
  clear hz
  obtain ⟨hN, hz⟩ := hq
  refine m_putF X rfl ok_Expander rfl hS (by first | exact Or.inl ⟨by omega, by omega⟩ | exact Or.inl (by omega) | exact Or.inl rfl | exact Or.inr (by omega)) hn 2 (by decide) k_Expander_22 rfl (ok_Expander.2.2.1 _ (by decide)) rfl rfl (Nat.le_of_ble_eq_true rfl) d_Expander_init_22 (fun H locs hp hcg hS => ?_)
  have hn : pt g (w + 124) (.inr (ci_Expander, [.ref so, .ref (w + 1), .ref (w + 125), .int 0, .int 0, .int 0])) H := hp
  have hz9 : H.size = w + 125 + 4 := hcg.1.trans hz
  clear hz
  have hz := hz9
  clear hz9
  have hfr := fr.of_chg (A := fun q => q = w + 124) hcg rfl
  have hN := hN.frame hfr (fun q z => by have z : q = w + 124 := z; omega)
  refine lv_aload_n X.x X.b d_Expander_init_25 rfl (lv_at hl 0 rfl) ?_
  refine lv_iconst (v := 0) X.x X.b d_Expander_init_26 (by decide) ?_
  refine m_put X ok_Expander hS (by first | exact Or.inl ⟨by omega, by omega⟩ | exact Or.inl (by omega) | exact Or.inl rfl | exact Or.inr (by omega)) hn 3 (by decide) k_Expander_26 rfl (ok_Expander.2.2.1 _ (by decide)) rfl rfl (Nat.le_of_ble_eq_true rfl) d_Expander_init_27 (fun H locs hp hcg hS => ?_)
  have hn : pt g (w + 124) (.inr (ci_Expander, [.ref so, .ref (w + 1), .ref (w + 125), .int 0, .int 0, .int 0])) H := hp
  have hz9 : H.size = w + 125 + 4 := hcg.1.trans hz
  clear hz
  have hz := hz9
  clear hz9
  have hfr := fr.of_chg (A := fun q => q = w + 124) hcg rfl
  have hN := hN.frame hfr (fun q z => by have z : q = w + 124 := z; omega)
  refine lv_aload_n X.x X.b d_Expander_init_30 rfl (lv_at hl 0 rfl) ?_
  refine lv_iconst (v := 0) X.x X.b d_Expander_init_31 (by decide) ?_
  refine m_put X ok_Expander hS (by first | exact Or.inl ⟨by omega, by omega⟩ | exact Or.inl (by omega) | exact Or.inl rfl | exact Or.inr (by omega)) hn 4 (by decide) k_Expander_30 rfl (ok_Expander.2.2.1 _ (by decide)) rfl rfl (Nat.le_of_ble_eq_true rfl) d_Expander_init_32 (fun H locs hp hcg hS => ?_)
  have hn : pt g (w + 124) (.inr (ci_Expander, [.ref so, .ref (w + 1), .ref (w + 125), .int 0, .int 0, .int 0])) H := hp
  have hz9 : H.size = w + 125 + 4 := hcg.1.trans hz
  clear hz
  have hz := hz9
  clear hz9
  have hfr := fr.of_chg (A := fun q => q = w + 124) hcg rfl
  have hN := hN.frame hfr (fun q z => by have z : q = w + 124 := z; omega)
  refine lv_aload_n X.x X.b d_Expander_init_35 rfl (lv_at hl 0 rfl) ?_
  refine lv_iconst (v := 0) X.x X.b d_Expander_init_36 (by decide) ?_
  refine m_put X ok_Expander hS (by first | exact Or.inl ⟨by omega, by omega⟩ | exact Or.inl (by omega) | exact Or.inl rfl | exact Or.inr (by omega)) hn 5 (by decide) k_Expander_33 rfl (ok_Expander.2.2.1 _ (by decide)) rfl rfl (Nat.le_of_ble_eq_true rfl) d_Expander_init_37 (fun H locs hp hcg hS => ?_)
  have hn : pt g (w + 124) (.inr (ci_Expander, [.ref so, .ref (w + 1), .ref (w + 125), .int 0, .int 0, .int 0])) H := hp
  have hz9 : H.size = w + 125 + 4 := hcg.1.trans hz
  clear hz
  have hz := hz9
  clear hz9
  have hfr := fr.of_chg (A := fun q => q = w + 124) hcg rfl
  have hN := hN.frame hfr (fun q z => by have z : q = w + 124 := z; omega)
  exact m_vret X hS (by omega) (by omega) d_Expander_init_40 rfl ⟨hn, hN, hz⟩
set_option maxRecDepth 100000 in
set_option maxHeartbeats 4000000 in
theorem M_Assembly_init (l : Launch) (g : GG) {w so cap0 lo hi : Nat} {cnt : Nat → Nat} {f : Nat → Nat → Nat} {D : DT} {H0 : Heap} (hn : pt g w (.inr (ci_Assembly, [.null, .null, .null, .null, .int 0, .int 0, .int 0, .int 0])) H0) (hz : H0.size = w + 1) (hs : sAt g so cap0 cnt f D lo hi H0) (hly : so + 12 ≤ w ∨ w + 131 ≤ so) (hlw : lo ≤ w) (hhw : w + 131 ≤ hi) : MM l y_Assembly_init c_Assembly_init 2 none 3 130 2218 g H0 [.ref w, .ref so] (fun q => w ≤ q ∧ q < w + 131) (none) (fun H1 => aAt g w so cap0 cnt f D lo hi (IS0, 0, 0, 0, -1, 0) H1 ∧ H1.size = w + 131) := by
  refine MM.of (by decide +kernel) (Nat.le_of_ble_eq_true rfl) ?_
  intro p e s m below meth cd X hH ls hl
  have X : CX g p s m _ meth cd c_Assembly_init 2 none R_Assembly _ := X
  have hl : lv_has ls 2 [(0, .ref w), (1, .ref so)] := hl
  have hS : va_S (AA (fun q => w ≤ q ∧ q < w + 131) H0) H0 H0 [] := va_S.rf
  refine lv_aload_n X.x X.b d_Assembly_init_0 rfl (lv_at hl 0 rfl) ?_
  refine m_obj X l_Assembly_3 (by omega) (Nat.le_of_ble_eq_true rfl) hl.1 d_Assembly_init_1 ?_
  refine lv_aload_n X.x X.b d_Assembly_init_4 rfl (lv_at hl 0 rfl) ?_
  refine m_newo (fs := [.null, .int 0]) X ok_Items hS hz (LW_t 576 (by decide +kernel) (by decide +kernel)) (LW_t 336 (by decide +kernel) (by decide +kernel)) ini_Items (fun j hj => by rcases (show j = 0 ∨ j = 1 by omega) with rfl | rfl <;> rfl) (by omega) (by omega) d_Assembly_init_5 (fun H hn5 hgr hS hz2 => ?_)
  have hfr := fr.of_grow (A := noA) hgr
  have hn := hn.fr hfr (fun z => z.elim)
  have hs := hs.frame hfr (fun q z => z.elim)
  clear hz
  have hz := hz2
  clear hz2
  refine lv_dup X.x X.b d_Assembly_init_8 rfl ?_
  refine m_callI X hS (M_Items_init l g hn5 hz) i_Assembly_11 rfl rfl (Nat.le_of_ble_eq_true rfl) hl.1 d_Assembly_init_9 (by omega) (by decide) ⟨by omega, by omega⟩ (fun q z => z.elim (fun z => by have z : w + 1 ≤ q ∧ q < w + 1 + 123 := z; first | exact Or.inl ⟨by omega, by omega⟩ | exact Or.inr (by omega)) (fun z => Or.inr (Nat.le_trans hS.1 z))) (fun H locs hq hfr hS => ?_)
  have hn := hn.fr hfr (fun z => by have z : w + 1 ≤ w ∧ w < w + 1 + 123 := z; omega)
  have hs := hs.frame hfr (fun q z => by have z : w + 1 ≤ q ∧ q < w + 1 + 123 := z; omega)
  clear hz
  obtain ⟨hI, hz⟩ := hq
  have hz9 : H.size = w + 124 := by omega
  clear hz
  have hz := hz9
  clear hz9
  refine m_putF X rfl ok_Assembly rfl hS (by first | exact Or.inl ⟨by omega, by omega⟩ | exact Or.inl (by omega) | exact Or.inl rfl | exact Or.inr (by omega)) hn 0 (by decide) k_Assembly_12 rfl (ok_Assembly.2.2.1 _ (by decide)) rfl rfl (Nat.le_of_ble_eq_true rfl) d_Assembly_init_12 (fun H locs hp hcg hS => ?_)
  have hn : pt g (w) (.inr (ci_Assembly, [.ref (w + 1), .null, .null, .null, .int 0, .int 0, .int 0, .int 0])) H := hp
  have hz9 : H.size = w + 124 := hcg.1.trans hz
  clear hz
  have hz := hz9
  clear hz9
  have hfr := fr.of_chg (A := fun q => q = w) hcg rfl
  have hs := hs.frame hfr (fun q z => by have z : q = w := z; omega)
  have hI := hI.frame hfr (fun q z => by have z : q = w := z; omega)
  refine lv_aload_n X.x X.b d_Assembly_init_15 rfl (lv_at hl 0 rfl) ?_
  refine m_newo (fs := [.null, .null, .null, .int 0, .int 0, .int 0]) X ok_Expander hS hz (LW_t 671 (by decide +kernel) (by decide +kernel)) (LW_t 216 (by decide +kernel) (by decide +kernel)) ini_Expander (fun j hj => by rcases (show j = 0 ∨ j = 1 ∨ j = 2 ∨ j = 3 ∨ j = 4 ∨ j = 5 by omega) with rfl | rfl | rfl | rfl | rfl | rfl <;> rfl) (by omega) (by omega) d_Assembly_init_16 (fun H hn16 hgr hS hz2 => ?_)
  have hfr := fr.of_grow (A := noA) hgr
  have hn := hn.fr hfr (fun z => z.elim)
  have hs := hs.frame hfr (fun q z => z.elim)
  have hI := hI.frame hfr (fun q z => z.elim)
  clear hz
  have hz := hz2
  clear hz2
  refine lv_dup X.x X.b d_Assembly_init_19 rfl ?_
  refine lv_aload_n X.x X.b d_Assembly_init_20 rfl (lv_at hl 1 rfl) ?_
  refine lv_aload_n X.x X.b d_Assembly_init_21 rfl (lv_at hl 0 rfl) ?_
  refine m_get (v := .ref (w + 1)) X ok_Assembly hn 0 (by decide) k_Assembly_12 rfl d_Assembly_init_22 ?_
  refine m_callI X hS (M_Expander_init (so := so) l g hn16 hz) i_Assembly_20 rfl rfl (Nat.le_of_ble_eq_true rfl) hl.1 d_Assembly_init_25 (by omega) (by decide) ⟨by omega, by omega⟩ (fun q z => z.elim (fun z => by have z : w + 124 ≤ q ∧ q < w + 129 := z; first | exact Or.inl ⟨by omega, by omega⟩ | exact Or.inr (by omega)) (fun z => Or.inr (Nat.le_trans hS.1 z))) (fun H locs hq hfr hS => ?_)
  have hn := hn.fr hfr (fun z => by have z : w + 124 ≤ w ∧ w < w + 129 := z; omega)
  have hs := hs.frame hfr (fun q z => by have z : w + 124 ≤ q ∧ q < w + 129 := z; omega)
  have hI := hI.frame hfr (fun q z => by have z : w + 124 ≤ q ∧ q < w + 129 := z; omega)
  clear hz
  obtain ⟨hE, hN, hz⟩ := hq
  have hz9 : H.size = w + 129 := by omega
  clear hz
  have hz := hz9
  clear hz9
  refine m_putF X rfl ok_Assembly rfl hS (by first | exact Or.inl ⟨by omega, by omega⟩ | exact Or.inl (by omega) | exact Or.inl rfl | exact Or.inr (by omega)) hn 1 (by decide) k_Assembly_23 rfl (ok_Assembly.2.2.1 _ (by decide)) rfl rfl (Nat.le_of_ble_eq_true rfl) d_Assembly_init_28 (fun H locs hp hcg hS => ?_)
  have hn : pt g (w) (.inr (ci_Assembly, [.ref (w + 1), .ref (w + 124), .null, .null, .int 0, .int 0, .int 0, .int 0])) H := hp
  have hz9 : H.size = w + 129 := hcg.1.trans hz
  clear hz
  have hz := hz9
  clear hz9
  have hfr := fr.of_chg (A := fun q => q = w) hcg rfl
  have hs := hs.frame hfr (fun q z => by have z : q = w := z; omega)
  have hI := hI.frame hfr (fun q z => by have z : q = w := z; omega)
  have hE := hE.fr hfr (fun z => by have z : w + 124 = w := z; omega)
  have hN := hN.frame hfr (fun q z => by have z : q = w := z; omega)
  refine lv_aload_n X.x X.b d_Assembly_init_31 rfl (lv_at hl 0 rfl) ?_
  refine m_newo (fs := [.int 0, .int 0, .int 0, .int 0, .int 0]) X ok_Line hS hz (LW_t 715 (by decide +kernel) (by decide +kernel)) (LW_t 154 (by decide +kernel) (by decide +kernel)) ini_Line (fun j hj => by rcases (show j = 0 ∨ j = 1 ∨ j = 2 ∨ j = 3 ∨ j = 4 by omega) with rfl | rfl | rfl | rfl | rfl <;> rfl) (by omega) (by omega) d_Assembly_init_32 (fun H hn32 hgr hS hz2 => ?_)
  have hfr := fr.of_grow (A := noA) hgr
  have hn := hn.fr hfr (fun z => z.elim)
  have hs := hs.frame hfr (fun q z => z.elim)
  have hI := hI.frame hfr (fun q z => z.elim)
  have hE := hE.fr hfr (fun z => z.elim)
  have hN := hN.frame hfr (fun q z => z.elim)
  clear hz
  have hz := hz2
  clear hz2
  refine lv_dup X.x X.b d_Assembly_init_35 rfl ?_
  refine lv_bipush (v := 6) X.x X.b d_Assembly_init_36 (by decide) ?_
  refine lv_iconst (v := -1) X.x X.b d_Assembly_init_38 (by decide) ?_
  refine lv_iconst (v := -1) X.x X.b d_Assembly_init_39 (by decide) ?_
  refine lv_iconst (v := 0) X.x X.b d_Assembly_init_40 (by decide) ?_
  refine lv_iconst (v := 0) X.x X.b d_Assembly_init_41 (by decide) ?_
  refine m_callI X hS (M_Line_init l g hn32 6 (-1) (-1) 0 0 (Or.inl rfl) hz) i_Assembly_29 rfl rfl (Nat.le_of_ble_eq_true rfl) hl.1 d_Assembly_init_42 (by omega) (by decide) ⟨by omega, by omega⟩ (fun q z => z.elim (fun z => by have z : q = w + 129 := z; first | exact Or.inl ⟨by omega, by omega⟩ | exact Or.inr (by omega)) (fun z => Or.inr (Nat.le_trans hS.1 z))) (fun H locs hq hfr hS => ?_)
  have hn := hn.fr hfr (fun z => by have z : w = w + 129 := z; omega)
  have hs := hs.frame hfr (fun q z => by have z : q = w + 129 := z; omega)
  have hI := hI.frame hfr (fun q z => by have z : q = w + 129 := z; omega)
  have hE := hE.fr hfr (fun z => by have z : w + 124 = w + 129 := z; omega)
  have hN := hN.frame hfr (fun q z => by have z : q = w + 129 := z; omega)
  clear hz
  obtain ⟨hP, hz⟩ := hq
  have hz9 : H.size = w + 130 := by omega
  clear hz
  have hz := hz9
  clear hz9
  refine m_putF X rfl ok_Assembly rfl hS (by first | exact Or.inl ⟨by omega, by omega⟩ | exact Or.inl (by omega) | exact Or.inl rfl | exact Or.inr (by omega)) hn 2 (by decide) k_Assembly_32 rfl (ok_Assembly.2.2.1 _ (by decide)) rfl rfl (Nat.le_of_ble_eq_true rfl) d_Assembly_init_45 (fun H locs hp hcg hS => ?_)
  have hn : pt g (w) (.inr (ci_Assembly, [.ref (w + 1), .ref (w + 124), .ref (w + 129), .null, .int 0, .int 0, .int 0, .int 0])) H := hp
  have hz9 : H.size = w + 130 := hcg.1.trans hz
  clear hz
  have hz := hz9
  clear hz9
  have hfr := fr.of_chg (A := fun q => q = w) hcg rfl
  have hs := hs.frame hfr (fun q z => by have z : q = w := z; omega)
  have hI := hI.frame hfr (fun q z => by have z : q = w := z; omega)
  have hE := hE.fr hfr (fun z => by have z : w + 124 = w := z; omega)
  have hN := hN.frame hfr (fun q z => by have z : q = w := z; omega)
  have hP := hP.fr hfr (fun z => by have z : w + 129 = w := z; omega)
  refine lv_aload_n X.x X.b d_Assembly_init_48 rfl (lv_at hl 0 rfl) ?_
  refine lv_bipush (v := 121) X.x X.b d_Assembly_init_49 (by decide) ?_
  refine m_newI X hS hz 121 (by decide) (by decide) (by decide) (by omega) (by omega) d_Assembly_init_51 (fun H hn51 hgr hS hz2 => ?_)
  have hfr := fr.of_grow (A := noA) hgr
  have hn := hn.fr hfr (fun z => z.elim)
  have hs := hs.frame hfr (fun q z => z.elim)
  have hI := hI.frame hfr (fun q z => z.elim)
  have hE := hE.fr hfr (fun z => z.elim)
  have hN := hN.frame hfr (fun q z => z.elim)
  have hP := hP.fr hfr (fun z => z.elim)
  clear hz
  have hz := hz2
  clear hz2
  refine m_putF X rfl ok_Assembly rfl hS (by first | exact Or.inl ⟨by omega, by omega⟩ | exact Or.inl (by omega) | exact Or.inl rfl | exact Or.inr (by omega)) hn 3 (by decide) k_Assembly_36 rfl (ok_Assembly.2.2.1 _ (by decide)) rfl rfl (Nat.le_of_ble_eq_true rfl) d_Assembly_init_53 (fun H locs hp hcg hS => ?_)
  have hn : pt g (w) (.inr (ci_Assembly, [.ref (w + 1), .ref (w + 124), .ref (w + 129), .ref (w + 130), .int 0, .int 0, .int 0, .int 0])) H := hp
  have hz9 : H.size = w + 130 + 1 := hcg.1.trans hz
  clear hz
  have hz := hz9
  clear hz9
  have hfr := fr.of_chg (A := fun q => q = w) hcg rfl
  have hs := hs.frame hfr (fun q z => by have z : q = w := z; omega)
  have hI := hI.frame hfr (fun q z => by have z : q = w := z; omega)
  have hE := hE.fr hfr (fun z => by have z : w + 124 = w := z; omega)
  have hN := hN.frame hfr (fun q z => by have z : q = w := z; omega)
  have hP := hP.fr hfr (fun z => by have z : w + 129 = w := z; omega)
  have hn51 := hn51.fr hfr (fun z => by have z : w + 130 = w := z; omega)
  refine lv_aload_n X.x X.b d_Assembly_init_56 rfl (lv_at hl 0 rfl) ?_
  refine lv_iconst (v := 0) X.x X.b d_Assembly_init_57 (by decide) ?_
  refine m_put X ok_Assembly hS (by first | exact Or.inl ⟨by omega, by omega⟩ | exact Or.inl (by omega) | exact Or.inl rfl | exact Or.inr (by omega)) hn 4 (by decide) k_Assembly_40 rfl (ok_Assembly.2.2.1 _ (by decide)) rfl rfl (Nat.le_of_ble_eq_true rfl) d_Assembly_init_58 (fun H locs hp hcg hS => ?_)
  have hn : pt g (w) (.inr (ci_Assembly, [.ref (w + 1), .ref (w + 124), .ref (w + 129), .ref (w + 130), .int 0, .int 0, .int 0, .int 0])) H := hp
  have hz9 : H.size = w + 130 + 1 := hcg.1.trans hz
  clear hz
  have hz := hz9
  clear hz9
  have hfr := fr.of_chg (A := fun q => q = w) hcg rfl
  have hs := hs.frame hfr (fun q z => by have z : q = w := z; omega)
  have hI := hI.frame hfr (fun q z => by have z : q = w := z; omega)
  have hE := hE.fr hfr (fun z => by have z : w + 124 = w := z; omega)
  have hN := hN.frame hfr (fun q z => by have z : q = w := z; omega)
  have hP := hP.fr hfr (fun z => by have z : w + 129 = w := z; omega)
  have hn51 := hn51.fr hfr (fun z => by have z : w + 130 = w := z; omega)
  refine lv_aload_n X.x X.b d_Assembly_init_61 rfl (lv_at hl 0 rfl) ?_
  refine lv_iconst (v := 0) X.x X.b d_Assembly_init_62 (by decide) ?_
  refine m_put X ok_Assembly hS (by first | exact Or.inl ⟨by omega, by omega⟩ | exact Or.inl (by omega) | exact Or.inl rfl | exact Or.inr (by omega)) hn 5 (by decide) k_Assembly_44 rfl (ok_Assembly.2.2.1 _ (by decide)) rfl rfl (Nat.le_of_ble_eq_true rfl) d_Assembly_init_63 (fun H locs hp hcg hS => ?_)
  have hn : pt g (w) (.inr (ci_Assembly, [.ref (w + 1), .ref (w + 124), .ref (w + 129), .ref (w + 130), .int 0, .int 0, .int 0, .int 0])) H := hp
  have hz9 : H.size = w + 130 + 1 := hcg.1.trans hz
  clear hz
  have hz := hz9
  clear hz9
  have hfr := fr.of_chg (A := fun q => q = w) hcg rfl
  have hs := hs.frame hfr (fun q z => by have z : q = w := z; omega)
  have hI := hI.frame hfr (fun q z => by have z : q = w := z; omega)
  have hE := hE.fr hfr (fun z => by have z : w + 124 = w := z; omega)
  have hN := hN.frame hfr (fun q z => by have z : q = w := z; omega)
  have hP := hP.fr hfr (fun z => by have z : w + 129 = w := z; omega)
  have hn51 := hn51.fr hfr (fun z => by have z : w + 130 = w := z; omega)
  refine lv_aload_n X.x X.b d_Assembly_init_66 rfl (lv_at hl 0 rfl) ?_
  refine lv_iconst (v := -1) X.x X.b d_Assembly_init_67 (by decide) ?_
  refine m_put X ok_Assembly hS (by first | exact Or.inl ⟨by omega, by omega⟩ | exact Or.inl (by omega) | exact Or.inl rfl | exact Or.inr (by omega)) hn 6 (by decide) k_Assembly_47 rfl (ok_Assembly.2.2.1 _ (by decide)) rfl rfl (Nat.le_of_ble_eq_true rfl) d_Assembly_init_68 (fun H locs hp hcg hS => ?_)
  have hn : pt g (w) (.inr (ci_Assembly, [.ref (w + 1), .ref (w + 124), .ref (w + 129), .ref (w + 130), .int 0, .int 0, .int (-1), .int 0])) H := hp
  have hz9 : H.size = w + 130 + 1 := hcg.1.trans hz
  clear hz
  have hz := hz9
  clear hz9
  have hfr := fr.of_chg (A := fun q => q = w) hcg rfl
  have hs := hs.frame hfr (fun q z => by have z : q = w := z; omega)
  have hI := hI.frame hfr (fun q z => by have z : q = w := z; omega)
  have hE := hE.fr hfr (fun z => by have z : w + 124 = w := z; omega)
  have hN := hN.frame hfr (fun q z => by have z : q = w := z; omega)
  have hP := hP.fr hfr (fun z => by have z : w + 129 = w := z; omega)
  have hn51 := hn51.fr hfr (fun z => by have z : w + 130 = w := z; omega)
  refine lv_aload_n X.x X.b d_Assembly_init_71 rfl (lv_at hl 0 rfl) ?_
  refine lv_iconst (v := 0) X.x X.b d_Assembly_init_72 (by decide) ?_
  refine m_put X ok_Assembly hS (by first | exact Or.inl ⟨by omega, by omega⟩ | exact Or.inl (by omega) | exact Or.inl rfl | exact Or.inr (by omega)) hn 7 (by decide) k_Assembly_50 rfl (ok_Assembly.2.2.1 _ (by decide)) rfl rfl (Nat.le_of_ble_eq_true rfl) d_Assembly_init_73 (fun H locs hp hcg hS => ?_)
  have hn : pt g (w) (.inr (ci_Assembly, [.ref (w + 1), .ref (w + 124), .ref (w + 129), .ref (w + 130), .int 0, .int 0, .int (-1), .int 0])) H := hp
  have hz9 : H.size = w + 130 + 1 := hcg.1.trans hz
  clear hz
  have hz := hz9
  clear hz9
  have hfr := fr.of_chg (A := fun q => q = w) hcg rfl
  have hs := hs.frame hfr (fun q z => by have z : q = w := z; omega)
  have hI := hI.frame hfr (fun q z => by have z : q = w := z; omega)
  have hE := hE.fr hfr (fun z => by have z : w + 124 = w := z; omega)
  have hN := hN.frame hfr (fun q z => by have z : q = w := z; omega)
  have hP := hP.fr hfr (fun z => by have z : w + 129 = w := z; omega)
  have hn51 := hn51.fr hfr (fun z => by have z : w + 130 = w := z; omega)
  exact m_vret X hS (by omega) (by omega) d_Assembly_init_76 rfl ⟨⟨hn, hP, ⟨_, hn51⟩, ⟨_, _, _, hE⟩, hI, ⟨_, hN⟩, hs, Nat.zero_le _, hly, hlw, hhw⟩, hz⟩
