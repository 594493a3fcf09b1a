-- THE REFERENCE'S CONSTRUCTOR
set_option maxRecDepth 100000 in
set_option maxHeartbeats 4000000 in
theorem M_Model_init (l : Launch) (g : GG) {mo : Nat} {H0 : Heap} (hn : pt g mo (.inr (ci_Model, [.int 0, .null, .null, .int 0, .int 0, .int 0, .int 0, .int 0, .null, .null, .null, .null, .null, .null, .null, .null, .null, .null, .null, .null, .null, .null, .null, .null, .null, .null, .null, .null])) H0) (hz : H0.size = mo + 1) : MM l y_Model_init c_Model_init 1 none 7 26 3949 g H0 [.ref mo] (fun q => mo ≤ q ∧ q < mo + 23) (none) (fun H1 => ∃ p s, mAt g mo (mo + 1) p s H1 ∧ frP p s ∧ noL s) := by
  refine MM.of (by decide +kernel) (Nat.le_of_ble_eq_true rfl) ?_
  intro p e s m below meth cd X hH ls hl
  have X : CX g p s m _ meth cd c_Model_init 1 none R_Model _ := X
  have hl : lv_has ls 1 [(0, .ref mo)] := hl
  have hS : va_S (AA (fun q => mo ≤ q ∧ q < mo + 23) H0) H0 H0 [] := va_S.rf
  refine lv_aload_n X.x X.b d_Model_init_0 rfl (lv_at hl 0 rfl) ?_
  refine m_obj X l_Model_3 (by omega) (Nat.le_of_ble_eq_true rfl) hl.1 d_Model_init_1 ?_
  refine lv_aload_n X.x X.b d_Model_init_4 rfl (lv_at hl 0 rfl) ?_
  refine lv_sipush (v := 1600) X.x X.b d_Model_init_5 (by decide) ?_
  refine m_newI X hS hz 1600 (by decide) (by decide) (by decide) (by omega) (by omega) d_Model_init_8 (fun H hn8 hgr hS hz2 => ?_)
  have hfr := fr.of_grow (A := noA) hgr
  have hn := hn.fr hfr (fun z => z.elim)
  clear hz
  have hz : H.size = mo + 2 := by omega
  clear hz2
  refine m_put X ok_Model hS (by first | exact Or.inl ⟨by omega, by omega⟩ | exact Or.inl (by omega) | exact Or.inl rfl | exact Or.inr (by omega)) hn 1 (by decide) k_Model_9 rfl (ok_Model.2.2.1 _ (by decide)) rfl rfl (Nat.le_of_ble_eq_true rfl) d_Model_init_10 (fun H locs hp hcg hS => ?_)
  have hn : pt g (mo) (.inr (ci_Model, [.int 0, .ref (mo + 1), .null, .int 0, .int 0, .int 0, .int 0, .int 0, .null, .null, .null, .null, .null, .null, .null, .null, .null, .null, .null, .null, .null, .null, .null, .null, .null, .null, .null, .null])) H := hp
  have hz9 : H.size = mo + 2 := hcg.1.trans hz
  clear hz
  have hz := hz9
  clear hz9
  have hfr := fr.of_chg (A := fun q => q = mo) hcg rfl
  have hn8 := hn8.fr hfr (fun z => by have z : mo + 1 = mo := z; omega)
  refine lv_aload_n X.x X.b d_Model_init_13 rfl (lv_at hl 0 rfl) ?_
  refine lv_iconst (v := 5) X.x X.b d_Model_init_14 (by decide) ?_
  refine m_newI X hS hz 5 (by decide) (by decide) (by decide) (by omega) (by omega) d_Model_init_15 (fun H hn15 hgr hS hz2 => ?_)
  have hfr := fr.of_grow (A := noA) hgr
  have hn := hn.fr hfr (fun z => z.elim)
  have hn8 := hn8.fr hfr (fun z => z.elim)
  clear hz
  have hz : H.size = mo + 3 := by omega
  clear hz2
  refine m_put X ok_Model hS (by first | exact Or.inl ⟨by omega, by omega⟩ | exact Or.inl (by omega) | exact Or.inl rfl | exact Or.inr (by omega)) hn 2 (by decide) k_Model_13 rfl (ok_Model.2.2.1 _ (by decide)) rfl rfl (Nat.le_of_ble_eq_true rfl) d_Model_init_17 (fun H locs hp hcg hS => ?_)
  have hn : pt g (mo) (.inr (ci_Model, [.int 0, .ref (mo + 1), .ref (mo + 2), .int 0, .int 0, .int 0, .int 0, .int 0, .null, .null, .null, .null, .null, .null, .null, .null, .null, .null, .null, .null, .null, .null, .null, .null, .null, .null, .null, .null])) H := hp
  have hz9 : H.size = mo + 3 := hcg.1.trans hz
  clear hz
  have hz := hz9
  clear hz9
  have hfr := fr.of_chg (A := fun q => q = mo) hcg rfl
  have hn8 := hn8.fr hfr (fun z => by have z : mo + 1 = mo := z; omega)
  have hn15 := hn15.fr hfr (fun z => by have z : mo + 2 = mo := z; omega)
  refine lv_aload_n X.x X.b d_Model_init_20 rfl (lv_at hl 0 rfl) ?_
  refine lv_bipush (v := 121) X.x X.b d_Model_init_21 (by decide) ?_
  refine m_newI X hS hz 121 (by decide) (by decide) (by decide) (by omega) (by omega) d_Model_init_23 (fun H hn23 hgr hS hz2 => ?_)
  have hfr := fr.of_grow (A := noA) hgr
  have hn := hn.fr hfr (fun z => z.elim)
  have hn8 := hn8.fr hfr (fun z => z.elim)
  have hn15 := hn15.fr hfr (fun z => z.elim)
  clear hz
  have hz : H.size = mo + 4 := by omega
  clear hz2
  refine m_putF X rfl ok_Model rfl hS (by first | exact Or.inl ⟨by omega, by omega⟩ | exact Or.inl (by omega) | exact Or.inl rfl | exact Or.inr (by omega)) hn 8 (by decide) k_Model_16 rfl (ok_Model.2.2.1 _ (by decide)) rfl rfl (Nat.le_of_ble_eq_true rfl) d_Model_init_25 (fun H locs hp hcg hS => ?_)
  have hn : pt g (mo) (.inr (ci_Model, [.int 0, .ref (mo + 1), .ref (mo + 2), .int 0, .int 0, .int 0, .int 0, .int 0, .ref (mo + 3), .null, .null, .null, .null, .null, .null, .null, .null, .null, .null, .null, .null, .null, .null, .null, .null, .null, .null, .null])) H := hp
  have hz9 : H.size = mo + 4 := hcg.1.trans hz
  clear hz
  have hz := hz9
  clear hz9
  have hfr := fr.of_chg (A := fun q => q = mo) hcg rfl
  have hn8 := hn8.fr hfr (fun z => by have z : mo + 1 = mo := z; omega)
  have hn15 := hn15.fr hfr (fun z => by have z : mo + 2 = mo := z; omega)
  have hn23 := hn23.fr hfr (fun z => by have z : mo + 3 = mo := z; omega)
  refine lv_aload_n X.x X.b d_Model_init_28 rfl (lv_at hl 0 rfl) ?_
  refine lv_bipush (v := 121) X.x X.b d_Model_init_29 (by decide) ?_
  refine m_newI X hS hz 121 (by decide) (by decide) (by decide) (by omega) (by omega) d_Model_init_31 (fun H hn31 hgr hS hz2 => ?_)
  have hfr := fr.of_grow (A := noA) hgr
  have hn := hn.fr hfr (fun z => z.elim)
  have hn8 := hn8.fr hfr (fun z => z.elim)
  have hn15 := hn15.fr hfr (fun z => z.elim)
  have hn23 := hn23.fr hfr (fun z => z.elim)
  clear hz
  have hz : H.size = mo + 5 := by omega
  clear hz2
  refine m_putF X rfl ok_Model rfl hS (by first | exact Or.inl ⟨by omega, by omega⟩ | exact Or.inl (by omega) | exact Or.inl rfl | exact Or.inr (by omega)) hn 9 (by decide) k_Model_19 rfl (ok_Model.2.2.1 _ (by decide)) rfl rfl (Nat.le_of_ble_eq_true rfl) d_Model_init_33 (fun H locs hp hcg hS => ?_)
  have hn : pt g (mo) (.inr (ci_Model, [.int 0, .ref (mo + 1), .ref (mo + 2), .int 0, .int 0, .int 0, .int 0, .int 0, .ref (mo + 3), .ref (mo + 4), .null, .null, .null, .null, .null, .null, .null, .null, .null, .null, .null, .null, .null, .null, .null, .null, .null, .null])) H := hp
  have hz9 : H.size = mo + 5 := hcg.1.trans hz
  clear hz
  have hz := hz9
  clear hz9
  have hfr := fr.of_chg (A := fun q => q = mo) hcg rfl
  have hn8 := hn8.fr hfr (fun z => by have z : mo + 1 = mo := z; omega)
  have hn15 := hn15.fr hfr (fun z => by have z : mo + 2 = mo := z; omega)
  have hn23 := hn23.fr hfr (fun z => by have z : mo + 3 = mo := z; omega)
  have hn31 := hn31.fr hfr (fun z => by have z : mo + 4 = mo := z; omega)
  refine lv_aload_n X.x X.b d_Model_init_36 rfl (lv_at hl 0 rfl) ?_
  refine lv_bipush (v := 121) X.x X.b d_Model_init_37 (by decide) ?_
  refine m_newI X hS hz 121 (by decide) (by decide) (by decide) (by omega) (by omega) d_Model_init_39 (fun H hn39 hgr hS hz2 => ?_)
  have hfr := fr.of_grow (A := noA) hgr
  have hn := hn.fr hfr (fun z => z.elim)
  have hn8 := hn8.fr hfr (fun z => z.elim)
  have hn15 := hn15.fr hfr (fun z => z.elim)
  have hn23 := hn23.fr hfr (fun z => z.elim)
  have hn31 := hn31.fr hfr (fun z => z.elim)
  clear hz
  have hz : H.size = mo + 6 := by omega
  clear hz2
  refine m_putF X rfl ok_Model rfl hS (by first | exact Or.inl ⟨by omega, by omega⟩ | exact Or.inl (by omega) | exact Or.inl rfl | exact Or.inr (by omega)) hn 10 (by decide) k_Model_22 rfl (ok_Model.2.2.1 _ (by decide)) rfl rfl (Nat.le_of_ble_eq_true rfl) d_Model_init_41 (fun H locs hp hcg hS => ?_)
  have hn : pt g (mo) (.inr (ci_Model, [.int 0, .ref (mo + 1), .ref (mo + 2), .int 0, .int 0, .int 0, .int 0, .int 0, .ref (mo + 3), .ref (mo + 4), .ref (mo + 5), .null, .null, .null, .null, .null, .null, .null, .null, .null, .null, .null, .null, .null, .null, .null, .null, .null])) H := hp
  have hz9 : H.size = mo + 6 := hcg.1.trans hz
  clear hz
  have hz := hz9
  clear hz9
  have hfr := fr.of_chg (A := fun q => q = mo) hcg rfl
  have hn8 := hn8.fr hfr (fun z => by have z : mo + 1 = mo := z; omega)
  have hn15 := hn15.fr hfr (fun z => by have z : mo + 2 = mo := z; omega)
  have hn23 := hn23.fr hfr (fun z => by have z : mo + 3 = mo := z; omega)
  have hn31 := hn31.fr hfr (fun z => by have z : mo + 4 = mo := z; omega)
  have hn39 := hn39.fr hfr (fun z => by have z : mo + 5 = mo := z; omega)
  refine lv_aload_n X.x X.b d_Model_init_44 rfl (lv_at hl 0 rfl) ?_
  refine lv_bipush (v := 121) X.x X.b d_Model_init_45 (by decide) ?_
  refine m_newI X hS hz 121 (by decide) (by decide) (by decide) (by omega) (by omega) d_Model_init_47 (fun H hn47 hgr hS hz2 => ?_)
  have hfr := fr.of_grow (A := noA) hgr
  have hn := hn.fr hfr (fun z => z.elim)
  have hn8 := hn8.fr hfr (fun z => z.elim)
  have hn15 := hn15.fr hfr (fun z => z.elim)
  have hn23 := hn23.fr hfr (fun z => z.elim)
  have hn31 := hn31.fr hfr (fun z => z.elim)
  have hn39 := hn39.fr hfr (fun z => z.elim)
  clear hz
  have hz : H.size = mo + 7 := by omega
  clear hz2
  refine m_putF X rfl ok_Model rfl hS (by first | exact Or.inl ⟨by omega, by omega⟩ | exact Or.inl (by omega) | exact Or.inl rfl | exact Or.inr (by omega)) hn 11 (by decide) k_Model_25 rfl (ok_Model.2.2.1 _ (by decide)) rfl rfl (Nat.le_of_ble_eq_true rfl) d_Model_init_49 (fun H locs hp hcg hS => ?_)
  have hn : pt g (mo) (.inr (ci_Model, [.int 0, .ref (mo + 1), .ref (mo + 2), .int 0, .int 0, .int 0, .int 0, .int 0, .ref (mo + 3), .ref (mo + 4), .ref (mo + 5), .ref (mo + 6), .null, .null, .null, .null, .null, .null, .null, .null, .null, .null, .null, .null, .null, .null, .null, .null])) H := hp
  have hz9 : H.size = mo + 7 := hcg.1.trans hz
  clear hz
  have hz := hz9
  clear hz9
  have hfr := fr.of_chg (A := fun q => q = mo) hcg rfl
  have hn8 := hn8.fr hfr (fun z => by have z : mo + 1 = mo := z; omega)
  have hn15 := hn15.fr hfr (fun z => by have z : mo + 2 = mo := z; omega)
  have hn23 := hn23.fr hfr (fun z => by have z : mo + 3 = mo := z; omega)
  have hn31 := hn31.fr hfr (fun z => by have z : mo + 4 = mo := z; omega)
  have hn39 := hn39.fr hfr (fun z => by have z : mo + 5 = mo := z; omega)
  have hn47 := hn47.fr hfr (fun z => by have z : mo + 6 = mo := z; omega)
  refine lv_aload_n X.x X.b d_Model_init_52 rfl (lv_at hl 0 rfl) ?_
  refine lv_bipush (v := 121) X.x X.b d_Model_init_53 (by decide) ?_
  refine m_newI X hS hz 121 (by decide) (by decide) (by decide) (by omega) (by omega) d_Model_init_55 (fun H hn55 hgr hS hz2 => ?_)
  have hfr := fr.of_grow (A := noA) hgr
  have hn := hn.fr hfr (fun z => z.elim)
  have hn8 := hn8.fr hfr (fun z => z.elim)
  have hn15 := hn15.fr hfr (fun z => z.elim)
  have hn23 := hn23.fr hfr (fun z => z.elim)
  have hn31 := hn31.fr hfr (fun z => z.elim)
  have hn39 := hn39.fr hfr (fun z => z.elim)
  have hn47 := hn47.fr hfr (fun z => z.elim)
  clear hz
  have hz : H.size = mo + 8 := by omega
  clear hz2
  refine m_putF X rfl ok_Model rfl hS (by first | exact Or.inl ⟨by omega, by omega⟩ | exact Or.inl (by omega) | exact Or.inl rfl | exact Or.inr (by omega)) hn 12 (by decide) k_Model_28 rfl (ok_Model.2.2.1 _ (by decide)) rfl rfl (Nat.le_of_ble_eq_true rfl) d_Model_init_57 (fun H locs hp hcg hS => ?_)
  have hn : pt g (mo) (.inr (ci_Model, [.int 0, .ref (mo + 1), .ref (mo + 2), .int 0, .int 0, .int 0, .int 0, .int 0, .ref (mo + 3), .ref (mo + 4), .ref (mo + 5), .ref (mo + 6), .ref (mo + 7), .null, .null, .null, .null, .null, .null, .null, .null, .null, .null, .null, .null, .null, .null, .null])) H := hp
  have hz9 : H.size = mo + 8 := hcg.1.trans hz
  clear hz
  have hz := hz9
  clear hz9
  have hfr := fr.of_chg (A := fun q => q = mo) hcg rfl
  have hn8 := hn8.fr hfr (fun z => by have z : mo + 1 = mo := z; omega)
  have hn15 := hn15.fr hfr (fun z => by have z : mo + 2 = mo := z; omega)
  have hn23 := hn23.fr hfr (fun z => by have z : mo + 3 = mo := z; omega)
  have hn31 := hn31.fr hfr (fun z => by have z : mo + 4 = mo := z; omega)
  have hn39 := hn39.fr hfr (fun z => by have z : mo + 5 = mo := z; omega)
  have hn47 := hn47.fr hfr (fun z => by have z : mo + 6 = mo := z; omega)
  have hn55 := hn55.fr hfr (fun z => by have z : mo + 7 = mo := z; omega)
  refine lv_aload_n X.x X.b d_Model_init_60 rfl (lv_at hl 0 rfl) ?_
  refine lv_bipush (v := 121) X.x X.b d_Model_init_61 (by decide) ?_
  refine m_newI X hS hz 121 (by decide) (by decide) (by decide) (by omega) (by omega) d_Model_init_63 (fun H hn63 hgr hS hz2 => ?_)
  have hfr := fr.of_grow (A := noA) hgr
  have hn := hn.fr hfr (fun z => z.elim)
  have hn8 := hn8.fr hfr (fun z => z.elim)
  have hn15 := hn15.fr hfr (fun z => z.elim)
  have hn23 := hn23.fr hfr (fun z => z.elim)
  have hn31 := hn31.fr hfr (fun z => z.elim)
  have hn39 := hn39.fr hfr (fun z => z.elim)
  have hn47 := hn47.fr hfr (fun z => z.elim)
  have hn55 := hn55.fr hfr (fun z => z.elim)
  clear hz
  have hz : H.size = mo + 9 := by omega
  clear hz2
  refine m_putF X rfl ok_Model rfl hS (by first | exact Or.inl ⟨by omega, by omega⟩ | exact Or.inl (by omega) | exact Or.inl rfl | exact Or.inr (by omega)) hn 13 (by decide) k_Model_31 rfl (ok_Model.2.2.1 _ (by decide)) rfl rfl (Nat.le_of_ble_eq_true rfl) d_Model_init_65 (fun H locs hp hcg hS => ?_)
  have hn : pt g (mo) (.inr (ci_Model, [.int 0, .ref (mo + 1), .ref (mo + 2), .int 0, .int 0, .int 0, .int 0, .int 0, .ref (mo + 3), .ref (mo + 4), .ref (mo + 5), .ref (mo + 6), .ref (mo + 7), .ref (mo + 8), .null, .null, .null, .null, .null, .null, .null, .null, .null, .null, .null, .null, .null, .null])) H := hp
  have hz9 : H.size = mo + 9 := hcg.1.trans hz
  clear hz
  have hz := hz9
  clear hz9
  have hfr := fr.of_chg (A := fun q => q = mo) hcg rfl
  have hn8 := hn8.fr hfr (fun z => by have z : mo + 1 = mo := z; omega)
  have hn15 := hn15.fr hfr (fun z => by have z : mo + 2 = mo := z; omega)
  have hn23 := hn23.fr hfr (fun z => by have z : mo + 3 = mo := z; omega)
  have hn31 := hn31.fr hfr (fun z => by have z : mo + 4 = mo := z; omega)
  have hn39 := hn39.fr hfr (fun z => by have z : mo + 5 = mo := z; omega)
  have hn47 := hn47.fr hfr (fun z => by have z : mo + 6 = mo := z; omega)
  have hn55 := hn55.fr hfr (fun z => by have z : mo + 7 = mo := z; omega)
  have hn63 := hn63.fr hfr (fun z => by have z : mo + 8 = mo := z; omega)
  refine lv_aload_n X.x X.b d_Model_init_68 rfl (lv_at hl 0 rfl) ?_
  refine lv_bipush (v := 122) X.x X.b d_Model_init_69 (by decide) ?_
  refine m_newI X hS hz 122 (by decide) (by decide) (by decide) (by omega) (by omega) d_Model_init_71 (fun H hn71 hgr hS hz2 => ?_)
  have hfr := fr.of_grow (A := noA) hgr
  have hn := hn.fr hfr (fun z => z.elim)
  have hn8 := hn8.fr hfr (fun z => z.elim)
  have hn15 := hn15.fr hfr (fun z => z.elim)
  have hn23 := hn23.fr hfr (fun z => z.elim)
  have hn31 := hn31.fr hfr (fun z => z.elim)
  have hn39 := hn39.fr hfr (fun z => z.elim)
  have hn47 := hn47.fr hfr (fun z => z.elim)
  have hn55 := hn55.fr hfr (fun z => z.elim)
  have hn63 := hn63.fr hfr (fun z => z.elim)
  clear hz
  have hz : H.size = mo + 10 := by omega
  clear hz2
  refine m_putF X rfl ok_Model rfl hS (by first | exact Or.inl ⟨by omega, by omega⟩ | exact Or.inl (by omega) | exact Or.inl rfl | exact Or.inr (by omega)) hn 14 (by decide) k_Model_34 rfl (ok_Model.2.2.1 _ (by decide)) rfl rfl (Nat.le_of_ble_eq_true rfl) d_Model_init_73 (fun H locs hp hcg hS => ?_)
  have hn : pt g (mo) (.inr (ci_Model, [.int 0, .ref (mo + 1), .ref (mo + 2), .int 0, .int 0, .int 0, .int 0, .int 0, .ref (mo + 3), .ref (mo + 4), .ref (mo + 5), .ref (mo + 6), .ref (mo + 7), .ref (mo + 8), .ref (mo + 9), .null, .null, .null, .null, .null, .null, .null, .null, .null, .null, .null, .null, .null])) H := hp
  have hz9 : H.size = mo + 10 := hcg.1.trans hz
  clear hz
  have hz := hz9
  clear hz9
  have hfr := fr.of_chg (A := fun q => q = mo) hcg rfl
  have hn8 := hn8.fr hfr (fun z => by have z : mo + 1 = mo := z; omega)
  have hn15 := hn15.fr hfr (fun z => by have z : mo + 2 = mo := z; omega)
  have hn23 := hn23.fr hfr (fun z => by have z : mo + 3 = mo := z; omega)
  have hn31 := hn31.fr hfr (fun z => by have z : mo + 4 = mo := z; omega)
  have hn39 := hn39.fr hfr (fun z => by have z : mo + 5 = mo := z; omega)
  have hn47 := hn47.fr hfr (fun z => by have z : mo + 6 = mo := z; omega)
  have hn55 := hn55.fr hfr (fun z => by have z : mo + 7 = mo := z; omega)
  have hn63 := hn63.fr hfr (fun z => by have z : mo + 8 = mo := z; omega)
  have hn71 := hn71.fr hfr (fun z => by have z : mo + 9 = mo := z; omega)
  refine lv_aload_n X.x X.b d_Model_init_76 rfl (lv_at hl 0 rfl) ?_
  refine lv_bipush (v := 121) X.x X.b d_Model_init_77 (by decide) ?_
  refine m_newI X hS hz 121 (by decide) (by decide) (by decide) (by omega) (by omega) d_Model_init_79 (fun H hn79 hgr hS hz2 => ?_)
  have hfr := fr.of_grow (A := noA) hgr
  have hn := hn.fr hfr (fun z => z.elim)
  have hn8 := hn8.fr hfr (fun z => z.elim)
  have hn15 := hn15.fr hfr (fun z => z.elim)
  have hn23 := hn23.fr hfr (fun z => z.elim)
  have hn31 := hn31.fr hfr (fun z => z.elim)
  have hn39 := hn39.fr hfr (fun z => z.elim)
  have hn47 := hn47.fr hfr (fun z => z.elim)
  have hn55 := hn55.fr hfr (fun z => z.elim)
  have hn63 := hn63.fr hfr (fun z => z.elim)
  have hn71 := hn71.fr hfr (fun z => z.elim)
  clear hz
  have hz : H.size = mo + 11 := by omega
  clear hz2
  refine m_putF X rfl ok_Model rfl hS (by first | exact Or.inl ⟨by omega, by omega⟩ | exact Or.inl (by omega) | exact Or.inl rfl | exact Or.inr (by omega)) hn 15 (by decide) k_Model_37 rfl (ok_Model.2.2.1 _ (by decide)) rfl rfl (Nat.le_of_ble_eq_true rfl) d_Model_init_81 (fun H locs hp hcg hS => ?_)
  have hn : pt g (mo) (.inr (ci_Model, [.int 0, .ref (mo + 1), .ref (mo + 2), .int 0, .int 0, .int 0, .int 0, .int 0, .ref (mo + 3), .ref (mo + 4), .ref (mo + 5), .ref (mo + 6), .ref (mo + 7), .ref (mo + 8), .ref (mo + 9), .ref (mo + 10), .null, .null, .null, .null, .null, .null, .null, .null, .null, .null, .null, .null])) H := hp
  have hz9 : H.size = mo + 11 := hcg.1.trans hz
  clear hz
  have hz := hz9
  clear hz9
  have hfr := fr.of_chg (A := fun q => q = mo) hcg rfl
  have hn8 := hn8.fr hfr (fun z => by have z : mo + 1 = mo := z; omega)
  have hn15 := hn15.fr hfr (fun z => by have z : mo + 2 = mo := z; omega)
  have hn23 := hn23.fr hfr (fun z => by have z : mo + 3 = mo := z; omega)
  have hn31 := hn31.fr hfr (fun z => by have z : mo + 4 = mo := z; omega)
  have hn39 := hn39.fr hfr (fun z => by have z : mo + 5 = mo := z; omega)
  have hn47 := hn47.fr hfr (fun z => by have z : mo + 6 = mo := z; omega)
  have hn55 := hn55.fr hfr (fun z => by have z : mo + 7 = mo := z; omega)
  have hn63 := hn63.fr hfr (fun z => by have z : mo + 8 = mo := z; omega)
  have hn71 := hn71.fr hfr (fun z => by have z : mo + 9 = mo := z; omega)
  have hn79 := hn79.fr hfr (fun z => by have z : mo + 10 = mo := z; omega)
  refine lv_aload_n X.x X.b d_Model_init_84 rfl (lv_at hl 0 rfl) ?_
  refine lv_bipush (v := 121) X.x X.b d_Model_init_85 (by decide) ?_
  refine m_newI X hS hz 121 (by decide) (by decide) (by decide) (by omega) (by omega) d_Model_init_87 (fun H hn87 hgr hS hz2 => ?_)
  have hfr := fr.of_grow (A := noA) hgr
  have hn := hn.fr hfr (fun z => z.elim)
  have hn8 := hn8.fr hfr (fun z => z.elim)
  have hn15 := hn15.fr hfr (fun z => z.elim)
  have hn23 := hn23.fr hfr (fun z => z.elim)
  have hn31 := hn31.fr hfr (fun z => z.elim)
  have hn39 := hn39.fr hfr (fun z => z.elim)
  have hn47 := hn47.fr hfr (fun z => z.elim)
  have hn55 := hn55.fr hfr (fun z => z.elim)
  have hn63 := hn63.fr hfr (fun z => z.elim)
  have hn71 := hn71.fr hfr (fun z => z.elim)
  have hn79 := hn79.fr hfr (fun z => z.elim)
  clear hz
  have hz : H.size = mo + 12 := by omega
  clear hz2
  refine m_putF X rfl ok_Model rfl hS (by first | exact Or.inl ⟨by omega, by omega⟩ | exact Or.inl (by omega) | exact Or.inl rfl | exact Or.inr (by omega)) hn 16 (by decide) k_Model_40 rfl (ok_Model.2.2.1 _ (by decide)) rfl rfl (Nat.le_of_ble_eq_true rfl) d_Model_init_89 (fun H locs hp hcg hS => ?_)
  have hn : pt g (mo) (.inr (ci_Model, [.int 0, .ref (mo + 1), .ref (mo + 2), .int 0, .int 0, .int 0, .int 0, .int 0, .ref (mo + 3), .ref (mo + 4), .ref (mo + 5), .ref (mo + 6), .ref (mo + 7), .ref (mo + 8), .ref (mo + 9), .ref (mo + 10), .ref (mo + 11), .null, .null, .null, .null, .null, .null, .null, .null, .null, .null, .null])) H := hp
  have hz9 : H.size = mo + 12 := hcg.1.trans hz
  clear hz
  have hz := hz9
  clear hz9
  have hfr := fr.of_chg (A := fun q => q = mo) hcg rfl
  have hn8 := hn8.fr hfr (fun z => by have z : mo + 1 = mo := z; omega)
  have hn15 := hn15.fr hfr (fun z => by have z : mo + 2 = mo := z; omega)
  have hn23 := hn23.fr hfr (fun z => by have z : mo + 3 = mo := z; omega)
  have hn31 := hn31.fr hfr (fun z => by have z : mo + 4 = mo := z; omega)
  have hn39 := hn39.fr hfr (fun z => by have z : mo + 5 = mo := z; omega)
  have hn47 := hn47.fr hfr (fun z => by have z : mo + 6 = mo := z; omega)
  have hn55 := hn55.fr hfr (fun z => by have z : mo + 7 = mo := z; omega)
  have hn63 := hn63.fr hfr (fun z => by have z : mo + 8 = mo := z; omega)
  have hn71 := hn71.fr hfr (fun z => by have z : mo + 9 = mo := z; omega)
  have hn79 := hn79.fr hfr (fun z => by have z : mo + 10 = mo := z; omega)
  have hn87 := hn87.fr hfr (fun z => by have z : mo + 11 = mo := z; omega)
  refine lv_aload_n X.x X.b d_Model_init_92 rfl (lv_at hl 0 rfl) ?_
  refine lv_bipush (v := 121) X.x X.b d_Model_init_93 (by decide) ?_
  refine m_newI X hS hz 121 (by decide) (by decide) (by decide) (by omega) (by omega) d_Model_init_95 (fun H hn95 hgr hS hz2 => ?_)
  have hfr := fr.of_grow (A := noA) hgr
  have hn := hn.fr hfr (fun z => z.elim)
  have hn8 := hn8.fr hfr (fun z => z.elim)
  have hn15 := hn15.fr hfr (fun z => z.elim)
  have hn23 := hn23.fr hfr (fun z => z.elim)
  have hn31 := hn31.fr hfr (fun z => z.elim)
  have hn39 := hn39.fr hfr (fun z => z.elim)
  have hn47 := hn47.fr hfr (fun z => z.elim)
  have hn55 := hn55.fr hfr (fun z => z.elim)
  have hn63 := hn63.fr hfr (fun z => z.elim)
  have hn71 := hn71.fr hfr (fun z => z.elim)
  have hn79 := hn79.fr hfr (fun z => z.elim)
  have hn87 := hn87.fr hfr (fun z => z.elim)
  clear hz
  have hz : H.size = mo + 13 := by omega
  clear hz2
  refine m_putF X rfl ok_Model rfl hS (by first | exact Or.inl ⟨by omega, by omega⟩ | exact Or.inl (by omega) | exact Or.inl rfl | exact Or.inr (by omega)) hn 17 (by decide) k_Model_43 rfl (ok_Model.2.2.1 _ (by decide)) rfl rfl (Nat.le_of_ble_eq_true rfl) d_Model_init_97 (fun H locs hp hcg hS => ?_)
  have hn : pt g (mo) (.inr (ci_Model, [.int 0, .ref (mo + 1), .ref (mo + 2), .int 0, .int 0, .int 0, .int 0, .int 0, .ref (mo + 3), .ref (mo + 4), .ref (mo + 5), .ref (mo + 6), .ref (mo + 7), .ref (mo + 8), .ref (mo + 9), .ref (mo + 10), .ref (mo + 11), .ref (mo + 12), .null, .null, .null, .null, .null, .null, .null, .null, .null, .null])) H := hp
  have hz9 : H.size = mo + 13 := hcg.1.trans hz
  clear hz
  have hz := hz9
  clear hz9
  have hfr := fr.of_chg (A := fun q => q = mo) hcg rfl
  have hn8 := hn8.fr hfr (fun z => by have z : mo + 1 = mo := z; omega)
  have hn15 := hn15.fr hfr (fun z => by have z : mo + 2 = mo := z; omega)
  have hn23 := hn23.fr hfr (fun z => by have z : mo + 3 = mo := z; omega)
  have hn31 := hn31.fr hfr (fun z => by have z : mo + 4 = mo := z; omega)
  have hn39 := hn39.fr hfr (fun z => by have z : mo + 5 = mo := z; omega)
  have hn47 := hn47.fr hfr (fun z => by have z : mo + 6 = mo := z; omega)
  have hn55 := hn55.fr hfr (fun z => by have z : mo + 7 = mo := z; omega)
  have hn63 := hn63.fr hfr (fun z => by have z : mo + 8 = mo := z; omega)
  have hn71 := hn71.fr hfr (fun z => by have z : mo + 9 = mo := z; omega)
  have hn79 := hn79.fr hfr (fun z => by have z : mo + 10 = mo := z; omega)
  have hn87 := hn87.fr hfr (fun z => by have z : mo + 11 = mo := z; omega)
  have hn95 := hn95.fr hfr (fun z => by have z : mo + 12 = mo := z; omega)
  refine lv_aload_n X.x X.b d_Model_init_100 rfl (lv_at hl 0 rfl) ?_
  refine lv_bipush (v := 121) X.x X.b d_Model_init_101 (by decide) ?_
  refine m_newI X hS hz 121 (by decide) (by decide) (by decide) (by omega) (by omega) d_Model_init_103 (fun H hn103 hgr hS hz2 => ?_)
  have hfr := fr.of_grow (A := noA) hgr
  have hn := hn.fr hfr (fun z => z.elim)
  have hn8 := hn8.fr hfr (fun z => z.elim)
  have hn15 := hn15.fr hfr (fun z => z.elim)
  have hn23 := hn23.fr hfr (fun z => z.elim)
  have hn31 := hn31.fr hfr (fun z => z.elim)
  have hn39 := hn39.fr hfr (fun z => z.elim)
  have hn47 := hn47.fr hfr (fun z => z.elim)
  have hn55 := hn55.fr hfr (fun z => z.elim)
  have hn63 := hn63.fr hfr (fun z => z.elim)
  have hn71 := hn71.fr hfr (fun z => z.elim)
  have hn79 := hn79.fr hfr (fun z => z.elim)
  have hn87 := hn87.fr hfr (fun z => z.elim)
  have hn95 := hn95.fr hfr (fun z => z.elim)
  clear hz
  have hz : H.size = mo + 14 := by omega
  clear hz2
  refine m_putF X rfl ok_Model rfl hS (by first | exact Or.inl ⟨by omega, by omega⟩ | exact Or.inl (by omega) | exact Or.inl rfl | exact Or.inr (by omega)) hn 18 (by decide) k_Model_46 rfl (ok_Model.2.2.1 _ (by decide)) rfl rfl (Nat.le_of_ble_eq_true rfl) d_Model_init_105 (fun H locs hp hcg hS => ?_)
  have hn : pt g (mo) (.inr (ci_Model, [.int 0, .ref (mo + 1), .ref (mo + 2), .int 0, .int 0, .int 0, .int 0, .int 0, .ref (mo + 3), .ref (mo + 4), .ref (mo + 5), .ref (mo + 6), .ref (mo + 7), .ref (mo + 8), .ref (mo + 9), .ref (mo + 10), .ref (mo + 11), .ref (mo + 12), .ref (mo + 13), .null, .null, .null, .null, .null, .null, .null, .null, .null])) H := hp
  have hz9 : H.size = mo + 14 := hcg.1.trans hz
  clear hz
  have hz := hz9
  clear hz9
  have hfr := fr.of_chg (A := fun q => q = mo) hcg rfl
  have hn8 := hn8.fr hfr (fun z => by have z : mo + 1 = mo := z; omega)
  have hn15 := hn15.fr hfr (fun z => by have z : mo + 2 = mo := z; omega)
  have hn23 := hn23.fr hfr (fun z => by have z : mo + 3 = mo := z; omega)
  have hn31 := hn31.fr hfr (fun z => by have z : mo + 4 = mo := z; omega)
  have hn39 := hn39.fr hfr (fun z => by have z : mo + 5 = mo := z; omega)
  have hn47 := hn47.fr hfr (fun z => by have z : mo + 6 = mo := z; omega)
  have hn55 := hn55.fr hfr (fun z => by have z : mo + 7 = mo := z; omega)
  have hn63 := hn63.fr hfr (fun z => by have z : mo + 8 = mo := z; omega)
  have hn71 := hn71.fr hfr (fun z => by have z : mo + 9 = mo := z; omega)
  have hn79 := hn79.fr hfr (fun z => by have z : mo + 10 = mo := z; omega)
  have hn87 := hn87.fr hfr (fun z => by have z : mo + 11 = mo := z; omega)
  have hn95 := hn95.fr hfr (fun z => by have z : mo + 12 = mo := z; omega)
  have hn103 := hn103.fr hfr (fun z => by have z : mo + 13 = mo := z; omega)
  refine lv_aload_n X.x X.b d_Model_init_108 rfl (lv_at hl 0 rfl) ?_
  refine lv_bipush (v := 121) X.x X.b d_Model_init_109 (by decide) ?_
  refine m_newI X hS hz 121 (by decide) (by decide) (by decide) (by omega) (by omega) d_Model_init_111 (fun H hn111 hgr hS hz2 => ?_)
  have hfr := fr.of_grow (A := noA) hgr
  have hn := hn.fr hfr (fun z => z.elim)
  have hn8 := hn8.fr hfr (fun z => z.elim)
  have hn15 := hn15.fr hfr (fun z => z.elim)
  have hn23 := hn23.fr hfr (fun z => z.elim)
  have hn31 := hn31.fr hfr (fun z => z.elim)
  have hn39 := hn39.fr hfr (fun z => z.elim)
  have hn47 := hn47.fr hfr (fun z => z.elim)
  have hn55 := hn55.fr hfr (fun z => z.elim)
  have hn63 := hn63.fr hfr (fun z => z.elim)
  have hn71 := hn71.fr hfr (fun z => z.elim)
  have hn79 := hn79.fr hfr (fun z => z.elim)
  have hn87 := hn87.fr hfr (fun z => z.elim)
  have hn95 := hn95.fr hfr (fun z => z.elim)
  have hn103 := hn103.fr hfr (fun z => z.elim)
  clear hz
  have hz : H.size = mo + 15 := by omega
  clear hz2
  refine m_putF X rfl ok_Model rfl hS (by first | exact Or.inl ⟨by omega, by omega⟩ | exact Or.inl (by omega) | exact Or.inl rfl | exact Or.inr (by omega)) hn 19 (by decide) k_Model_49 rfl (ok_Model.2.2.1 _ (by decide)) rfl rfl (Nat.le_of_ble_eq_true rfl) d_Model_init_113 (fun H locs hp hcg hS => ?_)
  have hn : pt g (mo) (.inr (ci_Model, [.int 0, .ref (mo + 1), .ref (mo + 2), .int 0, .int 0, .int 0, .int 0, .int 0, .ref (mo + 3), .ref (mo + 4), .ref (mo + 5), .ref (mo + 6), .ref (mo + 7), .ref (mo + 8), .ref (mo + 9), .ref (mo + 10), .ref (mo + 11), .ref (mo + 12), .ref (mo + 13), .ref (mo + 14), .null, .null, .null, .null, .null, .null, .null, .null])) H := hp
  have hz9 : H.size = mo + 15 := hcg.1.trans hz
  clear hz
  have hz := hz9
  clear hz9
  have hfr := fr.of_chg (A := fun q => q = mo) hcg rfl
  have hn8 := hn8.fr hfr (fun z => by have z : mo + 1 = mo := z; omega)
  have hn15 := hn15.fr hfr (fun z => by have z : mo + 2 = mo := z; omega)
  have hn23 := hn23.fr hfr (fun z => by have z : mo + 3 = mo := z; omega)
  have hn31 := hn31.fr hfr (fun z => by have z : mo + 4 = mo := z; omega)
  have hn39 := hn39.fr hfr (fun z => by have z : mo + 5 = mo := z; omega)
  have hn47 := hn47.fr hfr (fun z => by have z : mo + 6 = mo := z; omega)
  have hn55 := hn55.fr hfr (fun z => by have z : mo + 7 = mo := z; omega)
  have hn63 := hn63.fr hfr (fun z => by have z : mo + 8 = mo := z; omega)
  have hn71 := hn71.fr hfr (fun z => by have z : mo + 9 = mo := z; omega)
  have hn79 := hn79.fr hfr (fun z => by have z : mo + 10 = mo := z; omega)
  have hn87 := hn87.fr hfr (fun z => by have z : mo + 11 = mo := z; omega)
  have hn95 := hn95.fr hfr (fun z => by have z : mo + 12 = mo := z; omega)
  have hn103 := hn103.fr hfr (fun z => by have z : mo + 13 = mo := z; omega)
  have hn111 := hn111.fr hfr (fun z => by have z : mo + 14 = mo := z; omega)
  refine lv_aload_n X.x X.b d_Model_init_116 rfl (lv_at hl 0 rfl) ?_
  refine lv_bipush (v := 121) X.x X.b d_Model_init_117 (by decide) ?_
  refine m_newI X hS hz 121 (by decide) (by decide) (by decide) (by omega) (by omega) d_Model_init_119 (fun H hn119 hgr hS hz2 => ?_)
  have hfr := fr.of_grow (A := noA) hgr
  have hn := hn.fr hfr (fun z => z.elim)
  have hn8 := hn8.fr hfr (fun z => z.elim)
  have hn15 := hn15.fr hfr (fun z => z.elim)
  have hn23 := hn23.fr hfr (fun z => z.elim)
  have hn31 := hn31.fr hfr (fun z => z.elim)
  have hn39 := hn39.fr hfr (fun z => z.elim)
  have hn47 := hn47.fr hfr (fun z => z.elim)
  have hn55 := hn55.fr hfr (fun z => z.elim)
  have hn63 := hn63.fr hfr (fun z => z.elim)
  have hn71 := hn71.fr hfr (fun z => z.elim)
  have hn79 := hn79.fr hfr (fun z => z.elim)
  have hn87 := hn87.fr hfr (fun z => z.elim)
  have hn95 := hn95.fr hfr (fun z => z.elim)
  have hn103 := hn103.fr hfr (fun z => z.elim)
  have hn111 := hn111.fr hfr (fun z => z.elim)
  clear hz
  have hz : H.size = mo + 16 := by omega
  clear hz2
  refine m_putF X rfl ok_Model rfl hS (by first | exact Or.inl ⟨by omega, by omega⟩ | exact Or.inl (by omega) | exact Or.inl rfl | exact Or.inr (by omega)) hn 20 (by decide) k_Model_52 rfl (ok_Model.2.2.1 _ (by decide)) rfl rfl (Nat.le_of_ble_eq_true rfl) d_Model_init_121 (fun H locs hp hcg hS => ?_)
  have hn : pt g (mo) (.inr (ci_Model, [.int 0, .ref (mo + 1), .ref (mo + 2), .int 0, .int 0, .int 0, .int 0, .int 0, .ref (mo + 3), .ref (mo + 4), .ref (mo + 5), .ref (mo + 6), .ref (mo + 7), .ref (mo + 8), .ref (mo + 9), .ref (mo + 10), .ref (mo + 11), .ref (mo + 12), .ref (mo + 13), .ref (mo + 14), .ref (mo + 15), .null, .null, .null, .null, .null, .null, .null])) H := hp
  have hz9 : H.size = mo + 16 := hcg.1.trans hz
  clear hz
  have hz := hz9
  clear hz9
  have hfr := fr.of_chg (A := fun q => q = mo) hcg rfl
  have hn8 := hn8.fr hfr (fun z => by have z : mo + 1 = mo := z; omega)
  have hn15 := hn15.fr hfr (fun z => by have z : mo + 2 = mo := z; omega)
  have hn23 := hn23.fr hfr (fun z => by have z : mo + 3 = mo := z; omega)
  have hn31 := hn31.fr hfr (fun z => by have z : mo + 4 = mo := z; omega)
  have hn39 := hn39.fr hfr (fun z => by have z : mo + 5 = mo := z; omega)
  have hn47 := hn47.fr hfr (fun z => by have z : mo + 6 = mo := z; omega)
  have hn55 := hn55.fr hfr (fun z => by have z : mo + 7 = mo := z; omega)
  have hn63 := hn63.fr hfr (fun z => by have z : mo + 8 = mo := z; omega)
  have hn71 := hn71.fr hfr (fun z => by have z : mo + 9 = mo := z; omega)
  have hn79 := hn79.fr hfr (fun z => by have z : mo + 10 = mo := z; omega)
  have hn87 := hn87.fr hfr (fun z => by have z : mo + 11 = mo := z; omega)
  have hn95 := hn95.fr hfr (fun z => by have z : mo + 12 = mo := z; omega)
  have hn103 := hn103.fr hfr (fun z => by have z : mo + 13 = mo := z; omega)
  have hn111 := hn111.fr hfr (fun z => by have z : mo + 14 = mo := z; omega)
  have hn119 := hn119.fr hfr (fun z => by have z : mo + 15 = mo := z; omega)
  refine lv_aload_n X.x X.b d_Model_init_124 rfl (lv_at hl 0 rfl) ?_
  refine lv_bipush (v := 121) X.x X.b d_Model_init_125 (by decide) ?_
  refine m_newI X hS hz 121 (by decide) (by decide) (by decide) (by omega) (by omega) d_Model_init_127 (fun H hn127 hgr hS hz2 => ?_)
  have hfr := fr.of_grow (A := noA) hgr
  have hn := hn.fr hfr (fun z => z.elim)
  have hn8 := hn8.fr hfr (fun z => z.elim)
  have hn15 := hn15.fr hfr (fun z => z.elim)
  have hn23 := hn23.fr hfr (fun z => z.elim)
  have hn31 := hn31.fr hfr (fun z => z.elim)
  have hn39 := hn39.fr hfr (fun z => z.elim)
  have hn47 := hn47.fr hfr (fun z => z.elim)
  have hn55 := hn55.fr hfr (fun z => z.elim)
  have hn63 := hn63.fr hfr (fun z => z.elim)
  have hn71 := hn71.fr hfr (fun z => z.elim)
  have hn79 := hn79.fr hfr (fun z => z.elim)
  have hn87 := hn87.fr hfr (fun z => z.elim)
  have hn95 := hn95.fr hfr (fun z => z.elim)
  have hn103 := hn103.fr hfr (fun z => z.elim)
  have hn111 := hn111.fr hfr (fun z => z.elim)
  have hn119 := hn119.fr hfr (fun z => z.elim)
  clear hz
  have hz : H.size = mo + 17 := by omega
  clear hz2
  refine m_putF X rfl ok_Model rfl hS (by first | exact Or.inl ⟨by omega, by omega⟩ | exact Or.inl (by omega) | exact Or.inl rfl | exact Or.inr (by omega)) hn 21 (by decide) k_Model_55 rfl (ok_Model.2.2.1 _ (by decide)) rfl rfl (Nat.le_of_ble_eq_true rfl) d_Model_init_129 (fun H locs hp hcg hS => ?_)
  have hn : pt g (mo) (.inr (ci_Model, [.int 0, .ref (mo + 1), .ref (mo + 2), .int 0, .int 0, .int 0, .int 0, .int 0, .ref (mo + 3), .ref (mo + 4), .ref (mo + 5), .ref (mo + 6), .ref (mo + 7), .ref (mo + 8), .ref (mo + 9), .ref (mo + 10), .ref (mo + 11), .ref (mo + 12), .ref (mo + 13), .ref (mo + 14), .ref (mo + 15), .ref (mo + 16), .null, .null, .null, .null, .null, .null])) H := hp
  have hz9 : H.size = mo + 17 := hcg.1.trans hz
  clear hz
  have hz := hz9
  clear hz9
  have hfr := fr.of_chg (A := fun q => q = mo) hcg rfl
  have hn8 := hn8.fr hfr (fun z => by have z : mo + 1 = mo := z; omega)
  have hn15 := hn15.fr hfr (fun z => by have z : mo + 2 = mo := z; omega)
  have hn23 := hn23.fr hfr (fun z => by have z : mo + 3 = mo := z; omega)
  have hn31 := hn31.fr hfr (fun z => by have z : mo + 4 = mo := z; omega)
  have hn39 := hn39.fr hfr (fun z => by have z : mo + 5 = mo := z; omega)
  have hn47 := hn47.fr hfr (fun z => by have z : mo + 6 = mo := z; omega)
  have hn55 := hn55.fr hfr (fun z => by have z : mo + 7 = mo := z; omega)
  have hn63 := hn63.fr hfr (fun z => by have z : mo + 8 = mo := z; omega)
  have hn71 := hn71.fr hfr (fun z => by have z : mo + 9 = mo := z; omega)
  have hn79 := hn79.fr hfr (fun z => by have z : mo + 10 = mo := z; omega)
  have hn87 := hn87.fr hfr (fun z => by have z : mo + 11 = mo := z; omega)
  have hn95 := hn95.fr hfr (fun z => by have z : mo + 12 = mo := z; omega)
  have hn103 := hn103.fr hfr (fun z => by have z : mo + 13 = mo := z; omega)
  have hn111 := hn111.fr hfr (fun z => by have z : mo + 14 = mo := z; omega)
  have hn119 := hn119.fr hfr (fun z => by have z : mo + 15 = mo := z; omega)
  have hn127 := hn127.fr hfr (fun z => by have z : mo + 16 = mo := z; omega)
  refine lv_aload_n X.x X.b d_Model_init_132 rfl (lv_at hl 0 rfl) ?_
  refine lv_bipush (v := 121) X.x X.b d_Model_init_133 (by decide) ?_
  refine m_newI X hS hz 121 (by decide) (by decide) (by decide) (by omega) (by omega) d_Model_init_135 (fun H hn135 hgr hS hz2 => ?_)
  have hfr := fr.of_grow (A := noA) hgr
  have hn := hn.fr hfr (fun z => z.elim)
  have hn8 := hn8.fr hfr (fun z => z.elim)
  have hn15 := hn15.fr hfr (fun z => z.elim)
  have hn23 := hn23.fr hfr (fun z => z.elim)
  have hn31 := hn31.fr hfr (fun z => z.elim)
  have hn39 := hn39.fr hfr (fun z => z.elim)
  have hn47 := hn47.fr hfr (fun z => z.elim)
  have hn55 := hn55.fr hfr (fun z => z.elim)
  have hn63 := hn63.fr hfr (fun z => z.elim)
  have hn71 := hn71.fr hfr (fun z => z.elim)
  have hn79 := hn79.fr hfr (fun z => z.elim)
  have hn87 := hn87.fr hfr (fun z => z.elim)
  have hn95 := hn95.fr hfr (fun z => z.elim)
  have hn103 := hn103.fr hfr (fun z => z.elim)
  have hn111 := hn111.fr hfr (fun z => z.elim)
  have hn119 := hn119.fr hfr (fun z => z.elim)
  have hn127 := hn127.fr hfr (fun z => z.elim)
  clear hz
  have hz : H.size = mo + 18 := by omega
  clear hz2
  refine m_putF X rfl ok_Model rfl hS (by first | exact Or.inl ⟨by omega, by omega⟩ | exact Or.inl (by omega) | exact Or.inl rfl | exact Or.inr (by omega)) hn 22 (by decide) k_Model_58 rfl (ok_Model.2.2.1 _ (by decide)) rfl rfl (Nat.le_of_ble_eq_true rfl) d_Model_init_137 (fun H locs hp hcg hS => ?_)
  have hn : pt g (mo) (.inr (ci_Model, [.int 0, .ref (mo + 1), .ref (mo + 2), .int 0, .int 0, .int 0, .int 0, .int 0, .ref (mo + 3), .ref (mo + 4), .ref (mo + 5), .ref (mo + 6), .ref (mo + 7), .ref (mo + 8), .ref (mo + 9), .ref (mo + 10), .ref (mo + 11), .ref (mo + 12), .ref (mo + 13), .ref (mo + 14), .ref (mo + 15), .ref (mo + 16), .ref (mo + 17), .null, .null, .null, .null, .null])) H := hp
  have hz9 : H.size = mo + 18 := hcg.1.trans hz
  clear hz
  have hz := hz9
  clear hz9
  have hfr := fr.of_chg (A := fun q => q = mo) hcg rfl
  have hn8 := hn8.fr hfr (fun z => by have z : mo + 1 = mo := z; omega)
  have hn15 := hn15.fr hfr (fun z => by have z : mo + 2 = mo := z; omega)
  have hn23 := hn23.fr hfr (fun z => by have z : mo + 3 = mo := z; omega)
  have hn31 := hn31.fr hfr (fun z => by have z : mo + 4 = mo := z; omega)
  have hn39 := hn39.fr hfr (fun z => by have z : mo + 5 = mo := z; omega)
  have hn47 := hn47.fr hfr (fun z => by have z : mo + 6 = mo := z; omega)
  have hn55 := hn55.fr hfr (fun z => by have z : mo + 7 = mo := z; omega)
  have hn63 := hn63.fr hfr (fun z => by have z : mo + 8 = mo := z; omega)
  have hn71 := hn71.fr hfr (fun z => by have z : mo + 9 = mo := z; omega)
  have hn79 := hn79.fr hfr (fun z => by have z : mo + 10 = mo := z; omega)
  have hn87 := hn87.fr hfr (fun z => by have z : mo + 11 = mo := z; omega)
  have hn95 := hn95.fr hfr (fun z => by have z : mo + 12 = mo := z; omega)
  have hn103 := hn103.fr hfr (fun z => by have z : mo + 13 = mo := z; omega)
  have hn111 := hn111.fr hfr (fun z => by have z : mo + 14 = mo := z; omega)
  have hn119 := hn119.fr hfr (fun z => by have z : mo + 15 = mo := z; omega)
  have hn127 := hn127.fr hfr (fun z => by have z : mo + 16 = mo := z; omega)
  have hn135 := hn135.fr hfr (fun z => by have z : mo + 17 = mo := z; omega)
  refine lv_aload_n X.x X.b d_Model_init_140 rfl (lv_at hl 0 rfl) ?_
  refine lv_bipush (v := 121) X.x X.b d_Model_init_141 (by decide) ?_
  refine m_newZ X hS hz 121 (by decide) (by decide) (by decide) (by omega) (by omega) d_Model_init_143 (fun H hn143 hgr hS hz2 => ?_)
  have hfr := fr.of_grow (A := noA) hgr
  have hn := hn.fr hfr (fun z => z.elim)
  have hn8 := hn8.fr hfr (fun z => z.elim)
  have hn15 := hn15.fr hfr (fun z => z.elim)
  have hn23 := hn23.fr hfr (fun z => z.elim)
  have hn31 := hn31.fr hfr (fun z => z.elim)
  have hn39 := hn39.fr hfr (fun z => z.elim)
  have hn47 := hn47.fr hfr (fun z => z.elim)
  have hn55 := hn55.fr hfr (fun z => z.elim)
  have hn63 := hn63.fr hfr (fun z => z.elim)
  have hn71 := hn71.fr hfr (fun z => z.elim)
  have hn79 := hn79.fr hfr (fun z => z.elim)
  have hn87 := hn87.fr hfr (fun z => z.elim)
  have hn95 := hn95.fr hfr (fun z => z.elim)
  have hn103 := hn103.fr hfr (fun z => z.elim)
  have hn111 := hn111.fr hfr (fun z => z.elim)
  have hn119 := hn119.fr hfr (fun z => z.elim)
  have hn127 := hn127.fr hfr (fun z => z.elim)
  have hn135 := hn135.fr hfr (fun z => z.elim)
  clear hz
  have hz : H.size = mo + 19 := by omega
  clear hz2
  refine m_putF X rfl ok_Model rfl hS (by first | exact Or.inl ⟨by omega, by omega⟩ | exact Or.inl (by omega) | exact Or.inl rfl | exact Or.inr (by omega)) hn 23 (by decide) k_Model_61 rfl (ok_Model.2.2.1 _ (by decide)) rfl rfl (Nat.le_of_ble_eq_true rfl) d_Model_init_145 (fun H locs hp hcg hS => ?_)
  have hn : pt g (mo) (.inr (ci_Model, [.int 0, .ref (mo + 1), .ref (mo + 2), .int 0, .int 0, .int 0, .int 0, .int 0, .ref (mo + 3), .ref (mo + 4), .ref (mo + 5), .ref (mo + 6), .ref (mo + 7), .ref (mo + 8), .ref (mo + 9), .ref (mo + 10), .ref (mo + 11), .ref (mo + 12), .ref (mo + 13), .ref (mo + 14), .ref (mo + 15), .ref (mo + 16), .ref (mo + 17), .ref (mo + 18), .null, .null, .null, .null])) H := hp
  have hz9 : H.size = mo + 19 := hcg.1.trans hz
  clear hz
  have hz := hz9
  clear hz9
  have hfr := fr.of_chg (A := fun q => q = mo) hcg rfl
  have hn8 := hn8.fr hfr (fun z => by have z : mo + 1 = mo := z; omega)
  have hn15 := hn15.fr hfr (fun z => by have z : mo + 2 = mo := z; omega)
  have hn23 := hn23.fr hfr (fun z => by have z : mo + 3 = mo := z; omega)
  have hn31 := hn31.fr hfr (fun z => by have z : mo + 4 = mo := z; omega)
  have hn39 := hn39.fr hfr (fun z => by have z : mo + 5 = mo := z; omega)
  have hn47 := hn47.fr hfr (fun z => by have z : mo + 6 = mo := z; omega)
  have hn55 := hn55.fr hfr (fun z => by have z : mo + 7 = mo := z; omega)
  have hn63 := hn63.fr hfr (fun z => by have z : mo + 8 = mo := z; omega)
  have hn71 := hn71.fr hfr (fun z => by have z : mo + 9 = mo := z; omega)
  have hn79 := hn79.fr hfr (fun z => by have z : mo + 10 = mo := z; omega)
  have hn87 := hn87.fr hfr (fun z => by have z : mo + 11 = mo := z; omega)
  have hn95 := hn95.fr hfr (fun z => by have z : mo + 12 = mo := z; omega)
  have hn103 := hn103.fr hfr (fun z => by have z : mo + 13 = mo := z; omega)
  have hn111 := hn111.fr hfr (fun z => by have z : mo + 14 = mo := z; omega)
  have hn119 := hn119.fr hfr (fun z => by have z : mo + 15 = mo := z; omega)
  have hn127 := hn127.fr hfr (fun z => by have z : mo + 16 = mo := z; omega)
  have hn135 := hn135.fr hfr (fun z => by have z : mo + 17 = mo := z; omega)
  have hn143 := hn143.fr hfr (fun z => by have z : mo + 18 = mo := z; omega)
  refine lv_aload_n X.x X.b d_Model_init_148 rfl (lv_at hl 0 rfl) ?_
  refine lv_bipush (v := 121) X.x X.b d_Model_init_149 (by decide) ?_
  refine m_newZ X hS hz 121 (by decide) (by decide) (by decide) (by omega) (by omega) d_Model_init_151 (fun H hn151 hgr hS hz2 => ?_)
  have hfr := fr.of_grow (A := noA) hgr
  have hn := hn.fr hfr (fun z => z.elim)
  have hn8 := hn8.fr hfr (fun z => z.elim)
  have hn15 := hn15.fr hfr (fun z => z.elim)
  have hn23 := hn23.fr hfr (fun z => z.elim)
  have hn31 := hn31.fr hfr (fun z => z.elim)
  have hn39 := hn39.fr hfr (fun z => z.elim)
  have hn47 := hn47.fr hfr (fun z => z.elim)
  have hn55 := hn55.fr hfr (fun z => z.elim)
  have hn63 := hn63.fr hfr (fun z => z.elim)
  have hn71 := hn71.fr hfr (fun z => z.elim)
  have hn79 := hn79.fr hfr (fun z => z.elim)
  have hn87 := hn87.fr hfr (fun z => z.elim)
  have hn95 := hn95.fr hfr (fun z => z.elim)
  have hn103 := hn103.fr hfr (fun z => z.elim)
  have hn111 := hn111.fr hfr (fun z => z.elim)
  have hn119 := hn119.fr hfr (fun z => z.elim)
  have hn127 := hn127.fr hfr (fun z => z.elim)
  have hn135 := hn135.fr hfr (fun z => z.elim)
  have hn143 := hn143.fr hfr (fun z => z.elim)
  clear hz
  have hz : H.size = mo + 20 := by omega
  clear hz2
  refine m_putF X rfl ok_Model rfl hS (by first | exact Or.inl ⟨by omega, by omega⟩ | exact Or.inl (by omega) | exact Or.inl rfl | exact Or.inr (by omega)) hn 24 (by decide) k_Model_65 rfl (ok_Model.2.2.1 _ (by decide)) rfl rfl (Nat.le_of_ble_eq_true rfl) d_Model_init_153 (fun H locs hp hcg hS => ?_)
  have hn : pt g (mo) (.inr (ci_Model, [.int 0, .ref (mo + 1), .ref (mo + 2), .int 0, .int 0, .int 0, .int 0, .int 0, .ref (mo + 3), .ref (mo + 4), .ref (mo + 5), .ref (mo + 6), .ref (mo + 7), .ref (mo + 8), .ref (mo + 9), .ref (mo + 10), .ref (mo + 11), .ref (mo + 12), .ref (mo + 13), .ref (mo + 14), .ref (mo + 15), .ref (mo + 16), .ref (mo + 17), .ref (mo + 18), .ref (mo + 19), .null, .null, .null])) H := hp
  have hz9 : H.size = mo + 20 := hcg.1.trans hz
  clear hz
  have hz := hz9
  clear hz9
  have hfr := fr.of_chg (A := fun q => q = mo) hcg rfl
  have hn8 := hn8.fr hfr (fun z => by have z : mo + 1 = mo := z; omega)
  have hn15 := hn15.fr hfr (fun z => by have z : mo + 2 = mo := z; omega)
  have hn23 := hn23.fr hfr (fun z => by have z : mo + 3 = mo := z; omega)
  have hn31 := hn31.fr hfr (fun z => by have z : mo + 4 = mo := z; omega)
  have hn39 := hn39.fr hfr (fun z => by have z : mo + 5 = mo := z; omega)
  have hn47 := hn47.fr hfr (fun z => by have z : mo + 6 = mo := z; omega)
  have hn55 := hn55.fr hfr (fun z => by have z : mo + 7 = mo := z; omega)
  have hn63 := hn63.fr hfr (fun z => by have z : mo + 8 = mo := z; omega)
  have hn71 := hn71.fr hfr (fun z => by have z : mo + 9 = mo := z; omega)
  have hn79 := hn79.fr hfr (fun z => by have z : mo + 10 = mo := z; omega)
  have hn87 := hn87.fr hfr (fun z => by have z : mo + 11 = mo := z; omega)
  have hn95 := hn95.fr hfr (fun z => by have z : mo + 12 = mo := z; omega)
  have hn103 := hn103.fr hfr (fun z => by have z : mo + 13 = mo := z; omega)
  have hn111 := hn111.fr hfr (fun z => by have z : mo + 14 = mo := z; omega)
  have hn119 := hn119.fr hfr (fun z => by have z : mo + 15 = mo := z; omega)
  have hn127 := hn127.fr hfr (fun z => by have z : mo + 16 = mo := z; omega)
  have hn135 := hn135.fr hfr (fun z => by have z : mo + 17 = mo := z; omega)
  have hn143 := hn143.fr hfr (fun z => by have z : mo + 18 = mo := z; omega)
  have hn151 := hn151.fr hfr (fun z => by have z : mo + 19 = mo := z; omega)
  refine lv_aload_n X.x X.b d_Model_init_156 rfl (lv_at hl 0 rfl) ?_
  refine lv_bipush (v := 8) X.x X.b d_Model_init_157 (by decide) ?_
  refine m_newI X hS hz 8 (by decide) (by decide) (by decide) (by omega) (by omega) d_Model_init_159 (fun H hn159 hgr hS hz2 => ?_)
  have hfr := fr.of_grow (A := noA) hgr
  have hn := hn.fr hfr (fun z => z.elim)
  have hn8 := hn8.fr hfr (fun z => z.elim)
  have hn15 := hn15.fr hfr (fun z => z.elim)
  have hn23 := hn23.fr hfr (fun z => z.elim)
  have hn31 := hn31.fr hfr (fun z => z.elim)
  have hn39 := hn39.fr hfr (fun z => z.elim)
  have hn47 := hn47.fr hfr (fun z => z.elim)
  have hn55 := hn55.fr hfr (fun z => z.elim)
  have hn63 := hn63.fr hfr (fun z => z.elim)
  have hn71 := hn71.fr hfr (fun z => z.elim)
  have hn79 := hn79.fr hfr (fun z => z.elim)
  have hn87 := hn87.fr hfr (fun z => z.elim)
  have hn95 := hn95.fr hfr (fun z => z.elim)
  have hn103 := hn103.fr hfr (fun z => z.elim)
  have hn111 := hn111.fr hfr (fun z => z.elim)
  have hn119 := hn119.fr hfr (fun z => z.elim)
  have hn127 := hn127.fr hfr (fun z => z.elim)
  have hn135 := hn135.fr hfr (fun z => z.elim)
  have hn143 := hn143.fr hfr (fun z => z.elim)
  have hn151 := hn151.fr hfr (fun z => z.elim)
  clear hz
  have hz : H.size = mo + 21 := by omega
  clear hz2
  refine m_putF X rfl ok_Model rfl hS (by first | exact Or.inl ⟨by omega, by omega⟩ | exact Or.inl (by omega) | exact Or.inl rfl | exact Or.inr (by omega)) hn 25 (by decide) k_Model_68 rfl (ok_Model.2.2.1 _ (by decide)) rfl rfl (Nat.le_of_ble_eq_true rfl) d_Model_init_161 (fun H locs hp hcg hS => ?_)
  have hn : pt g (mo) (.inr (ci_Model, [.int 0, .ref (mo + 1), .ref (mo + 2), .int 0, .int 0, .int 0, .int 0, .int 0, .ref (mo + 3), .ref (mo + 4), .ref (mo + 5), .ref (mo + 6), .ref (mo + 7), .ref (mo + 8), .ref (mo + 9), .ref (mo + 10), .ref (mo + 11), .ref (mo + 12), .ref (mo + 13), .ref (mo + 14), .ref (mo + 15), .ref (mo + 16), .ref (mo + 17), .ref (mo + 18), .ref (mo + 19), .ref (mo + 20), .null, .null])) H := hp
  have hz9 : H.size = mo + 21 := hcg.1.trans hz
  clear hz
  have hz := hz9
  clear hz9
  have hfr := fr.of_chg (A := fun q => q = mo) hcg rfl
  have hn8 := hn8.fr hfr (fun z => by have z : mo + 1 = mo := z; omega)
  have hn15 := hn15.fr hfr (fun z => by have z : mo + 2 = mo := z; omega)
  have hn23 := hn23.fr hfr (fun z => by have z : mo + 3 = mo := z; omega)
  have hn31 := hn31.fr hfr (fun z => by have z : mo + 4 = mo := z; omega)
  have hn39 := hn39.fr hfr (fun z => by have z : mo + 5 = mo := z; omega)
  have hn47 := hn47.fr hfr (fun z => by have z : mo + 6 = mo := z; omega)
  have hn55 := hn55.fr hfr (fun z => by have z : mo + 7 = mo := z; omega)
  have hn63 := hn63.fr hfr (fun z => by have z : mo + 8 = mo := z; omega)
  have hn71 := hn71.fr hfr (fun z => by have z : mo + 9 = mo := z; omega)
  have hn79 := hn79.fr hfr (fun z => by have z : mo + 10 = mo := z; omega)
  have hn87 := hn87.fr hfr (fun z => by have z : mo + 11 = mo := z; omega)
  have hn95 := hn95.fr hfr (fun z => by have z : mo + 12 = mo := z; omega)
  have hn103 := hn103.fr hfr (fun z => by have z : mo + 13 = mo := z; omega)
  have hn111 := hn111.fr hfr (fun z => by have z : mo + 14 = mo := z; omega)
  have hn119 := hn119.fr hfr (fun z => by have z : mo + 15 = mo := z; omega)
  have hn127 := hn127.fr hfr (fun z => by have z : mo + 16 = mo := z; omega)
  have hn135 := hn135.fr hfr (fun z => by have z : mo + 17 = mo := z; omega)
  have hn143 := hn143.fr hfr (fun z => by have z : mo + 18 = mo := z; omega)
  have hn151 := hn151.fr hfr (fun z => by have z : mo + 19 = mo := z; omega)
  have hn159 := hn159.fr hfr (fun z => by have z : mo + 20 = mo := z; omega)
  refine lv_aload_n X.x X.b d_Model_init_164 rfl (lv_at hl 0 rfl) ?_
  refine lv_bipush (v := 8) X.x X.b d_Model_init_165 (by decide) ?_
  refine m_newI X hS hz 8 (by decide) (by decide) (by decide) (by omega) (by omega) d_Model_init_167 (fun H hn167 hgr hS hz2 => ?_)
  have hfr := fr.of_grow (A := noA) hgr
  have hn := hn.fr hfr (fun z => z.elim)
  have hn8 := hn8.fr hfr (fun z => z.elim)
  have hn15 := hn15.fr hfr (fun z => z.elim)
  have hn23 := hn23.fr hfr (fun z => z.elim)
  have hn31 := hn31.fr hfr (fun z => z.elim)
  have hn39 := hn39.fr hfr (fun z => z.elim)
  have hn47 := hn47.fr hfr (fun z => z.elim)
  have hn55 := hn55.fr hfr (fun z => z.elim)
  have hn63 := hn63.fr hfr (fun z => z.elim)
  have hn71 := hn71.fr hfr (fun z => z.elim)
  have hn79 := hn79.fr hfr (fun z => z.elim)
  have hn87 := hn87.fr hfr (fun z => z.elim)
  have hn95 := hn95.fr hfr (fun z => z.elim)
  have hn103 := hn103.fr hfr (fun z => z.elim)
  have hn111 := hn111.fr hfr (fun z => z.elim)
  have hn119 := hn119.fr hfr (fun z => z.elim)
  have hn127 := hn127.fr hfr (fun z => z.elim)
  have hn135 := hn135.fr hfr (fun z => z.elim)
  have hn143 := hn143.fr hfr (fun z => z.elim)
  have hn151 := hn151.fr hfr (fun z => z.elim)
  have hn159 := hn159.fr hfr (fun z => z.elim)
  clear hz
  have hz : H.size = mo + 22 := by omega
  clear hz2
  refine m_putF X rfl ok_Model rfl hS (by first | exact Or.inl ⟨by omega, by omega⟩ | exact Or.inl (by omega) | exact Or.inl rfl | exact Or.inr (by omega)) hn 26 (by decide) k_Model_71 rfl (ok_Model.2.2.1 _ (by decide)) rfl rfl (Nat.le_of_ble_eq_true rfl) d_Model_init_169 (fun H locs hp hcg hS => ?_)
  have hn : pt g (mo) (.inr (ci_Model, [.int 0, .ref (mo + 1), .ref (mo + 2), .int 0, .int 0, .int 0, .int 0, .int 0, .ref (mo + 3), .ref (mo + 4), .ref (mo + 5), .ref (mo + 6), .ref (mo + 7), .ref (mo + 8), .ref (mo + 9), .ref (mo + 10), .ref (mo + 11), .ref (mo + 12), .ref (mo + 13), .ref (mo + 14), .ref (mo + 15), .ref (mo + 16), .ref (mo + 17), .ref (mo + 18), .ref (mo + 19), .ref (mo + 20), .ref (mo + 21), .null])) H := hp
  have hz9 : H.size = mo + 22 := hcg.1.trans hz
  clear hz
  have hz := hz9
  clear hz9
  have hfr := fr.of_chg (A := fun q => q = mo) hcg rfl
  have hn8 := hn8.fr hfr (fun z => by have z : mo + 1 = mo := z; omega)
  have hn15 := hn15.fr hfr (fun z => by have z : mo + 2 = mo := z; omega)
  have hn23 := hn23.fr hfr (fun z => by have z : mo + 3 = mo := z; omega)
  have hn31 := hn31.fr hfr (fun z => by have z : mo + 4 = mo := z; omega)
  have hn39 := hn39.fr hfr (fun z => by have z : mo + 5 = mo := z; omega)
  have hn47 := hn47.fr hfr (fun z => by have z : mo + 6 = mo := z; omega)
  have hn55 := hn55.fr hfr (fun z => by have z : mo + 7 = mo := z; omega)
  have hn63 := hn63.fr hfr (fun z => by have z : mo + 8 = mo := z; omega)
  have hn71 := hn71.fr hfr (fun z => by have z : mo + 9 = mo := z; omega)
  have hn79 := hn79.fr hfr (fun z => by have z : mo + 10 = mo := z; omega)
  have hn87 := hn87.fr hfr (fun z => by have z : mo + 11 = mo := z; omega)
  have hn95 := hn95.fr hfr (fun z => by have z : mo + 12 = mo := z; omega)
  have hn103 := hn103.fr hfr (fun z => by have z : mo + 13 = mo := z; omega)
  have hn111 := hn111.fr hfr (fun z => by have z : mo + 14 = mo := z; omega)
  have hn119 := hn119.fr hfr (fun z => by have z : mo + 15 = mo := z; omega)
  have hn127 := hn127.fr hfr (fun z => by have z : mo + 16 = mo := z; omega)
  have hn135 := hn135.fr hfr (fun z => by have z : mo + 17 = mo := z; omega)
  have hn143 := hn143.fr hfr (fun z => by have z : mo + 18 = mo := z; omega)
  have hn151 := hn151.fr hfr (fun z => by have z : mo + 19 = mo := z; omega)
  have hn159 := hn159.fr hfr (fun z => by have z : mo + 20 = mo := z; omega)
  have hn167 := hn167.fr hfr (fun z => by have z : mo + 21 = mo := z; omega)
  refine lv_aload_n X.x X.b d_Model_init_172 rfl (lv_at hl 0 rfl) ?_
  refine lv_bipush (v := 8) X.x X.b d_Model_init_173 (by decide) ?_
  refine m_newI X hS hz 8 (by decide) (by decide) (by decide) (by omega) (by omega) d_Model_init_175 (fun H hn175 hgr hS hz2 => ?_)
  have hfr := fr.of_grow (A := noA) hgr
  have hn := hn.fr hfr (fun z => z.elim)
  have hn8 := hn8.fr hfr (fun z => z.elim)
  have hn15 := hn15.fr hfr (fun z => z.elim)
  have hn23 := hn23.fr hfr (fun z => z.elim)
  have hn31 := hn31.fr hfr (fun z => z.elim)
  have hn39 := hn39.fr hfr (fun z => z.elim)
  have hn47 := hn47.fr hfr (fun z => z.elim)
  have hn55 := hn55.fr hfr (fun z => z.elim)
  have hn63 := hn63.fr hfr (fun z => z.elim)
  have hn71 := hn71.fr hfr (fun z => z.elim)
  have hn79 := hn79.fr hfr (fun z => z.elim)
  have hn87 := hn87.fr hfr (fun z => z.elim)
  have hn95 := hn95.fr hfr (fun z => z.elim)
  have hn103 := hn103.fr hfr (fun z => z.elim)
  have hn111 := hn111.fr hfr (fun z => z.elim)
  have hn119 := hn119.fr hfr (fun z => z.elim)
  have hn127 := hn127.fr hfr (fun z => z.elim)
  have hn135 := hn135.fr hfr (fun z => z.elim)
  have hn143 := hn143.fr hfr (fun z => z.elim)
  have hn151 := hn151.fr hfr (fun z => z.elim)
  have hn159 := hn159.fr hfr (fun z => z.elim)
  have hn167 := hn167.fr hfr (fun z => z.elim)
  clear hz
  have hz : H.size = mo + 23 := by omega
  clear hz2
  refine m_putF X rfl ok_Model rfl hS (by first | exact Or.inl ⟨by omega, by omega⟩ | exact Or.inl (by omega) | exact Or.inl rfl | exact Or.inr (by omega)) hn 27 (by decide) k_Model_74 rfl (ok_Model.2.2.1 _ (by decide)) rfl rfl (Nat.le_of_ble_eq_true rfl) d_Model_init_177 (fun H locs hp hcg hS => ?_)
  have hn : pt g (mo) (.inr (ci_Model, [.int 0, .ref (mo + 1), .ref (mo + 2), .int 0, .int 0, .int 0, .int 0, .int 0, .ref (mo + 3), .ref (mo + 4), .ref (mo + 5), .ref (mo + 6), .ref (mo + 7), .ref (mo + 8), .ref (mo + 9), .ref (mo + 10), .ref (mo + 11), .ref (mo + 12), .ref (mo + 13), .ref (mo + 14), .ref (mo + 15), .ref (mo + 16), .ref (mo + 17), .ref (mo + 18), .ref (mo + 19), .ref (mo + 20), .ref (mo + 21), .ref (mo + 22)])) H := hp
  have hz9 : H.size = mo + 23 := hcg.1.trans hz
  clear hz
  have hz := hz9
  clear hz9
  have hfr := fr.of_chg (A := fun q => q = mo) hcg rfl
  have hn8 := hn8.fr hfr (fun z => by have z : mo + 1 = mo := z; omega)
  have hn15 := hn15.fr hfr (fun z => by have z : mo + 2 = mo := z; omega)
  have hn23 := hn23.fr hfr (fun z => by have z : mo + 3 = mo := z; omega)
  have hn31 := hn31.fr hfr (fun z => by have z : mo + 4 = mo := z; omega)
  have hn39 := hn39.fr hfr (fun z => by have z : mo + 5 = mo := z; omega)
  have hn47 := hn47.fr hfr (fun z => by have z : mo + 6 = mo := z; omega)
  have hn55 := hn55.fr hfr (fun z => by have z : mo + 7 = mo := z; omega)
  have hn63 := hn63.fr hfr (fun z => by have z : mo + 8 = mo := z; omega)
  have hn71 := hn71.fr hfr (fun z => by have z : mo + 9 = mo := z; omega)
  have hn79 := hn79.fr hfr (fun z => by have z : mo + 10 = mo := z; omega)
  have hn87 := hn87.fr hfr (fun z => by have z : mo + 11 = mo := z; omega)
  have hn95 := hn95.fr hfr (fun z => by have z : mo + 12 = mo := z; omega)
  have hn103 := hn103.fr hfr (fun z => by have z : mo + 13 = mo := z; omega)
  have hn111 := hn111.fr hfr (fun z => by have z : mo + 14 = mo := z; omega)
  have hn119 := hn119.fr hfr (fun z => by have z : mo + 15 = mo := z; omega)
  have hn127 := hn127.fr hfr (fun z => by have z : mo + 16 = mo := z; omega)
  have hn135 := hn135.fr hfr (fun z => by have z : mo + 17 = mo := z; omega)
  have hn143 := hn143.fr hfr (fun z => by have z : mo + 18 = mo := z; omega)
  have hn151 := hn151.fr hfr (fun z => by have z : mo + 19 = mo := z; omega)
  have hn159 := hn159.fr hfr (fun z => by have z : mo + 20 = mo := z; omega)
  have hn167 := hn167.fr hfr (fun z => by have z : mo + 21 = mo := z; omega)
  have hn175 := hn175.fr hfr (fun z => by have z : mo + 22 = mo := z; omega)
  refine lv_aload_n X.x X.b d_Model_init_180 rfl (lv_at hl 0 rfl) ?_
  have hM : mAt g mo (mo + 1) (fun _ => 0) (fun _ _ => 0) H := ⟨hn, ⟨hn8, Or.inl rfl⟩, hn15, hn23, hn31, hn39, hn47, hn55, hn63, hn71, hn79, hn87, hn95, hn103, hn111, hn119, hn127, hn135, hn143, hn151, hn159, hn167, hn175⟩
  have hR := M_Model_assemble_F l g hM rfl
  refine m_callV X hS hR v_Model_77 hn rfl rfl rfl (Nat.le_of_ble_eq_true rfl) hl.1 d_Model_init_181 (by omega) (by decide) ⟨by omega, by omega⟩ (fun q z => z.elim (fun z => by have z : mo ≤ q ∧ q < mo + 23 := z; exact Or.inl ⟨by omega, by omega⟩) (fun z => Or.inr (Nat.le_trans hS.1 z))) (fun H locs hq hfr hS => ?_)
  obtain ⟨p, s, hM, hA0, hA1, hA2, hF⟩ := hq
  exact m_vret X hS (by omega) (by omega) d_Model_init_184 rfl ⟨p, s, hM, hF, fun t _ => by rw [hA2]⟩
