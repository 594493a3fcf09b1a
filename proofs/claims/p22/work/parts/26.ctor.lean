set_option maxRecDepth 100000 in
set_option maxHeartbeats 4000000 in
theorem M_Item_init (l : Launch) (g : GG) {q0 : Nat} {fs : List Value} {H0 : Heap} (hn : pt g q0 (.inr (ci_Item, fs)) H0) : MM l y_Item_init c_Item_init 1 none 1 0 0 g H0 [.ref q0] (noA) (none) (fun H1 => H1 = H0) := by
  refine MM.of (by decide +kernel) (Nat.le_of_ble_eq_true rfl) ?_
  intro p e s m below meth cd X hH ls hl
  have X : CX g p s m _ meth cd c_Item_init 1 none R_Item _ := X
  have hl : lv_has ls 1 [(0, .ref q0)] := hl
  have hS : va_S (AA (noA) H0) H0 H0 [] := va_S.rf
  refine lv_aload_n X.x X.b d_Item_init_0 rfl (lv_at hl 0 rfl) ?_
  refine m_obj X l_Item_3 (by omega) (Nat.le_of_ble_eq_true rfl) hl.1 d_Item_init_1 ?_
  exact m_vret X hS (by omega) (by omega) d_Item_init_4 rfl rfl
set_option maxRecDepth 100000 in
set_option maxHeartbeats 4000000 in
theorem M_Line_init (l : Launch) (g : GG) {q0 : Nat} {H0 : Heap} (hn : pt g q0 (.inr (ci_Line, [.int 0, .int 0, .int 0, .int 0, .int 0])) H0) (k x y z r : Int32) (hrb : r = 0 ∨ r = 1) (hz : H0.size = q0 + 1) : MM l y_Line_init c_Line_init 6 none 1 0 0 g H0 [.ref q0, .int k, .int x, .int y, .int z, .int r] (fun q => q = q0) (none) (fun H1 => lnAt g q0 k x y z r H1 ∧ H1.size = q0 + 1) := by
  refine MM.of (by decide +kernel) (Nat.le_of_ble_eq_true rfl) ?_
  intro p e s m below meth cd X hH ls hl
  have X : CX g p s m _ meth cd c_Line_init 6 none R_Line _ := X
  have hl : lv_has ls 6 [(0, .ref q0), (1, .int k), (2, .int x), (3, .int y), (4, .int z), (5, .int r)] := hl
  have hS : va_S (AA (fun q => q = q0) H0) H0 H0 [] := va_S.rf
  refine lv_aload_n X.x X.b d_Line_init_0 rfl (lv_at hl 0 rfl) ?_
  refine m_obj X l_Line_3 (by omega) (Nat.le_of_ble_eq_true rfl) hl.1 d_Line_init_1 ?_
  refine lv_aload_n X.x X.b d_Line_init_4 rfl (lv_at hl 0 rfl) ?_
  refine lv_iload_n X.x X.b d_Line_init_5 rfl (lv_at hl 1 rfl) ?_
  refine m_putF X rfl ok_Line rfl hS (Or.inl rfl) hn 0 (by decide) k_Line_9 rfl (ok_Line.2.2.1 _ (by decide)) rfl rfl (Nat.le_of_ble_eq_true rfl) d_Line_init_6 (fun H locs hp hcg hS => ?_)
  have hn : pt g (q0) (.inr (ci_Line, [.int k, .int 0, .int 0, .int 0, .int 0])) H := hp
  have hz9 : H.size = q0 + 1 := hcg.1.trans hz
  clear hz
  have hz := hz9
  clear hz9
  have hfr := fr.of_chg (A := fun q => q = q0) hcg rfl
  refine lv_aload_n X.x X.b d_Line_init_9 rfl (lv_at hl 0 rfl) ?_
  refine lv_iload_n X.x X.b d_Line_init_10 rfl (lv_at hl 2 rfl) ?_
  refine m_putF X rfl ok_Line rfl hS (Or.inl rfl) hn 1 (by decide) k_Line_15 rfl (ok_Line.2.2.1 _ (by decide)) rfl rfl (Nat.le_of_ble_eq_true rfl) d_Line_init_11 (fun H locs hp hcg hS => ?_)
  have hn : pt g (q0) (.inr (ci_Line, [.int k, .int x, .int 0, .int 0, .int 0])) H := hp
  have hz9 : H.size = q0 + 1 := hcg.1.trans hz
  clear hz
  have hz := hz9
  clear hz9
  have hfr := fr.of_chg (A := fun q => q = q0) hcg rfl
  refine lv_aload_n X.x X.b d_Line_init_14 rfl (lv_at hl 0 rfl) ?_
  refine lv_iload_n X.x X.b d_Line_init_15 rfl (lv_at hl 3 rfl) ?_
  refine m_putF X rfl ok_Line rfl hS (Or.inl rfl) hn 2 (by decide) k_Line_18 rfl (ok_Line.2.2.1 _ (by decide)) rfl rfl (Nat.le_of_ble_eq_true rfl) d_Line_init_16 (fun H locs hp hcg hS => ?_)
  have hn : pt g (q0) (.inr (ci_Line, [.int k, .int x, .int y, .int 0, .int 0])) H := hp
  have hz9 : H.size = q0 + 1 := hcg.1.trans hz
  clear hz
  have hz := hz9
  clear hz9
  have hfr := fr.of_chg (A := fun q => q = q0) hcg rfl
  refine lv_aload_n X.x X.b d_Line_init_19 rfl (lv_at hl 0 rfl) ?_
  refine lv_iload X.x X.b d_Line_init_20 (lv_at hl 4 rfl) ?_
  refine m_putF X rfl ok_Line rfl hS (Or.inl rfl) hn 3 (by decide) k_Line_21 rfl (ok_Line.2.2.1 _ (by decide)) rfl rfl (Nat.le_of_ble_eq_true rfl) d_Line_init_22 (fun H locs hp hcg hS => ?_)
  have hn : pt g (q0) (.inr (ci_Line, [.int k, .int x, .int y, .int z, .int 0])) H := hp
  have hz9 : H.size = q0 + 1 := hcg.1.trans hz
  clear hz
  have hz := hz9
  clear hz9
  have hfr := fr.of_chg (A := fun q => q = q0) hcg rfl
  refine lv_aload_n X.x X.b d_Line_init_25 rfl (lv_at hl 0 rfl) ?_
  refine lv_iload X.x X.b d_Line_init_26 (lv_at hl 5 rfl) ?_
  refine m_putF X rfl ok_Line rfl hS (Or.inl rfl) hn 4 (by decide) k_Line_24 rfl (ok_Line.2.2.1 _ (by decide)) (bool_nar hrb) (bool_fit hrb) (Nat.le_of_ble_eq_true rfl) d_Line_init_28 (fun H locs hp hcg hS => ?_)
  have hn : pt g (q0) (.inr (ci_Line, [.int k, .int x, .int y, .int z, .int r])) H := hp
  have hz9 : H.size = q0 + 1 := hcg.1.trans hz
  clear hz
  have hz := hz9
  clear hz9
  have hfr := fr.of_chg (A := fun q => q = q0) hcg rfl
  exact m_vret X hS (by omega) (by omega) d_Line_init_31 rfl ⟨hn, hz⟩
set_option maxRecDepth 100000 in
set_option maxHeartbeats 4000000 in
theorem M_Names_init (l : Launch) (g : GG) {b : Nat} {H0 : Heap} (hn : pt g b (.inr (ci_Names, [.null, .null, .null])) H0) (hz : H0.size = b + 1) : MM l y_Names_init c_Names_init 1 none 1 3 24 g H0 [.ref b] (nF b) (none) (fun H1 => nAt g b nn0 H1 ∧ H1.size = b + 4) := by
  refine MM.of (by decide +kernel) (Nat.le_of_ble_eq_true rfl) ?_
  intro p e s m below meth cd X hH ls hl
  have X : CX g p s m _ meth cd c_Names_init 1 none R_Names _ := X
  have hl : lv_has ls 1 [(0, .ref b)] := hl
  have hS : va_S (AA (nF b) H0) H0 H0 [] := va_S.rf
  refine lv_aload_n X.x X.b d_Names_init_0 rfl (lv_at hl 0 rfl) ?_
  refine m_obj X l_Names_3 (by omega) (Nat.le_of_ble_eq_true rfl) hl.1 d_Names_init_1 ?_
  refine lv_aload_n X.x X.b d_Names_init_4 rfl (lv_at hl 0 rfl) ?_
  refine lv_bipush (v := 8) X.x X.b d_Names_init_5 (by decide) ?_
  refine m_newZ X hS hz 8 (by decide) (by decide) (by decide) (by omega) (by omega) d_Names_init_7 (fun H hn7 hgr hS hz2 => ?_)
  have hfr := fr.of_grow (A := noA) hgr
  have hn := hn.fr hfr (fun z => z.elim)
  clear hz
  have hz := hz2
  clear hz2
  refine m_putF X rfl ok_Names rfl hS (by first | exact Or.inl ⟨by omega, by omega⟩ | exact Or.inl (by omega) | exact Or.inl rfl | exact Or.inr (by omega)) hn 0 (by decide) k_Names_9 rfl (ok_Names.2.2.1 _ (by decide)) rfl rfl (Nat.le_of_ble_eq_true rfl) d_Names_init_9 (fun H locs hp hcg hS => ?_)
  have hn : pt g (b) (.inr (ci_Names, [.ref (b + 1), .null, .null])) H := hp
  have hz9 : H.size = b + 1 + 1 := hcg.1.trans hz
  clear hz
  have hz := hz9
  clear hz9
  have hfr := fr.of_chg (A := fun q => q = b) hcg rfl
  have hn7 := hn7.fr hfr (fun z => by have z : b + 1 = b := z; omega)
  refine lv_aload_n X.x X.b d_Names_init_12 rfl (lv_at hl 0 rfl) ?_
  refine lv_bipush (v := 8) X.x X.b d_Names_init_13 (by decide) ?_
  refine m_newZ X hS hz 8 (by decide) (by decide) (by decide) (by omega) (by omega) d_Names_init_15 (fun H hn15 hgr hS hz2 => ?_)
  have hfr := fr.of_grow (A := noA) hgr
  have hn := hn.fr hfr (fun z => z.elim)
  have hn7 := hn7.fr hfr (fun z => z.elim)
  clear hz
  have hz := hz2
  clear hz2
  refine m_putF X rfl ok_Names rfl hS (by first | exact Or.inl ⟨by omega, by omega⟩ | exact Or.inl (by omega) | exact Or.inl rfl | exact Or.inr (by omega)) hn 1 (by decide) k_Names_15 rfl (ok_Names.2.2.1 _ (by decide)) rfl rfl (Nat.le_of_ble_eq_true rfl) d_Names_init_17 (fun H locs hp hcg hS => ?_)
  have hn : pt g (b) (.inr (ci_Names, [.ref (b + 1), .ref (b + 1 + 1), .null])) H := hp
  have hz9 : H.size = b + 1 + 1 + 1 := hcg.1.trans hz
  clear hz
  have hz := hz9
  clear hz9
  have hfr := fr.of_chg (A := fun q => q = b) hcg rfl
  have hn7 := hn7.fr hfr (fun z => by have z : b + 1 = b := z; omega)
  have hn15 := hn15.fr hfr (fun z => by have z : b + 1 + 1 = b := z; omega)
  refine lv_aload_n X.x X.b d_Names_init_20 rfl (lv_at hl 0 rfl) ?_
  refine lv_bipush (v := 8) X.x X.b d_Names_init_21 (by decide) ?_
  refine m_newI X hS hz 8 (by decide) (by decide) (by decide) (by omega) (by omega) d_Names_init_23 (fun H hn23 hgr hS hz2 => ?_)
  have hfr := fr.of_grow (A := noA) hgr
  have hn := hn.fr hfr (fun z => z.elim)
  have hn7 := hn7.fr hfr (fun z => z.elim)
  have hn15 := hn15.fr hfr (fun z => z.elim)
  clear hz
  have hz := hz2
  clear hz2
  refine m_putF X rfl ok_Names rfl hS (by first | exact Or.inl ⟨by omega, by omega⟩ | exact Or.inl (by omega) | exact Or.inl rfl | exact Or.inr (by omega)) hn 2 (by decide) k_Names_18 rfl (ok_Names.2.2.1 _ (by decide)) rfl rfl (Nat.le_of_ble_eq_true rfl) d_Names_init_25 (fun H locs hp hcg hS => ?_)
  have hn : pt g (b) (.inr (ci_Names, [.ref (b + 1), .ref (b + 1 + 1), .ref (b + 1 + 1 + 1)])) H := hp
  have hz9 : H.size = b + 1 + 1 + 1 + 1 := hcg.1.trans hz
  clear hz
  have hz := hz9
  clear hz9
  have hfr := fr.of_chg (A := fun q => q = b) hcg rfl
  have hn7 := hn7.fr hfr (fun z => by have z : b + 1 = b := z; omega)
  have hn15 := hn15.fr hfr (fun z => by have z : b + 1 + 1 = b := z; omega)
  have hn23 := hn23.fr hfr (fun z => by have z : b + 1 + 1 + 1 = b := z; omega)
  exact m_vret X hS (by omega) (by omega) d_Names_init_28 rfl ⟨⟨hn, hn7, hn15, hn23⟩, hz⟩
set_option maxRecDepth 100000 in
set_option maxHeartbeats 4000000 in
theorem M_Items_init (l : Launch) (g : GG) {a : Nat} {H0 : Heap} (hn : pt g a (.inr (ci_Items, [.null, .int 0])) H0) (hz : H0.size = a + 1) : MM l y_Items_init c_Items_init 2 none 2 122 2057 g H0 [.ref a] (fun q => a ≤ q ∧ q < a + 123) (none) (fun H1 => iAt g a 0 IS0 H1 ∧ H1.size = a + 123) := by
  refine MM.of (by decide +kernel) (Nat.le_of_ble_eq_true rfl) ?_
  intro p e s m below meth cd X hH ls hl
  have X : CX g p s m _ meth cd c_Items_init 2 none R_Items _ := X
  have hl : lv_has ls 2 [(0, .ref a)] := hl
  have hS : va_S (AA (fun q => a ≤ q ∧ q < a + 123) H0) H0 H0 [] := va_S.rf
  refine lv_aload_n X.x X.b d_Items_init_0 rfl (lv_at hl 0 rfl) ?_
  refine m_obj X l_Items_3 (by omega) (Nat.le_of_ble_eq_true rfl) hl.1 d_Items_init_1 ?_
  refine lv_aload_n X.x X.b d_Items_init_4 rfl (lv_at hl 0 rfl) ?_
  refine lv_bipush (v := 121) X.x X.b d_Items_init_5 (by decide) ?_
  refine m_newR X 4 rfl (LW_t 581 (by decide +kernel) (by decide +kernel)) X.kx.2.2.2.1 hS hz 121 (by decide) (by decide) (by decide) (by omega) (by omega) d_Items_init_7 (fun H hn7 hgr hS hz2 => ?_)
  have hfr := fr.of_grow (A := noA) hgr
  have hn := hn.fr hfr (fun z => z.elim)
  clear hz
  have hz := hz2
  clear hz2
  refine m_putF X rfl ok_Items rfl hS (by first | exact Or.inl ⟨by omega, by omega⟩ | exact Or.inl (by omega) | exact Or.inl rfl | exact Or.inr (by omega)) hn 0 (by decide) k_Items_11 rfl (ok_Items.2.2.1 _ (by decide)) rfl rfl (Nat.le_of_ble_eq_true rfl) d_Items_init_10 (fun H locs hp hcg hS => ?_)
  have hn : pt g (a) (.inr (ci_Items, [.ref (a + 1), .int 0])) H := hp
  have hz9 : H.size = a + 1 + 1 := hcg.1.trans hz
  clear hz
  have hz := hz9
  clear hz9
  have hfr := fr.of_chg (A := fun q => q = a) hcg rfl
  have hn7 := hn7.fr hfr (fun z => by have z : a + 1 = a := z; omega)
  refine lv_iconst (v := 0) X.x X.b d_Items_init_13 (by decide) ?_
  refine lv_istore_n (lv' := [(1, .int 0), (0, .ref a)]) X.x X.b d_Items_init_14 rfl hl (by decide) rfl (fun ls hl => ?_)
  have lp : ∀ (n i : Nat) (F : Nat → Option Nat), n = 121 - i → i < 5000 → ((∀ t, t < i → F t = some (a + 2 + t)) ∧ i ≤ 121) → ∀ (H : Heap) (locs : List Loc) (ls : Array Slot), pt g a (.inr (ci_Items, [.ref (a + 1), .int 0])) H → pt g (a + 1) (qarr (g.2 4) 121 F) H → (∀ t, t < i → pt g (a + 2 + t) (.inr (ci_Item, iv a IS0 t)) H) → H.size = a + 2 + i → va_S (AA (fun q => a ≤ q ∧ q < a + 123) H0) H0 H locs → lv_has ls 2 [(0, .ref a), (1, .int (nI i))] → W p l e (rmK 2 122 2057) s m ([.ref a] : List Value).toArray below meth cd H locs (1 + i) (121 + 16 * i) (MQ below (QM (none) (fun H1 => iAt g a 0 IS0 H1 ∧ H1.size = a + 123) (fun q => a ≤ q ∧ q < a + 123) H0) ([.ref a] : List Value).toArray s 122 2057 (AA (fun q => a ≤ q ∧ q < a + 123) H0)) (F0 m 15 ls []) := by
    intro n
    induction n with
    | zero =>
      intro i F hin hi5 hE H locs ls hn hn7 hIt hz hS hl
      refine lv_iload_n X.x X.b d_Items_init_15 rfl (lv_at hl 1 rfl) ?_
      refine lv_aload_n X.x X.b d_Items_init_16 rfl (lv_at hl 0 rfl) ?_
      refine m_get (v := .ref (a + 1)) X ok_Items hn 0 (by decide) k_Items_11 rfl d_Items_init_17 ?_
      refine m_alen (v := 121) X 4 rfl hn7 rfl d_Items_init_20 ?_
      refine lv_icmp_ge (tgt := 43) X.x X.b d_Items_init_21 (by decide) (fun c1 => ?_) (fun c1 => ?_)
      · skip
        have c1q := Int32.not_lt.mpr c1
        refine lv_aload_n X.x X.b d_Items_init_43 rfl (lv_at hl 0 rfl) ?_
        refine lv_iconst (v := 0) X.x X.b d_Items_init_44 (by decide) ?_
        refine m_put X ok_Items hS (by first | exact Or.inl ⟨by omega, by omega⟩ | exact Or.inl (by omega) | exact Or.inl rfl | exact Or.inr (by omega)) hn 1 (by decide) k_Items_18 rfl (ok_Items.2.2.1 _ (by decide)) rfl rfl (Nat.le_of_ble_eq_true rfl) d_Items_init_45 (fun H locs hp hcg hS => ?_)
        have hn : pt g (a) (.inr (ci_Items, [.ref (a + 1), .int 0])) H := hp
        have hz9 : H.size = a + 2 + i := hcg.1.trans hz
        clear hz
        have hz := hz9
        clear hz9
        have hfr := fr.of_chg (A := fun q => q = a) hcg rfl
        have hn7 := hn7.fr hfr (fun z => by have z : a + 1 = a := z; omega)
        have hIt := fun t (ht : t < i) => (hIt t ht).fr hfr (fun z => by have z : a + 2 + t = a := z; omega)
        exact m_vret X hS (by omega) (by omega) d_Items_init_48 rfl ⟨⟨hn, hn7.arrQ (fun t ht => hE.1 t (by omega)), fun t ht => hIt t (by omega), fun k t j ht z => by cases z⟩, by omega⟩
      · exact absurd ((nI_leI (a := 121) (b := i) (by omega) (by omega)).mpr (by omega)) c1
    | succ n ih =>
      intro i F hin hi5 hE H locs ls hn hn7 hIt hz hS hl
      refine lv_iload_n X.x X.b d_Items_init_15 rfl (lv_at hl 1 rfl) ?_
      refine lv_aload_n X.x X.b d_Items_init_16 rfl (lv_at hl 0 rfl) ?_
      refine m_get (v := .ref (a + 1)) X ok_Items hn 0 (by decide) k_Items_11 rfl d_Items_init_17 ?_
      refine m_alen (v := 121) X 4 rfl hn7 rfl d_Items_init_20 ?_
      refine lv_icmp_ge (tgt := 43) X.x X.b d_Items_init_21 (by decide) (fun c2 => ?_) (fun c2 => ?_)
      · exact absurd ((nI_leI (a := 121) (b := i) (by omega) (by omega)).mp c2) (by omega)
      · skip
        have c2q := Int32.not_le.mp c2
        refine lv_aload_n X.x X.b d_Items_init_24 rfl (lv_at hl 0 rfl) ?_
        refine m_get (v := .ref (a + 1)) X ok_Items hn 0 (by decide) k_Items_11 rfl d_Items_init_25 ?_
        refine lv_iload_n X.x X.b d_Items_init_28 rfl (lv_at hl 1 rfl) ?_
        refine m_newo (fs := [.int 0, .int 0, .int 0, .int 0, .int 0, .int 0, .int 0, .null, .null, .null, .int 0, .int 0, .int 0, .int 0, .int 0, .int 0]) X ok_Item hS hz (LW_t 581 (by decide +kernel) (by decide +kernel)) (LW_t 583 (by decide +kernel) (by decide +kernel)) ini_Item (fun j hj => by rcases (show j = 0 ∨ j = 1 ∨ j = 2 ∨ j = 3 ∨ j = 4 ∨ j = 5 ∨ j = 6 ∨ j = 7 ∨ j = 8 ∨ j = 9 ∨ j = 10 ∨ j = 11 ∨ j = 12 ∨ j = 13 ∨ j = 14 ∨ j = 15 by omega) with rfl | rfl | rfl | rfl | rfl | rfl | rfl | rfl | rfl | rfl | rfl | rfl | rfl | rfl | rfl | rfl <;> rfl) (by omega) (by omega) d_Items_init_29 (fun H hn29 hgr hS hz2 => ?_)
        have hfr := fr.of_grow (A := noA) hgr
        have hn := hn.fr hfr (fun z => z.elim)
        have hn7 := hn7.fr hfr (fun z => z.elim)
        have hIt := fun t (ht : t < i) => (hIt t ht).fr hfr (fun z => z.elim)
        clear hz
        have hz := hz2
        clear hz2
        refine lv_dup X.x X.b d_Items_init_32 rfl ?_
        refine m_callIN X hS (M_Item_init l g hn29) X.kx.2.2.2.2.1 w_Item_init ini_Item wi_Item_init (by decide +kernel) rfl rfl (Nat.le_of_ble_eq_true rfl) hl.1 d_Items_init_33 (by omega) (by decide) ⟨by omega, by omega⟩ (fun q h => h.elim (fun z => z.elim) (fun z => Or.inr (Nat.le_trans hS.1 z))) (fun H2 locs9 hq hfr hS9 => ?_)
        subst hq
        have hS := hS9
        refine m_qast X hS (by first | exact Or.inl ⟨by omega, by omega⟩ | exact Or.inl (by omega) | exact Or.inl rfl | exact Or.inr (by omega)) 4 ci_Item rfl hn7 hn29 rfl (vp_in_nI (n := i) (N := 121) (by omega) (by omega)) d_Items_init_36 (fun H locs hp hcg hS => ?_)
        rw [nI_clamp (by omega)] at hp
        have hn7 := hp
        have hz9 : H.size = a + 2 + i + 1 := hcg.1.trans hz
        clear hz
        have hz := hz9
        clear hz9
        have hfr := fr.of_chg (A := fun q => q = a + 1) hcg rfl
        have hn := hn.fr hfr (fun z => by have z : a = a + 1 := z; omega)
        have hIt := fun t (ht : t < i) => (hIt t ht).fr hfr (fun z => by have z : a + 2 + t = a + 1 := z; omega)
        have hn29 := hn29.fr hfr (fun z => by have z : a + 2 + i = a + 1 := z; omega)
        have hIt : ∀ t, t < i + 1 → pt g (a + 2 + t) (.inr (ci_Item, iv a IS0 t)) H := fun t ht => by
          by_cases z : t = i
          · subst z; exact hn29
          · exact hIt t (by omega)
        refine lv_iinc (v := nI (i + 1)) (lv' := [(1, .int (nI (i + 1))), (0, .ref a)]) X.x X.b d_Items_init_37 hl (k := 1) rfl (nI_1 i) (by decide) rfl (fun ls hl => ?_)
        refine lv_goto (tgt := 15) X.x X.b d_Items_init_40 (by decide) ?_
        refine W.widen (k := 1 + (i + 1)) (n := 121 + 16 * (i + 1)) (by omega) (by omega) ?_
        exact ih (i + 1) (va_up F i (some (a + 2 + i))) (by omega) (by omega) (⟨fun t ht => by by_cases z : t = i <;> first | (subst z; rw [va_up_self]) | (rw [va_up_ne _ _ z]; exact hE.1 t (by omega)), by omega⟩) _ _ _ hn hn7 hIt (by omega) hS (lv_sub hl [1, 0] rfl)
  refine W.widen (k := 1 + 0) (n := 121 + 16 * 0) (by omega) (by omega) ?_
  exact lp 121 0 (fun _ => none) (by omega) (by omega) (⟨fun t ht => absurd ht (Nat.not_lt_zero t), by omega⟩) _ _ _ hn hn7 (fun t ht => absurd ht (Nat.not_lt_zero t)) (by omega) hS (lv_sub hl [1, 0] rfl)
set_option maxRecDepth 100000 in
set_option maxHeartbeats 4000000 in
theorem M_Row_init (l : Launch) (g : GG) {b cap : Nat} {H0 : Heap} (hn : pt g b (.inr (ci_Row, [.null, .int 0])) H0) (hz : H0.size = b + 1) (hcap : cap ≤ 60) : MM l y_Row_init c_Row_init 2 none 1 1 cap g H0 [.ref b, .int (nI cap)] (rF b) (none) (fun H1 => rAt g b cap 0 (fun _ => 0) H1 ∧ H1.size = b + 2) := by
  refine MM.of (by decide +kernel) (Nat.le_of_ble_eq_true rfl) ?_
  intro p e s m below meth cd X hH ls hl
  have X : CX g p s m _ meth cd c_Row_init 2 none R_Row _ := X
  have hl : lv_has ls 2 [(0, .ref b), (1, .int (nI cap))] := hl
  have hS : va_S (AA (rF b) H0) H0 H0 [] := va_S.rf
  refine lv_aload_n X.x X.b d_Row_init_0 rfl (lv_at hl 0 rfl) ?_
  refine m_obj X l_Row_1 (by omega) (Nat.le_of_ble_eq_true rfl) hl.1 d_Row_init_1 ?_
  refine lv_aload_n X.x X.b d_Row_init_4 rfl (lv_at hl 0 rfl) ?_
  refine lv_iconst (v := 0) X.x X.b d_Row_init_5 (by decide) ?_
  refine lv_iload_n X.x X.b d_Row_init_6 rfl (lv_at hl 1 rfl) ?_
  refine m_max (v := nI cap) X (by decide) wmax_l6 (Nat.le_of_ble_eq_true rfl) hl.1 ⟨Nat.zero_le _, Nat.zero_le _⟩ (max0_nI (by omega)) d_Row_init_7 ?_
  refine m_newR X 2 rfl (LW_t 556 (by decide +kernel) (by decide +kernel)) X.kx.2.2.1 hS hz cap (nI_pos (by omega)) (nI_clamp (by omega)) (by omega) (by omega) (by omega) d_Row_init_10 (fun H hn10 hgr hS hz2 => ?_)
  have hfr := fr.of_grow (A := noA) hgr
  have hn := hn.fr hfr (fun z => z.elim)
  clear hz
  have hz := hz2
  clear hz2
  refine m_putF X rfl ok_Row rfl hS (by first | exact Or.inl ⟨by omega, by omega⟩ | exact Or.inl (by omega) | exact Or.inl rfl | exact Or.inr (by omega)) hn 0 (by decide) k_Row_15 rfl (ok_Row.2.2.1 _ (by decide)) rfl rfl (Nat.le_of_ble_eq_true rfl) d_Row_init_13 (fun H locs hp hcg hS => ?_)
  have hn : pt g (b) (.inr (ci_Row, [.ref (b + 1), .int 0])) H := hp
  have hz9 : H.size = b + 1 + 1 := hcg.1.trans hz
  clear hz
  have hz := hz9
  clear hz9
  have hfr := fr.of_chg (A := fun q => q = b) hcg rfl
  have hn10 := hn10.fr hfr (fun z => by have z : b + 1 = b := z; omega)
  refine lv_aload_n X.x X.b d_Row_init_16 rfl (lv_at hl 0 rfl) ?_
  refine lv_iconst (v := 0) X.x X.b d_Row_init_17 (by decide) ?_
  refine m_put X ok_Row hS (by first | exact Or.inl ⟨by omega, by omega⟩ | exact Or.inl (by omega) | exact Or.inl rfl | exact Or.inr (by omega)) hn 1 (by decide) k_Row_21 rfl (ok_Row.2.2.1 _ (by decide)) rfl rfl (Nat.le_of_ble_eq_true rfl) d_Row_init_18 (fun H locs hp hcg hS => ?_)
  have hn : pt g (b) (.inr (ci_Row, [.ref (b + 1), .int 0])) H := hp
  have hz9 : H.size = b + 1 + 1 := hcg.1.trans hz
  clear hz
  have hz := hz9
  clear hz9
  have hfr := fr.of_chg (A := fun q => q = b) hcg rfl
  have hn10 := hn10.fr hfr (fun z => by have z : b + 1 = b := z; omega)
  exact m_vret X hS (by omega) (by omega) d_Row_init_21 rfl ⟨⟨hn, _, hn10, fun t ht => absurd ht (Nat.not_lt_zero t)⟩, hz⟩
set_option maxRecDepth 100000 in
set_option maxHeartbeats 4000000 in
theorem M_Source_init (l : Launch) (g : GG) {so cap0 lo hi : Nat} (f : Nat → Nat → Nat) (D : DT) {H0 : Heap} (hn : pt g so (.inr (ci_Source, [.null])) H0) (hz : H0.size = so + 1) (h40 : 40 ≤ cap0) (h60 : cap0 ≤ 60) (hlo : lo ≤ so) (hhi : so + 12 ≤ hi) : MM l y_Source_init c_Source_init 3 none 3 11 315 g H0 [.ref so, .int (nI cap0)] (sF so) (none) (fun H1 => sAt g so cap0 (fun _ => 0) f D lo hi H1 ∧ H1.size = so + 12) := by
  refine MM.of (by decide +kernel) (Nat.le_of_ble_eq_true rfl) ?_
  intro p e s m below meth cd X hH ls hl
  have X : CX g p s m _ meth cd c_Source_init 3 none R_Source _ := X
  have hl : lv_has ls 3 [(0, .ref so), (1, .int (nI cap0))] := hl
  have hS : va_S (AA (sF so) H0) H0 H0 [] := va_S.rf
  refine lv_aload_n X.x X.b d_Source_init_0 rfl (lv_at hl 0 rfl) ?_
  refine m_obj X l_Source_3 (by omega) (Nat.le_of_ble_eq_true rfl) hl.1 d_Source_init_1 ?_
  refine lv_aload_n X.x X.b d_Source_init_4 rfl (lv_at hl 0 rfl) ?_
  refine lv_iconst (v := 5) X.x X.b d_Source_init_5 (by decide) ?_
  refine m_newR X 3 rfl (LW_t 548 (by decide +kernel) (by decide +kernel)) X.kx.2.1 hS hz 5 (by decide) (by decide) (by decide) (by omega) (by omega) d_Source_init_6 (fun H hn6 hgr hS hz2 => ?_)
  have hfr := fr.of_grow (A := noA) hgr
  have hn := hn.fr hfr (fun z => z.elim)
  clear hz
  have hz := hz2
  clear hz2
  refine m_putF X rfl ok_Source rfl hS (by first | exact Or.inl ⟨by omega, by omega⟩ | exact Or.inl (by omega) | exact Or.inl rfl | exact Or.inr (by omega)) hn 0 (by decide) k_Source_11 rfl (ok_Source.2.2.1 _ (by decide)) rfl rfl (Nat.le_of_ble_eq_true rfl) d_Source_init_9 (fun H locs hp hcg hS => ?_)
  have hn : pt g (so) (.inr (ci_Source, [.ref (so + 1)])) H := hp
  have hz9 : H.size = so + 1 + 1 := hcg.1.trans hz
  clear hz
  have hz := hz9
  clear hz9
  have hfr := fr.of_chg (A := fun q => q = so) hcg rfl
  have hn6 := hn6.fr hfr (fun z => by have z : so + 1 = so := z; omega)
  refine lv_iconst (v := 0) X.x X.b d_Source_init_12 (by decide) ?_
  refine lv_istore_n (lv' := [(2, .int 0), (0, .ref so), (1, .int (nI cap0))]) X.x X.b d_Source_init_13 rfl hl (by decide) rfl (fun ls hl => ?_)
  have lp : ∀ (n i : Nat) (F : Nat → Option Nat), n = 5 - i → i < 5000 → ((∀ t, t < i → F t = some (so + 2 + 2 * t)) ∧ i ≤ 5) → ∀ (H : Heap) (locs : List Loc) (ls : Array Slot), pt g so (.inr (ci_Source, [.ref (so + 1)])) H → pt g (so + 1) (qarr (g.2 3) 5 F) H → (∀ t, t < i → rAt g (so + 2 + 2 * t) (capF cap0 t) 0 (fun _ => 0) H) → H.size = so + 2 + 2 * i → va_S (AA (sF so) H0) H0 H locs → lv_has ls 3 [(0, .ref so), (1, .int (nI cap0)), (2, .int (nI i))] → W p l e (rmK 3 11 315) s m ([.ref so, .int (nI cap0)] : List Value).toArray below meth cd H locs (1 + 2 * i) (5 + 62 * i) (MQ below (QM (none) (fun H1 => sAt g so cap0 (fun _ => 0) f D lo hi H1 ∧ H1.size = so + 12) (sF so) H0) ([.ref so, .int (nI cap0)] : List Value).toArray s 11 315 (AA (sF so) H0)) (F0 m 14 ls []) := by
    intro n
    induction n with
    | zero =>
      intro i F hin hi5 hE H locs ls hn hn6 hIt hz hS hl
      refine lv_iload_n X.x X.b d_Source_init_14 rfl (lv_at hl 2 rfl) ?_
      refine lv_iconst (v := 5) X.x X.b d_Source_init_15 (by decide) ?_
      refine lv_icmp_ge (tgt := 48) X.x X.b d_Source_init_16 (by decide) (fun c1 => ?_) (fun c1 => ?_)
      · skip
        have c1q := Int32.not_lt.mpr c1
        exact m_vret X hS (by omega) (by omega) d_Source_init_48 rfl ⟨⟨hn, hn6.arrQ (fun t ht => hE.1 t (by omega)), fun t ht => ⟨rAt.nil (hIt t (by omega)), Nat.zero_le _⟩, fun r t hr ht => absurd ht (Nat.not_lt_zero t), hlo, hhi, h60, h40⟩, by omega⟩
      · exact absurd ((nI_leI (a := 5) (b := i) (by omega) (by omega)).mpr (by omega)) c1
    | succ n ih =>
      intro i F hin hi5 hE H locs ls hn hn6 hIt hz hS hl
      refine lv_iload_n X.x X.b d_Source_init_14 rfl (lv_at hl 2 rfl) ?_
      refine lv_iconst (v := 5) X.x X.b d_Source_init_15 (by decide) ?_
      refine lv_icmp_ge (tgt := 48) X.x X.b d_Source_init_16 (by decide) (fun c2 => ?_) (fun c2 => ?_)
      · exact absurd ((nI_leI (a := 5) (b := i) (by omega) (by omega)).mp c2) (by omega)
      · skip
        have c2q := Int32.not_le.mp c2
        refine lv_aload_n X.x X.b d_Source_init_19 rfl (lv_at hl 0 rfl) ?_
        refine m_get (v := .ref (so + 1)) X ok_Source hn 0 (by decide) k_Source_11 rfl d_Source_init_20 ?_
        refine lv_iload_n X.x X.b d_Source_init_23 rfl (lv_at hl 2 rfl) ?_
        refine m_newo (fs := [.null, .int 0]) X ok_Row hS hz (LW_t 548 (by decide +kernel) (by decide +kernel)) (LW_t 550 (by decide +kernel) (by decide +kernel)) ini_Row (fun j hj => by rcases (show j = 0 ∨ j = 1 by omega) with rfl | rfl <;> rfl) (by omega) (by omega) d_Source_init_24 (fun H hn24 hgr hS hz2 => ?_)
        have hfr := fr.of_grow (A := noA) hgr
        have hn := hn.fr hfr (fun z => z.elim)
        have hn6 := hn6.fr hfr (fun z => z.elim)
        have hIt := fun t (ht : t < i) => (hIt t ht).frm hfr (fun q z => z.elim)
        clear hz
        have hz := hz2
        clear hz2
        refine lv_dup X.x X.b d_Source_init_27 rfl ?_
        refine lv_iload_n X.x X.b d_Source_init_28 rfl (lv_at hl 2 rfl) ?_
        refine lv_if_ne (tgt := 36) X.x X.b d_Source_init_29 (by decide) (fun c3 => ?_) (fun c3 => ?_)
        · skip
          have c3 : ¬ i = 0 := fun z => c3 (by rw [z]; rfl)
          refine lv_bipush (v := 10) X.x X.b d_Source_init_36 (by decide) ?_
          have hR := M_Row_init (cap := 10) l g hn24 hz (by omega)
          refine m_callI X hS hR i_Source_17 rfl rfl (Nat.le_of_ble_eq_true rfl) hl.1 d_Source_init_38 (by omega) (by decide) ⟨by omega, by omega⟩ (fun q z => z.elim (fun z => by have z : so + 2 + 2 * i ≤ q ∧ q < so + 2 + 2 * i + 2 := z; exact Or.inl ⟨by omega, by omega⟩) (fun z => Or.inr (Nat.le_trans hS.1 z))) (fun H locs hq hfr hS => ?_)
          have hn := hn.fr hfr (fun z => by have z : so + 2 + 2 * i ≤ so ∧ so < so + 2 + 2 * i + 2 := z; omega)
          have hn6 := hn6.fr hfr (fun z => by have z : so + 2 + 2 * i ≤ so + 1 ∧ so + 1 < so + 2 + 2 * i + 2 := z; omega)
          have hIt := fun t (ht : t < i) => (hIt t ht).frm hfr (fun q z => by have z : so + 2 + 2 * i ≤ q ∧ q < so + 2 + 2 * i + 2 := z; omega)
          clear hz
          obtain ⟨hRn, hz⟩ := hq
          have hRn : rAt g (so + 2 + 2 * i) (capF cap0 i) 0 (fun _ => 0) H := by rw [show capF cap0 i = 10 from (by unfold capF; rw [if_neg (by omega)])]; exact hRn
          refine m_qast X hS (by first | exact Or.inl ⟨by omega, by omega⟩ | exact Or.inl (by omega) | exact Or.inl rfl | exact Or.inr (by omega)) 3 ci_Row rfl hn6 hRn.1 rfl (vp_in_nI (n := i) (N := 5) (by omega) (by omega)) d_Source_init_41 (fun H locs hp hcg hS => ?_)
          rw [nI_clamp (by omega)] at hp
          have hn6 := hp
          have hz9 : H.size = so + 2 + 2 * i + 2 := hcg.1.trans hz
          clear hz
          have hz := hz9
          clear hz9
          have hfr := fr.of_chg (A := fun q => q = so + 1) hcg rfl
          have hn := hn.fr hfr (fun z => by have z : so = so + 1 := z; omega)
          have hIt := fun t (ht : t < i) => (hIt t ht).frm hfr (fun q z => by have z : q = so + 1 := z; omega)
          have hRn := hRn.frm hfr (fun q z => by have z : q = so + 1 := z; omega)
          have hIt : ∀ t, t < i + 1 → rAt g (so + 2 + 2 * t) (capF cap0 t) 0 (fun _ => 0) H := fun t ht => by
            by_cases z : t = i
            · subst z; exact hRn
            · exact hIt t (by omega)
          refine lv_iinc (v := nI (i + 1)) (lv' := [(2, .int (nI (i + 1))), (0, .ref so), (1, .int (nI cap0))]) X.x X.b d_Source_init_42 hl (k := 2) rfl (nI_1 i) (by decide) rfl (fun ls hl => ?_)
          refine lv_goto (tgt := 14) X.x X.b d_Source_init_45 (by decide) ?_
          refine W.widen (k := 1 + 2 * (i + 1)) (n := 5 + 62 * (i + 1)) (by omega) (by omega) ?_
          exact ih (i + 1) (va_up F i (some (so + 2 + 2 * i))) (by omega) (by omega) (⟨fun t ht => by by_cases z : t = i <;> first | (subst z; rw [va_up_self]) | (rw [va_up_ne _ _ z]; exact hE.1 t (by omega)), by omega⟩) _ _ _ hn hn6 hIt (by omega) hS (lv_sub hl [1, 2, 0] rfl)
        · skip
          have c3 : i = 0 := by have h5 : nI i = nI 0 := c3; exact (nI_eq (by omega) (by omega)).mp h5
          refine lv_iload_n X.x X.b d_Source_init_32 rfl (lv_at hl 1 rfl) ?_
          refine lv_goto (tgt := 38) X.x X.b d_Source_init_33 (by decide) ?_
          have hR := M_Row_init (cap := cap0) l g hn24 hz (by omega)
          refine m_callI X hS hR i_Source_17 rfl rfl (Nat.le_of_ble_eq_true rfl) hl.1 d_Source_init_38 (by omega) (by decide) ⟨by omega, by omega⟩ (fun q z => z.elim (fun z => by have z : so + 2 + 2 * i ≤ q ∧ q < so + 2 + 2 * i + 2 := z; exact Or.inl ⟨by omega, by omega⟩) (fun z => Or.inr (Nat.le_trans hS.1 z))) (fun H locs hq hfr hS => ?_)
          have hn := hn.fr hfr (fun z => by have z : so + 2 + 2 * i ≤ so ∧ so < so + 2 + 2 * i + 2 := z; omega)
          have hn6 := hn6.fr hfr (fun z => by have z : so + 2 + 2 * i ≤ so + 1 ∧ so + 1 < so + 2 + 2 * i + 2 := z; omega)
          have hIt := fun t (ht : t < i) => (hIt t ht).frm hfr (fun q z => by have z : so + 2 + 2 * i ≤ q ∧ q < so + 2 + 2 * i + 2 := z; omega)
          clear hz
          obtain ⟨hRn, hz⟩ := hq
          have hRn : rAt g (so + 2 + 2 * i) (capF cap0 i) 0 (fun _ => 0) H := by rw [show capF cap0 i = cap0 from (by unfold capF; rw [if_pos (by omega)])]; exact hRn
          refine m_qast X hS (by first | exact Or.inl ⟨by omega, by omega⟩ | exact Or.inl (by omega) | exact Or.inl rfl | exact Or.inr (by omega)) 3 ci_Row rfl hn6 hRn.1 rfl (vp_in_nI (n := i) (N := 5) (by omega) (by omega)) d_Source_init_41 (fun H locs hp hcg hS => ?_)
          rw [nI_clamp (by omega)] at hp
          have hn6 := hp
          have hz9 : H.size = so + 2 + 2 * i + 2 := hcg.1.trans hz
          clear hz
          have hz := hz9
          clear hz9
          have hfr := fr.of_chg (A := fun q => q = so + 1) hcg rfl
          have hn := hn.fr hfr (fun z => by have z : so = so + 1 := z; omega)
          have hIt := fun t (ht : t < i) => (hIt t ht).frm hfr (fun q z => by have z : q = so + 1 := z; omega)
          have hRn := hRn.frm hfr (fun q z => by have z : q = so + 1 := z; omega)
          have hIt : ∀ t, t < i + 1 → rAt g (so + 2 + 2 * t) (capF cap0 t) 0 (fun _ => 0) H := fun t ht => by
            by_cases z : t = i
            · subst z; exact hRn
            · exact hIt t (by omega)
          refine lv_iinc (v := nI (i + 1)) (lv' := [(2, .int (nI (i + 1))), (0, .ref so), (1, .int (nI cap0))]) X.x X.b d_Source_init_42 hl (k := 2) rfl (nI_1 i) (by decide) rfl (fun ls hl => ?_)
          refine lv_goto (tgt := 14) X.x X.b d_Source_init_45 (by decide) ?_
          refine W.widen (k := 1 + 2 * (i + 1)) (n := 5 + 62 * (i + 1)) (by omega) (by omega) ?_
          exact ih (i + 1) (va_up F i (some (so + 2 + 2 * i))) (by omega) (by omega) (⟨fun t ht => by by_cases z : t = i <;> first | (subst z; rw [va_up_self]) | (rw [va_up_ne _ _ z]; exact hE.1 t (by omega)), by omega⟩) _ _ _ hn hn6 hIt (by omega) hS (lv_sub hl [1, 2, 0] rfl)
  refine W.widen (k := 1 + 2 * 0) (n := 5 + 62 * 0) (by omega) (by omega) ?_
  exact lp 5 0 (fun _ => none) (by omega) (by omega) (⟨fun t ht => absurd ht (Nat.not_lt_zero t), by omega⟩) _ _ _ hn hn6 (fun t ht => absurd ht (Nat.not_lt_zero t)) (by omega) hS (lv_sub hl [1, 2, 0] rfl)
