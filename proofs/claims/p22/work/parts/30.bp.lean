set_option maxRecDepth 100000 in
set_option maxHeartbeats 4000000 in
theorem M_BP_init (l : Launch) (g : GG) {B : Nat} (f : Nat → Nat → Nat) (D : DT) {H0 : Heap} (hn : pt g B (.inr (ci_BP, [.null, .null, .null, .null])) H0) (hz : H0.size = B + 1) : MM l y_BP_init c_BP_init 1 none 22 286 5084 g H0 [.ref B] (fun q => B ≤ q ∧ q < B + 287) (none) (fun H1 => bAt g B (fun _ => 0) f D (nowF D (fun _ => 0) (IS0, 0, 0, 0, -1, 0)) H1) := by
  refine MM.of (by decide +kernel) (Nat.le_of_ble_eq_true rfl) ?_
  intro p e s m below meth cd X hH ls hl
  have X : CX g p s m _ meth cd c_BP_init 1 none R_BP _ := X
  have hl : lv_has ls 1 [(0, .ref B)] := hl
  have hS : va_S (AA (fun q => B ≤ q ∧ q < B + 287) H0) H0 H0 [] := va_S.rf
  refine lv_aload_n X.x X.b d_BP_init_0 rfl (lv_at hl 0 rfl) ?_
  refine m_obj X l_BP_1 (by omega) (Nat.le_of_ble_eq_true rfl) hl.1 d_BP_init_1 ?_
  refine lv_aload_n X.x X.b d_BP_init_4 rfl (lv_at hl 0 rfl) ?_
  refine m_newo (fs := [.null]) X ok_Source hS hz (LW_t 542 (by decide +kernel) (by decide +kernel)) (LW_t 543 (by decide +kernel) (by decide +kernel)) ini_Source (fun j hj => by rcases (show j = 0 by omega) with rfl <;> rfl) (by omega) (by omega) d_BP_init_5 (fun H hn5 hgr hS hz2 => ?_)
  have hfr := fr.of_grow (A := noA) hgr
  have hn := hn.fr hfr (fun z => z.elim)
  clear hz
  have hz := hz2
  clear hz2
  refine lv_dup X.x X.b d_BP_init_8 rfl ?_
  refine lv_bipush (v := 40) X.x X.b d_BP_init_9 (by decide) ?_
  refine m_callI X hS (M_Source_init (so := B + 1) (cap0 := 40) (lo := B) (hi := B + 287) l g f D hn5 hz (by omega) (by omega) (by omega) (by omega)) i_BP_11 rfl rfl (Nat.le_of_ble_eq_true rfl) hl.1 d_BP_init_11 (by omega) (by decide) ⟨by omega, by omega⟩ (fun q z => z.elim (fun z => by have z : B + 1 ≤ q ∧ q < B + 1 + 12 := z; first | exact Or.inl ⟨by omega, by omega⟩ | exact Or.inr (by omega)) (fun z => Or.inr (Nat.le_trans hS.1 z))) (fun H locs hq hfr hS => ?_)
  have hn := hn.fr hfr (fun z => by have z : B + 1 ≤ B ∧ B < B + 1 + 12 := z; omega)
  clear hz
  obtain ⟨hs1, hz⟩ := hq
  have hz9 : H.size = B + 13 := by omega
  clear hz
  have hz := hz9
  clear hz9
  refine m_putF X rfl ok_BP rfl hS (by first | exact Or.inl ⟨by omega, by omega⟩ | exact Or.inl (by omega) | exact Or.inl rfl | exact Or.inr (by omega)) hn 0 (by decide) k_BP_14 rfl (ok_BP.2.2.1 _ (by decide)) rfl rfl (Nat.le_of_ble_eq_true rfl) d_BP_init_14 (fun H locs hp hcg hS => ?_)
  have hn : pt g (B) (.inr (ci_BP, [.ref (B + 1), .null, .null, .null])) H := hp
  have hz9 : H.size = B + 13 := hcg.1.trans hz
  clear hz
  have hz := hz9
  clear hz9
  have hfr := fr.of_chg (A := fun q => q = B) hcg rfl
  have hs1 := hs1.frame hfr (fun q z => by have z : q = B := z; omega)
  refine lv_aload_n X.x X.b d_BP_init_17 rfl (lv_at hl 0 rfl) ?_
  refine m_newo (fs := [.null, .null, .null, .null, .int 0, .int 0, .int 0, .int 0]) X ok_Assembly hS hz (LW_t 571 (by decide +kernel) (by decide +kernel)) (LW_t 287 (by decide +kernel) (by decide +kernel)) ini_Assembly (fun j hj => by rcases (show j = 0 ∨ j = 1 ∨ j = 2 ∨ j = 3 ∨ j = 4 ∨ j = 5 ∨ j = 6 ∨ j = 7 by omega) with rfl | rfl | rfl | rfl | rfl | rfl | rfl | rfl <;> rfl) (by omega) (by omega) d_BP_init_18 (fun H hn18 hgr hS hz2 => ?_)
  have hfr := fr.of_grow (A := noA) hgr
  have hn := hn.fr hfr (fun z => z.elim)
  have hs1 := hs1.frame hfr (fun q z => z.elim)
  clear hz
  have hz := hz2
  clear hz2
  refine lv_dup X.x X.b d_BP_init_21 rfl ?_
  refine lv_aload_n X.x X.b d_BP_init_22 rfl (lv_at hl 0 rfl) ?_
  refine m_get (v := .ref (B + 1)) X ok_BP hn 0 (by decide) k_BP_14 rfl d_BP_init_23 ?_
  refine m_callI X hS (M_Assembly_init (w := B + 13) l g hn18 hz hs1 (by omega) (by omega) (by omega)) i_BP_20 rfl rfl (Nat.le_of_ble_eq_true rfl) hl.1 d_BP_init_26 (by omega) (by decide) ⟨by omega, by omega⟩ (fun q z => z.elim (fun z => by have z : B + 13 ≤ q ∧ q < B + 13 + 131 := z; first | exact Or.inl ⟨by omega, by omega⟩ | exact Or.inr (by omega)) (fun z => Or.inr (Nat.le_trans hS.1 z))) (fun H locs hq hfr hS => ?_)
  have hn := hn.fr hfr (fun z => by have z : B + 13 ≤ B ∧ B < B + 13 + 131 := z; omega)
  clear hz
  obtain ⟨ha1, hz⟩ := hq
  have hz9 : H.size = B + 144 := by omega
  clear hz
  have hz := hz9
  clear hz9
  refine m_putF X rfl ok_BP rfl hS (by first | exact Or.inl ⟨by omega, by omega⟩ | exact Or.inl (by omega) | exact Or.inl rfl | exact Or.inr (by omega)) hn 1 (by decide) k_BP_23 rfl (ok_BP.2.2.1 _ (by decide)) rfl rfl (Nat.le_of_ble_eq_true rfl) d_BP_init_29 (fun H locs hp hcg hS => ?_)
  have hn : pt g (B) (.inr (ci_BP, [.ref (B + 1), .ref (B + 13), .null, .null])) H := hp
  have hz9 : H.size = B + 144 := hcg.1.trans hz
  clear hz
  have hz := hz9
  clear hz9
  have hfr := fr.of_chg (A := fun q => q = B) hcg rfl
  have ha1 := ha1.frame hfr (fun q z => by have z : q = B := z; omega)
  refine lv_aload_n X.x X.b d_BP_init_32 rfl (lv_at hl 0 rfl) ?_
  refine m_newo (fs := [.null]) X ok_Source hS hz (LW_t 542 (by decide +kernel) (by decide +kernel)) (LW_t 543 (by decide +kernel) (by decide +kernel)) ini_Source (fun j hj => by rcases (show j = 0 by omega) with rfl <;> rfl) (by omega) (by omega) d_BP_init_33 (fun H hn33 hgr hS hz2 => ?_)
  have hfr := fr.of_grow (A := noA) hgr
  have hn := hn.fr hfr (fun z => z.elim)
  have ha1 := ha1.frame hfr (fun q z => z.elim)
  clear hz
  have hz := hz2
  clear hz2
  refine lv_dup X.x X.b d_BP_init_36 rfl ?_
  refine lv_bipush (v := 60) X.x X.b d_BP_init_37 (by decide) ?_
  refine m_callI X hS (M_Source_init (so := B + 144) (cap0 := 60) (lo := B) (hi := B + 287) l g f D hn33 hz (by omega) (by omega) (by omega) (by omega)) i_BP_11 rfl rfl (Nat.le_of_ble_eq_true rfl) hl.1 d_BP_init_39 (by omega) (by decide) ⟨by omega, by omega⟩ (fun q z => z.elim (fun z => by have z : B + 144 ≤ q ∧ q < B + 144 + 12 := z; first | exact Or.inl ⟨by omega, by omega⟩ | exact Or.inr (by omega)) (fun z => Or.inr (Nat.le_trans hS.1 z))) (fun H locs hq hfr hS => ?_)
  have hn := hn.fr hfr (fun z => by have z : B + 144 ≤ B ∧ B < B + 144 + 12 := z; omega)
  have ha1 := ha1.frame hfr (fun q z => by have z : B + 144 ≤ q ∧ q < B + 144 + 12 := z; omega)
  clear hz
  obtain ⟨hs2, hz⟩ := hq
  have hz9 : H.size = B + 156 := by omega
  clear hz
  have hz := hz9
  clear hz9
  refine m_putF X rfl ok_BP rfl hS (by first | exact Or.inl ⟨by omega, by omega⟩ | exact Or.inl (by omega) | exact Or.inl rfl | exact Or.inr (by omega)) hn 2 (by decide) k_BP_27 rfl (ok_BP.2.2.1 _ (by decide)) rfl rfl (Nat.le_of_ble_eq_true rfl) d_BP_init_42 (fun H locs hp hcg hS => ?_)
  have hn : pt g (B) (.inr (ci_BP, [.ref (B + 1), .ref (B + 13), .ref (B + 144), .null])) H := hp
  have hz9 : H.size = B + 156 := hcg.1.trans hz
  clear hz
  have hz := hz9
  clear hz9
  have hfr := fr.of_chg (A := fun q => q = B) hcg rfl
  have ha1 := ha1.frame hfr (fun q z => by have z : q = B := z; omega)
  have hs2 := hs2.frame hfr (fun q z => by have z : q = B := z; omega)
  refine lv_aload_n X.x X.b d_BP_init_45 rfl (lv_at hl 0 rfl) ?_
  refine m_newo (fs := [.null, .null, .null, .null, .int 0, .int 0, .int 0, .int 0]) X ok_Assembly hS hz (LW_t 571 (by decide +kernel) (by decide +kernel)) (LW_t 287 (by decide +kernel) (by decide +kernel)) ini_Assembly (fun j hj => by rcases (show j = 0 ∨ j = 1 ∨ j = 2 ∨ j = 3 ∨ j = 4 ∨ j = 5 ∨ j = 6 ∨ j = 7 by omega) with rfl | rfl | rfl | rfl | rfl | rfl | rfl | rfl <;> rfl) (by omega) (by omega) d_BP_init_46 (fun H hn46 hgr hS hz2 => ?_)
  have hfr := fr.of_grow (A := noA) hgr
  have hn := hn.fr hfr (fun z => z.elim)
  have ha1 := ha1.frame hfr (fun q z => z.elim)
  have hs2 := hs2.frame hfr (fun q z => z.elim)
  clear hz
  have hz := hz2
  clear hz2
  refine lv_dup X.x X.b d_BP_init_49 rfl ?_
  refine lv_aload_n X.x X.b d_BP_init_50 rfl (lv_at hl 0 rfl) ?_
  refine m_get (v := .ref (B + 144)) X ok_BP hn 2 (by decide) k_BP_27 rfl d_BP_init_51 ?_
  refine m_callI X hS (M_Assembly_init (w := B + 156) l g hn46 hz hs2 (by omega) (by omega) (by omega)) i_BP_20 rfl rfl (Nat.le_of_ble_eq_true rfl) hl.1 d_BP_init_54 (by omega) (by decide) ⟨by omega, by omega⟩ (fun q z => z.elim (fun z => by have z : B + 156 ≤ q ∧ q < B + 156 + 131 := z; first | exact Or.inl ⟨by omega, by omega⟩ | exact Or.inr (by omega)) (fun z => Or.inr (Nat.le_trans hS.1 z))) (fun H locs hq hfr hS => ?_)
  have hn := hn.fr hfr (fun z => by have z : B + 156 ≤ B ∧ B < B + 156 + 131 := z; omega)
  have ha1 := ha1.frame hfr (fun q z => by have z : B + 156 ≤ q ∧ q < B + 156 + 131 := z; omega)
  clear hz
  obtain ⟨ha2, hz⟩ := hq
  have hz9 : H.size = B + 287 := by omega
  clear hz
  have hz := hz9
  clear hz9
  refine m_putF X rfl ok_BP rfl hS (by first | exact Or.inl ⟨by omega, by omega⟩ | exact Or.inl (by omega) | exact Or.inl rfl | exact Or.inr (by omega)) hn 3 (by decide) k_BP_30 rfl (ok_BP.2.2.1 _ (by decide)) rfl rfl (Nat.le_of_ble_eq_true rfl) d_BP_init_57 (fun H locs hp hcg hS => ?_)
  have hn : pt g (B) (.inr (ci_BP, [.ref (B + 1), .ref (B + 13), .ref (B + 144), .ref (B + 156)])) H := hp
  have hz9 : H.size = B + 287 := hcg.1.trans hz
  clear hz
  have hz := hz9
  clear hz9
  have hfr := fr.of_chg (A := fun q => q = B) hcg rfl
  have ha1 := ha1.frame hfr (fun q z => by have z : q = B := z; omega)
  have ha2 := ha2.frame hfr (fun q z => by have z : q = B := z; omega)
  refine lv_aload_n X.x X.b d_BP_init_60 rfl (lv_at hl 0 rfl) ?_
  have hR := M_BP_assembleNow (y := (IS0, 0, 0, 0, -1, 0)) l g ⟨hn, ha1, ⟨0, Nat.zero_le _, rfl⟩, _, _, _, _, ha2⟩
  refine m_callM X hS hR v_BP_33 hn rfl rfl rfl (Nat.le_of_ble_eq_true rfl) hl.1 d_BP_init_61 (by omega) (by decide) ⟨by omega, by omega⟩ (fun q z => by have z : B + 13 ≤ q ∧ q < B + 13 + 131 := z; exact ⟨by omega, by omega⟩) (fun H locs hb hfr hS => ?_)
  exact m_vret X hS (by omega) (by omega) d_BP_init_64 rfl hb
