-- THE LAW'S PRESS IS MADE
theorem noLnO {g : GG} {s : State} {P : Nat} {fs : List Value} {H : Heap} (K : KK g s) (h2 : pt g P (.inr (ci_Press, fs)) H) : ∀ q, eqA P q → ¬ isLn g q H := fun q z ⟨vs, h⟩ => by
  have z : q = P := z
  rw [z] at h
  exact ln_obj K h h2
theorem ok_BPi : Cond.instantiable R_BP 4 ∈ LW := LW_t 195 (by decide +kernel) (by decide +kernel)
theorem cl_BP : Cond.classLink R_Press 7 R_BP ∈ LW := LW_t 537 (by decide +kernel) (by decide +kernel)
abbrev pr0 : List Value := [.null, .null, .int 0, .null, .int 0, .int 0, .int 0, .null, .null, .int 0, .int 0, .null]
set_option maxRecDepth 100000 in
set_option maxHeartbeats 4000000 in
theorem N_Press_init (l : Launch) (g : GG) {b L : Nat} {xs : Nat → Int32} {P d : Nat} {H0 : Heap} (hbP : b < P) (hn : pt g P (.inr (ci_Press, pr0)) H0) (hz0 : H0.size = P + 1) : MX l y_Press_init c_Press_init 3 none 23 296 5093 g b L xs H0 [.ref P, .ref b, .int (nI d)] (geA P) (fun v H1 => v = none ∧ ∃ B RA V cnt f fR fL D Y, lawP g P B b RA V d cnt f fR fL D Y H1) := by
  refine MX.of (by decide +kernel) (Nat.le_of_ble_eq_true rfl) ?_
  intro p e s m below meth cd X hH hx ls hl
  have X : CX g p s m _ meth cd c_Press_init 3 none R_Press _ := X
  have hl : lv_has ls 3 [(0, .ref P), (1, .ref b), (2, .int (nI d))] := hl
  have hS : va_S (AA (geA P) H0) H0 H0 [] := va_S.rf
  have hAP : AA (geA P) H0 P := Or.inl (Nat.le_refl P)
  refine lv_aload_n X.x X.b d_Press_init_0 rfl (lv_at hl 0 rfl) ?_
  refine m_obj X l_Press_1 (by omega) (Nat.le_of_ble_eq_true rfl) hl.1 d_Press_init_1 ?_
  refine lv_aload_n X.x X.b d_Press_init_4 rfl (lv_at hl 0 rfl) ?_
  obtain ⟨B, hB0⟩ : ∃ B : Nat, H0.size = B := ⟨_, rfl⟩
  refine m_newo (fs := [.null, .null, .null, .null]) X ok_BP hS hB0 cl_BP ok_BPi ini_BP (fun j hj => by rcases (show j = 0 ∨ j = 1 ∨ j = 2 ∨ j = 3 by omega) with rfl | rfl | rfl | rfl <;> rfl) (by omega) (by omega) d_Press_init_5 (fun H1 hnB hgr hS hz => ?_)
  have hn := hn.grow hgr
  refine lv_dup X.x X.b d_Press_init_8 rfl ?_
  refine m_callI X hS (M_BP_init l g (fun _ _ => 0) (fun _ _ _ => 0) hnB hz) i_Press_9 rfl rfl (Nat.le_of_ble_eq_true rfl) hl.1 d_Press_init_9 (by omega) (by decide) ⟨by omega, by omega⟩ (fun q z => z.elim (fun z => by have z : B ≤ q ∧ q < B + 287 := z; exact Or.inl (show P ≤ q by omega)) (fun z => Or.inr (Nat.le_trans hS.1 z))) (fun H2 locs2 hB hfr hS => ?_)
  have hn := pt.fr hn hfr (fun z => by have z : B ≤ P ∧ P < B + 287 := z; omega)
  have hBl := hB.lt
  refine m_putF X rfl ok_Press rfl hS hAP hn 0 (by decide) k_Press_10 rfl (ok_Press.2.2.1 _ (by decide)) rfl rfl (Nat.le_of_ble_eq_true rfl) d_Press_init_12 (fun H3 locs3 hn2 hcg hS => ?_)
  have hB := hB.frK (fr.of_chg (A := eqA P) hcg rfl) (fun q z y => by have z : q = P := z; omega) (noLnO X.kx hn)
  refine lv_aload_n X.x X.b d_Press_init_15 rfl (lv_at hl 0 rfl) ?_
  refine lv_iconst (v := 5) X.x X.b d_Press_init_16 (by decide) ?_
  refine lv_iconst (v := 0) X.x X.b d_Press_init_17 (by decide) ?_
  obtain ⟨RA, hRA⟩ : ∃ RA : Nat, H3.size = RA := ⟨_, rfl⟩
  have hz3 := hcg.1
  refine m_multi X cl_IAAA hS hRA (by show _ + 6 ≤ 296; omega) (by show _ + 5 ≤ 5093; omega) d_Press_init_18 (fun H4 locs4 hR hrows hfr4 hS hz4 => ?_)
  have hB := hB.frK hfr4 (fun q z => z.elim) (fun q z => z.elim)
  have hn2 := pt.fr hn2 hfr4 (fun z => z)
  refine m_put X ok_Press hS hAP hn2 3 (by decide) k_Press_18 rfl (ok_Press.2.2.1 _ (by decide)) rfl rfl (Nat.le_of_ble_eq_true rfl) d_Press_init_22 (fun H5 locs5 hn3 hcg5 hS => ?_)
  have hB := hB.frK (fr.of_chg (A := eqA P) hcg5 rfl) (fun q z y => by have z : q = P := z; omega) (noLnO X.kx hn2)
  have hR := hR.off hcg5 (by omega)
  have hrows : ∀ i, i < 5 → pt g (RA + 1 + i) (qarr (g.2 5) 0 (fun _ => none)) H5 := fun i hi => (hrows i hi).off hcg5 (by omega)
  refine lv_aload_n X.x X.b d_Press_init_25 rfl (lv_at hl 0 rfl) ?_
  refine lv_iconst (v := 0) X.x X.b d_Press_init_26 (by decide) ?_
  obtain ⟨q7, hq7⟩ : ∃ z : Nat, H5.size = z := ⟨_, rfl⟩
  have hz5 := hcg5.1
  refine m_newR2 X cl_IA hS hq7 0 (by decide) rfl (by omega) (by show _ + 1 ≤ 296; omega) (by show _ + 0 ≤ 5093; omega) d_Press_init_27 (fun H6 h7 hgr6 hS hz6 => ?_)
  have hB := hB.frK (fr.of_grow (A := noA) hgr6) (fun q z => z.elim) (fun q z => z.elim)
  have hn3 := hn3.grow hgr6
  have hR := hR.grow hgr6
  have hrows : ∀ i, i < 5 → pt g (RA + 1 + i) (qarr (g.2 5) 0 (fun _ => none)) H6 := fun i hi => (hrows i hi).grow hgr6
  refine m_put X ok_Press hS hAP hn3 7 (by decide) k_Press_23 rfl (ok_Press.2.2.1 _ (by decide)) rfl rfl (Nat.le_of_ble_eq_true rfl) d_Press_init_30 (fun H7 locs7 hn4 hcg7 hS => ?_)
  have hB := hB.frK (fr.of_chg (A := eqA P) hcg7 rfl) (fun q z y => by have z : q = P := z; omega) (noLnO X.kx hn3)
  have hR := hR.off hcg7 (by omega)
  have hrows : ∀ i, i < 5 → pt g (RA + 1 + i) (qarr (g.2 5) 0 (fun _ => none)) H7 := fun i hi => (hrows i hi).off hcg7 (by omega)
  refine lv_aload_n X.x X.b d_Press_init_33 rfl (lv_at hl 0 rfl) ?_
  refine lv_iconst (v := 0) X.x X.b d_Press_init_34 (by decide) ?_
  obtain ⟨q8, hq8⟩ : ∃ z : Nat, H7.size = z := ⟨_, rfl⟩
  refine m_newI X hS hq8 0 (by decide) (by decide) (by decide) (by omega) (by omega) d_Press_init_35 (fun H8 h8 hgr8 hS hz8 => ?_)
  have hB := hB.frK (fr.of_grow (A := noA) hgr8) (fun q z => z.elim) (fun q z => z.elim)
  have hn4 := hn4.grow hgr8
  have hR := hR.grow hgr8
  have hrows : ∀ i, i < 5 → pt g (RA + 1 + i) (qarr (g.2 5) 0 (fun _ => none)) H8 := fun i hi => (hrows i hi).grow hgr8
  refine m_put X ok_Press hS hAP hn4 8 (by decide) k_Press_27 rfl (ok_Press.2.2.1 _ (by decide)) rfl rfl (Nat.le_of_ble_eq_true rfl) d_Press_init_37 (fun H9 locs9 hn5 hcg9 hS => ?_)
  have hB := hB.frK (fr.of_chg (A := eqA P) hcg9 rfl) (fun q z y => by have z : q = P := z; omega) (noLnO X.kx hn4)
  have hR := hR.off hcg9 (by omega)
  have hrows : ∀ i, i < 5 → pt g (RA + 1 + i) (qarr (g.2 5) 0 (fun _ => none)) H9 := fun i hi => (hrows i hi).off hcg9 (by omega)
  refine lv_aload_n X.x X.b d_Press_init_40 rfl (lv_at hl 0 rfl) ?_
  refine lv_iconst (v := 0) X.x X.b d_Press_init_41 (by decide) ?_
  obtain ⟨q9, hq9⟩ : ∃ z : Nat, H9.size = z := ⟨_, rfl⟩
  refine m_newZ X hS hq9 0 (by decide) (by decide) (by decide) (by omega) (by omega) d_Press_init_42 (fun H10 h10 hgr10 hS hz10 => ?_)
  have hB := hB.frK (fr.of_grow (A := noA) hgr10) (fun q z => z.elim) (fun q z => z.elim)
  have hn5 := hn5.grow hgr10
  have hR := hR.grow hgr10
  have hrows : ∀ i, i < 5 → pt g (RA + 1 + i) (qarr (g.2 5) 0 (fun _ => none)) H10 := fun i hi => (hrows i hi).grow hgr10
  refine m_put X ok_Press hS hAP hn5 11 (by decide) k_Press_30 rfl (ok_Press.2.2.1 _ (by decide)) rfl rfl (Nat.le_of_ble_eq_true rfl) d_Press_init_44 (fun H11 locs11 hn6 hcg11 hS => ?_)
  have hB := hB.frK (fr.of_chg (A := eqA P) hcg11 rfl) (fun q z y => by have z : q = P := z; omega) (noLnO X.kx hn5)
  have hR := hR.off hcg11 (by omega)
  have hrows : ∀ i, i < 5 → pt g (RA + 1 + i) (qarr (g.2 5) 0 (fun _ => none)) H11 := fun i hi => (hrows i hi).off hcg11 (by omega)
  refine lv_aload_n X.x X.b d_Press_init_47 rfl (lv_at hl 0 rfl) ?_
  refine lv_aload_n X.x X.b d_Press_init_48 rfl (lv_at hl 1 rfl) ?_
  refine m_putF X rfl ok_Press rfl hS hAP hn6 1 (by decide) k_Press_34 rfl (ok_Press.2.2.1 _ (by decide)) rfl rfl (Nat.le_of_ble_eq_true rfl) d_Press_init_49 (fun H12 locs12 hn7 hcg12 hS => ?_)
  have hB := hB.frK (fr.of_chg (A := eqA P) hcg12 rfl) (fun q z y => by have z : q = P := z; omega) (noLnO X.kx hn6)
  have hR := hR.off hcg12 (by omega)
  have hrows : ∀ i, i < 5 → pt g (RA + 1 + i) (qarr (g.2 5) 0 (fun _ => none)) H12 := fun i hi => (hrows i hi).off hcg12 (by omega)
  refine lv_aload_n X.x X.b d_Press_init_52 rfl (lv_at hl 0 rfl) ?_
  refine lv_iload_n X.x X.b d_Press_init_53 rfl (lv_at hl 2 rfl) ?_
  refine m_put X ok_Press hS hAP hn7 2 (by decide) k_Press_37 rfl (ok_Press.2.2.1 _ (by decide)) rfl rfl (Nat.le_of_ble_eq_true rfl) d_Press_init_54 (fun H13 locs13 hn8 hcg13 hS => ?_)
  have hB := hB.frK (fr.of_chg (A := eqA P) hcg13 rfl) (fun q z y => by have z : q = P := z; omega) (noLnO X.kx hn7)
  have hR := hR.off hcg13 (by omega)
  have hrows : ∀ i, i < 5 → pt g (RA + 1 + i) (qarr (g.2 5) 0 (fun _ => none)) H13 := fun i hi => (hrows i hi).off hcg13 (by omega)
  refine m_vretX X hS (by omega) (by omega) d_Press_init_57 ⟨rfl, B, RA, (.ref q7, .ref q8, .ref q9), fun _ => 0, fun _ _ => 0, fun r => RA + 1 + r, fun _ _ => 0, fun _ _ _ => 0, _, hn8, ⟨hR, fun r hr => ⟨(hrows r hr).arrQ (fun i hi => absurd hi (Nat.not_lt_zero i)), fun i hi => absurd hi (Nat.not_lt_zero i)⟩⟩, hB, ⟨⟨by omega, by omega⟩, fun r hr => ⟨(show RA < RA + 1 + r by omega), fun r2 hr2 z => by have z : RA + 1 + r = RA + 1 + r2 := z; omega⟩, fun r i hr hi => absurd hi (Nat.not_lt_zero i)⟩, fun r i hr hi => absurd hi (Nat.not_lt_zero i), OKY.now _ _ _⟩
