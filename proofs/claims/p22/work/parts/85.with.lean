-- A ROW OF LINES WITH ONE MORE, WITH ONE LESS
theorem ac_link : Cond.methodLink R_Press 51 arraycopyName ∈ LW := LW_t 820 (by decide +kernel) (by decide +kernel)
theorem ac_nat : Cond.native arraycopyName ∈ LW := LW_t 822 (by decide +kernel) (by decide +kernel)
theorem ac_stat : Cond.static arraycopyName ∈ LW := LW_t 821 (by decide +kernel) (by decide +kernel)
theorem ac_ini : Cond.initialized "java/lang/System" ∈ LW := LW_t 12 (by decide +kernel) (by decide +kernel)
theorem cl_IA : Cond.classLink R_Press 21 (FieldType.array .int).toString ∈ LW := LW_t 762 (by decide +kernel) (by decide +kernel)
theorem cl_IAAA : Cond.classLink R_Press 16 (FieldType.array (.array (.array .int))).toString ∈ LW := LW_t 759 (by decide +kernel) (by decide +kernel)
/-- there lies a row of ints -/
abbrev isIA (g : GG) (y : Nat) (H : Heap) : Prop := ∃ (k : Nat) (fy : Nat → Int32), pt g y (.inl (g.2 0, k, .inl fy)) H
theorem isIA.fr {g : GG} {y : Nat} {A : Nat → Prop} {H H1 : Heap} (h : isIA g y H) (hf : fr A H H1) (hn : ¬ A y) : isIA g y H1 := by
  obtain ⟨k, fy, h⟩ := h
  exact ⟨k, fy, pt.fr h hf hn⟩
theorem isIA.lt {g : GG} {y : Nat} {H : Heap} (h : isIA g y H) : y < H.size := by
  obtain ⟨k, fy, h⟩ := h
  exact pt.lt h
set_option maxRecDepth 100000 in
set_option maxHeartbeats 4000000 in
theorem N_Press_with (l : Launch) (g : GG) {b L : Nat} {xs : Nat → Int32} {a w n t : Nat} {fl : Nat → Nat} {fw : Nat → Int32} {H0 : Heap} (hn : n ≤ 40) (ht : t ≤ n) (ha : pt g a (qarr (g.2 5) n (fun i => some (fl i))) H0) (hf : ∀ i, i < n → isIA g (fl i) H0) (hw : pt g w (.inl (g.2 0, 5, .inl fw)) H0) :
    MX l y_Press_with c_Press_with 4 (some (.array (.array .int))) 1 1 41 g b L xs H0 [.ref a, .ref w, .int (nI t)] noA (fun v H1 => ∃ q, v = some (.ref q) ∧ H0.size ≤ q ∧ pt g q (qarr (g.2 5) (n + 1) (fun i => some (insF fl t w i))) H1) := by
  refine MX.of (by decide +kernel) (Nat.le_of_ble_eq_true rfl) ?_
  intro p e s m below meth cd X hH hx ls hl
  have X : CX g p s m _ meth cd c_Press_with 4 (some (.array (.array .int))) R_Press _ := X
  have hl : lv_has ls 4 [(0, .ref a), (1, .ref w), (2, .int (nI t))] := hl
  have hS : va_S (AA noA H0) H0 H0 [] := va_S.rf
  refine lv_aload_n X.x X.b d_Press_with_0 rfl (lv_at hl 0 rfl) ?_
  refine m_alen (v := nI n) X 5 rfl ha rfl d_Press_with_1 ?_
  refine lv_iconst (v := 1) X.x X.b d_Press_with_2 (by decide) ?_
  refine lv_iadd X.x X.b d_Press_with_3 ?_
  rw [nI_1]
  obtain ⟨q, hq⟩ : ∃ q : Nat, H0.size = q := ⟨_, rfl⟩
  have laq : a < q := by have := ha.lt; omega
  have lwq : w < q := by have := hw.lt; omega
  refine m_newR2 X cl_IA hS hq (n + 1) (nI_pos (by omega)) (nI_clamp (by omega)) (by omega) (Nat.le_refl 1) (by show 0 + (n + 1) ≤ 41; omega) d_Press_with_4 (fun H1 hN hgr hS hz => ?_)
  have hfr1 : fr (eqA q) H0 H1 := fr.of_grow hgr
  refine lv_astore_n (lv' := [(3, .ref q), (0, .ref a), (1, .ref w), (2, .int (nI t))]) X.x X.b d_Press_with_7 rfl hl (by decide) rfl (fun ls hl => ?_)
  refine lv_aload_n X.x X.b d_Press_with_8 rfl (lv_at hl 1 rfl) ?_
  refine lv_iconst (v := 0) X.x X.b d_Press_with_9 (by decide) ?_
  refine lv_aload_n X.x X.b d_Press_with_10 rfl (lv_at hl 0 rfl) ?_
  refine lv_iconst (v := 0) X.x X.b d_Press_with_11 (by decide) ?_
  refine lv_iload_n X.x X.b d_Press_with_12 rfl (lv_at hl 3 rfl) ?_
  have ct : (nI t).toNatClampNeg = t := nI_clamp (by omega)
  have c0 : (0 : Int32).toNatClampNeg = 0 := rfl
  refine m_copyA X hl.1 ac_link ac_nat ac_stat ac_ini hS (Or.inr (Nat.le_of_eq hq)) (pt.fr ha hfr1 (by omega)) hN (by decide) (by decide) (nI_pos (by omega)) (by rw [ct, c0]; omega) (by rw [ct, c0]; omega) (fun i hi y hy => ?_) (Nat.le_refl 1) (Nat.zero_le 8) (by show 26 ≤ 40 * 1; omega) d_Press_with_13 (fun H2 locs2 hN2 hcg hS => ?_)
  · rw [ct] at hi
    have := Option.some.inj hy
    rw [← this, c0, Nat.zero_add]
    have hi2 := hf i (by omega)
    exact hi2.fr hfr1 (by have := hi2.lt; show ¬ fl i = q; omega)
  have hfr2 : fr (eqA q) H0 H2 := hfr1.tr (fr.of_chg hcg rfl)
  rw [ct, c0] at hN2
  refine lv_aload_n X.x X.b d_Press_with_16 rfl (lv_at hl 0 rfl) ?_
  refine lv_iload_n X.x X.b d_Press_with_17 rfl (lv_at hl 3 rfl) ?_
  refine lv_aload_n X.x X.b d_Press_with_18 rfl (lv_at hl 2 rfl) ?_
  obtain ⟨k5, k0, x3, x4, x0, -⟩ := XA.five X.kx
  refine m_qast2 X hS (Or.inr (Nat.le_of_eq hq)) x3 x4 x0 hN2 (pt.fr hw hfr2 (by show ¬ w = q; omega)) (fun q h => by cases h) rfl (vp_in_nI (show t < n + 1 by omega) (by omega)) d_Press_with_19 (fun H3 locs3 hN3 hcg3 hS => ?_)
  rw [ct] at hN3
  have hfr3 : fr (eqA q) H0 H3 := hfr2.tr (fr.of_chg hcg3 rfl)
  refine lv_aload_n X.x X.b d_Press_with_20 rfl (lv_at hl 1 rfl) ?_
  refine lv_iload_n X.x X.b d_Press_with_21 rfl (lv_at hl 3 rfl) ?_
  refine lv_aload_n X.x X.b d_Press_with_22 rfl (lv_at hl 0 rfl) ?_
  refine lv_iload_n X.x X.b d_Press_with_23 rfl (lv_at hl 3 rfl) ?_
  refine lv_iconst (v := 1) X.x X.b d_Press_with_24 (by decide) ?_
  refine lv_iadd X.x X.b d_Press_with_25 ?_
  rw [nI_1]
  refine lv_aload_n X.x X.b d_Press_with_26 rfl (lv_at hl 1 rfl) ?_
  refine m_alen (v := nI n) X 5 rfl (pt.fr ha hfr3 (by show ¬ a = q; omega)) rfl d_Press_with_27 ?_
  refine lv_iload_n X.x X.b d_Press_with_28 rfl (lv_at hl 3 rfl) ?_
  refine lv_isub X.x X.b d_Press_with_29 ?_
  rw [nI_sub ht]
  have ct1 : (nI (t + 1)).toNatClampNeg = t + 1 := nI_clamp (by omega)
  have cn : (nI (n - t)).toNatClampNeg = n - t := nI_clamp (by omega)
  refine m_copyA X hl.1 ac_link ac_nat ac_stat ac_ini hS (Or.inr (Nat.le_of_eq hq)) (pt.fr ha hfr3 (by show ¬ a = q; omega)) hN3 (nI_pos (by omega)) (nI_pos (by omega)) (nI_pos (by omega)) (by rw [ct, cn]; omega) (by rw [ct1, cn]; omega) (fun i hi y hy => ?_) (Nat.le_refl 1) (Nat.zero_le 8) (by show 26 ≤ 40 * 1; omega) d_Press_with_30 (fun H4 locs4 hN4 hcg4 hS => ?_)
  · rw [cn] at hi
    have := Option.some.inj hy
    rw [← this, ct]
    have hi2 := hf (t + i) (by omega)
    exact hi2.fr hfr3 (by have := hi2.lt; show ¬ fl (t + i) = q; omega)
  rw [ct, ct1, cn] at hN4
  refine lv_aload_n X.x X.b d_Press_with_33 rfl (lv_at hl 0 rfl) ?_
  refine m_aretX X hS (Nat.le_refl _) (by omega) d_Press_with_34 ⟨q, rfl, Nat.le_of_eq hq, hN4.arrQ (fun i hi => ?_)⟩
  unfold va_cpy va_up insF
  dsimp only
  by_cases z : i < t
  · rw [if_neg (show ¬ (t + 1 ≤ i ∧ i < t + 1 + (n - t)) by omega), if_neg (show ¬ i = t by omega), if_pos (show 0 ≤ i ∧ i < 0 + t by omega), if_pos z, Nat.zero_add, Nat.sub_zero]
  · by_cases z2 : i = t
    · rw [if_neg (show ¬ (t + 1 ≤ i ∧ i < t + 1 + (n - t)) by omega), if_pos z2, if_neg z, if_pos z2]
    · rw [if_pos (show t + 1 ≤ i ∧ i < t + 1 + (n - t) by omega), if_neg z, if_neg z2, show t + (i - (t + 1)) = i - 1 by omega]
set_option maxRecDepth 100000 in
set_option maxHeartbeats 4000000 in
theorem N_Press_without (l : Launch) (g : GG) {b L : Nat} {xs : Nat → Int32} {a n t : Nat} {fl : Nat → Nat} {H0 : Heap} (hn : n ≤ 40) (ht : t ≤ n) (ha : pt g a (qarr (g.2 5) (n + 1) (fun i => some (fl i))) H0) (hf : ∀ i, i < n + 1 → isIA g (fl i) H0) :
    MX l y_Press_without c_Press_without 3 (some (.array (.array .int))) 1 1 41 g b L xs H0 [.ref a, .int (nI t)] noA (fun v H1 => ∃ q, v = some (.ref q) ∧ H0.size ≤ q ∧ pt g q (qarr (g.2 5) n (fun i => some (remF fl t i))) H1) := by
  refine MX.of (by decide +kernel) (Nat.le_of_ble_eq_true rfl) ?_
  intro p e s m below meth cd X hH hx ls hl
  have X : CX g p s m _ meth cd c_Press_without 3 (some (.array (.array .int))) R_Press _ := X
  have hl : lv_has ls 3 [(0, .ref a), (1, .int (nI t))] := hl
  have hS : va_S (AA noA H0) H0 H0 [] := va_S.rf
  refine lv_aload_n X.x X.b d_Press_without_0 rfl (lv_at hl 0 rfl) ?_
  refine m_alen (v := nI (n + 1)) X 5 rfl ha rfl d_Press_without_1 ?_
  refine lv_iconst (v := 1) X.x X.b d_Press_without_2 (by decide) ?_
  refine lv_isub X.x X.b d_Press_without_3 ?_
  rw [nI_pred]
  obtain ⟨q, hq⟩ : ∃ q : Nat, H0.size = q := ⟨_, rfl⟩
  have laq : a < q := by have := ha.lt; omega
  refine m_newR2 X cl_IA hS hq n (nI_pos (by omega)) (nI_clamp (by omega)) (by omega) (Nat.le_refl 1) (by show 0 + n ≤ 41; omega) d_Press_without_4 (fun H1 hN hgr hS hz => ?_)
  have hfr1 : fr (eqA q) H0 H1 := fr.of_grow hgr
  refine lv_astore_n (lv' := [(2, .ref q), (0, .ref a), (1, .int (nI t))]) X.x X.b d_Press_without_7 rfl hl (by decide) rfl (fun ls hl => ?_)
  refine lv_aload_n X.x X.b d_Press_without_8 rfl (lv_at hl 1 rfl) ?_
  refine lv_iconst (v := 0) X.x X.b d_Press_without_9 (by decide) ?_
  refine lv_aload_n X.x X.b d_Press_without_10 rfl (lv_at hl 0 rfl) ?_
  refine lv_iconst (v := 0) X.x X.b d_Press_without_11 (by decide) ?_
  refine lv_iload_n X.x X.b d_Press_without_12 rfl (lv_at hl 2 rfl) ?_
  have ct : (nI t).toNatClampNeg = t := nI_clamp (by omega)
  have c0 : (0 : Int32).toNatClampNeg = 0 := rfl
  refine m_copyA X hl.1 ac_link ac_nat ac_stat ac_ini hS (Or.inr (Nat.le_of_eq hq)) (pt.fr ha hfr1 (by show ¬ a = q; omega)) hN (by decide) (by decide) (nI_pos (by omega)) (by rw [ct, c0]; omega) (by rw [ct, c0]; omega) (fun i hi y hy => ?_) (Nat.le_refl 1) (Nat.zero_le 8) (by show 26 ≤ 40 * 1; omega) d_Press_without_13 (fun H2 locs2 hN2 hcg hS => ?_)
  · rw [ct] at hi
    have := Option.some.inj hy
    rw [← this, c0, Nat.zero_add]
    have hi2 := hf i (by omega)
    exact hi2.fr hfr1 (by have := hi2.lt; show ¬ fl i = q; omega)
  have hfr2 : fr (eqA q) H0 H2 := hfr1.tr (fr.of_chg hcg rfl)
  rw [ct, c0] at hN2
  refine lv_aload_n X.x X.b d_Press_without_16 rfl (lv_at hl 1 rfl) ?_
  refine lv_iload_n X.x X.b d_Press_without_17 rfl (lv_at hl 2 rfl) ?_
  refine lv_iconst (v := 1) X.x X.b d_Press_without_18 (by decide) ?_
  refine lv_iadd X.x X.b d_Press_without_19 ?_
  rw [nI_1]
  refine lv_aload_n X.x X.b d_Press_without_20 rfl (lv_at hl 0 rfl) ?_
  refine lv_iload_n X.x X.b d_Press_without_21 rfl (lv_at hl 2 rfl) ?_
  refine lv_aload_n X.x X.b d_Press_without_22 rfl (lv_at hl 0 rfl) ?_
  refine m_alen (v := nI n) X 5 rfl hN2 rfl d_Press_without_23 ?_
  refine lv_iload_n X.x X.b d_Press_without_24 rfl (lv_at hl 2 rfl) ?_
  refine lv_isub X.x X.b d_Press_without_25 ?_
  rw [nI_sub ht]
  have ct1 : (nI (t + 1)).toNatClampNeg = t + 1 := nI_clamp (by omega)
  have cn : (nI (n - t)).toNatClampNeg = n - t := nI_clamp (by omega)
  refine m_copyA X hl.1 ac_link ac_nat ac_stat ac_ini hS (Or.inr (Nat.le_of_eq hq)) (pt.fr ha hfr2 (by show ¬ a = q; omega)) hN2 (nI_pos (by omega)) (nI_pos (by omega)) (nI_pos (by omega)) (by rw [ct1, cn]; omega) (by rw [ct, cn]; omega) (fun i hi y hy => ?_) (Nat.le_refl 1) (Nat.zero_le 8) (by show 26 ≤ 40 * 1; omega) d_Press_without_26 (fun H4 locs4 hN4 hcg4 hS => ?_)
  · rw [cn] at hi
    have := Option.some.inj hy
    rw [← this, ct1]
    have hi2 := hf (t + 1 + i) (by omega)
    exact hi2.fr hfr2 (by have := hi2.lt; show ¬ fl (t + 1 + i) = q; omega)
  rw [ct, ct1, cn] at hN4
  refine lv_aload_n X.x X.b d_Press_without_29 rfl (lv_at hl 0 rfl) ?_
  refine m_aretX X hS (Nat.le_refl _) (by omega) d_Press_without_30 ⟨q, rfl, Nat.le_of_eq hq, hN4.arrQ (fun i hi => ?_)⟩
  unfold va_cpy remF
  dsimp only
  by_cases z : i < t
  · rw [if_neg (show ¬ (t ≤ i ∧ i < t + (n - t)) by omega), if_pos (show 0 ≤ i ∧ i < 0 + t by omega), if_pos z, Nat.zero_add, Nat.sub_zero]
  · rw [if_pos (show t ≤ i ∧ i < t + (n - t) by omega), if_neg z, show t + 1 + (i - t) = i + 1 by omega]
