-- WHAT WOULD BE
theorem cap_more {cnt : Nat → Nat} {g : GG} {so lo hi : Nat} {f : Nat → Nat → Nat} {D : DT} {H : Heap} (h : sAt g so 40 cnt f D lo hi H) : ∀ r, r < 5 → cnt r ≤ capF 60 r := fun r hr =>
  Nat.le_trans (h.2.2.1 r hr).2 (by show (if r = 0 then 40 else 10) ≤ (if r = 0 then 60 else 10); split <;> omega)
set_option maxRecDepth 100000 in
set_option maxHeartbeats 4000000 in
theorem M_BP_wordsWithout (l : Launch) (g : GG) {B : Nat} {cnt cnt2 : Nat → Nat} {f f2 : Nat → Nat → Nat} {D D2 : DT} {y y2 : YS} {H0 : Heap} (hb : bQt g B cnt f D y cnt2 f2 D2 y2 H0) {r t : Nat} (hr : r < 5) (ht : t < cnt r) : MM l y_BP_wordsWithout c_BP_wordsWithout 3 (some .int) 21 0 0 g H0 [.ref B, .int (nI r), .int (nI t)] (fun q => B + 144 ≤ q ∧ q < B + 287) (some (.int (wofF (asmF (va_up D r (remF (D r) t)) (va_up cnt r (cnt r - 1)) y2)))) (fun H1 => bQt g B cnt f D y (va_up cnt r (cnt r - 1)) (va_up f r (remF (f r) t)) (va_up D r (remF (D r) t)) (asmF (va_up D r (remF (D r) t)) (va_up cnt r (cnt r - 1)) y2) H1) := by
  refine MM.of (by decide +kernel) (Nat.le_of_ble_eq_true rfl) ?_
  intro p e s m below meth cd X hH ls hl
  have X : CX g p s m _ meth cd c_BP_wordsWithout 3 (some .int) R_BP _ := X
  have hl : lv_has ls 3 [(0, .ref B), (1, .int (nI r)), (2, .int (nI t))] := hl
  have hS : va_S (AA (fun q => B + 144 ≤ q ∧ q < B + 287) H0) H0 H0 [] := va_S.rf
  have hb0 := bAt.q.mpr ⟨_, _, _, _, hb⟩
  obtain ⟨hB, hy, hqk, hO⟩ := hb
  have hc60 := hy.s.cap r hr
  refine lv_aload_n X.x X.b d_BP_wordsWithout_0 rfl (lv_at hl 0 rfl) ?_
  refine m_get (v := .ref (B + 1)) X ok_BP hB 0 (by decide) k_BP_14 rfl d_BP_wordsWithout_1 ?_
  refine lv_iload_n X.x X.b d_BP_wordsWithout_4 rfl (lv_at hl 1 rfl) ?_
  refine lv_iload_n X.x X.b d_BP_wordsWithout_5 rfl (lv_at hl 2 rfl) ?_
  refine m_callP X hS (M_Source_hasLine l g hy.s (nI r) (nI t)) v_BP_88 hy.s.1 rfl rfl rfl (Nat.le_of_ble_eq_true rfl) hl.1 d_BP_wordsWithout_6 (by omega) (by decide) ⟨Nat.zero_le _, Nat.zero_le _⟩ (fun locs hS => ?_)
  refine lv_if_ne (tgt := 22) X.x X.b d_BP_wordsWithout_9 (by decide) (fun c1 => ?_) (fun c1 => ?_)
  · skip
    have c1 := b2i_n0 c1
    refine lv_aload_n X.x X.b d_BP_wordsWithout_22 rfl (lv_at hl 0 rfl) ?_
    refine m_get (v := .ref (B + 144)) X ok_BP hB 2 (by decide) k_BP_27 rfl d_BP_wordsWithout_23 ?_
    refine lv_aload_n X.x X.b d_BP_wordsWithout_26 rfl (lv_at hl 0 rfl) ?_
    refine m_get (v := .ref (B + 1)) X ok_BP hB 0 (by decide) k_BP_14 rfl d_BP_wordsWithout_27 ?_
    have hR := M_Source_copyFrom (so := B + 144) (so2 := B + 1) l g hO.s hy.s (by omega) (cap_more hy.s)
    refine m_callM X hS hR v_BP_188 hO.s.1 rfl rfl rfl (Nat.le_of_ble_eq_true rfl) hl.1 d_BP_wordsWithout_30 (by omega) (by decide) ⟨by omega, by omega⟩ (fun q z => by have z : B + 144 ≤ q ∧ q < B + 144 + 12 := z; exact ⟨by omega, by omega⟩) (fun H locs hs9 hfr hS => ?_)
    have hs1 := hs9.1
    have hO := hO.src hfr hs1
    have hB := hB.fr hfr (fun z => by have z : B + 144 ≤ B ∧ B < B + 144 + 12 := z; omega)
    have hy := hy.frame hfr (fun q z => by have z : B + 144 ≤ q ∧ q < B + 144 + 12 := z; omega)
    refine lv_aload_n X.x X.b d_BP_wordsWithout_33 rfl (lv_at hl 0 rfl) ?_
    refine m_get (v := .ref (B + 144)) X ok_BP hB 2 (by decide) k_BP_27 rfl d_BP_wordsWithout_34 ?_
    refine lv_iload_n X.x X.b d_BP_wordsWithout_37 rfl (lv_at hl 1 rfl) ?_
    refine lv_iload_n X.x X.b d_BP_wordsWithout_38 rfl (lv_at hl 2 rfl) ?_
    have hR := M_Source_remove l g hO.s hr ht
    refine m_callM X hS hR v_BP_94 hO.s.1 rfl rfl rfl (Nat.le_of_ble_eq_true rfl) hl.1 d_BP_wordsWithout_39 (by omega) (by decide) ⟨by omega, by omega⟩ (fun q z => by have z : B + 144 ≤ q ∧ q < B + 144 + 12 := z; exact ⟨by omega, by omega⟩) (fun H locs hs1 hfr hS => ?_)
    have hO := hO.src hfr hs1
    have hB := hB.fr hfr (fun z => by have z : B + 144 ≤ B ∧ B < B + 144 + 12 := z; omega)
    have hy := hy.frame hfr (fun q z => by have z : B + 144 ≤ q ∧ q < B + 144 + 12 := z; omega)
    refine lv_aload_n X.x X.b d_BP_wordsWithout_42 rfl (lv_at hl 0 rfl) ?_
    refine m_get (v := .ref (B + 156)) X ok_BP hB 3 (by decide) k_BP_30 rfl d_BP_wordsWithout_43 ?_
    have hR := M_Assembly_assemble l g hO
    refine m_callM X hS hR v_BP_191 hO.1 rfl rfl rfl (Nat.le_of_ble_eq_true rfl) hl.1 d_BP_wordsWithout_46 (by omega) (by decide) ⟨by omega, by omega⟩ (fun q z => by have z : B + 156 ≤ q ∧ q < B + 156 + 131 := z; exact ⟨by omega, by omega⟩) (fun H locs hO hfr hS => ?_)
    have hB := hB.fr hfr (fun z => by have z : B + 156 ≤ B ∧ B < B + 156 + 131 := z; omega)
    have hy := hy.frame hfr (fun q z => by have z : B + 156 ≤ q ∧ q < B + 156 + 131 := z; omega)
    refine lv_aload_n X.x X.b d_BP_wordsWithout_49 rfl (lv_at hl 0 rfl) ?_
    refine m_get (v := .ref (B + 156)) X ok_BP hB 3 (by decide) k_BP_30 rfl d_BP_wordsWithout_50 ?_
    refine m_callP X hS (M_Assembly_wordsOrFault l g hO) v_BP_194 hO.1 rfl rfl rfl (Nat.le_of_ble_eq_true rfl) hl.1 d_BP_wordsWithout_53 (by omega) (by decide) ⟨by omega, by omega⟩ (fun locs hS => ?_)
    exact m_iret X hS (by omega) (by omega) d_BP_wordsWithout_56 rfl ⟨hB, hy, hqk, hO⟩
  · exact absurd (lIn_nI hr ht hc60) (b2i_0.mp c1)
-- not reached: BP_wordsWith
