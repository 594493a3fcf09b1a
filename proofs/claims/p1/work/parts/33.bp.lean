-- WHAT WOULD BE
theorem cap_more {cnt : Nat → Nat} {g : GG} {so lo hi : Nat} {f : Nat → Nat → Nat} {D : DT} {H : Heap} (h : sAt g so 40 cnt f D lo hi H) : ∀ r, r < 5 → cnt r ≤ capF 60 r := fun r hr =>
  Nat.le_trans (h.2.2.1 r hr).2 (by show (if r = 0 then 40 else 10) ≤ (if r = 0 then 60 else 10); split <;> omega)
set_option maxRecDepth 100000 in
set_option maxHeartbeats 4000000 in
theorem M_BP_wordsWithout (l : Launch) (g : GG) {B : Nat} {cnt cnt2 : Nat → Nat} {f f2 : Nat → Nat → Nat} {D D2 : DT} {y y2 : YS} {H0 : Heap} (hb : bQt g B cnt f D y cnt2 f2 D2 y2 H0) {r t : Nat} (hr : r < 5) (ht : t < cnt r) : MM l y_BP_wordsWithout c_BP_wordsWithout 3 (some .int) 21 0 0 g H0 [.ref B, .int (nI r), .int (nI t)] (fun q => B + 144 ≤ q ∧ q < B + 287) (some (.int (wofF (asmF (va_up D r (remF (D r) t)) (va_up cnt r (cnt r - 1)) y2)))) (fun H1 => bQt g B cnt f D y (va_up cnt r (cnt r - 1)) (va_up f r (remF (f r) t)) (va_up D r (remF (D r) t)) (asmF (va_up D r (remF (D r) t)) (va_up cnt r (cnt r - 1)) y2) H1) := by
  refine MM.of (by decide +kernel) (Nat.le_of_ble_eq_true rfl) ?_
  intro p e s m below meth cd X hH ls hl
  have X : CX g p s m _ meth cd c_BP_wordsWithout 3 (some .int) R_BP _ := X
  have hl : lv_has ls 3 [(0, .ref B), (1, .int (nI r)), (2, .int (nI t))] := hl
  have hS : va_S (AA (fun q => B + 144 ≤ q ∧ q < B + 287) H0) H0 H0 [] := va_S.rf
  have hb0 := bAt.q.mpr ⟨_, _, _, _, hb⟩
  obtain ⟨hB, hy, hqk, hO⟩ := hb
  have hc60 := hy.s.cap r hr
  refine lv_aload_n X.x X.b d_BP_wordsWithout_0 rfl (lv_at hl 0 rfl) ?_
  refine m_get (v := .ref (B + 1)) X ok_BP hB 0 (by decide) k_BP_14 rfl d_BP_wordsWithout_1 ?_
  refine lv_iload_n X.x X.b d_BP_wordsWithout_4 rfl (lv_at hl 1 rfl) ?_
  refine lv_iload_n X.x X.b d_BP_wordsWithout_5 rfl (lv_at hl 2 rfl) ?_
  refine m_callP X hS (M_Source_hasLine l g hy.s (nI r) (nI t)) v_BP_88 hy.s.1 rfl rfl rfl (Nat.le_of_ble_eq_true rfl) hl.1 d_BP_wordsWithout_6 (by omega) (by decide) ⟨Nat.zero_le _, Nat.zero_le _⟩ (fun locs hS => ?_)
  refine lv_if_ne (tgt := 22) X.x X.b d_BP_wordsWithout_9 (by decide) (fun c1 => ?_) (fun c1 => ?_)
  · skip
    have c1 := b2i_n0 c1
    refine lv_aload_n X.x X.b d_BP_wordsWithout_22 rfl (lv_at hl 0 rfl) ?_
    refine m_get (v := .ref (B + 144)) X ok_BP hB 2 (by decide) k_BP_27 rfl d_BP_wordsWithout_23 ?_
    refine lv_aload_n X.x X.b d_BP_wordsWithout_26 rfl (lv_at hl 0 rfl) ?_
    refine m_get (v := .ref (B + 1)) X ok_BP hB 0 (by decide) k_BP_14 rfl d_BP_wordsWithout_27 ?_
    have hR := M_Source_copyFrom (so := B + 144) (so2 := B + 1) l g hO.s hy.s (by omega) (cap_more hy.s)
    refine m_callM X hS hR v_BP_188 hO.s.1 rfl rfl rfl (Nat.le_of_ble_eq_true rfl) hl.1 d_BP_wordsWithout_30 (by omega) (by decide) ⟨by omega, by omega⟩ (fun q z => by have z : B + 144 ≤ q ∧ q < B + 144 + 12 := z; exact ⟨by omega, by omega⟩) (fun H locs hs9 hfr hS => ?_)
    have hs1 := hs9.1
    have hO := hO.src hfr hs1
    have hB := hB.fr hfr (fun z => by have z : B + 144 ≤ B ∧ B < B + 144 + 12 := z; omega)
    have hy := hy.frame hfr (fun q z => by have z : B + 144 ≤ q ∧ q < B + 144 + 12 := z; omega)
    refine lv_aload_n X.x X.b d_BP_wordsWithout_33 rfl (lv_at hl 0 rfl) ?_
    refine m_get (v := .ref (B + 144)) X ok_BP hB 2 (by decide) k_BP_27 rfl d_BP_wordsWithout_34 ?_
    refine lv_iload_n X.x X.b d_BP_wordsWithout_37 rfl (lv_at hl 1 rfl) ?_
    refine lv_iload_n X.x X.b d_BP_wordsWithout_38 rfl (lv_at hl 2 rfl) ?_
    have hR := M_Source_remove l g hO.s hr ht
    refine m_callM X hS hR v_BP_94 hO.s.1 rfl rfl rfl (Nat.le_of_ble_eq_true rfl) hl.1 d_BP_wordsWithout_39 (by omega) (by decide) ⟨by omega, by omega⟩ (fun q z => by have z : B + 144 ≤ q ∧ q < B + 144 + 12 := z; exact ⟨by omega, by omega⟩) (fun H locs hs1 hfr hS => ?_)
    have hO := hO.src hfr hs1
    have hB := hB.fr hfr (fun z => by have z : B + 144 ≤ B ∧ B < B + 144 + 12 := z; omega)
    have hy := hy.frame hfr (fun q z => by have z : B + 144 ≤ q ∧ q < B + 144 + 12 := z; omega)
    refine lv_aload_n X.x X.b d_BP_wordsWithout_42 rfl (lv_at hl 0 rfl) ?_
    refine m_get (v := .ref (B + 156)) X ok_BP hB 3 (by decide) k_BP_30 rfl d_BP_wordsWithout_43 ?_
    have hR := M_Assembly_assemble l g hO
    refine m_callM X hS hR v_BP_191 hO.1 rfl rfl rfl (Nat.le_of_ble_eq_true rfl) hl.1 d_BP_wordsWithout_46 (by omega) (by decide) ⟨by omega, by omega⟩ (fun q z => by have z : B + 156 ≤ q ∧ q < B + 156 + 131 := z; exact ⟨by omega, by omega⟩) (fun H locs hO hfr hS => ?_)
    have hB := hB.fr hfr (fun z => by have z : B + 156 ≤ B ∧ B < B + 156 + 131 := z; omega)
    have hy := hy.frame hfr (fun q z => by have z : B + 156 ≤ q ∧ q < B + 156 + 131 := z; omega)
    refine lv_aload_n X.x X.b d_BP_wordsWithout_49 rfl (lv_at hl 0 rfl) ?_
    refine m_get (v := .ref (B + 156)) X ok_BP hB 3 (by decide) k_BP_30 rfl d_BP_wordsWithout_50 ?_
    refine m_callP X hS (M_Assembly_wordsOrFault l g hO) v_BP_194 hO.1 rfl rfl rfl (Nat.le_of_ble_eq_true rfl) hl.1 d_BP_wordsWithout_53 (by omega) (by decide) ⟨by omega, by omega⟩ (fun locs hS => ?_)
    exact m_iret X hS (by omega) (by omega) d_BP_wordsWithout_56 rfl ⟨hB, hy, hqk, hO⟩
  · exact absurd (lIn_nI hr ht hc60) (b2i_0.mp c1)
set_option maxRecDepth 100000 in
set_option maxHeartbeats 4000000 in
theorem M_BP_wordsWith (l : Launch) (g : GG) {B : Nat} {cnt cnt2 : Nat → Nat} {f f2 : Nat → Nat → Nat} {D D2 : DT} {y y2 : YS} {H0 : Heap} (hb : bQt g B cnt f D y cnt2 f2 D2 y2 H0) {r t : Nat} (hr : r < 5) (ht : t < cnt r) {n : Int32} (hln : lnOk (D r t 0) (D r t 1) (D r t 2) n (D r t 4)) (hvb : D r t 4 = 0 ∨ D r t 4 = 1) : MM l y_BP_wordsWith c_BP_wordsWith 5 (some .int) 21 1 5 g H0 [.ref B, .int (nI r), .int (nI t), .int n] (fun q => B + 144 ≤ q ∧ q < B + 287) (some (.int (wofF (asmF (va_up D r (va_up (D r) t (dl (D r t 0) (D r t 1) (D r t 2) n (D r t 4)))) cnt y2)))) (fun H1 => ∃ q0, bQt g B cnt f D y cnt (va_up f r (va_up (f r) t q0)) (va_up D r (va_up (D r) t (dl (D r t 0) (D r t 1) (D r t 2) n (D r t 4)))) (asmF (va_up D r (va_up (D r) t (dl (D r t 0) (D r t 1) (D r t 2) n (D r t 4)))) cnt y2) H1) := by
  refine MM.of (by decide +kernel) (Nat.le_of_ble_eq_true rfl) ?_
  intro p e s m below meth cd X hH ls hl
  have X : CX g p s m _ meth cd c_BP_wordsWith 5 (some .int) R_BP _ := X
  have hl : lv_has ls 5 [(0, .ref B), (1, .int (nI r)), (2, .int (nI t)), (3, .int n)] := hl
  have hS : va_S (AA (fun q => B + 144 ≤ q ∧ q < B + 287) H0) H0 H0 [] := va_S.rf
  have hb0 := bAt.q.mpr ⟨_, _, _, _, hb⟩
  obtain ⟨hB, hy, hqk, hO⟩ := hb
  have hK : lnD g (f r t) (D r t) H0 := (hy.s.2.2.2.1 r t hr ht).1
  have hKo := (hy.s.2.2.2.1 r t hr ht).2
  have hc60 := hy.s.cap r hr
  refine lv_aload_n X.x X.b d_BP_wordsWith_0 rfl (lv_at hl 0 rfl) ?_
  refine lv_iload_n X.x X.b d_BP_wordsWith_1 rfl (lv_at hl 1 rfl) ?_
  refine lv_iload_n X.x X.b d_BP_wordsWith_2 rfl (lv_at hl 2 rfl) ?_
  have hR := M_BP_lineThere (r := r) (t := t) l g hb0 hr ht
  refine m_callP X hS hR v_BP_77 hB rfl rfl rfl (Nat.le_of_ble_eq_true rfl) hl.1 d_BP_wordsWith_3 (by omega) (by decide) ⟨Nat.zero_le _, Nat.zero_le _⟩ (fun locs hS => ?_)
  refine lv_astore (lv' := [(4, .ref (f r t)), (0, .ref B), (1, .int (nI r)), (2, .int (nI t)), (3, .int n)]) X.x X.b d_BP_wordsWith_6 hl (by decide) rfl (fun ls hl => ?_)
  refine lv_aload X.x X.b d_BP_wordsWith_8 (lv_at hl 0 rfl) ?_
  refine m_get (v := .int (D r t 0)) X ok_Line hK 0 (by decide) k_BP_84 rfl d_BP_wordsWith_10 ?_
  refine lv_aload X.x X.b d_BP_wordsWith_13 (lv_at hl 0 rfl) ?_
  refine m_get (v := .int (D r t 1)) X ok_Line hK 1 (by decide) k_BP_98 rfl d_BP_wordsWith_15 ?_
  refine lv_aload X.x X.b d_BP_wordsWith_18 (lv_at hl 0 rfl) ?_
  refine m_get (v := .int (D r t 2)) X ok_Line hK 2 (by decide) k_BP_101 rfl d_BP_wordsWith_20 ?_
  refine lv_iload_n X.x X.b d_BP_wordsWith_23 rfl (lv_at hl 4 rfl) ?_
  refine lv_aload X.x X.b d_BP_wordsWith_24 (lv_at hl 0 rfl) ?_
  refine m_get (v := .int (D r t 4)) X ok_Line hK 4 (by decide) k_BP_107 rfl d_BP_wordsWith_26 ?_
  refine m_callSP X hS (M_Line_isAllowed l g (D r t 0) (D r t 1) (D r t 2) n (D r t 4)) s_BP_47 rfl rfl (Nat.le_of_ble_eq_true rfl) hl.1 d_BP_wordsWith_29 (by omega) (by decide) ⟨Nat.zero_le _, Nat.zero_le _⟩ (fun locs hS => ?_)
  refine lv_if_ne (tgt := 45) X.x X.b d_BP_wordsWith_32 (by decide) (fun c1 => ?_) (fun c1 => ?_)
  · skip
    have c1 := b2i_n0 c1
    refine lv_aload_n X.x X.b d_BP_wordsWith_45 rfl (lv_at hl 1 rfl) ?_
    refine m_get (v := .ref (B + 144)) X ok_BP hB 2 (by decide) k_BP_27 rfl d_BP_wordsWith_46 ?_
    refine lv_aload_n X.x X.b d_BP_wordsWith_49 rfl (lv_at hl 1 rfl) ?_
    refine m_get (v := .ref (B + 1)) X ok_BP hB 0 (by decide) k_BP_14 rfl d_BP_wordsWith_50 ?_
    have hR := M_Source_copyFrom (so := B + 144) (so2 := B + 1) l g hO.s hy.s (by omega) (cap_more hy.s)
    refine m_callM X hS hR v_BP_188 hO.s.1 rfl rfl rfl (Nat.le_of_ble_eq_true rfl) hl.1 d_BP_wordsWith_53 (by omega) (by decide) ⟨by omega, by omega⟩ (fun q z => by have z : B + 144 ≤ q ∧ q < B + 144 + 12 := z; exact ⟨by omega, by omega⟩) (fun H locs hs9 hfr hS => ?_)
    have hs1 := hs9.1
    have hO := hO.src hfr hs1
    have hB := hB.fr hfr (fun z => by have z : B + 144 ≤ B ∧ B < B + 144 + 12 := z; omega)
    have hK := hK.fr hfr (fun z => by have z : B + 144 ≤ f r t ∧ f r t < B + 144 + 12 := z; omega)
    have hy := hy.frame hfr (fun q z => by have z : B + 144 ≤ q ∧ q < B + 144 + 12 := z; omega)
    refine lv_aload_n X.x X.b d_BP_wordsWith_56 rfl (lv_at hl 1 rfl) ?_
    refine m_get (v := .ref (B + 144)) X ok_BP hB 2 (by decide) k_BP_27 rfl d_BP_wordsWith_57 ?_
    refine lv_iload_n X.x X.b d_BP_wordsWith_60 rfl (lv_at hl 2 rfl) ?_
    refine lv_iload_n X.x X.b d_BP_wordsWith_61 rfl (lv_at hl 3 rfl) ?_
    obtain ⟨q0, hz⟩ : ∃ z, H.size = z := ⟨_, rfl⟩
    have hq0 : B + 287 ≤ q0 := by have := hO.lt; omega
    have hS0 := hS.1
    refine m_newo (fs := [.int 0, .int 0, .int 0, .int 0, .int 0]) X ok_Line hS hz (LW_t 732 (by decide +kernel) (by decide +kernel)) (LW_t 206 (by decide +kernel) (by decide +kernel)) ini_Line (fun j hj => by rcases (show j = 0 ∨ j = 1 ∨ j = 2 ∨ j = 3 ∨ j = 4 by omega) with rfl | rfl | rfl | rfl | rfl <;> rfl) (by omega) (by omega) d_BP_wordsWith_62 (fun H9 hnL hgr hS hz2 => ?_)
    have hfr1 := fr.of_grow (A := noA) hgr
    have hK9 := hK.fr hfr1 (fun z => z.elim)
    refine lv_dup X.x X.b d_BP_wordsWith_65 rfl ?_
    refine lv_aload X.x X.b d_BP_wordsWith_66 (lv_at hl 0 rfl) ?_
    refine m_get (v := .int (D r t 0)) X ok_Line hK9 0 (by decide) k_BP_84 rfl d_BP_wordsWith_68 ?_
    refine lv_aload X.x X.b d_BP_wordsWith_71 (lv_at hl 0 rfl) ?_
    refine m_get (v := .int (D r t 1)) X ok_Line hK9 1 (by decide) k_BP_98 rfl d_BP_wordsWith_73 ?_
    refine lv_aload X.x X.b d_BP_wordsWith_76 (lv_at hl 0 rfl) ?_
    refine m_get (v := .int (D r t 2)) X ok_Line hK9 2 (by decide) k_BP_101 rfl d_BP_wordsWith_78 ?_
    refine lv_iload_n X.x X.b d_BP_wordsWith_81 rfl (lv_at hl 4 rfl) ?_
    refine lv_aload X.x X.b d_BP_wordsWith_82 (lv_at hl 0 rfl) ?_
    refine m_get (v := .int (D r t 4)) X ok_Line hK9 4 (by decide) k_BP_107 rfl d_BP_wordsWith_84 ?_
    refine m_callI X hS (M_Line_init l g hnL (D r t 0) (D r t 1) (D r t 2) n (D r t 4) hvb hz2) i_BP_70 rfl rfl (Nat.le_of_ble_eq_true rfl) hl.1 d_BP_wordsWith_87 (by omega) (by decide) ⟨by omega, by omega⟩ (fun q z => z.elim (fun z => by have z : q = q0 := z; exact Or.inr (by omega)) (fun z => Or.inr (Nat.le_trans hS.1 z))) (fun H8 locs hq hfr2 hS => ?_)
    obtain ⟨hL, hz3⟩ := hq
    have hfr : fr noA H H8 := ⟨by omega, fun q hq _ => (hfr2.2 q (by omega) (fun z => by have z : q = q0 := z; omega)).trans (hfr1.2 q hq (fun z => z))⟩
    have hL : lnD g q0 (dl (D r t 0) (D r t 1) (D r t 2) n (D r t 4)) H8 := hL
    have hB := hB.fr hfr (fun z => z.elim)
    have hK := hK.fr hfr (fun z => z.elim)
    have hy := hy.frame hfr (fun q z => z.elim)
    have hO := hO.frame hfr (fun q z => z.elim)
    clear hz hz2 hz3 hfr hfr1 hfr2
    have hR := M_Source_replace l g hO.s hr hL (Or.inr hq0) ht
    refine m_callM X hS hR v_BP_81 hO.s.1 rfl rfl rfl (Nat.le_of_ble_eq_true rfl) hl.1 d_BP_wordsWith_90 (by omega) (by decide) ⟨by omega, by omega⟩ (fun q z => by have z : B + 144 ≤ q ∧ q < B + 144 + 12 := z; exact ⟨by omega, by omega⟩) (fun H locs hs1 hfr hS => ?_)
    have hO := hO.src hfr hs1
    have hB := hB.fr hfr (fun z => by have z : B + 144 ≤ B ∧ B < B + 144 + 12 := z; omega)
    have hK := hK.fr hfr (fun z => by have z : B + 144 ≤ f r t ∧ f r t < B + 144 + 12 := z; omega)
    have hL := hL.fr hfr (fun z => by have z : B + 144 ≤ q0 ∧ q0 < B + 144 + 12 := z; omega)
    have hy := hy.frame hfr (fun q z => by have z : B + 144 ≤ q ∧ q < B + 144 + 12 := z; omega)
    refine lv_aload_n X.x X.b d_BP_wordsWith_93 rfl (lv_at hl 1 rfl) ?_
    refine m_get (v := .ref (B + 156)) X ok_BP hB 3 (by decide) k_BP_30 rfl d_BP_wordsWith_94 ?_
    have hR := M_Assembly_assemble l g hO
    refine m_callM X hS hR v_BP_191 hO.1 rfl rfl rfl (Nat.le_of_ble_eq_true rfl) hl.1 d_BP_wordsWith_97 (by omega) (by decide) ⟨by omega, by omega⟩ (fun q z => by have z : B + 156 ≤ q ∧ q < B + 156 + 131 := z; exact ⟨by omega, by omega⟩) (fun H locs hO hfr hS => ?_)
    have hB := hB.fr hfr (fun z => by have z : B + 156 ≤ B ∧ B < B + 156 + 131 := z; omega)
    have hK := hK.fr hfr (fun z => by have z : B + 156 ≤ f r t ∧ f r t < B + 156 + 131 := z; omega)
    have hL := hL.fr hfr (fun z => by have z : B + 156 ≤ q0 ∧ q0 < B + 156 + 131 := z; omega)
    have hy := hy.frame hfr (fun q z => by have z : B + 156 ≤ q ∧ q < B + 156 + 131 := z; omega)
    refine lv_aload_n X.x X.b d_BP_wordsWith_100 rfl (lv_at hl 1 rfl) ?_
    refine m_get (v := .ref (B + 156)) X ok_BP hB 3 (by decide) k_BP_30 rfl d_BP_wordsWith_101 ?_
    refine m_callP X hS (M_Assembly_wordsOrFault l g hO) v_BP_194 hO.1 rfl rfl rfl (Nat.le_of_ble_eq_true rfl) hl.1 d_BP_wordsWith_104 (by omega) (by decide) ⟨by omega, by omega⟩ (fun locs hS => ?_)
    exact m_iret X hS (by omega) (by omega) d_BP_wordsWith_107 rfl ⟨q0, hB, hy, hqk, hO⟩
  · exact absurd hln (b2i_0.mp c1)
